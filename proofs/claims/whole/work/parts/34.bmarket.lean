-- HonestHouse$Market.<init>(I)V
theorem b_X1_init_0 {G : hk_G} {d cb sb : Nat} {h : hk_H} {Q : hk_O → hk_H → Prop} {r0 : Nat} {x1 : Int32} {fs1 : List Value} {h_1 : hk_H} {o2 : Option Value} (hg2 : h.2 r0 = some (.inr (1, fs1))) (h4_r0 : 4 ≤ r0) (e_1 : (hk_set h r0 (.inr (1, fs1.set 0 (.int x1)))) = h_1) (kt : ¬ x1 = 2 → hk_S G m_X1_init d cb sb 21 [some (.ref r0), some (.int x1), o2] [.ref r0] h_1 Q) (kf : x1 = 2 → hk_S G m_X1_init d cb sb 15 [some (.ref r0), some (.int x1), o2] [.ref r0] h_1 Q) (hl3 : 0 < fs1.length := by exact Nat.le_of_ble_eq_true rfl) : hk_S G m_X1_init d cb sb 0 [some (.ref r0), some (.int x1), o2] [] h Q := by
  subst e_1
  refine hs_aload_n dX1_init_0 rfl ?_
  refine hs_objInit (a := r0) dX1_init_1 ⟨wd_130, oi_.1, oi_.2⟩ (Nat.le_of_ble_eq_true rfl) ?_
  refine hs_aload_n dX1_init_4 rfl ?_
  refine hs_iload_n dX1_init_5 rfl ?_
  refine hs_putF (t := .int) dX1_init_6 rfl fw_X1_9_1 hg2 h4_r0 hl3 rfl rfl ?_
  refine hs_aload_n dX1_init_9 rfl ?_
  refine hs_iload_n dX1_init_10 rfl ?_
  refine hs_iconst (v := 2) dX1_init_11 (by decide) ?_
  exact hs_icmp_ne dX1_init_12 (by decide) kt kf
theorem b_X1_init_15 {G : hk_G} {d cb sb : Nat} {h : hk_H} {Q : hk_O → hk_H → Prop} {s0 : Nat} {fs1 : List Value} {h_1 : hk_H} {r0 : Nat} {h_2 : hk_H} {fs4 : List Value} {h_3 : hk_H} {h_4 : hk_H} {fs7 : List Value} {h_5 : hk_H} {h_6 : hk_H} {fs10 : List Value} {h_7 : hk_H} {h_8 : hk_H} {fs13 : List Value} {h_9 : hk_H} {h_10 : hk_H} {fs16 : List Value} {h_11 : hk_H} {h_12 : hk_H} {fs19 : List Value} {h_13 : hk_H} {h_14 : hk_H} {fs22 : List Value} {h_15 : hk_H} {o1 : Option Value} {o2 : Option Value} (hg2 : h.2 s0 = some (.inr (1, fs1))) (h4_s0 : 4 ≤ s0) (e_1 : (hk_set h s0 (.inr (1, fs1.set 1 (.ref 1)))) = h_1) (e_2 : (hk_new h_1 (.inl (0, 16, .inl (fun _ => 0)))) = h_2) (hg5 : h_2.2 r0 = some (.inr (1, fs4))) (h4_r0 : 4 ≤ r0) (e_3 : (hk_set h_2 r0 (.inr (1, fs4.set 2 (.ref h_1.1)))) = h_3) (e_4 : (hk_new h_3 (.inl (0, 16, .inl (fun _ => 0)))) = h_4) (hg8 : h_4.2 r0 = some (.inr (1, fs7))) (e_5 : (hk_set h_4 r0 (.inr (1, fs7.set 3 (.ref h_3.1)))) = h_5) (e_6 : (hk_new h_5 (.inl (0, 4, .inl (fun _ => 0)))) = h_6) (hg11 : h_6.2 r0 = some (.inr (1, fs10))) (e_7 : (hk_set h_6 r0 (.inr (1, fs10.set 4 (.ref h_5.1)))) = h_7) (e_8 : (hk_new h_7 (.inl (0, 4, .inl (fun _ => 0)))) = h_8) (hg14 : h_8.2 r0 = some (.inr (1, fs13))) (e_9 : (hk_set h_8 r0 (.inr (1, fs13.set 5 (.ref h_7.1)))) = h_9) (e_10 : (hk_new h_9 (.inl (0, 4, .inl (fun _ => 0)))) = h_10) (hg17 : h_10.2 r0 = some (.inr (1, fs16))) (e_11 : (hk_set h_10 r0 (.inr (1, fs16.set 6 (.ref h_9.1)))) = h_11) (e_12 : (hk_new h_11 (.inl (0, 4, .inl (fun _ => 0)))) = h_12) (hg20 : h_12.2 r0 = some (.inr (1, fs19))) (e_13 : (hk_set h_12 r0 (.inr (1, fs19.set 7 (.ref h_11.1)))) = h_13) (e_14 : (hk_new h_13 (.inl (0, 4, .inl (fun _ => 0)))) = h_14) (hg23 : h_14.2 r0 = some (.inr (1, fs22))) (e_15 : (hk_set h_14 r0 (.inr (1, fs22.set 8 (.ref h_13.1)))) = h_15) (k : hk_S G m_X1_init d cb sb 91 [some (.ref r0), o1, some (.int 0)] [] h_15 Q) (ho1 : hk_c1 o1 := by first | exact hk_c1i | exact hk_c1r | exact hk_c10 | exact hk_c1n) (hl3 : 1 < fs1.length := by exact Nat.le_of_ble_eq_true rfl) (hl6 : 2 < fs4.length := by exact Nat.le_of_ble_eq_true rfl) (hl9 : 3 < fs7.length := by exact Nat.le_of_ble_eq_true rfl) (hl12 : 4 < fs10.length := by exact Nat.le_of_ble_eq_true rfl) (hl15 : 5 < fs13.length := by exact Nat.le_of_ble_eq_true rfl) (hl18 : 6 < fs16.length := by exact Nat.le_of_ble_eq_true rfl) (hl21 : 7 < fs19.length := by exact Nat.le_of_ble_eq_true rfl) (hl24 : 8 < fs22.length := by exact Nat.le_of_ble_eq_true rfl) : hk_S G m_X1_init d (((((((cb + 1) + 1) + 1) + 1) + 1) + 1) + 1) (((((((sb + 4) + 4) + 4) + 4) + 4) + 16) + 16) 15 [some (.ref r0), o1, o2] [.ref s0] h Q := by
  subst e_1
  subst e_2
  subst e_3
  subst e_4
  subst e_5
  subst e_6
  subst e_7
  subst e_8
  subst e_9
  subst e_10
  subst e_11
  subst e_12
  subst e_13
  subst e_14
  subst e_15
  refine hs_gets (j := 1) (nm := "ORDERS_OF_TWO") dX1_init_15 rfl (by decide +kernel) (by decide +kernel) (by decide) ?_
  refine hs_goto dX1_init_18 (tgt := 35) (by decide) ?_
  refine hs_putF (t := .array .int) dX1_init_35 rfl fw_X1_25_1 hg2 h4_s0 hl3 rfl rfl ?_
  refine hs_aload_n dX1_init_38 rfl ?_
  refine hs_bipush (v := 16) dX1_init_39 (by decide) ?_
  refine hs_newi (N := 16) dX1_init_41 (by decide) (by decide) ?_
  refine hs_putF (t := .array .int) dX1_init_43 rfl fw_X1_28_1 hg5 h4_r0 hl6 rfl rfl ?_
  refine hs_aload_n dX1_init_46 rfl ?_
  refine hs_bipush (v := 16) dX1_init_47 (by decide) ?_
  refine hs_newi (N := 16) dX1_init_49 (by decide) (by decide) ?_
  refine hs_putF (t := .array .int) dX1_init_51 rfl fw_X1_31_1 hg8 h4_r0 hl9 rfl rfl ?_
  refine hs_aload_n dX1_init_54 rfl ?_
  refine hs_iconst (v := 4) dX1_init_55 (by decide) ?_
  refine hs_newi (N := 4) dX1_init_56 (by decide) (by decide) ?_
  refine hs_putF (t := .array .int) dX1_init_58 rfl fw_X1_34_1 hg11 h4_r0 hl12 rfl rfl ?_
  refine hs_aload_n dX1_init_61 rfl ?_
  refine hs_iconst (v := 4) dX1_init_62 (by decide) ?_
  refine hs_newi (N := 4) dX1_init_63 (by decide) (by decide) ?_
  refine hs_putF (t := .array .int) dX1_init_65 rfl fw_X1_37_1 hg14 h4_r0 hl15 rfl rfl ?_
  refine hs_aload_n dX1_init_68 rfl ?_
  refine hs_iconst (v := 4) dX1_init_69 (by decide) ?_
  refine hs_newi (N := 4) dX1_init_70 (by decide) (by decide) ?_
  refine hs_putF (t := .array .int) dX1_init_72 rfl fw_X1_40_1 hg17 h4_r0 hl18 rfl rfl ?_
  refine hs_aload_n dX1_init_75 rfl ?_
  refine hs_iconst (v := 4) dX1_init_76 (by decide) ?_
  refine hs_newi (N := 4) dX1_init_77 (by decide) (by decide) ?_
  refine hs_putF (t := .array .int) dX1_init_79 rfl fw_X1_43_1 hg20 h4_r0 hl21 rfl rfl ?_
  refine hs_aload_n dX1_init_82 rfl ?_
  refine hs_iconst (v := 4) dX1_init_83 (by decide) ?_
  refine hs_newi (N := 4) dX1_init_84 (by decide) (by decide) ?_
  refine hs_putF (t := .array .int) dX1_init_86 rfl fw_X1_46_1 hg23 h4_r0 hl24 rfl rfl ?_
  refine hs_iconst (v := 0) dX1_init_89 (by decide) ?_
  refine hs_istK_n dX1_init_90 (by decide) (hk_nk1 rfl ho1) rfl ?_
  exact k
theorem b_X1_init_21 {G : hk_G} {d cb sb : Nat} {h : hk_H} {Q : hk_O → hk_H → Prop} {s0 : Nat} {x1 : Int32} {o0 : Option Value} {o2 : Option Value} (kt : ¬ x1 = 3 → hk_S G m_X1_init d cb sb 32 [o0, some (.int x1), o2] [.ref s0] h Q) (kf : x1 = 3 → hk_S G m_X1_init d cb sb 26 [o0, some (.int x1), o2] [.ref s0] h Q) : hk_S G m_X1_init d cb sb 21 [o0, some (.int x1), o2] [.ref s0] h Q := by
  refine hs_iload_n dX1_init_21 rfl ?_
  refine hs_iconst (v := 3) dX1_init_22 (by decide) ?_
  exact hs_icmp_ne dX1_init_23 (by decide) kt kf
theorem b_X1_init_26 {G : hk_G} {d cb sb : Nat} {h : hk_H} {Q : hk_O → hk_H → Prop} {s0 : Nat} {fs1 : List Value} {h_1 : hk_H} {r0 : Nat} {h_2 : hk_H} {fs4 : List Value} {h_3 : hk_H} {h_4 : hk_H} {fs7 : List Value} {h_5 : hk_H} {h_6 : hk_H} {fs10 : List Value} {h_7 : hk_H} {h_8 : hk_H} {fs13 : List Value} {h_9 : hk_H} {h_10 : hk_H} {fs16 : List Value} {h_11 : hk_H} {h_12 : hk_H} {fs19 : List Value} {h_13 : hk_H} {h_14 : hk_H} {fs22 : List Value} {h_15 : hk_H} {o1 : Option Value} {o2 : Option Value} (hg2 : h.2 s0 = some (.inr (1, fs1))) (h4_s0 : 4 ≤ s0) (e_1 : (hk_set h s0 (.inr (1, fs1.set 1 (.ref 2)))) = h_1) (e_2 : (hk_new h_1 (.inl (0, 16, .inl (fun _ => 0)))) = h_2) (hg5 : h_2.2 r0 = some (.inr (1, fs4))) (h4_r0 : 4 ≤ r0) (e_3 : (hk_set h_2 r0 (.inr (1, fs4.set 2 (.ref h_1.1)))) = h_3) (e_4 : (hk_new h_3 (.inl (0, 16, .inl (fun _ => 0)))) = h_4) (hg8 : h_4.2 r0 = some (.inr (1, fs7))) (e_5 : (hk_set h_4 r0 (.inr (1, fs7.set 3 (.ref h_3.1)))) = h_5) (e_6 : (hk_new h_5 (.inl (0, 4, .inl (fun _ => 0)))) = h_6) (hg11 : h_6.2 r0 = some (.inr (1, fs10))) (e_7 : (hk_set h_6 r0 (.inr (1, fs10.set 4 (.ref h_5.1)))) = h_7) (e_8 : (hk_new h_7 (.inl (0, 4, .inl (fun _ => 0)))) = h_8) (hg14 : h_8.2 r0 = some (.inr (1, fs13))) (e_9 : (hk_set h_8 r0 (.inr (1, fs13.set 5 (.ref h_7.1)))) = h_9) (e_10 : (hk_new h_9 (.inl (0, 4, .inl (fun _ => 0)))) = h_10) (hg17 : h_10.2 r0 = some (.inr (1, fs16))) (e_11 : (hk_set h_10 r0 (.inr (1, fs16.set 6 (.ref h_9.1)))) = h_11) (e_12 : (hk_new h_11 (.inl (0, 4, .inl (fun _ => 0)))) = h_12) (hg20 : h_12.2 r0 = some (.inr (1, fs19))) (e_13 : (hk_set h_12 r0 (.inr (1, fs19.set 7 (.ref h_11.1)))) = h_13) (e_14 : (hk_new h_13 (.inl (0, 4, .inl (fun _ => 0)))) = h_14) (hg23 : h_14.2 r0 = some (.inr (1, fs22))) (e_15 : (hk_set h_14 r0 (.inr (1, fs22.set 8 (.ref h_13.1)))) = h_15) (k : hk_S G m_X1_init d cb sb 91 [some (.ref r0), o1, some (.int 0)] [] h_15 Q) (ho1 : hk_c1 o1 := by first | exact hk_c1i | exact hk_c1r | exact hk_c10 | exact hk_c1n) (hl3 : 1 < fs1.length := by exact Nat.le_of_ble_eq_true rfl) (hl6 : 2 < fs4.length := by exact Nat.le_of_ble_eq_true rfl) (hl9 : 3 < fs7.length := by exact Nat.le_of_ble_eq_true rfl) (hl12 : 4 < fs10.length := by exact Nat.le_of_ble_eq_true rfl) (hl15 : 5 < fs13.length := by exact Nat.le_of_ble_eq_true rfl) (hl18 : 6 < fs16.length := by exact Nat.le_of_ble_eq_true rfl) (hl21 : 7 < fs19.length := by exact Nat.le_of_ble_eq_true rfl) (hl24 : 8 < fs22.length := by exact Nat.le_of_ble_eq_true rfl) : hk_S G m_X1_init d (((((((cb + 1) + 1) + 1) + 1) + 1) + 1) + 1) (((((((sb + 4) + 4) + 4) + 4) + 4) + 16) + 16) 26 [some (.ref r0), o1, o2] [.ref s0] h Q := by
  subst e_1
  subst e_2
  subst e_3
  subst e_4
  subst e_5
  subst e_6
  subst e_7
  subst e_8
  subst e_9
  subst e_10
  subst e_11
  subst e_12
  subst e_13
  subst e_14
  subst e_15
  refine hs_gets (j := 2) (nm := "ORDERS_OF_THREE") dX1_init_26 rfl (by decide +kernel) (by decide +kernel) (by decide) ?_
  refine hs_goto dX1_init_29 (tgt := 35) (by decide) ?_
  refine hs_putF (t := .array .int) dX1_init_35 rfl fw_X1_25_1 hg2 h4_s0 hl3 rfl rfl ?_
  refine hs_aload_n dX1_init_38 rfl ?_
  refine hs_bipush (v := 16) dX1_init_39 (by decide) ?_
  refine hs_newi (N := 16) dX1_init_41 (by decide) (by decide) ?_
  refine hs_putF (t := .array .int) dX1_init_43 rfl fw_X1_28_1 hg5 h4_r0 hl6 rfl rfl ?_
  refine hs_aload_n dX1_init_46 rfl ?_
  refine hs_bipush (v := 16) dX1_init_47 (by decide) ?_
  refine hs_newi (N := 16) dX1_init_49 (by decide) (by decide) ?_
  refine hs_putF (t := .array .int) dX1_init_51 rfl fw_X1_31_1 hg8 h4_r0 hl9 rfl rfl ?_
  refine hs_aload_n dX1_init_54 rfl ?_
  refine hs_iconst (v := 4) dX1_init_55 (by decide) ?_
  refine hs_newi (N := 4) dX1_init_56 (by decide) (by decide) ?_
  refine hs_putF (t := .array .int) dX1_init_58 rfl fw_X1_34_1 hg11 h4_r0 hl12 rfl rfl ?_
  refine hs_aload_n dX1_init_61 rfl ?_
  refine hs_iconst (v := 4) dX1_init_62 (by decide) ?_
  refine hs_newi (N := 4) dX1_init_63 (by decide) (by decide) ?_
  refine hs_putF (t := .array .int) dX1_init_65 rfl fw_X1_37_1 hg14 h4_r0 hl15 rfl rfl ?_
  refine hs_aload_n dX1_init_68 rfl ?_
  refine hs_iconst (v := 4) dX1_init_69 (by decide) ?_
  refine hs_newi (N := 4) dX1_init_70 (by decide) (by decide) ?_
  refine hs_putF (t := .array .int) dX1_init_72 rfl fw_X1_40_1 hg17 h4_r0 hl18 rfl rfl ?_
  refine hs_aload_n dX1_init_75 rfl ?_
  refine hs_iconst (v := 4) dX1_init_76 (by decide) ?_
  refine hs_newi (N := 4) dX1_init_77 (by decide) (by decide) ?_
  refine hs_putF (t := .array .int) dX1_init_79 rfl fw_X1_43_1 hg20 h4_r0 hl21 rfl rfl ?_
  refine hs_aload_n dX1_init_82 rfl ?_
  refine hs_iconst (v := 4) dX1_init_83 (by decide) ?_
  refine hs_newi (N := 4) dX1_init_84 (by decide) (by decide) ?_
  refine hs_putF (t := .array .int) dX1_init_86 rfl fw_X1_46_1 hg23 h4_r0 hl24 rfl rfl ?_
  refine hs_iconst (v := 0) dX1_init_89 (by decide) ?_
  refine hs_istK_n dX1_init_90 (by decide) (hk_nk1 rfl ho1) rfl ?_
  exact k
theorem b_X1_init_32 {G : hk_G} {d cb sb : Nat} {h : hk_H} {Q : hk_O → hk_H → Prop} {s0 : Nat} {fs1 : List Value} {h_1 : hk_H} {r0 : Nat} {h_2 : hk_H} {fs4 : List Value} {h_3 : hk_H} {h_4 : hk_H} {fs7 : List Value} {h_5 : hk_H} {h_6 : hk_H} {fs10 : List Value} {h_7 : hk_H} {h_8 : hk_H} {fs13 : List Value} {h_9 : hk_H} {h_10 : hk_H} {fs16 : List Value} {h_11 : hk_H} {h_12 : hk_H} {fs19 : List Value} {h_13 : hk_H} {h_14 : hk_H} {fs22 : List Value} {h_15 : hk_H} {o1 : Option Value} {o2 : Option Value} (hg2 : h.2 s0 = some (.inr (1, fs1))) (h4_s0 : 4 ≤ s0) (e_1 : (hk_set h s0 (.inr (1, fs1.set 1 (.ref 3)))) = h_1) (e_2 : (hk_new h_1 (.inl (0, 16, .inl (fun _ => 0)))) = h_2) (hg5 : h_2.2 r0 = some (.inr (1, fs4))) (h4_r0 : 4 ≤ r0) (e_3 : (hk_set h_2 r0 (.inr (1, fs4.set 2 (.ref h_1.1)))) = h_3) (e_4 : (hk_new h_3 (.inl (0, 16, .inl (fun _ => 0)))) = h_4) (hg8 : h_4.2 r0 = some (.inr (1, fs7))) (e_5 : (hk_set h_4 r0 (.inr (1, fs7.set 3 (.ref h_3.1)))) = h_5) (e_6 : (hk_new h_5 (.inl (0, 4, .inl (fun _ => 0)))) = h_6) (hg11 : h_6.2 r0 = some (.inr (1, fs10))) (e_7 : (hk_set h_6 r0 (.inr (1, fs10.set 4 (.ref h_5.1)))) = h_7) (e_8 : (hk_new h_7 (.inl (0, 4, .inl (fun _ => 0)))) = h_8) (hg14 : h_8.2 r0 = some (.inr (1, fs13))) (e_9 : (hk_set h_8 r0 (.inr (1, fs13.set 5 (.ref h_7.1)))) = h_9) (e_10 : (hk_new h_9 (.inl (0, 4, .inl (fun _ => 0)))) = h_10) (hg17 : h_10.2 r0 = some (.inr (1, fs16))) (e_11 : (hk_set h_10 r0 (.inr (1, fs16.set 6 (.ref h_9.1)))) = h_11) (e_12 : (hk_new h_11 (.inl (0, 4, .inl (fun _ => 0)))) = h_12) (hg20 : h_12.2 r0 = some (.inr (1, fs19))) (e_13 : (hk_set h_12 r0 (.inr (1, fs19.set 7 (.ref h_11.1)))) = h_13) (e_14 : (hk_new h_13 (.inl (0, 4, .inl (fun _ => 0)))) = h_14) (hg23 : h_14.2 r0 = some (.inr (1, fs22))) (e_15 : (hk_set h_14 r0 (.inr (1, fs22.set 8 (.ref h_13.1)))) = h_15) (k : hk_S G m_X1_init d cb sb 91 [some (.ref r0), o1, some (.int 0)] [] h_15 Q) (ho1 : hk_c1 o1 := by first | exact hk_c1i | exact hk_c1r | exact hk_c10 | exact hk_c1n) (hl3 : 1 < fs1.length := by exact Nat.le_of_ble_eq_true rfl) (hl6 : 2 < fs4.length := by exact Nat.le_of_ble_eq_true rfl) (hl9 : 3 < fs7.length := by exact Nat.le_of_ble_eq_true rfl) (hl12 : 4 < fs10.length := by exact Nat.le_of_ble_eq_true rfl) (hl15 : 5 < fs13.length := by exact Nat.le_of_ble_eq_true rfl) (hl18 : 6 < fs16.length := by exact Nat.le_of_ble_eq_true rfl) (hl21 : 7 < fs19.length := by exact Nat.le_of_ble_eq_true rfl) (hl24 : 8 < fs22.length := by exact Nat.le_of_ble_eq_true rfl) : hk_S G m_X1_init d (((((((cb + 1) + 1) + 1) + 1) + 1) + 1) + 1) (((((((sb + 4) + 4) + 4) + 4) + 4) + 16) + 16) 32 [some (.ref r0), o1, o2] [.ref s0] h Q := by
  subst e_1
  subst e_2
  subst e_3
  subst e_4
  subst e_5
  subst e_6
  subst e_7
  subst e_8
  subst e_9
  subst e_10
  subst e_11
  subst e_12
  subst e_13
  subst e_14
  subst e_15
  refine hs_gets (j := 3) (nm := "ORDERS_OF_FOUR") dX1_init_32 rfl (by decide +kernel) (by decide +kernel) (by decide) ?_
  refine hs_putF (t := .array .int) dX1_init_35 rfl fw_X1_25_1 hg2 h4_s0 hl3 rfl rfl ?_
  refine hs_aload_n dX1_init_38 rfl ?_
  refine hs_bipush (v := 16) dX1_init_39 (by decide) ?_
  refine hs_newi (N := 16) dX1_init_41 (by decide) (by decide) ?_
  refine hs_putF (t := .array .int) dX1_init_43 rfl fw_X1_28_1 hg5 h4_r0 hl6 rfl rfl ?_
  refine hs_aload_n dX1_init_46 rfl ?_
  refine hs_bipush (v := 16) dX1_init_47 (by decide) ?_
  refine hs_newi (N := 16) dX1_init_49 (by decide) (by decide) ?_
  refine hs_putF (t := .array .int) dX1_init_51 rfl fw_X1_31_1 hg8 h4_r0 hl9 rfl rfl ?_
  refine hs_aload_n dX1_init_54 rfl ?_
  refine hs_iconst (v := 4) dX1_init_55 (by decide) ?_
  refine hs_newi (N := 4) dX1_init_56 (by decide) (by decide) ?_
  refine hs_putF (t := .array .int) dX1_init_58 rfl fw_X1_34_1 hg11 h4_r0 hl12 rfl rfl ?_
  refine hs_aload_n dX1_init_61 rfl ?_
  refine hs_iconst (v := 4) dX1_init_62 (by decide) ?_
  refine hs_newi (N := 4) dX1_init_63 (by decide) (by decide) ?_
  refine hs_putF (t := .array .int) dX1_init_65 rfl fw_X1_37_1 hg14 h4_r0 hl15 rfl rfl ?_
  refine hs_aload_n dX1_init_68 rfl ?_
  refine hs_iconst (v := 4) dX1_init_69 (by decide) ?_
  refine hs_newi (N := 4) dX1_init_70 (by decide) (by decide) ?_
  refine hs_putF (t := .array .int) dX1_init_72 rfl fw_X1_40_1 hg17 h4_r0 hl18 rfl rfl ?_
  refine hs_aload_n dX1_init_75 rfl ?_
  refine hs_iconst (v := 4) dX1_init_76 (by decide) ?_
  refine hs_newi (N := 4) dX1_init_77 (by decide) (by decide) ?_
  refine hs_putF (t := .array .int) dX1_init_79 rfl fw_X1_43_1 hg20 h4_r0 hl21 rfl rfl ?_
  refine hs_aload_n dX1_init_82 rfl ?_
  refine hs_iconst (v := 4) dX1_init_83 (by decide) ?_
  refine hs_newi (N := 4) dX1_init_84 (by decide) (by decide) ?_
  refine hs_putF (t := .array .int) dX1_init_86 rfl fw_X1_46_1 hg23 h4_r0 hl24 rfl rfl ?_
  refine hs_iconst (v := 0) dX1_init_89 (by decide) ?_
  refine hs_istK_n dX1_init_90 (by decide) (hk_nk1 rfl ho1) rfl ?_
  exact k
theorem b_X1_init_35 {G : hk_G} {d cb sb : Nat} {h : hk_H} {Q : hk_O → hk_H → Prop} {s0 : Nat} {s1 : Nat} {fs1 : List Value} {h_1 : hk_H} {r0 : Nat} {h_2 : hk_H} {fs4 : List Value} {h_3 : hk_H} {h_4 : hk_H} {fs7 : List Value} {h_5 : hk_H} {h_6 : hk_H} {fs10 : List Value} {h_7 : hk_H} {h_8 : hk_H} {fs13 : List Value} {h_9 : hk_H} {h_10 : hk_H} {fs16 : List Value} {h_11 : hk_H} {h_12 : hk_H} {fs19 : List Value} {h_13 : hk_H} {h_14 : hk_H} {fs22 : List Value} {h_15 : hk_H} {o1 : Option Value} {o2 : Option Value} (hg2 : h.2 s0 = some (.inr (1, fs1))) (h4_s0 : 4 ≤ s0) (e_1 : (hk_set h s0 (.inr (1, fs1.set 1 (.ref s1)))) = h_1) (e_2 : (hk_new h_1 (.inl (0, 16, .inl (fun _ => 0)))) = h_2) (hg5 : h_2.2 r0 = some (.inr (1, fs4))) (h4_r0 : 4 ≤ r0) (e_3 : (hk_set h_2 r0 (.inr (1, fs4.set 2 (.ref h_1.1)))) = h_3) (e_4 : (hk_new h_3 (.inl (0, 16, .inl (fun _ => 0)))) = h_4) (hg8 : h_4.2 r0 = some (.inr (1, fs7))) (e_5 : (hk_set h_4 r0 (.inr (1, fs7.set 3 (.ref h_3.1)))) = h_5) (e_6 : (hk_new h_5 (.inl (0, 4, .inl (fun _ => 0)))) = h_6) (hg11 : h_6.2 r0 = some (.inr (1, fs10))) (e_7 : (hk_set h_6 r0 (.inr (1, fs10.set 4 (.ref h_5.1)))) = h_7) (e_8 : (hk_new h_7 (.inl (0, 4, .inl (fun _ => 0)))) = h_8) (hg14 : h_8.2 r0 = some (.inr (1, fs13))) (e_9 : (hk_set h_8 r0 (.inr (1, fs13.set 5 (.ref h_7.1)))) = h_9) (e_10 : (hk_new h_9 (.inl (0, 4, .inl (fun _ => 0)))) = h_10) (hg17 : h_10.2 r0 = some (.inr (1, fs16))) (e_11 : (hk_set h_10 r0 (.inr (1, fs16.set 6 (.ref h_9.1)))) = h_11) (e_12 : (hk_new h_11 (.inl (0, 4, .inl (fun _ => 0)))) = h_12) (hg20 : h_12.2 r0 = some (.inr (1, fs19))) (e_13 : (hk_set h_12 r0 (.inr (1, fs19.set 7 (.ref h_11.1)))) = h_13) (e_14 : (hk_new h_13 (.inl (0, 4, .inl (fun _ => 0)))) = h_14) (hg23 : h_14.2 r0 = some (.inr (1, fs22))) (e_15 : (hk_set h_14 r0 (.inr (1, fs22.set 8 (.ref h_13.1)))) = h_15) (k : hk_S G m_X1_init d cb sb 91 [some (.ref r0), o1, some (.int 0)] [] h_15 Q) (ho1 : hk_c1 o1 := by first | exact hk_c1i | exact hk_c1r | exact hk_c10 | exact hk_c1n) (hl3 : 1 < fs1.length := by exact Nat.le_of_ble_eq_true rfl) (hl6 : 2 < fs4.length := by exact Nat.le_of_ble_eq_true rfl) (hl9 : 3 < fs7.length := by exact Nat.le_of_ble_eq_true rfl) (hl12 : 4 < fs10.length := by exact Nat.le_of_ble_eq_true rfl) (hl15 : 5 < fs13.length := by exact Nat.le_of_ble_eq_true rfl) (hl18 : 6 < fs16.length := by exact Nat.le_of_ble_eq_true rfl) (hl21 : 7 < fs19.length := by exact Nat.le_of_ble_eq_true rfl) (hl24 : 8 < fs22.length := by exact Nat.le_of_ble_eq_true rfl) : hk_S G m_X1_init d (((((((cb + 1) + 1) + 1) + 1) + 1) + 1) + 1) (((((((sb + 4) + 4) + 4) + 4) + 4) + 16) + 16) 35 [some (.ref r0), o1, o2] [.ref s1, .ref s0] h Q := by
  subst e_1
  subst e_2
  subst e_3
  subst e_4
  subst e_5
  subst e_6
  subst e_7
  subst e_8
  subst e_9
  subst e_10
  subst e_11
  subst e_12
  subst e_13
  subst e_14
  subst e_15
  refine hs_putF (t := .array .int) dX1_init_35 rfl fw_X1_25_1 hg2 h4_s0 hl3 rfl rfl ?_
  refine hs_aload_n dX1_init_38 rfl ?_
  refine hs_bipush (v := 16) dX1_init_39 (by decide) ?_
  refine hs_newi (N := 16) dX1_init_41 (by decide) (by decide) ?_
  refine hs_putF (t := .array .int) dX1_init_43 rfl fw_X1_28_1 hg5 h4_r0 hl6 rfl rfl ?_
  refine hs_aload_n dX1_init_46 rfl ?_
  refine hs_bipush (v := 16) dX1_init_47 (by decide) ?_
  refine hs_newi (N := 16) dX1_init_49 (by decide) (by decide) ?_
  refine hs_putF (t := .array .int) dX1_init_51 rfl fw_X1_31_1 hg8 h4_r0 hl9 rfl rfl ?_
  refine hs_aload_n dX1_init_54 rfl ?_
  refine hs_iconst (v := 4) dX1_init_55 (by decide) ?_
  refine hs_newi (N := 4) dX1_init_56 (by decide) (by decide) ?_
  refine hs_putF (t := .array .int) dX1_init_58 rfl fw_X1_34_1 hg11 h4_r0 hl12 rfl rfl ?_
  refine hs_aload_n dX1_init_61 rfl ?_
  refine hs_iconst (v := 4) dX1_init_62 (by decide) ?_
  refine hs_newi (N := 4) dX1_init_63 (by decide) (by decide) ?_
  refine hs_putF (t := .array .int) dX1_init_65 rfl fw_X1_37_1 hg14 h4_r0 hl15 rfl rfl ?_
  refine hs_aload_n dX1_init_68 rfl ?_
  refine hs_iconst (v := 4) dX1_init_69 (by decide) ?_
  refine hs_newi (N := 4) dX1_init_70 (by decide) (by decide) ?_
  refine hs_putF (t := .array .int) dX1_init_72 rfl fw_X1_40_1 hg17 h4_r0 hl18 rfl rfl ?_
  refine hs_aload_n dX1_init_75 rfl ?_
  refine hs_iconst (v := 4) dX1_init_76 (by decide) ?_
  refine hs_newi (N := 4) dX1_init_77 (by decide) (by decide) ?_
  refine hs_putF (t := .array .int) dX1_init_79 rfl fw_X1_43_1 hg20 h4_r0 hl21 rfl rfl ?_
  refine hs_aload_n dX1_init_82 rfl ?_
  refine hs_iconst (v := 4) dX1_init_83 (by decide) ?_
  refine hs_newi (N := 4) dX1_init_84 (by decide) (by decide) ?_
  refine hs_putF (t := .array .int) dX1_init_86 rfl fw_X1_46_1 hg23 h4_r0 hl24 rfl rfl ?_
  refine hs_iconst (v := 0) dX1_init_89 (by decide) ?_
  refine hs_istK_n dX1_init_90 (by decide) (hk_nk1 rfl ho1) rfl ?_
  exact k
theorem b_X1_init_91 {G : hk_G} {d cb sb : Nat} {h : hk_H} {Q : hk_O → hk_H → Prop} {x2 : Int32} {o0 : Option Value} {o1 : Option Value} (kt : 16 ≤ x2 → hk_S G m_X1_init d cb sb 121 [o0, o1, some (.int x2)] [] h Q) (kf : ¬ 16 ≤ x2 → hk_S G m_X1_init d cb sb 97 [o0, o1, some (.int x2)] [] h Q) : hk_S G m_X1_init d cb sb 91 [o0, o1, some (.int x2)] [] h Q := by
  refine hs_iload_n dX1_init_91 rfl ?_
  refine hs_bipush (v := 16) dX1_init_92 (by decide) ?_
  exact hs_icmp_ge dX1_init_94 (by decide) kt kf
theorem b_X1_init_97 {G : hk_G} {d cb sb : Nat} {h : hk_H} {Q : hk_O → hk_H → Prop} {r0 : Nat} {fs1 : List Value} {v3 : Nat} {x2 : Int32} {n6 : Nat} {f7 : Nat → Int32} {h_1 : hk_H} {fs12 : List Value} {v14 : Nat} {n17 : Nat} {f18 : Nat → Int32} {h_2 : hk_H} {o1 : Option Value} (hg2 : h.2 r0 = some (.inr (1, fs1))) (hv4 : fs1[2]? = some (.ref v3)) (ha8 : h.2 v3 = some (.inl (0, n6, .inl f7))) (h4_v3 : 4 ≤ v3) (j9 : Nat) (hi10 : (x2 : Int32).toInt = (j9 : Int)) (hj11 : j9 < n6) (e_1 : (hk_set h v3 (.inl (0, n6, .inl (upd f7 j9 (x2 - x2 / 4 * 4))))) = h_1) (hg13 : h_1.2 r0 = some (.inr (1, fs12))) (hv15 : fs12[3]? = some (.ref v14)) (ha19 : h_1.2 v14 = some (.inl (0, n17, .inl f18))) (h4_v14 : 4 ≤ v14) (hj20 : j9 < n17) (e_2 : (hk_set h_1 v14 (.inl (0, n17, .inl (upd f18 j9 (x2 - x2 / 4 * 4))))) = h_2) (k : hk_S G m_X1_init d cb sb 91 [some (.ref r0), o1, some (.int (x2 + 1))] [] h_2 Q) (ho1 : hk_c1 o1 := by first | exact hk_c1i | exact hk_c1r | exact hk_c10 | exact hk_c1n) : hk_S G m_X1_init d cb sb 97 [some (.ref r0), o1, some (.int x2)] [] h Q := by
  subst e_1
  subst e_2
  refine hs_aload_n dX1_init_97 rfl ?_
  refine hs_get dX1_init_98 fl_X1_28_1 hg2 hv4 ?_
  refine hs_iload_n dX1_init_101 rfl ?_
  refine hs_iload_n dX1_init_102 rfl ?_
  refine hs_iconst (v := 4) dX1_init_103 (by decide) ?_
  refine hs_irem dX1_init_104 (by decide) ?_
  refine hs_iast j9 dX1_init_105 ha8 h4_v3 hi10 hj11 ?_
  refine hs_aload_n dX1_init_106 rfl ?_
  refine hs_get dX1_init_107 fl_X1_31_1 hg13 hv15 ?_
  refine hs_iload_n dX1_init_110 rfl ?_
  refine hs_iload_n dX1_init_111 rfl ?_
  refine hs_iconst (v := 4) dX1_init_112 (by decide) ?_
  refine hs_irem dX1_init_113 (by decide) ?_
  refine hs_iast j9 dX1_init_114 ha19 h4_v14 hi10 hj20 ?_
  refine hs_iincK (v := 1) dX1_init_115 rfl (by decide) (by decide) (hk_nk1 rfl ho1) rfl ?_
  refine hs_goto dX1_init_118 (tgt := 91) (by decide) ?_
  exact k
theorem b_X1_init_121 {G : hk_G} {d cb sb : Nat} {h : hk_H} {Q : hk_O → hk_H → Prop} {o0 : Option Value} {o1 : Option Value} {o2 : Option Value} (hq : Q (.inl none) h) : hk_S G m_X1_init d cb sb 121 [o0, o1, o2] [] h Q := by
  exact hs_vret dX1_init_121 rfl hq
-- HonestHouse$Market.isOrder(I)Z
theorem b_X1_isOrder_0 {G : hk_G} {d cb sb : Nat} {h : hk_H} {Q : hk_O → hk_H → Prop} {r0 : Nat} {fs1 : List Value} {v3 : Nat} {n5 : Nat} {t7 : Nat} {x6 : (Nat → Int32) ⊕ (Nat → Int64) ⊕ (Nat → UInt32) ⊕ (Nat → UInt64) ⊕ (Nat → Option Nat)} {o1 : Option Value} {o2 : Option Value} {o3 : Option Value} {o4 : Option Value} {o5 : Option Value} (hg2 : h.2 r0 = some (.inr (1, fs1))) (hv4 : fs1[1]? = some (.ref v3)) (ha8 : h.2 v3 = some (.inl (t7, n5, x6))) (ht9 : t7 < 5) (k : hk_S G m_X1_isOrder d cb sb 11 [some (.ref r0), o1, some (.ref v3), some (.int (Int32.ofNat n5)), some (.int 0), o5] [] h Q) (ho1 : hk_c1 o1 := by first | exact hk_c1i | exact hk_c1r | exact hk_c10 | exact hk_c1n) : hk_S G m_X1_isOrder d cb sb 0 [some (.ref r0), o1, o2, o3, o4, o5] [] h Q := by
  refine hs_aload_n dX1_isOrder_0 rfl ?_
  refine hs_get dX1_isOrder_1 fl_X1_25_1 hg2 hv4 ?_
  refine hs_astK_n dX1_isOrder_4 (by decide) (hk_nk1 rfl ho1) rfl ?_
  refine hs_aload_n dX1_isOrder_5 rfl ?_
  refine hs_alen dX1_isOrder_6 ha8 ht9 ?_
  refine hs_istK_n dX1_isOrder_7 (by decide) (hk_nk1 rfl hk_c1r) rfl ?_
  refine hs_iconst (v := 0) dX1_isOrder_8 (by decide) ?_
  refine hs_istK dX1_isOrder_9 (by decide) (hk_nk1 rfl hk_c1i) rfl ?_
  exact k
theorem b_X1_isOrder_11 {G : hk_G} {d cb sb : Nat} {h : hk_H} {Q : hk_O → hk_H → Prop} {x4 : Int32} {x3 : Int32} {o0 : Option Value} {o1 : Option Value} {o2 : Option Value} {o5 : Option Value} (kt : x3 ≤ x4 → hk_S G m_X1_isOrder d cb sb 37 [o0, o1, o2, some (.int x3), some (.int x4), o5] [] h Q) (kf : ¬ x3 ≤ x4 → hk_S G m_X1_isOrder d cb sb 17 [o0, o1, o2, some (.int x3), some (.int x4), o5] [] h Q) : hk_S G m_X1_isOrder d cb sb 11 [o0, o1, o2, some (.int x3), some (.int x4), o5] [] h Q := by
  refine hs_iload dX1_isOrder_11 rfl ?_
  refine hs_iload_n dX1_isOrder_13 rfl ?_
  exact hs_icmp_ge dX1_isOrder_14 (by decide) kt kf
theorem b_X1_isOrder_17 {G : hk_G} {d cb sb : Nat} {h : hk_H} {Q : hk_O → hk_H → Prop} {r2 : Nat} {x4 : Int32} {n1 : Nat} {f2 : Nat → Int32} {x1 : Int32} {o0 : Option Value} {o3 : Option Value} {o5 : Option Value} (ha3 : h.2 r2 = some (.inl (0, n1, .inl f2))) (j4 : Nat) (hi5 : (x4 : Int32).toInt = (j4 : Int)) (hj6 : j4 < n1) (kt : ¬ (f2 j4) = x1 → hk_S G m_X1_isOrder d cb sb 31 [o0, some (.int x1), some (.ref r2), o3, some (.int x4), some (.int (f2 j4))] [] h Q) (kf : (f2 j4) = x1 → hk_S G m_X1_isOrder d cb sb 29 [o0, some (.int x1), some (.ref r2), o3, some (.int x4), some (.int (f2 j4))] [] h Q) : hk_S G m_X1_isOrder d cb sb 17 [o0, some (.int x1), some (.ref r2), o3, some (.int x4), o5] [] h Q := by
  refine hs_aload_n dX1_isOrder_17 rfl ?_
  refine hs_iload dX1_isOrder_18 rfl ?_
  refine hs_iald j4 dX1_isOrder_20 ha3 hi5 hj6 ?_
  refine hs_istK dX1_isOrder_21 (by decide) (hk_nk1 rfl hk_c1i) rfl ?_
  refine hs_iload dX1_isOrder_23 rfl ?_
  refine hs_iload_n dX1_isOrder_25 rfl ?_
  exact hs_icmp_ne dX1_isOrder_26 (by decide) kt kf
theorem b_X1_isOrder_29 {G : hk_G} {d cb sb : Nat} {h : hk_H} {Q : hk_O → hk_H → Prop} {o0 : Option Value} {o1 : Option Value} {o2 : Option Value} {o3 : Option Value} {o4 : Option Value} {o5 : Option Value} (hq : Q (.inl (some (.int 1))) h) : hk_S G m_X1_isOrder d cb sb 29 [o0, o1, o2, o3, o4, o5] [] h Q := by
  refine hs_iconst (v := 1) dX1_isOrder_29 (by decide) ?_
  exact hs_zret dX1_isOrder_30 rfl (by decide) hq
theorem b_X1_isOrder_31 {G : hk_G} {d cb sb : Nat} {h : hk_H} {Q : hk_O → hk_H → Prop} {x4 : Int32} {o0 : Option Value} {o1 : Option Value} {o2 : Option Value} {o3 : Option Value} {o5 : Option Value} (k : hk_S G m_X1_isOrder d cb sb 11 [o0, o1, o2, o3, some (.int (x4 + 1)), o5] [] h Q) (ho3 : hk_c1 o3 := by first | exact hk_c1i | exact hk_c1r | exact hk_c10 | exact hk_c1n) : hk_S G m_X1_isOrder d cb sb 31 [o0, o1, o2, o3, some (.int x4), o5] [] h Q := by
  refine hs_iincK (v := 1) dX1_isOrder_31 rfl (by decide) (by decide) (hk_nk1 rfl ho3) rfl ?_
  refine hs_goto dX1_isOrder_34 (tgt := 11) (by decide) ?_
  exact k
theorem b_X1_isOrder_37 {G : hk_G} {d cb sb : Nat} {h : hk_H} {Q : hk_O → hk_H → Prop} {o0 : Option Value} {o1 : Option Value} {o2 : Option Value} {o3 : Option Value} {o4 : Option Value} {o5 : Option Value} (hq : Q (.inl (some (.int 0))) h) : hk_S G m_X1_isOrder d cb sb 37 [o0, o1, o2, o3, o4, o5] [] h Q := by
  refine hs_iconst (v := 0) dX1_isOrder_37 (by decide) ?_
  exact hs_zret dX1_isOrder_38 rfl (by decide) hq
-- HonestHouse$Market.read(I[I)V
theorem b_X1_read_0 {G : hk_G} {d cb sb : Nat} {h : hk_H} {Q : hk_O → hk_H → Prop} {x1 : Int32} {r0 : Nat} {fs1 : List Value} {v3 : Int32} {o2 : Option Value} {o3 : Option Value} {o4 : Option Value} (hg2 : h.2 r0 = some (.inr (1, fs1))) (hv4 : fs1[0]? = some (.int v3)) (k : hk_S G m_X1_read d cb sb 10 [some (.ref r0), some (.int x1), o2, some (.int x1), some (.int (v3 - 1))] [] h Q) (ho2 : hk_c1 o2 := by first | exact hk_c1i | exact hk_c1r | exact hk_c10 | exact hk_c1n) : hk_S G m_X1_read d cb sb 0 [some (.ref r0), some (.int x1), o2, o3, o4] [] h Q := by
  refine hs_iload_n dX1_read_0 rfl ?_
  refine hs_istK_n dX1_read_1 (by decide) (hk_nk1 rfl ho2) rfl ?_
  refine hs_aload_n dX1_read_2 rfl ?_
  refine hs_get dX1_read_3 fl_X1_9_1 hg2 hv4 ?_
  refine hs_iconst (v := 1) dX1_read_6 (by decide) ?_
  refine hs_isub dX1_read_7 ?_
  refine hs_istK dX1_read_8 (by decide) (hk_nk1 rfl hk_c1i) rfl ?_
  exact k
theorem b_X1_read_10 {G : hk_G} {d cb sb : Nat} {h : hk_H} {Q : hk_O → hk_H → Prop} {x4 : Int32} {o0 : Option Value} {o1 : Option Value} {o2 : Option Value} {o3 : Option Value} (kt : x4 < 0 → hk_S G m_X1_read d cb sb 34 [o0, o1, o2, o3, some (.int x4)] [] h Q) (kf : ¬ x4 < 0 → hk_S G m_X1_read d cb sb 15 [o0, o1, o2, o3, some (.int x4)] [] h Q) : hk_S G m_X1_read d cb sb 10 [o0, o1, o2, o3, some (.int x4)] [] h Q := by
  refine hs_iload dX1_read_10 rfl ?_
  exact hs_if_lt dX1_read_12 (by decide) kt kf
theorem b_X1_read_15 {G : hk_G} {d cb sb : Nat} {h : hk_H} {Q : hk_O → hk_H → Prop} {r2 : Nat} {x4 : Int32} {x3 : Int32} {n2 : Nat} {f3 : Nat → Int32} {h_1 : hk_H} {o0 : Option Value} {o1 : Option Value} (ha4 : h.2 r2 = some (.inl (0, n2, .inl f3))) (h4_r2 : 4 ≤ r2) (j5 : Nat) (hi6 : (x4 : Int32).toInt = (j5 : Int)) (hj7 : j5 < n2) (e_1 : (hk_set h r2 (.inl (0, n2, .inl (upd f3 j5 (x3 - x3 / 10 * 10))))) = h_1) (k : hk_S G m_X1_read d cb sb 10 [o0, o1, some (.ref r2), some (.int (x3 / 10)), some (.int (x4 + (-1)))] [] h_1 Q) : hk_S G m_X1_read d cb sb 15 [o0, o1, some (.ref r2), some (.int x3), some (.int x4)] [] h Q := by
  subst e_1
  refine hs_aload_n dX1_read_15 rfl ?_
  refine hs_iload dX1_read_16 rfl ?_
  refine hs_iload_n dX1_read_18 rfl ?_
  refine hs_bipush (v := 10) dX1_read_19 (by decide) ?_
  refine hs_irem dX1_read_21 (by decide) ?_
  refine hs_iast j5 dX1_read_22 ha4 h4_r2 hi6 hj7 ?_
  refine hs_iload_n dX1_read_23 rfl ?_
  refine hs_bipush (v := 10) dX1_read_24 (by decide) ?_
  refine hs_idiv dX1_read_26 (by decide) ?_
  refine hs_istK_n dX1_read_27 (by decide) (hk_nk1 rfl hk_c1r) rfl ?_
  refine hs_iincK (v := (-1)) dX1_read_28 rfl (by decide) (by decide) (hk_nk1 rfl hk_c1i) rfl ?_
  refine hs_goto dX1_read_31 (tgt := 10) (by decide) ?_
  exact k
theorem b_X1_read_34 {G : hk_G} {d cb sb : Nat} {h : hk_H} {Q : hk_O → hk_H → Prop} {o0 : Option Value} {o1 : Option Value} {o2 : Option Value} {o3 : Option Value} {o4 : Option Value} (hq : Q (.inl none) h) : hk_S G m_X1_read d cb sb 34 [o0, o1, o2, o3, o4] [] h Q := by
  exact hs_vret dX1_read_34 rfl hq
-- HonestHouse$Market.told([I)I
theorem b_X1_told_0 {G : hk_G} {d cb sb : Nat} {h : hk_H} {Q : hk_O → hk_H → Prop} {o0 : Option Value} {o1 : Option Value} {o2 : Option Value} {o3 : Option Value} (k : hk_S G m_X1_told d cb sb 4 [o0, o1, some (.int 0), some (.int 0)] [] h Q) (ho1 : hk_c1 o1 := by first | exact hk_c1i | exact hk_c1r | exact hk_c10 | exact hk_c1n) : hk_S G m_X1_told d cb sb 0 [o0, o1, o2, o3] [] h Q := by
  refine hs_iconst (v := 0) dX1_told_0 (by decide) ?_
  refine hs_istK_n dX1_told_1 (by decide) (hk_nk1 rfl ho1) rfl ?_
  refine hs_iconst (v := 0) dX1_told_2 (by decide) ?_
  refine hs_istK_n dX1_told_3 (by decide) (hk_nk1 rfl hk_c1i) rfl ?_
  exact k
theorem b_X1_told_4 {G : hk_G} {d cb sb : Nat} {h : hk_H} {Q : hk_O → hk_H → Prop} {x3 : Int32} {r0 : Nat} {fs1 : List Value} {v3 : Int32} {o1 : Option Value} {o2 : Option Value} (hg2 : h.2 r0 = some (.inr (1, fs1))) (hv4 : fs1[0]? = some (.int v3)) (kt : v3 ≤ x3 → hk_S G m_X1_told d cb sb 27 [some (.ref r0), o1, o2, some (.int x3)] [] h Q) (kf : ¬ v3 ≤ x3 → hk_S G m_X1_told d cb sb 12 [some (.ref r0), o1, o2, some (.int x3)] [] h Q) : hk_S G m_X1_told d cb sb 4 [some (.ref r0), o1, o2, some (.int x3)] [] h Q := by
  refine hs_iload_n dX1_told_4 rfl ?_
  refine hs_aload_n dX1_told_5 rfl ?_
  refine hs_get dX1_told_6 fl_X1_9_1 hg2 hv4 ?_
  exact hs_icmp_ge dX1_told_9 (by decide) kt kf
theorem b_X1_told_12 {G : hk_G} {d cb sb : Nat} {h : hk_H} {Q : hk_O → hk_H → Prop} {x2 : Int32} {r1 : Nat} {x3 : Int32} {n1 : Nat} {f2 : Nat → Int32} {o0 : Option Value} (ha3 : h.2 r1 = some (.inl (0, n1, .inl f2))) (j4 : Nat) (hi5 : (x3 : Int32).toInt = (j4 : Int)) (hj6 : j4 < n1) (k : hk_S G m_X1_told d cb sb 4 [o0, some (.ref r1), some (.int ((x2 * 10) + (f2 j4))), some (.int (x3 + 1))] [] h Q) : hk_S G m_X1_told d cb sb 12 [o0, some (.ref r1), some (.int x2), some (.int x3)] [] h Q := by
  refine hs_iload_n dX1_told_12 rfl ?_
  refine hs_bipush (v := 10) dX1_told_13 (by decide) ?_
  refine hs_imul dX1_told_15 ?_
  refine hs_aload_n dX1_told_16 rfl ?_
  refine hs_iload_n dX1_told_17 rfl ?_
  refine hs_iald j4 dX1_told_18 ha3 hi5 hj6 ?_
  refine hs_iadd dX1_told_19 ?_
  refine hs_istK_n dX1_told_20 (by decide) (hk_nk1 rfl hk_c1r) rfl ?_
  refine hs_iincK (v := 1) dX1_told_21 rfl (by decide) (by decide) (hk_nk1 rfl hk_c1i) rfl ?_
  refine hs_goto dX1_told_24 (tgt := 4) (by decide) ?_
  exact k
theorem b_X1_told_27 {G : hk_G} {d cb sb : Nat} {h : hk_H} {Q : hk_O → hk_H → Prop} {x2 : Int32} {o0 : Option Value} {o1 : Option Value} {o3 : Option Value} (hq : Q (.inl (some (.int x2))) h) : hk_S G m_X1_told d cb sb 27 [o0, o1, some (.int x2), o3] [] h Q := by
  refine hs_iload_n dX1_told_27 rfl ?_
  exact hs_iret dX1_told_28 rfl hq
-- HonestHouse$Market.learn(II)V
theorem b_X1_learn_0 {G : hk_G} {d cb sb : Nat} {h : hk_H} {Q : hk_O → hk_H → Prop} {r0 : Nat} {x2 : Int32} {fs1 : List Value} {v3 : Nat} {o1 : Option Value} {o3 : Option Value} (hg2 : h.2 r0 = some (.inr (1, fs1))) (hv4 : fs1[8]? = some (.ref v3)) (hc : hk_Cv G m_X1_read d 0 0 [.ref r0, .int x2, .ref v3] h (fun h' => hk_S G m_X1_learn (d + 1) cb sb 9 [some (.ref r0), o1, some (.int x2), o3] [] h' Q)) : hk_S G m_X1_learn (d + 1) cb sb 0 [some (.ref r0), o1, some (.int x2), o3] [] h Q := by
  refine hs_aload_n dX1_learn_0 rfl ?_
  refine hs_iload_n dX1_learn_1 rfl ?_
  refine hs_aload_n dX1_learn_2 rfl ?_
  refine hs_get dX1_learn_3 fl_X1_46_1 hg2 hv4 ?_
  exact hk_z0 (hs_vir (M' := m_X1_read) (vs := [.int x2, .ref v3]) (c1 := 0) (s1 := 0) dX1_learn_6 wd_741 vi_X1_read hg2 rfl (Nat.le_of_ble_eq_true rfl) hc hq_v (hc_v (fun h9 k9 => k9)))
theorem b_X1_learn_9 {G : hk_G} {d cb sb : Nat} {h : hk_H} {Q : hk_O → hk_H → Prop} {o0 : Option Value} {o1 : Option Value} {o2 : Option Value} {o3 : Option Value} (k : hk_S G m_X1_learn (d + 1) cb sb 11 [o0, o1, o2, some (.int 0)] [] h Q) (ho2 : hk_c1 o2 := by first | exact hk_c1i | exact hk_c1r | exact hk_c10 | exact hk_c1n) : hk_S G m_X1_learn (d + 1) cb sb 9 [o0, o1, o2, o3] [] h Q := by
  refine hs_iconst (v := 0) dX1_learn_9 (by decide) ?_
  refine hs_istK_n dX1_learn_10 (by decide) (hk_nk1 rfl ho2) rfl ?_
  exact k
theorem b_X1_learn_11 {G : hk_G} {d cb sb : Nat} {h : hk_H} {Q : hk_O → hk_H → Prop} {x3 : Int32} {r0 : Nat} {fs1 : List Value} {v3 : Int32} {o1 : Option Value} {o2 : Option Value} (hg2 : h.2 r0 = some (.inr (1, fs1))) (hv4 : fs1[0]? = some (.int v3)) (kt : v3 ≤ x3 → hk_S G m_X1_learn (d + 1) cb sb 57 [some (.ref r0), o1, o2, some (.int x3)] [] h Q) (kf : ¬ v3 ≤ x3 → hk_S G m_X1_learn (d + 1) cb sb 19 [some (.ref r0), o1, o2, some (.int x3)] [] h Q) : hk_S G m_X1_learn (d + 1) cb sb 11 [some (.ref r0), o1, o2, some (.int x3)] [] h Q := by
  refine hs_iload_n dX1_learn_11 rfl ?_
  refine hs_aload_n dX1_learn_12 rfl ?_
  refine hs_get dX1_learn_13 fl_X1_9_1 hg2 hv4 ?_
  exact hs_icmp_ge dX1_learn_16 (by decide) kt kf
theorem b_X1_learn_19 {G : hk_G} {d cb sb : Nat} {h : hk_H} {Q : hk_O → hk_H → Prop} {r0 : Nat} {fs1 : List Value} {v3 : Nat} {x1 : Int32} {x3 : Int32} {v5 : Nat} {n7 : Nat} {f8 : Nat → Int32} {n13 : Nat} {f14 : Nat → Int32} {h_1 : hk_H} {fs19 : List Value} {v21 : Nat} {v23 : Nat} {n25 : Nat} {f26 : Nat → Int32} {n29 : Nat} {f30 : Nat → Int32} {h_2 : hk_H} {o2 : Option Value} (hg2 : h.2 r0 = some (.inr (1, fs1))) (hv4 : fs1[2]? = some (.ref v3)) (hv6 : fs1[8]? = some (.ref v5)) (ha9 : h.2 v5 = some (.inl (0, n7, .inl f8))) (j10 : Nat) (hi11 : (x3 : Int32).toInt = (j10 : Int)) (hj12 : j10 < n7) (ha15 : h.2 v3 = some (.inl (0, n13, .inl f14))) (h4_v3 : 4 ≤ v3) (j16 : Nat) (hi17 : ((x1 * 4) + x3 : Int32).toInt = (j16 : Int)) (hj18 : j16 < n13) (e_1 : (hk_set h v3 (.inl (0, n13, .inl (upd f14 j16 (f8 j10))))) = h_1) (hg20 : h_1.2 r0 = some (.inr (1, fs19))) (hv22 : fs19[3]? = some (.ref v21)) (hv24 : fs19[8]? = some (.ref v23)) (ha27 : h_1.2 v23 = some (.inl (0, n25, .inl f26))) (hj28 : j10 < n25) (ha31 : h_1.2 v21 = some (.inl (0, n29, .inl f30))) (h4_v21 : 4 ≤ v21) (j32 : Nat) (hi33 : ((x1 * 4) + (f26 j10) : Int32).toInt = (j32 : Int)) (hj34 : j32 < n29) (e_2 : (hk_set h_1 v21 (.inl (0, n29, .inl (upd f30 j32 x3)))) = h_2) (k : hk_S G m_X1_learn (d + 1) cb sb 11 [some (.ref r0), some (.int x1), o2, some (.int (x3 + 1))] [] h_2 Q) (ho2 : hk_c1 o2 := by first | exact hk_c1i | exact hk_c1r | exact hk_c10 | exact hk_c1n) : hk_S G m_X1_learn (d + 1) cb sb 19 [some (.ref r0), some (.int x1), o2, some (.int x3)] [] h Q := by
  subst e_1
  subst e_2
  refine hs_aload_n dX1_learn_19 rfl ?_
  refine hs_get dX1_learn_20 fl_X1_28_1 hg2 hv4 ?_
  refine hs_iload_n dX1_learn_23 rfl ?_
  refine hs_iconst (v := 4) dX1_learn_24 (by decide) ?_
  refine hs_imul dX1_learn_25 ?_
  refine hs_iload_n dX1_learn_26 rfl ?_
  refine hs_iadd dX1_learn_27 ?_
  refine hs_aload_n dX1_learn_28 rfl ?_
  refine hs_get dX1_learn_29 fl_X1_46_1 hg2 hv6 ?_
  refine hs_iload_n dX1_learn_32 rfl ?_
  refine hs_iald j10 dX1_learn_33 ha9 hi11 hj12 ?_
  refine hs_iast j16 dX1_learn_34 ha15 h4_v3 hi17 hj18 ?_
  refine hs_aload_n dX1_learn_35 rfl ?_
  refine hs_get dX1_learn_36 fl_X1_31_1 hg20 hv22 ?_
  refine hs_iload_n dX1_learn_39 rfl ?_
  refine hs_iconst (v := 4) dX1_learn_40 (by decide) ?_
  refine hs_imul dX1_learn_41 ?_
  refine hs_aload_n dX1_learn_42 rfl ?_
  refine hs_get dX1_learn_43 fl_X1_46_1 hg20 hv24 ?_
  refine hs_iload_n dX1_learn_46 rfl ?_
  refine hs_iald j10 dX1_learn_47 ha27 hi11 hj28 ?_
  refine hs_iadd dX1_learn_48 ?_
  refine hs_iload_n dX1_learn_49 rfl ?_
  refine hs_iast j32 dX1_learn_50 ha31 h4_v21 hi33 hj34 ?_
  refine hs_iincK (v := 1) dX1_learn_51 rfl (by decide) (by decide) (hk_nk1 rfl ho2) rfl ?_
  refine hs_goto dX1_learn_54 (tgt := 11) (by decide) ?_
  exact k
theorem b_X1_learn_57 {G : hk_G} {d cb sb : Nat} {h : hk_H} {Q : hk_O → hk_H → Prop} {o0 : Option Value} {o1 : Option Value} {o2 : Option Value} {o3 : Option Value} (hq : Q (.inl none) h) : hk_S G m_X1_learn (d + 1) cb sb 57 [o0, o1, o2, o3] [] h Q := by
  exact hs_vret dX1_learn_57 rfl hq
-- HonestHouse$Market.orderOf(I)I
theorem b_X1_orderOf_0 {G : hk_G} {d cb sb : Nat} {h : hk_H} {Q : hk_O → hk_H → Prop} {o0 : Option Value} {o1 : Option Value} {o2 : Option Value} (k : hk_S G m_X1_orderOf (d + 1) cb sb 2 [o0, o1, some (.int 0)] [] h Q) (ho1 : hk_c1 o1 := by first | exact hk_c1i | exact hk_c1r | exact hk_c10 | exact hk_c1n) : hk_S G m_X1_orderOf (d + 1) cb sb 0 [o0, o1, o2] [] h Q := by
  refine hs_iconst (v := 0) dX1_orderOf_0 (by decide) ?_
  refine hs_istK_n dX1_orderOf_1 (by decide) (hk_nk1 rfl ho1) rfl ?_
  exact k
theorem b_X1_orderOf_2 {G : hk_G} {d cb sb : Nat} {h : hk_H} {Q : hk_O → hk_H → Prop} {x2 : Int32} {r0 : Nat} {fs1 : List Value} {v3 : Int32} {o1 : Option Value} (hg2 : h.2 r0 = some (.inr (1, fs1))) (hv4 : fs1[0]? = some (.int v3)) (kt : v3 ≤ x2 → hk_S G m_X1_orderOf (d + 1) cb sb 32 [some (.ref r0), o1, some (.int x2)] [] h Q) (kf : ¬ v3 ≤ x2 → hk_S G m_X1_orderOf (d + 1) cb sb 10 [some (.ref r0), o1, some (.int x2)] [] h Q) : hk_S G m_X1_orderOf (d + 1) cb sb 2 [some (.ref r0), o1, some (.int x2)] [] h Q := by
  refine hs_iload_n dX1_orderOf_2 rfl ?_
  refine hs_aload_n dX1_orderOf_3 rfl ?_
  refine hs_get dX1_orderOf_4 fl_X1_9_1 hg2 hv4 ?_
  exact hs_icmp_ge dX1_orderOf_7 (by decide) kt kf
theorem b_X1_orderOf_10 {G : hk_G} {d cb sb : Nat} {h : hk_H} {Q : hk_O → hk_H → Prop} {r0 : Nat} {fs1 : List Value} {v3 : Nat} {x2 : Int32} {v5 : Nat} {x1 : Int32} {n7 : Nat} {f8 : Nat → Int32} {n13 : Nat} {f14 : Nat → Int32} {h_1 : hk_H} (hg2 : h.2 r0 = some (.inr (1, fs1))) (hv4 : fs1[8]? = some (.ref v3)) (hv6 : fs1[2]? = some (.ref v5)) (ha9 : h.2 v5 = some (.inl (0, n7, .inl f8))) (j10 : Nat) (hi11 : ((x1 * 4) + x2 : Int32).toInt = (j10 : Int)) (hj12 : j10 < n7) (ha15 : h.2 v3 = some (.inl (0, n13, .inl f14))) (h4_v3 : 4 ≤ v3) (j16 : Nat) (hi17 : (x2 : Int32).toInt = (j16 : Int)) (hj18 : j16 < n13) (e_1 : (hk_set h v3 (.inl (0, n13, .inl (upd f14 j16 (f8 j10))))) = h_1) (k : hk_S G m_X1_orderOf (d + 1) cb sb 2 [some (.ref r0), some (.int x1), some (.int (x2 + 1))] [] h_1 Q) : hk_S G m_X1_orderOf (d + 1) cb sb 10 [some (.ref r0), some (.int x1), some (.int x2)] [] h Q := by
  subst e_1
  refine hs_aload_n dX1_orderOf_10 rfl ?_
  refine hs_get dX1_orderOf_11 fl_X1_46_1 hg2 hv4 ?_
  refine hs_iload_n dX1_orderOf_14 rfl ?_
  refine hs_aload_n dX1_orderOf_15 rfl ?_
  refine hs_get dX1_orderOf_16 fl_X1_28_1 hg2 hv6 ?_
  refine hs_iload_n dX1_orderOf_19 rfl ?_
  refine hs_iconst (v := 4) dX1_orderOf_20 (by decide) ?_
  refine hs_imul dX1_orderOf_21 ?_
  refine hs_iload_n dX1_orderOf_22 rfl ?_
  refine hs_iadd dX1_orderOf_23 ?_
  refine hs_iald j10 dX1_orderOf_24 ha9 hi11 hj12 ?_
  refine hs_iast j16 dX1_orderOf_25 ha15 h4_v3 hi17 hj18 ?_
  refine hs_iincK (v := 1) dX1_orderOf_26 rfl (by decide) (by decide) (hk_nk1 rfl hk_c1i) rfl ?_
  refine hs_goto dX1_orderOf_29 (tgt := 2) (by decide) ?_
  exact k
theorem b_X1_orderOf_32 {G : hk_G} {d cb sb : Nat} {h : hk_H} {Q : hk_O → hk_H → Prop} {r0 : Nat} {fs1 : List Value} {v3 : Nat} {o1 : Option Value} {o2 : Option Value} (hg2 : h.2 r0 = some (.inr (1, fs1))) (hv4 : fs1[8]? = some (.ref v3)) (hc : hk_Ci G m_X1_told d 0 0 [.ref r0, .ref v3] h (fun z h' => hk_S G m_X1_orderOf (d + 1) cb sb 40 [some (.ref r0), o1, o2] [.int z] h' Q)) : hk_S G m_X1_orderOf (d + 1) cb sb 32 [some (.ref r0), o1, o2] [] h Q := by
  refine hs_aload_n dX1_orderOf_32 rfl ?_
  refine hs_aload_n dX1_orderOf_33 rfl ?_
  refine hs_get dX1_orderOf_34 fl_X1_46_1 hg2 hv4 ?_
  exact hk_z0 (hs_vir (M' := m_X1_told) (vs := [.ref v3]) (c1 := 0) (s1 := 0) dX1_orderOf_37 wd_765 vi_X1_told hg2 rfl (Nat.le_of_ble_eq_true rfl) hc hq_i (hc_i (fun z h9 k9 => k9)))
theorem b_X1_orderOf_40 {G : hk_G} {d cb sb : Nat} {h : hk_H} {Q : hk_O → hk_H → Prop} {s0 : Int32} {o0 : Option Value} {o1 : Option Value} {o2 : Option Value} (hq : Q (.inl (some (.int s0))) h) : hk_S G m_X1_orderOf (d + 1) cb sb 40 [o0, o1, o2] [.int s0] h Q := by
  exact hs_iret dX1_orderOf_40 rfl hq
-- HonestHouse$Market.placeFor(II)I
theorem b_X1_placeFor_0 {G : hk_G} {d cb sb : Nat} {h : hk_H} {Q : hk_O → hk_H → Prop} {r0 : Nat} {fs1 : List Value} {v3 : Nat} {x1 : Int32} {x2 : Int32} {n5 : Nat} {f6 : Nat → Int32} (hg2 : h.2 r0 = some (.inr (1, fs1))) (hv4 : fs1[3]? = some (.ref v3)) (ha7 : h.2 v3 = some (.inl (0, n5, .inl f6))) (j8 : Nat) (hi9 : ((x1 * 4) + x2 : Int32).toInt = (j8 : Int)) (hj10 : j8 < n5) (hq : Q (.inl (some (.int (f6 j8)))) h) : hk_S G m_X1_placeFor d cb sb 0 [some (.ref r0), some (.int x1), some (.int x2)] [] h Q := by
  refine hs_aload_n dX1_placeFor_0 rfl ?_
  refine hs_get dX1_placeFor_1 fl_X1_31_1 hg2 hv4 ?_
  refine hs_iload_n dX1_placeFor_4 rfl ?_
  refine hs_iconst (v := 4) dX1_placeFor_5 (by decide) ?_
  refine hs_imul dX1_placeFor_6 ?_
  refine hs_iload_n dX1_placeFor_7 rfl ?_
  refine hs_iadd dX1_placeFor_8 ?_
  refine hs_iald j8 dX1_placeFor_9 ha7 hi9 hj10 ?_
  exact hs_iret dX1_placeFor_10 rfl hq
-- HonestHouse$Market.bestOf(II)I
theorem b_X1_bestOf_0 {G : hk_G} {d cb sb : Nat} {h : hk_H} {Q : hk_O → hk_H → Prop} {o0 : Option Value} {o1 : Option Value} {o2 : Option Value} {o3 : Option Value} {o4 : Option Value} (k : hk_S G m_X1_bestOf d cb sb 2 [o0, o1, o2, some (.int 0), o4] [] h Q) (ho2 : hk_c1 o2 := by first | exact hk_c1i | exact hk_c1r | exact hk_c10 | exact hk_c1n) : hk_S G m_X1_bestOf d cb sb 0 [o0, o1, o2, o3, o4] [] h Q := by
  refine hs_iconst (v := 0) dX1_bestOf_0 (by decide) ?_
  refine hs_istK_n dX1_bestOf_1 (by decide) (hk_nk1 rfl ho2) rfl ?_
  exact k
theorem b_X1_bestOf_2 {G : hk_G} {d cb sb : Nat} {h : hk_H} {Q : hk_O → hk_H → Prop} {x3 : Int32} {r0 : Nat} {fs1 : List Value} {v3 : Int32} {o1 : Option Value} {o2 : Option Value} {o4 : Option Value} (hg2 : h.2 r0 = some (.inr (1, fs1))) (hv4 : fs1[0]? = some (.int v3)) (kt : v3 ≤ x3 → hk_S G m_X1_bestOf d cb sb 41 [some (.ref r0), o1, o2, some (.int x3), o4] [] h Q) (kf : ¬ v3 ≤ x3 → hk_S G m_X1_bestOf d cb sb 10 [some (.ref r0), o1, o2, some (.int x3), o4] [] h Q) : hk_S G m_X1_bestOf d cb sb 2 [some (.ref r0), o1, o2, some (.int x3), o4] [] h Q := by
  refine hs_iload_n dX1_bestOf_2 rfl ?_
  refine hs_aload_n dX1_bestOf_3 rfl ?_
  refine hs_get dX1_bestOf_4 fl_X1_9_1 hg2 hv4 ?_
  exact hs_icmp_ge dX1_bestOf_7 (by decide) kt kf
theorem b_X1_bestOf_10 {G : hk_G} {d cb sb : Nat} {h : hk_H} {Q : hk_O → hk_H → Prop} {r0 : Nat} {fs1 : List Value} {v3 : Nat} {x1 : Int32} {x3 : Int32} {n5 : Nat} {f6 : Nat → Int32} {x2 : Int32} {o4 : Option Value} (hg2 : h.2 r0 = some (.inr (1, fs1))) (hv4 : fs1[2]? = some (.ref v3)) (ha7 : h.2 v3 = some (.inl (0, n5, .inl f6))) (j8 : Nat) (hi9 : ((x1 * 4) + x3 : Int32).toInt = (j8 : Int)) (hj10 : j8 < n5) (kt : ¬ ((x2 >>> ((f6 j8) &&& 31)) &&& 1) = 1 → hk_S G m_X1_bestOf d cb sb 35 [some (.ref r0), some (.int x1), some (.int x2), some (.int x3), some (.int (f6 j8))] [] h Q) (kf : ((x2 >>> ((f6 j8) &&& 31)) &&& 1) = 1 → hk_S G m_X1_bestOf d cb sb 32 [some (.ref r0), some (.int x1), some (.int x2), some (.int x3), some (.int (f6 j8))] [] h Q) : hk_S G m_X1_bestOf d cb sb 10 [some (.ref r0), some (.int x1), some (.int x2), some (.int x3), o4] [] h Q := by
  refine hs_aload_n dX1_bestOf_10 rfl ?_
  refine hs_get dX1_bestOf_11 fl_X1_28_1 hg2 hv4 ?_
  refine hs_iload_n dX1_bestOf_14 rfl ?_
  refine hs_iconst (v := 4) dX1_bestOf_15 (by decide) ?_
  refine hs_imul dX1_bestOf_16 ?_
  refine hs_iload_n dX1_bestOf_17 rfl ?_
  refine hs_iadd dX1_bestOf_18 ?_
  refine hs_iald j8 dX1_bestOf_19 ha7 hi9 hj10 ?_
  refine hs_istK dX1_bestOf_20 (by decide) (hk_nk1 rfl hk_c1i) rfl ?_
  refine hs_iload_n dX1_bestOf_22 rfl ?_
  refine hs_iload dX1_bestOf_23 rfl ?_
  refine hs_ishr dX1_bestOf_25 ?_
  refine hs_iconst (v := 1) dX1_bestOf_26 (by decide) ?_
  refine hs_iand dX1_bestOf_27 ?_
  refine hs_iconst (v := 1) dX1_bestOf_28 (by decide) ?_
  exact hs_icmp_ne dX1_bestOf_29 (by decide) kt kf
theorem b_X1_bestOf_32 {G : hk_G} {d cb sb : Nat} {h : hk_H} {Q : hk_O → hk_H → Prop} {x4 : Int32} {o0 : Option Value} {o1 : Option Value} {o2 : Option Value} {o3 : Option Value} (hq : Q (.inl (some (.int x4))) h) : hk_S G m_X1_bestOf d cb sb 32 [o0, o1, o2, o3, some (.int x4)] [] h Q := by
  refine hs_iload dX1_bestOf_32 rfl ?_
  exact hs_iret dX1_bestOf_34 rfl hq
theorem b_X1_bestOf_35 {G : hk_G} {d cb sb : Nat} {h : hk_H} {Q : hk_O → hk_H → Prop} {x3 : Int32} {o0 : Option Value} {o1 : Option Value} {o2 : Option Value} {o4 : Option Value} (k : hk_S G m_X1_bestOf d cb sb 2 [o0, o1, o2, some (.int (x3 + 1)), o4] [] h Q) (ho2 : hk_c1 o2 := by first | exact hk_c1i | exact hk_c1r | exact hk_c10 | exact hk_c1n) : hk_S G m_X1_bestOf d cb sb 35 [o0, o1, o2, some (.int x3), o4] [] h Q := by
  refine hs_iincK (v := 1) dX1_bestOf_35 rfl (by decide) (by decide) (hk_nk1 rfl ho2) rfl ?_
  refine hs_goto dX1_bestOf_38 (tgt := 2) (by decide) ?_
  exact k
theorem b_X1_bestOf_41 {G : hk_G} {d cb sb : Nat} {h : hk_H} {Q : hk_O → hk_H → Prop} {o0 : Option Value} {o1 : Option Value} {o2 : Option Value} {o3 : Option Value} {o4 : Option Value} (hq : Q (.inl (some (.int 0))) h) : hk_S G m_X1_bestOf d cb sb 41 [o0, o1, o2, o3, o4] [] h Q := by
  refine hs_iconst (v := 0) dX1_bestOf_41 (by decide) ?_
  exact hs_iret dX1_bestOf_42 rfl hq
-- HonestHouse$Market.tradeByRings()I
theorem b_X1_tradeByRings_0 {G : hk_G} {d cb sb : Nat} {h : hk_H} {Q : hk_O → hk_H → Prop} {r0 : Nat} {fs1 : List Value} {v3 : Int32} {o1 : Option Value} {o2 : Option Value} (hg2 : h.2 r0 = some (.inr (1, fs1))) (hv4 : fs1[0]? = some (.int v3)) (k : hk_S G m_X1_tradeByRings (d + 1) cb sb 11 [some (.ref r0), some (.int ((1 <<< (v3 &&& 31)) - 1)), some (.int 1)] [] h Q) : hk_S G m_X1_tradeByRings (d + 1) cb sb 0 [some (.ref r0), o1, o2] [] h Q := by
  refine hs_iconst (v := 1) dX1_tradeByRings_0 (by decide) ?_
  refine hs_aload_n dX1_tradeByRings_1 rfl ?_
  refine hs_get dX1_tradeByRings_2 fl_X1_9_1 hg2 hv4 ?_
  refine hs_ishl dX1_tradeByRings_5 ?_
  refine hs_iconst (v := 1) dX1_tradeByRings_6 (by decide) ?_
  refine hs_isub dX1_tradeByRings_7 ?_
  refine hs_istK_n dX1_tradeByRings_8 (by decide) (hk_nk1 rfl hk_c1r) rfl ?_
  refine hs_iconst (v := 1) dX1_tradeByRings_9 (by decide) ?_
  refine hs_istK_n dX1_tradeByRings_10 (by decide) (hk_nk1 rfl hk_c1i) rfl ?_
  exact k
theorem b_X1_tradeByRings_11 {G : hk_G} {d cb sb : Nat} {h : hk_H} {Q : hk_O → hk_H → Prop} {x2 : Int32} {r0 : Nat} {fs1 : List Value} {v3 : Int32} {o1 : Option Value} (hg2 : h.2 r0 = some (.inr (1, fs1))) (hv4 : fs1[0]? = some (.int v3)) (kt : v3 < x2 → hk_S G m_X1_tradeByRings (d + 1) cb sb 36 [some (.ref r0), o1, some (.int x2)] [] h Q) (kf : ¬ v3 < x2 → hk_S G m_X1_tradeByRings (d + 1) cb sb 19 [some (.ref r0), o1, some (.int x2)] [] h Q) : hk_S G m_X1_tradeByRings (d + 1) cb sb 11 [some (.ref r0), o1, some (.int x2)] [] h Q := by
  refine hs_iload_n dX1_tradeByRings_11 rfl ?_
  refine hs_aload_n dX1_tradeByRings_12 rfl ?_
  refine hs_get dX1_tradeByRings_13 fl_X1_9_1 hg2 hv4 ?_
  exact hs_icmp_gt dX1_tradeByRings_16 (by decide) kt kf
theorem b_X1_tradeByRings_19 {G : hk_G} {d cb sb : Nat} {h : hk_H} {Q : hk_O → hk_H → Prop} {x1 : Int32} {o0 : Option Value} {o2 : Option Value} (kt : x1 = 0 → hk_S G m_X1_tradeByRings (d + 1) cb sb 36 [o0, some (.int x1), o2] [] h Q) (kf : ¬ x1 = 0 → hk_S G m_X1_tradeByRings (d + 1) cb sb 23 [o0, some (.int x1), o2] [] h Q) : hk_S G m_X1_tradeByRings (d + 1) cb sb 19 [o0, some (.int x1), o2] [] h Q := by
  refine hs_iload_n dX1_tradeByRings_19 rfl ?_
  exact hs_if_eq dX1_tradeByRings_20 (by decide) kt kf
theorem b_X1_tradeByRings_23 {G : hk_G} {d cb sb : Nat} {h : hk_H} {Q : hk_O → hk_H → Prop} {r0 : Nat} {x1 : Int32} {x2 : Int32} {fs_ : List Value} (hrec : h.2 r0 = some (.inr (1, fs_))) (hc : hk_Ci G m_X1_leaveByRings d 0 0 [.ref r0, .int x1, .int x2] h (fun z h' => hk_S G m_X1_tradeByRings (d + 1) cb sb 29 [some (.ref r0), some (.int x1), some (.int x2)] [.int z] h' Q)) : hk_S G m_X1_tradeByRings (d + 1) cb sb 23 [some (.ref r0), some (.int x1), some (.int x2)] [] h Q := by
  refine hs_aload_n dX1_tradeByRings_23 rfl ?_
  refine hs_iload_n dX1_tradeByRings_24 rfl ?_
  refine hs_iload_n dX1_tradeByRings_25 rfl ?_
  exact hk_z0 (hs_vir (M' := m_X1_leaveByRings) (vs := [.int x1, .int x2]) (c1 := 0) (s1 := 0) dX1_tradeByRings_26 wd_753 vi_X1_leaveByRings hrec rfl (Nat.le_of_ble_eq_true rfl) hc hq_i (hc_i (fun z h9 k9 => k9)))
theorem b_X1_tradeByRings_29 {G : hk_G} {d cb sb : Nat} {h : hk_H} {Q : hk_O → hk_H → Prop} {s0 : Int32} {x2 : Int32} {o0 : Option Value} {o1 : Option Value} (k : hk_S G m_X1_tradeByRings (d + 1) cb sb 11 [o0, some (.int s0), some (.int (x2 + 1))] [] h Q) (ho0 : hk_c1 o0 := by first | exact hk_c1i | exact hk_c1r | exact hk_c10 | exact hk_c1n) : hk_S G m_X1_tradeByRings (d + 1) cb sb 29 [o0, o1, some (.int x2)] [.int s0] h Q := by
  refine hs_istK_n dX1_tradeByRings_29 (by decide) (hk_nk1 rfl ho0) rfl ?_
  refine hs_iincK (v := 1) dX1_tradeByRings_30 rfl (by decide) (by decide) (hk_nk1 rfl hk_c1i) rfl ?_
  refine hs_goto dX1_tradeByRings_33 (tgt := 11) (by decide) ?_
  exact k
theorem b_X1_tradeByRings_36 {G : hk_G} {d cb sb : Nat} {h : hk_H} {Q : hk_O → hk_H → Prop} {r0 : Nat} {fs1 : List Value} {v3 : Nat} {o1 : Option Value} {o2 : Option Value} (hg2 : h.2 r0 = some (.inr (1, fs1))) (hv4 : fs1[5]? = some (.ref v3)) (hc : hk_Ci G m_X1_told d 0 0 [.ref r0, .ref v3] h (fun z h' => hk_S G m_X1_tradeByRings (d + 1) cb sb 44 [some (.ref r0), o1, o2] [.int z] h' Q)) : hk_S G m_X1_tradeByRings (d + 1) cb sb 36 [some (.ref r0), o1, o2] [] h Q := by
  refine hs_aload_n dX1_tradeByRings_36 rfl ?_
  refine hs_aload_n dX1_tradeByRings_37 rfl ?_
  refine hs_get dX1_tradeByRings_38 fl_X1_37_1 hg2 hv4 ?_
  exact hk_z0 (hs_vir (M' := m_X1_told) (vs := [.ref v3]) (c1 := 0) (s1 := 0) dX1_tradeByRings_41 wd_765 vi_X1_told hg2 rfl (Nat.le_of_ble_eq_true rfl) hc hq_i (hc_i (fun z h9 k9 => k9)))
theorem b_X1_tradeByRings_44 {G : hk_G} {d cb sb : Nat} {h : hk_H} {Q : hk_O → hk_H → Prop} {s0 : Int32} {o0 : Option Value} {o1 : Option Value} {o2 : Option Value} (hq : Q (.inl (some (.int s0))) h) : hk_S G m_X1_tradeByRings (d + 1) cb sb 44 [o0, o1, o2] [.int s0] h Q := by
  exact hs_iret dX1_tradeByRings_44 rfl hq
-- HonestHouse$Market.leaveByRings(II)I
theorem b_X1_leaveByRings_0 {G : hk_G} {d cb sb : Nat} {h : hk_H} {Q : hk_O → hk_H → Prop} {o0 : Option Value} {o1 : Option Value} {o2 : Option Value} {o3 : Option Value} {o4 : Option Value} (k : hk_S G m_X1_leaveByRings (d + 1) cb sb 2 [o0, o1, o2, some (.int 0), o4] [] h Q) (ho2 : hk_c1 o2 := by first | exact hk_c1i | exact hk_c1r | exact hk_c10 | exact hk_c1n) : hk_S G m_X1_leaveByRings (d + 1) cb sb 0 [o0, o1, o2, o3, o4] [] h Q := by
  refine hs_iconst (v := 0) dX1_leaveByRings_0 (by decide) ?_
  refine hs_istK_n dX1_leaveByRings_1 (by decide) (hk_nk1 rfl ho2) rfl ?_
  exact k
theorem b_X1_leaveByRings_2 {G : hk_G} {d cb sb : Nat} {h : hk_H} {Q : hk_O → hk_H → Prop} {x3 : Int32} {r0 : Nat} {fs1 : List Value} {v3 : Int32} {o1 : Option Value} {o2 : Option Value} {o4 : Option Value} (hg2 : h.2 r0 = some (.inr (1, fs1))) (hv4 : fs1[0]? = some (.int v3)) (kt : v3 ≤ x3 → hk_S G m_X1_leaveByRings (d + 1) cb sb 28 [some (.ref r0), o1, o2, some (.int x3), o4] [] h Q) (kf : ¬ v3 ≤ x3 → hk_S G m_X1_leaveByRings (d + 1) cb sb 10 [some (.ref r0), o1, o2, some (.int x3), o4] [] h Q) : hk_S G m_X1_leaveByRings (d + 1) cb sb 2 [some (.ref r0), o1, o2, some (.int x3), o4] [] h Q := by
  refine hs_iload_n dX1_leaveByRings_2 rfl ?_
  refine hs_aload_n dX1_leaveByRings_3 rfl ?_
  refine hs_get dX1_leaveByRings_4 fl_X1_9_1 hg2 hv4 ?_
  exact hs_icmp_ge dX1_leaveByRings_7 (by decide) kt kf
theorem b_X1_leaveByRings_10 {G : hk_G} {d cb sb : Nat} {h : hk_H} {Q : hk_O → hk_H → Prop} {r0 : Nat} {fs1 : List Value} {v3 : Nat} {x3 : Int32} {x1 : Int32} {o2 : Option Value} {o4 : Option Value} (hg2 : h.2 r0 = some (.inr (1, fs1))) (hv4 : fs1[4]? = some (.ref v3)) (hc : hk_Ci G m_X1_bestOf d 0 0 [.ref r0, .int x3, .int x1] h (fun z h' => hk_S G m_X1_leaveByRings (d + 1) cb sb 21 [some (.ref r0), some (.int x1), o2, some (.int x3), o4] [.int z, .int x3, .ref v3] h' Q)) : hk_S G m_X1_leaveByRings (d + 1) cb sb 10 [some (.ref r0), some (.int x1), o2, some (.int x3), o4] [] h Q := by
  refine hs_aload_n dX1_leaveByRings_10 rfl ?_
  refine hs_get dX1_leaveByRings_11 fl_X1_34_1 hg2 hv4 ?_
  refine hs_iload_n dX1_leaveByRings_14 rfl ?_
  refine hs_aload_n dX1_leaveByRings_15 rfl ?_
  refine hs_iload_n dX1_leaveByRings_16 rfl ?_
  refine hs_iload_n dX1_leaveByRings_17 rfl ?_
  exact hk_z0 (hs_vir (M' := m_X1_bestOf) (vs := [.int x3, .int x1]) (c1 := 0) (s1 := 0) dX1_leaveByRings_18 wd_757 vi_X1_bestOf hg2 rfl (Nat.le_of_ble_eq_true rfl) hc hq_i (hc_i (fun z h9 k9 => k9)))
theorem b_X1_leaveByRings_21 {G : hk_G} {d cb sb : Nat} {h : hk_H} {Q : hk_O → hk_H → Prop} {s0 : Nat} {s1 : Int32} {s2 : Int32} {n1 : Nat} {f2 : Nat → Int32} {h_1 : hk_H} {x3 : Int32} {o0 : Option Value} {o1 : Option Value} {o2 : Option Value} {o4 : Option Value} (ha3 : h.2 s0 = some (.inl (0, n1, .inl f2))) (h4_s0 : 4 ≤ s0) (j4 : Nat) (hi5 : (s1 : Int32).toInt = (j4 : Int)) (hj6 : j4 < n1) (e_1 : (hk_set h s0 (.inl (0, n1, .inl (upd f2 j4 s2)))) = h_1) (k : hk_S G m_X1_leaveByRings (d + 1) cb sb 2 [o0, o1, o2, some (.int (x3 + 1)), o4] [] h_1 Q) (ho2 : hk_c1 o2 := by first | exact hk_c1i | exact hk_c1r | exact hk_c10 | exact hk_c1n) : hk_S G m_X1_leaveByRings (d + 1) cb sb 21 [o0, o1, o2, some (.int x3), o4] [.int s2, .int s1, .ref s0] h Q := by
  subst e_1
  refine hs_iast j4 dX1_leaveByRings_21 ha3 h4_s0 hi5 hj6 ?_
  refine hs_iincK (v := 1) dX1_leaveByRings_22 rfl (by decide) (by decide) (hk_nk1 rfl ho2) rfl ?_
  refine hs_goto dX1_leaveByRings_25 (tgt := 2) (by decide) ?_
  exact k
theorem b_X1_leaveByRings_28 {G : hk_G} {d cb sb : Nat} {h : hk_H} {Q : hk_O → hk_H → Prop} {x1 : Int32} {o0 : Option Value} {o2 : Option Value} {o3 : Option Value} {o4 : Option Value} (k : hk_S G m_X1_leaveByRings (d + 1) cb sb 33 [o0, some (.int x1), o2, some (.int x1), some (.int 0)] [] h Q) (ho2 : hk_c1 o2 := by first | exact hk_c1i | exact hk_c1r | exact hk_c10 | exact hk_c1n) : hk_S G m_X1_leaveByRings (d + 1) cb sb 28 [o0, some (.int x1), o2, o3, o4] [] h Q := by
  refine hs_iload_n dX1_leaveByRings_28 rfl ?_
  refine hs_istK_n dX1_leaveByRings_29 (by decide) (hk_nk1 rfl ho2) rfl ?_
  refine hs_iconst (v := 0) dX1_leaveByRings_30 (by decide) ?_
  refine hs_istK dX1_leaveByRings_31 (by decide) (hk_nk1 rfl hk_c1i) rfl ?_
  exact k
theorem b_X1_leaveByRings_33 {G : hk_G} {d cb sb : Nat} {h : hk_H} {Q : hk_O → hk_H → Prop} {x4 : Int32} {r0 : Nat} {fs1 : List Value} {v3 : Int32} {o1 : Option Value} {o2 : Option Value} {o3 : Option Value} (hg2 : h.2 r0 = some (.inr (1, fs1))) (hv4 : fs1[0]? = some (.int v3)) (kt : v3 ≤ x4 → hk_S G m_X1_leaveByRings (d + 1) cb sb 98 [some (.ref r0), o1, o2, o3, some (.int x4)] [] h Q) (kf : ¬ v3 ≤ x4 → hk_S G m_X1_leaveByRings (d + 1) cb sb 42 [some (.ref r0), o1, o2, o3, some (.int x4)] [] h Q) : hk_S G m_X1_leaveByRings (d + 1) cb sb 33 [some (.ref r0), o1, o2, o3, some (.int x4)] [] h Q := by
  refine hs_iload dX1_leaveByRings_33 rfl ?_
  refine hs_aload_n dX1_leaveByRings_35 rfl ?_
  refine hs_get dX1_leaveByRings_36 fl_X1_9_1 hg2 hv4 ?_
  exact hs_icmp_ge dX1_leaveByRings_39 (by decide) kt kf
theorem b_X1_leaveByRings_42 {G : hk_G} {d cb sb : Nat} {h : hk_H} {Q : hk_O → hk_H → Prop} {x1 : Int32} {x4 : Int32} {o0 : Option Value} {o2 : Option Value} {o3 : Option Value} (kt : ¬ ((x1 >>> (x4 &&& 31)) &&& 1) = 1 → hk_S G m_X1_leaveByRings (d + 1) cb sb 92 [o0, some (.int x1), o2, o3, some (.int x4)] [] h Q) (kf : ((x1 >>> (x4 &&& 31)) &&& 1) = 1 → hk_S G m_X1_leaveByRings (d + 1) cb sb 52 [o0, some (.int x1), o2, o3, some (.int x4)] [] h Q) : hk_S G m_X1_leaveByRings (d + 1) cb sb 42 [o0, some (.int x1), o2, o3, some (.int x4)] [] h Q := by
  refine hs_iload_n dX1_leaveByRings_42 rfl ?_
  refine hs_iload dX1_leaveByRings_43 rfl ?_
  refine hs_ishr dX1_leaveByRings_45 ?_
  refine hs_iconst (v := 1) dX1_leaveByRings_46 (by decide) ?_
  refine hs_iand dX1_leaveByRings_47 ?_
  refine hs_iconst (v := 1) dX1_leaveByRings_48 (by decide) ?_
  exact hs_icmp_ne dX1_leaveByRings_49 (by decide) kt kf
theorem b_X1_leaveByRings_52 {G : hk_G} {d cb sb : Nat} {h : hk_H} {Q : hk_O → hk_H → Prop} {r0 : Nat} {x4 : Int32} {fs_ : List Value} {o1 : Option Value} {o2 : Option Value} {o3 : Option Value} (hrec : h.2 r0 = some (.inr (1, fs_))) (hc : hk_Ci G m_X1_isOnRing d 0 0 [.ref r0, .int x4] h (fun z h' => hk_S G m_X1_leaveByRings (d + 1) cb sb 58 [some (.ref r0), o1, o2, o3, some (.int x4)] [.int z] h' Q)) : hk_S G m_X1_leaveByRings (d + 1) cb sb 52 [some (.ref r0), o1, o2, o3, some (.int x4)] [] h Q := by
  refine hs_aload_n dX1_leaveByRings_52 rfl ?_
  refine hs_iload dX1_leaveByRings_53 rfl ?_
  exact hk_z0 (hs_vir (M' := m_X1_isOnRing) (vs := [.int x4]) (c1 := 0) (s1 := 0) dX1_leaveByRings_55 wd_761 vi_X1_isOnRing hrec rfl (Nat.le_of_ble_eq_true rfl) hc hq_i (hc_i (fun z h9 k9 => k9)))
theorem b_X1_leaveByRings_58 {G : hk_G} {d cb sb : Nat} {h : hk_H} {Q : hk_O → hk_H → Prop} {s0 : Int32} {o0 : Option Value} {o1 : Option Value} {o2 : Option Value} {o3 : Option Value} {o4 : Option Value} (kt : s0 = 0 → hk_S G m_X1_leaveByRings (d + 1) cb sb 92 [o0, o1, o2, o3, o4] [] h Q) (kf : ¬ s0 = 0 → hk_S G m_X1_leaveByRings (d + 1) cb sb 61 [o0, o1, o2, o3, o4] [] h Q) : hk_S G m_X1_leaveByRings (d + 1) cb sb 58 [o0, o1, o2, o3, o4] [.int s0] h Q := by
  exact hs_if_eq dX1_leaveByRings_58 (by decide) kt kf
theorem b_X1_leaveByRings_61 {G : hk_G} {d cb sb : Nat} {h : hk_H} {Q : hk_O → hk_H → Prop} {r0 : Nat} {fs1 : List Value} {v3 : Nat} {x4 : Int32} {v5 : Nat} {n7 : Nat} {f8 : Nat → Int32} {n13 : Nat} {f14 : Nat → Int32} {h_1 : hk_H} {fs17 : List Value} {v19 : Nat} {x2 : Int32} {n21 : Nat} {f22 : Nat → Int32} {h_2 : hk_H} {x3 : Int32} {o1 : Option Value} (hg2 : h.2 r0 = some (.inr (1, fs1))) (hv4 : fs1[5]? = some (.ref v3)) (hv6 : fs1[4]? = some (.ref v5)) (ha9 : h.2 v5 = some (.inl (0, n7, .inl f8))) (j10 : Nat) (hi11 : (x4 : Int32).toInt = (j10 : Int)) (hj12 : j10 < n7) (ha15 : h.2 v3 = some (.inl (0, n13, .inl f14))) (h4_v3 : 4 ≤ v3) (hj16 : j10 < n13) (e_1 : (hk_set h v3 (.inl (0, n13, .inl (upd f14 j10 (f8 j10))))) = h_1) (hg18 : h_1.2 r0 = some (.inr (1, fs17))) (hv20 : fs17[6]? = some (.ref v19)) (ha23 : h_1.2 v19 = some (.inl (0, n21, .inl f22))) (h4_v19 : 4 ≤ v19) (hj24 : j10 < n21) (e_2 : (hk_set h_1 v19 (.inl (0, n21, .inl (upd f22 j10 x2)))) = h_2) (k : hk_S G m_X1_leaveByRings (d + 1) cb sb 33 [some (.ref r0), o1, some (.int x2), some (.int (x3 &&& ((1 <<< (x4 &&& 31)) ^^^ ((-1))))), some (.int (x4 + 1))] [] h_2 Q) : hk_S G m_X1_leaveByRings (d + 1) cb sb 61 [some (.ref r0), o1, some (.int x2), some (.int x3), some (.int x4)] [] h Q := by
  subst e_1
  subst e_2
  refine hs_aload_n dX1_leaveByRings_61 rfl ?_
  refine hs_get dX1_leaveByRings_62 fl_X1_37_1 hg2 hv4 ?_
  refine hs_iload dX1_leaveByRings_65 rfl ?_
  refine hs_aload_n dX1_leaveByRings_67 rfl ?_
  refine hs_get dX1_leaveByRings_68 fl_X1_34_1 hg2 hv6 ?_
  refine hs_iload dX1_leaveByRings_71 rfl ?_
  refine hs_iald j10 dX1_leaveByRings_73 ha9 hi11 hj12 ?_
  refine hs_iast j10 dX1_leaveByRings_74 ha15 h4_v3 hi11 hj16 ?_
  refine hs_aload_n dX1_leaveByRings_75 rfl ?_
  refine hs_get dX1_leaveByRings_76 fl_X1_40_1 hg18 hv20 ?_
  refine hs_iload dX1_leaveByRings_79 rfl ?_
  refine hs_iload_n dX1_leaveByRings_81 rfl ?_
  refine hs_iast j10 dX1_leaveByRings_82 ha23 h4_v19 hi11 hj24 ?_
  refine hs_iload_n dX1_leaveByRings_83 rfl ?_
  refine hs_iconst (v := 1) dX1_leaveByRings_84 (by decide) ?_
  refine hs_iload dX1_leaveByRings_85 rfl ?_
  refine hs_ishl dX1_leaveByRings_87 ?_
  refine hs_iconst (v := (-1)) dX1_leaveByRings_88 (by decide) ?_
  refine hs_ixor dX1_leaveByRings_89 ?_
  refine hs_iand dX1_leaveByRings_90 ?_
  refine hs_istK_n dX1_leaveByRings_91 (by decide) (hk_nk1 rfl hk_c1i) rfl ?_
  refine hs_iincK (v := 1) dX1_leaveByRings_92 rfl (by decide) (by decide) (hk_nk1 rfl hk_c1i) rfl ?_
  refine hs_goto dX1_leaveByRings_95 (tgt := 33) (by decide) ?_
  exact k
theorem b_X1_leaveByRings_92 {G : hk_G} {d cb sb : Nat} {h : hk_H} {Q : hk_O → hk_H → Prop} {x4 : Int32} {o0 : Option Value} {o1 : Option Value} {o2 : Option Value} {o3 : Option Value} (k : hk_S G m_X1_leaveByRings (d + 1) cb sb 33 [o0, o1, o2, o3, some (.int (x4 + 1))] [] h Q) (ho3 : hk_c1 o3 := by first | exact hk_c1i | exact hk_c1r | exact hk_c10 | exact hk_c1n) : hk_S G m_X1_leaveByRings (d + 1) cb sb 92 [o0, o1, o2, o3, some (.int x4)] [] h Q := by
  refine hs_iincK (v := 1) dX1_leaveByRings_92 rfl (by decide) (by decide) (hk_nk1 rfl ho3) rfl ?_
  refine hs_goto dX1_leaveByRings_95 (tgt := 33) (by decide) ?_
  exact k
theorem b_X1_leaveByRings_98 {G : hk_G} {d cb sb : Nat} {h : hk_H} {Q : hk_O → hk_H → Prop} {x3 : Int32} {o0 : Option Value} {o1 : Option Value} {o2 : Option Value} {o4 : Option Value} (hq : Q (.inl (some (.int x3))) h) : hk_S G m_X1_leaveByRings (d + 1) cb sb 98 [o0, o1, o2, some (.int x3), o4] [] h Q := by
  refine hs_iload_n dX1_leaveByRings_98 rfl ?_
  exact hs_iret dX1_leaveByRings_99 rfl hq
-- HonestHouse$Market.isOnRing(I)Z
theorem b_X1_isOnRing_0 {G : hk_G} {d cb sb : Nat} {h : hk_H} {Q : hk_O → hk_H → Prop} {r0 : Nat} {fs1 : List Value} {v3 : Nat} {x1 : Int32} {n5 : Nat} {f6 : Nat → Int32} {o2 : Option Value} {o3 : Option Value} (hg2 : h.2 r0 = some (.inr (1, fs1))) (hv4 : fs1[4]? = some (.ref v3)) (ha7 : h.2 v3 = some (.inl (0, n5, .inl f6))) (j8 : Nat) (hi9 : (x1 : Int32).toInt = (j8 : Int)) (hj10 : j8 < n5) (k : hk_S G m_X1_isOnRing d cb sb 9 [some (.ref r0), some (.int x1), some (.int (f6 j8)), some (.int 1)] [] h Q) : hk_S G m_X1_isOnRing d cb sb 0 [some (.ref r0), some (.int x1), o2, o3] [] h Q := by
  refine hs_aload_n dX1_isOnRing_0 rfl ?_
  refine hs_get dX1_isOnRing_1 fl_X1_34_1 hg2 hv4 ?_
  refine hs_iload_n dX1_isOnRing_4 rfl ?_
  refine hs_iald j8 dX1_isOnRing_5 ha7 hi9 hj10 ?_
  refine hs_istK_n dX1_isOnRing_6 (by decide) (hk_nk1 rfl hk_c1i) rfl ?_
  refine hs_iconst (v := 1) dX1_isOnRing_7 (by decide) ?_
  refine hs_istK_n dX1_isOnRing_8 (by decide) (hk_nk1 rfl hk_c1i) rfl ?_
  exact k
theorem b_X1_isOnRing_9 {G : hk_G} {d cb sb : Nat} {h : hk_H} {Q : hk_O → hk_H → Prop} {x3 : Int32} {r0 : Nat} {fs1 : List Value} {v3 : Int32} {o1 : Option Value} {o2 : Option Value} (hg2 : h.2 r0 = some (.inr (1, fs1))) (hv4 : fs1[0]? = some (.int v3)) (kt : v3 ≤ x3 → hk_S G m_X1_isOnRing d cb sb 35 [some (.ref r0), o1, o2, some (.int x3)] [] h Q) (kf : ¬ v3 ≤ x3 → hk_S G m_X1_isOnRing d cb sb 17 [some (.ref r0), o1, o2, some (.int x3)] [] h Q) : hk_S G m_X1_isOnRing d cb sb 9 [some (.ref r0), o1, o2, some (.int x3)] [] h Q := by
  refine hs_iload_n dX1_isOnRing_9 rfl ?_
  refine hs_aload_n dX1_isOnRing_10 rfl ?_
  refine hs_get dX1_isOnRing_11 fl_X1_9_1 hg2 hv4 ?_
  exact hs_icmp_ge dX1_isOnRing_14 (by decide) kt kf
theorem b_X1_isOnRing_17 {G : hk_G} {d cb sb : Nat} {h : hk_H} {Q : hk_O → hk_H → Prop} {x2 : Int32} {x1 : Int32} {o0 : Option Value} {o3 : Option Value} (kt : x2 = x1 → hk_S G m_X1_isOnRing d cb sb 35 [o0, some (.int x1), some (.int x2), o3] [] h Q) (kf : ¬ x2 = x1 → hk_S G m_X1_isOnRing d cb sb 22 [o0, some (.int x1), some (.int x2), o3] [] h Q) : hk_S G m_X1_isOnRing d cb sb 17 [o0, some (.int x1), some (.int x2), o3] [] h Q := by
  refine hs_iload_n dX1_isOnRing_17 rfl ?_
  refine hs_iload_n dX1_isOnRing_18 rfl ?_
  exact hs_icmp_eq dX1_isOnRing_19 (by decide) kt kf
theorem b_X1_isOnRing_22 {G : hk_G} {d cb sb : Nat} {h : hk_H} {Q : hk_O → hk_H → Prop} {r0 : Nat} {fs1 : List Value} {v3 : Nat} {x2 : Int32} {n5 : Nat} {f6 : Nat → Int32} {x3 : Int32} {o1 : Option Value} (hg2 : h.2 r0 = some (.inr (1, fs1))) (hv4 : fs1[4]? = some (.ref v3)) (ha7 : h.2 v3 = some (.inl (0, n5, .inl f6))) (j8 : Nat) (hi9 : (x2 : Int32).toInt = (j8 : Int)) (hj10 : j8 < n5) (k : hk_S G m_X1_isOnRing d cb sb 9 [some (.ref r0), o1, some (.int (f6 j8)), some (.int (x3 + 1))] [] h Q) (ho1 : hk_c1 o1 := by first | exact hk_c1i | exact hk_c1r | exact hk_c10 | exact hk_c1n) : hk_S G m_X1_isOnRing d cb sb 22 [some (.ref r0), o1, some (.int x2), some (.int x3)] [] h Q := by
  refine hs_aload_n dX1_isOnRing_22 rfl ?_
  refine hs_get dX1_isOnRing_23 fl_X1_34_1 hg2 hv4 ?_
  refine hs_iload_n dX1_isOnRing_26 rfl ?_
  refine hs_iald j8 dX1_isOnRing_27 ha7 hi9 hj10 ?_
  refine hs_istK_n dX1_isOnRing_28 (by decide) (hk_nk1 rfl ho1) rfl ?_
  refine hs_iincK (v := 1) dX1_isOnRing_29 rfl (by decide) (by decide) (hk_nk1 rfl hk_c1i) rfl ?_
  refine hs_goto dX1_isOnRing_32 (tgt := 9) (by decide) ?_
  exact k
theorem b_X1_isOnRing_35 {G : hk_G} {d cb sb : Nat} {h : hk_H} {Q : hk_O → hk_H → Prop} {x2 : Int32} {x1 : Int32} {o0 : Option Value} {o3 : Option Value} (kt : ¬ x2 = x1 → hk_S G m_X1_isOnRing d cb sb 44 [o0, some (.int x1), some (.int x2), o3] [] h Q) (kf : x2 = x1 → hk_S G m_X1_isOnRing d cb sb 40 [o0, some (.int x1), some (.int x2), o3] [] h Q) : hk_S G m_X1_isOnRing d cb sb 35 [o0, some (.int x1), some (.int x2), o3] [] h Q := by
  refine hs_iload_n dX1_isOnRing_35 rfl ?_
  refine hs_iload_n dX1_isOnRing_36 rfl ?_
  exact hs_icmp_ne dX1_isOnRing_37 (by decide) kt kf
theorem b_X1_isOnRing_40 {G : hk_G} {d cb sb : Nat} {h : hk_H} {Q : hk_O → hk_H → Prop} {o0 : Option Value} {o1 : Option Value} {o2 : Option Value} {o3 : Option Value} (hq : Q (.inl (some (.int 1))) h) : hk_S G m_X1_isOnRing d cb sb 40 [o0, o1, o2, o3] [] h Q := by
  refine hs_iconst (v := 1) dX1_isOnRing_40 (by decide) ?_
  refine hs_goto dX1_isOnRing_41 (tgt := 45) (by decide) ?_
  exact hs_zret dX1_isOnRing_45 rfl (by decide) hq
theorem b_X1_isOnRing_44 {G : hk_G} {d cb sb : Nat} {h : hk_H} {Q : hk_O → hk_H → Prop} {o0 : Option Value} {o1 : Option Value} {o2 : Option Value} {o3 : Option Value} (hq : Q (.inl (some (.int 0))) h) : hk_S G m_X1_isOnRing d cb sb 44 [o0, o1, o2, o3] [] h Q := by
  refine hs_iconst (v := 0) dX1_isOnRing_44 (by decide) ?_
  exact hs_zret dX1_isOnRing_45 rfl (by decide) hq
theorem b_X1_isOnRing_45 {G : hk_G} {d cb sb : Nat} {h : hk_H} {Q : hk_O → hk_H → Prop} {s0 : Int32} {o0 : Option Value} {o1 : Option Value} {o2 : Option Value} {o3 : Option Value} (hq : Q (.inl (some (.int s0))) h) (hb : s0 = 0 ∨ s0 = 1) : hk_S G m_X1_isOnRing d cb sb 45 [o0, o1, o2, o3] [.int s0] h Q := by
  exact hs_zret dX1_isOnRing_45 rfl hb hq
-- HonestHouse$Market.tradeByTurns(I)I
theorem b_X1_tradeByTurns_0 {G : hk_G} {d cb sb : Nat} {h : hk_H} {Q : hk_O → hk_H → Prop} {r0 : Nat} {x1 : Int32} {fs1 : List Value} {v3 : Nat} {o2 : Option Value} {o3 : Option Value} {o4 : Option Value} (hg2 : h.2 r0 = some (.inr (1, fs1))) (hv4 : fs1[8]? = some (.ref v3)) (hc : hk_Cv G m_X1_read d 0 0 [.ref r0, .int x1, .ref v3] h (fun h' => hk_S G m_X1_tradeByTurns (d + 1) cb sb 9 [some (.ref r0), some (.int x1), o2, o3, o4] [] h' Q)) : hk_S G m_X1_tradeByTurns (d + 1) cb sb 0 [some (.ref r0), some (.int x1), o2, o3, o4] [] h Q := by
  refine hs_aload_n dX1_tradeByTurns_0 rfl ?_
  refine hs_iload_n dX1_tradeByTurns_1 rfl ?_
  refine hs_aload_n dX1_tradeByTurns_2 rfl ?_
  refine hs_get dX1_tradeByTurns_3 fl_X1_46_1 hg2 hv4 ?_
  exact hk_z0 (hs_vir (M' := m_X1_read) (vs := [.int x1, .ref v3]) (c1 := 0) (s1 := 0) dX1_tradeByTurns_6 wd_741 vi_X1_read hg2 rfl (Nat.le_of_ble_eq_true rfl) hc hq_v (hc_v (fun h9 k9 => k9)))
theorem b_X1_tradeByTurns_9 {G : hk_G} {d cb sb : Nat} {h : hk_H} {Q : hk_O → hk_H → Prop} {r0 : Nat} {fs1 : List Value} {v3 : Int32} {o1 : Option Value} {o2 : Option Value} {o3 : Option Value} {o4 : Option Value} (hg2 : h.2 r0 = some (.inr (1, fs1))) (hv4 : fs1[0]? = some (.int v3)) (k : hk_S G m_X1_tradeByTurns (d + 1) cb sb 20 [some (.ref r0), o1, some (.int ((1 <<< (v3 &&& 31)) - 1)), some (.int 0), o4] [] h Q) (ho1 : hk_c1 o1 := by first | exact hk_c1i | exact hk_c1r | exact hk_c10 | exact hk_c1n) : hk_S G m_X1_tradeByTurns (d + 1) cb sb 9 [some (.ref r0), o1, o2, o3, o4] [] h Q := by
  refine hs_iconst (v := 1) dX1_tradeByTurns_9 (by decide) ?_
  refine hs_aload_n dX1_tradeByTurns_10 rfl ?_
  refine hs_get dX1_tradeByTurns_11 fl_X1_9_1 hg2 hv4 ?_
  refine hs_ishl dX1_tradeByTurns_14 ?_
  refine hs_iconst (v := 1) dX1_tradeByTurns_15 (by decide) ?_
  refine hs_isub dX1_tradeByTurns_16 ?_
  refine hs_istK_n dX1_tradeByTurns_17 (by decide) (hk_nk1 rfl ho1) rfl ?_
  refine hs_iconst (v := 0) dX1_tradeByTurns_18 (by decide) ?_
  refine hs_istK_n dX1_tradeByTurns_19 (by decide) (hk_nk1 rfl hk_c1i) rfl ?_
  exact k
theorem b_X1_tradeByTurns_20 {G : hk_G} {d cb sb : Nat} {h : hk_H} {Q : hk_O → hk_H → Prop} {x3 : Int32} {r0 : Nat} {fs1 : List Value} {v3 : Int32} {o1 : Option Value} {o2 : Option Value} {o4 : Option Value} (hg2 : h.2 r0 = some (.inr (1, fs1))) (hv4 : fs1[0]? = some (.int v3)) (kt : v3 ≤ x3 → hk_S G m_X1_tradeByTurns (d + 1) cb sb 70 [some (.ref r0), o1, o2, some (.int x3), o4] [] h Q) (kf : ¬ v3 ≤ x3 → hk_S G m_X1_tradeByTurns (d + 1) cb sb 28 [some (.ref r0), o1, o2, some (.int x3), o4] [] h Q) : hk_S G m_X1_tradeByTurns (d + 1) cb sb 20 [some (.ref r0), o1, o2, some (.int x3), o4] [] h Q := by
  refine hs_iload_n dX1_tradeByTurns_20 rfl ?_
  refine hs_aload_n dX1_tradeByTurns_21 rfl ?_
  refine hs_get dX1_tradeByTurns_22 fl_X1_9_1 hg2 hv4 ?_
  exact hs_icmp_ge dX1_tradeByTurns_25 (by decide) kt kf
theorem b_X1_tradeByTurns_28 {G : hk_G} {d cb sb : Nat} {h : hk_H} {Q : hk_O → hk_H → Prop} {r0 : Nat} {fs1 : List Value} {v3 : Nat} {x3 : Int32} {n5 : Nat} {f6 : Nat → Int32} {v11 : Nat} {x2 : Int32} {o1 : Option Value} {o4 : Option Value} (hg2 : h.2 r0 = some (.inr (1, fs1))) (hv4 : fs1[8]? = some (.ref v3)) (ha7 : h.2 v3 = some (.inl (0, n5, .inl f6))) (j8 : Nat) (hi9 : (x3 : Int32).toInt = (j8 : Int)) (hj10 : j8 < n5) (hv12 : fs1[5]? = some (.ref v11)) (hc : hk_Ci G m_X1_bestOf d 0 0 [.ref r0, .int (f6 j8), .int x2] h (fun z h' => hk_S G m_X1_tradeByTurns (d + 1) cb sb 49 [some (.ref r0), o1, some (.int x2), some (.int x3), some (.int (f6 j8))] [.int z, .int (f6 j8), .ref v11] h' Q)) : hk_S G m_X1_tradeByTurns (d + 1) cb sb 28 [some (.ref r0), o1, some (.int x2), some (.int x3), o4] [] h Q := by
  refine hs_aload_n dX1_tradeByTurns_28 rfl ?_
  refine hs_get dX1_tradeByTurns_29 fl_X1_46_1 hg2 hv4 ?_
  refine hs_iload_n dX1_tradeByTurns_32 rfl ?_
  refine hs_iald j8 dX1_tradeByTurns_33 ha7 hi9 hj10 ?_
  refine hs_istK dX1_tradeByTurns_34 (by decide) (hk_nk1 rfl hk_c1i) rfl ?_
  refine hs_aload_n dX1_tradeByTurns_36 rfl ?_
  refine hs_get dX1_tradeByTurns_37 fl_X1_37_1 hg2 hv12 ?_
  refine hs_iload dX1_tradeByTurns_40 rfl ?_
  refine hs_aload_n dX1_tradeByTurns_42 rfl ?_
  refine hs_iload dX1_tradeByTurns_43 rfl ?_
  refine hs_iload_n dX1_tradeByTurns_45 rfl ?_
  exact hk_z0 (hs_vir (M' := m_X1_bestOf) (vs := [.int (f6 j8), .int x2]) (c1 := 0) (s1 := 0) dX1_tradeByTurns_46 wd_757 vi_X1_bestOf hg2 rfl (Nat.le_of_ble_eq_true rfl) hc hq_i (hc_i (fun z h9 k9 => k9)))
theorem b_X1_tradeByTurns_49 {G : hk_G} {d cb sb : Nat} {h : hk_H} {Q : hk_O → hk_H → Prop} {s0 : Nat} {s1 : Int32} {s2 : Int32} {n1 : Nat} {f2 : Nat → Int32} {h_1 : hk_H} {x2 : Int32} {r0 : Nat} {fs7 : List Value} {v9 : Nat} {x4 : Int32} {n11 : Nat} {f12 : Nat → Int32} {x3 : Int32} {o1 : Option Value} (ha3 : h.2 s0 = some (.inl (0, n1, .inl f2))) (h4_s0 : 4 ≤ s0) (j4 : Nat) (hi5 : (s1 : Int32).toInt = (j4 : Int)) (hj6 : j4 < n1) (e_1 : (hk_set h s0 (.inl (0, n1, .inl (upd f2 j4 s2)))) = h_1) (hg8 : h_1.2 r0 = some (.inr (1, fs7))) (hv10 : fs7[5]? = some (.ref v9)) (ha13 : h_1.2 v9 = some (.inl (0, n11, .inl f12))) (j14 : Nat) (hi15 : (x4 : Int32).toInt = (j14 : Int)) (hj16 : j14 < n11) (k : hk_S G m_X1_tradeByTurns (d + 1) cb sb 20 [some (.ref r0), o1, some (.int (x2 &&& ((1 <<< ((f12 j14) &&& 31)) ^^^ ((-1))))), some (.int (x3 + 1)), some (.int x4)] [] h_1 Q) (ho1 : hk_c1 o1 := by first | exact hk_c1i | exact hk_c1r | exact hk_c10 | exact hk_c1n) : hk_S G m_X1_tradeByTurns (d + 1) cb sb 49 [some (.ref r0), o1, some (.int x2), some (.int x3), some (.int x4)] [.int s2, .int s1, .ref s0] h Q := by
  subst e_1
  refine hs_iast j4 dX1_tradeByTurns_49 ha3 h4_s0 hi5 hj6 ?_
  refine hs_iload_n dX1_tradeByTurns_50 rfl ?_
  refine hs_iconst (v := 1) dX1_tradeByTurns_51 (by decide) ?_
  refine hs_aload_n dX1_tradeByTurns_52 rfl ?_
  refine hs_get dX1_tradeByTurns_53 fl_X1_37_1 hg8 hv10 ?_
  refine hs_iload dX1_tradeByTurns_56 rfl ?_
  refine hs_iald j14 dX1_tradeByTurns_58 ha13 hi15 hj16 ?_
  refine hs_ishl dX1_tradeByTurns_59 ?_
  refine hs_iconst (v := (-1)) dX1_tradeByTurns_60 (by decide) ?_
  refine hs_ixor dX1_tradeByTurns_61 ?_
  refine hs_iand dX1_tradeByTurns_62 ?_
  refine hs_istK_n dX1_tradeByTurns_63 (by decide) (hk_nk1 rfl ho1) rfl ?_
  refine hs_iincK (v := 1) dX1_tradeByTurns_64 rfl (by decide) (by decide) (hk_nk1 rfl hk_c1i) rfl ?_
  refine hs_goto dX1_tradeByTurns_67 (tgt := 20) (by decide) ?_
  exact k
theorem b_X1_tradeByTurns_70 {G : hk_G} {d cb sb : Nat} {h : hk_H} {Q : hk_O → hk_H → Prop} {r0 : Nat} {fs1 : List Value} {v3 : Nat} {o1 : Option Value} {o2 : Option Value} {o3 : Option Value} {o4 : Option Value} (hg2 : h.2 r0 = some (.inr (1, fs1))) (hv4 : fs1[5]? = some (.ref v3)) (hc : hk_Ci G m_X1_told d 0 0 [.ref r0, .ref v3] h (fun z h' => hk_S G m_X1_tradeByTurns (d + 1) cb sb 78 [some (.ref r0), o1, o2, o3, o4] [.int z] h' Q)) : hk_S G m_X1_tradeByTurns (d + 1) cb sb 70 [some (.ref r0), o1, o2, o3, o4] [] h Q := by
  refine hs_aload_n dX1_tradeByTurns_70 rfl ?_
  refine hs_aload_n dX1_tradeByTurns_71 rfl ?_
  refine hs_get dX1_tradeByTurns_72 fl_X1_37_1 hg2 hv4 ?_
  exact hk_z0 (hs_vir (M' := m_X1_told) (vs := [.ref v3]) (c1 := 0) (s1 := 0) dX1_tradeByTurns_75 wd_765 vi_X1_told hg2 rfl (Nat.le_of_ble_eq_true rfl) hc hq_i (hc_i (fun z h9 k9 => k9)))
theorem b_X1_tradeByTurns_78 {G : hk_G} {d cb sb : Nat} {h : hk_H} {Q : hk_O → hk_H → Prop} {s0 : Int32} {o0 : Option Value} {o1 : Option Value} {o2 : Option Value} {o3 : Option Value} {o4 : Option Value} (hq : Q (.inl (some (.int s0))) h) : hk_S G m_X1_tradeByTurns (d + 1) cb sb 78 [o0, o1, o2, o3, o4] [.int s0] h Q := by
  exact hs_iret dX1_tradeByTurns_78 rfl hq
-- HonestHouse$Market.leastBlocking(I)I
theorem b_X1_leastBlocking_0 {G : hk_G} {d cb sb : Nat} {h : hk_H} {Q : hk_O → hk_H → Prop} {r0 : Nat} {x1 : Int32} {fs1 : List Value} {v3 : Nat} {o2 : Option Value} {o3 : Option Value} {o4 : Option Value} {o5 : Option Value} {o6 : Option Value} (hg2 : h.2 r0 = some (.inr (1, fs1))) (hv4 : fs1[7]? = some (.ref v3)) (hc : hk_Cv G m_X1_read d 0 0 [.ref r0, .int x1, .ref v3] h (fun h' => hk_S G m_X1_leastBlocking (d + 1) cb sb 9 [some (.ref r0), some (.int x1), o2, o3, o4, o5, o6] [] h' Q)) : hk_S G m_X1_leastBlocking (d + 1) cb sb 0 [some (.ref r0), some (.int x1), o2, o3, o4, o5, o6] [] h Q := by
  refine hs_aload_n dX1_leastBlocking_0 rfl ?_
  refine hs_iload_n dX1_leastBlocking_1 rfl ?_
  refine hs_aload_n dX1_leastBlocking_2 rfl ?_
  refine hs_get dX1_leastBlocking_3 fl_X1_43_1 hg2 hv4 ?_
  exact hk_z0 (hs_vir (M' := m_X1_read) (vs := [.int x1, .ref v3]) (c1 := 0) (s1 := 0) dX1_leastBlocking_6 wd_741 vi_X1_read hg2 rfl (Nat.le_of_ble_eq_true rfl) hc hq_v (hc_v (fun h9 k9 => k9)))
theorem b_X1_leastBlocking_9 {G : hk_G} {d cb sb : Nat} {h : hk_H} {Q : hk_O → hk_H → Prop} {o0 : Option Value} {o1 : Option Value} {o2 : Option Value} {o3 : Option Value} {o4 : Option Value} {o5 : Option Value} {o6 : Option Value} (k : hk_S G m_X1_leastBlocking (d + 1) cb sb 11 [o0, o1, some (.int 1), o3, o4, o5, o6] [] h Q) (ho1 : hk_c1 o1 := by first | exact hk_c1i | exact hk_c1r | exact hk_c10 | exact hk_c1n) : hk_S G m_X1_leastBlocking (d + 1) cb sb 9 [o0, o1, o2, o3, o4, o5, o6] [] h Q := by
  refine hs_iconst (v := 1) dX1_leastBlocking_9 (by decide) ?_
  refine hs_istK_n dX1_leastBlocking_10 (by decide) (hk_nk1 rfl ho1) rfl ?_
  exact k
theorem b_X1_leastBlocking_11 {G : hk_G} {d cb sb : Nat} {h : hk_H} {Q : hk_O → hk_H → Prop} {x2 : Int32} {r0 : Nat} {fs1 : List Value} {v3 : Int32} {o1 : Option Value} {o3 : Option Value} {o4 : Option Value} {o5 : Option Value} {o6 : Option Value} (hg2 : h.2 r0 = some (.inr (1, fs1))) (hv4 : fs1[0]? = some (.int v3)) (kt : (1 <<< (v3 &&& 31)) ≤ x2 → hk_S G m_X1_leastBlocking (d + 1) cb sb 86 [some (.ref r0), o1, some (.int x2), o3, o4, o5, o6] [] h Q) (kf : ¬ (1 <<< (v3 &&& 31)) ≤ x2 → hk_S G m_X1_leastBlocking (d + 1) cb sb 21 [some (.ref r0), o1, some (.int x2), o3, o4, o5, o6] [] h Q) : hk_S G m_X1_leastBlocking (d + 1) cb sb 11 [some (.ref r0), o1, some (.int x2), o3, o4, o5, o6] [] h Q := by
  refine hs_iload_n dX1_leastBlocking_11 rfl ?_
  refine hs_iconst (v := 1) dX1_leastBlocking_12 (by decide) ?_
  refine hs_aload_n dX1_leastBlocking_13 rfl ?_
  refine hs_get dX1_leastBlocking_14 fl_X1_9_1 hg2 hv4 ?_
  refine hs_ishl dX1_leastBlocking_17 ?_
  exact hs_icmp_ge dX1_leastBlocking_18 (by decide) kt kf
theorem b_X1_leastBlocking_21 {G : hk_G} {d cb sb : Nat} {h : hk_H} {Q : hk_O → hk_H → Prop} {r0 : Nat} {fs1 : List Value} {v3 : Nat} {n5 : Nat} {t7 : Nat} {x6 : (Nat → Int32) ⊕ (Nat → Int64) ⊕ (Nat → UInt32) ⊕ (Nat → UInt64) ⊕ (Nat → Option Nat)} {o1 : Option Value} {o2 : Option Value} {o3 : Option Value} {o4 : Option Value} {o5 : Option Value} {o6 : Option Value} (hg2 : h.2 r0 = some (.inr (1, fs1))) (hv4 : fs1[1]? = some (.ref v3)) (ha8 : h.2 v3 = some (.inl (t7, n5, x6))) (ht9 : t7 < 5) (k : hk_S G m_X1_leastBlocking (d + 1) cb sb 33 [some (.ref r0), o1, o2, some (.ref v3), some (.int (Int32.ofNat n5)), some (.int 0), o6] [] h Q) (ho2 : hk_c1 o2 := by first | exact hk_c1i | exact hk_c1r | exact hk_c10 | exact hk_c1n) : hk_S G m_X1_leastBlocking (d + 1) cb sb 21 [some (.ref r0), o1, o2, o3, o4, o5, o6] [] h Q := by
  refine hs_aload_n dX1_leastBlocking_21 rfl ?_
  refine hs_get dX1_leastBlocking_22 fl_X1_25_1 hg2 hv4 ?_
  refine hs_astK_n dX1_leastBlocking_25 (by decide) (hk_nk1 rfl ho2) rfl ?_
  refine hs_aload_n dX1_leastBlocking_26 rfl ?_
  refine hs_alen dX1_leastBlocking_27 ha8 ht9 ?_
  refine hs_istK dX1_leastBlocking_28 (by decide) (hk_nk1 rfl hk_c1r) rfl ?_
  refine hs_iconst (v := 0) dX1_leastBlocking_30 (by decide) ?_
  refine hs_istK dX1_leastBlocking_31 (by decide) (hk_nk1 rfl hk_c1i) rfl ?_
  exact k
theorem b_X1_leastBlocking_33 {G : hk_G} {d cb sb : Nat} {h : hk_H} {Q : hk_O → hk_H → Prop} {x5 : Int32} {x4 : Int32} {o0 : Option Value} {o1 : Option Value} {o2 : Option Value} {o3 : Option Value} {o6 : Option Value} (kt : x4 ≤ x5 → hk_S G m_X1_leastBlocking (d + 1) cb sb 80 [o0, o1, o2, o3, some (.int x4), some (.int x5), o6] [] h Q) (kf : ¬ x4 ≤ x5 → hk_S G m_X1_leastBlocking (d + 1) cb sb 40 [o0, o1, o2, o3, some (.int x4), some (.int x5), o6] [] h Q) : hk_S G m_X1_leastBlocking (d + 1) cb sb 33 [o0, o1, o2, o3, some (.int x4), some (.int x5), o6] [] h Q := by
  refine hs_iload dX1_leastBlocking_33 rfl ?_
  refine hs_iload dX1_leastBlocking_35 rfl ?_
  exact hs_icmp_ge dX1_leastBlocking_37 (by decide) kt kf
theorem b_X1_leastBlocking_40 {G : hk_G} {d cb sb : Nat} {h : hk_H} {Q : hk_O → hk_H → Prop} {r3 : Nat} {x5 : Int32} {n1 : Nat} {f2 : Nat → Int32} {r0 : Nat} {fs7 : List Value} {v9 : Nat} {o1 : Option Value} {o2 : Option Value} {o4 : Option Value} {o6 : Option Value} (ha3 : h.2 r3 = some (.inl (0, n1, .inl f2))) (j4 : Nat) (hi5 : (x5 : Int32).toInt = (j4 : Int)) (hj6 : j4 < n1) (hg8 : h.2 r0 = some (.inr (1, fs7))) (hv10 : fs7[8]? = some (.ref v9)) (hc : hk_Cv G m_X1_read d 0 0 [.ref r0, .int (f2 j4), .ref v9] h (fun h' => hk_S G m_X1_leastBlocking (d + 1) cb sb 56 [some (.ref r0), o1, o2, some (.ref r3), o4, some (.int x5), some (.int (f2 j4))] [] h' Q)) : hk_S G m_X1_leastBlocking (d + 1) cb sb 40 [some (.ref r0), o1, o2, some (.ref r3), o4, some (.int x5), o6] [] h Q := by
  refine hs_aload_n dX1_leastBlocking_40 rfl ?_
  refine hs_iload dX1_leastBlocking_41 rfl ?_
  refine hs_iald j4 dX1_leastBlocking_43 ha3 hi5 hj6 ?_
  refine hs_istK dX1_leastBlocking_44 (by decide) (hk_nk1 rfl hk_c1i) rfl ?_
  refine hs_aload_n dX1_leastBlocking_46 rfl ?_
  refine hs_iload dX1_leastBlocking_47 rfl ?_
  refine hs_aload_n dX1_leastBlocking_49 rfl ?_
  refine hs_get dX1_leastBlocking_50 fl_X1_46_1 hg8 hv10 ?_
  exact hk_z0 (hs_vir (M' := m_X1_read) (vs := [.int (f2 j4), .ref v9]) (c1 := 0) (s1 := 0) dX1_leastBlocking_53 wd_741 vi_X1_read hg8 rfl (Nat.le_of_ble_eq_true rfl) hc hq_v (hc_v (fun h9 k9 => k9)))
theorem b_X1_leastBlocking_56 {G : hk_G} {d cb sb : Nat} {h : hk_H} {Q : hk_O → hk_H → Prop} {r0 : Nat} {x2 : Int32} {fs_ : List Value} {o1 : Option Value} {o3 : Option Value} {o4 : Option Value} {o5 : Option Value} {o6 : Option Value} (hrec : h.2 r0 = some (.inr (1, fs_))) (hc : hk_Ci G m_X1_keepsWithin d 0 0 [.ref r0, .int x2] h (fun z h' => hk_S G m_X1_leastBlocking (d + 1) cb sb 61 [some (.ref r0), o1, some (.int x2), o3, o4, o5, o6] [.int z] h' Q)) : hk_S G m_X1_leastBlocking (d + 1) cb sb 56 [some (.ref r0), o1, some (.int x2), o3, o4, o5, o6] [] h Q := by
  refine hs_aload_n dX1_leastBlocking_56 rfl ?_
  refine hs_iload_n dX1_leastBlocking_57 rfl ?_
  exact hk_z0 (hs_vir (M' := m_X1_keepsWithin) (vs := [.int x2]) (c1 := 0) (s1 := 0) dX1_leastBlocking_58 wd_789 vi_X1_keepsWithin hrec rfl (Nat.le_of_ble_eq_true rfl) hc hq_i (hc_i (fun z h9 k9 => k9)))
theorem b_X1_leastBlocking_61 {G : hk_G} {d cb sb : Nat} {h : hk_H} {Q : hk_O → hk_H → Prop} {s0 : Int32} {o0 : Option Value} {o1 : Option Value} {o2 : Option Value} {o3 : Option Value} {o4 : Option Value} {o5 : Option Value} {o6 : Option Value} (kt : s0 = 0 → hk_S G m_X1_leastBlocking (d + 1) cb sb 74 [o0, o1, o2, o3, o4, o5, o6] [] h Q) (kf : ¬ s0 = 0 → hk_S G m_X1_leastBlocking (d + 1) cb sb 64 [o0, o1, o2, o3, o4, o5, o6] [] h Q) : hk_S G m_X1_leastBlocking (d + 1) cb sb 61 [o0, o1, o2, o3, o4, o5, o6] [.int s0] h Q := by
  exact hs_if_eq dX1_leastBlocking_61 (by decide) kt kf
theorem b_X1_leastBlocking_64 {G : hk_G} {d cb sb : Nat} {h : hk_H} {Q : hk_O → hk_H → Prop} {r0 : Nat} {x2 : Int32} {fs_ : List Value} {o1 : Option Value} {o3 : Option Value} {o4 : Option Value} {o5 : Option Value} {o6 : Option Value} (hrec : h.2 r0 = some (.inr (1, fs_))) (hc : hk_Ci G m_X1_isBetterFor d 0 0 [.ref r0, .int x2] h (fun z h' => hk_S G m_X1_leastBlocking (d + 1) cb sb 69 [some (.ref r0), o1, some (.int x2), o3, o4, o5, o6] [.int z] h' Q)) : hk_S G m_X1_leastBlocking (d + 1) cb sb 64 [some (.ref r0), o1, some (.int x2), o3, o4, o5, o6] [] h Q := by
  refine hs_aload_n dX1_leastBlocking_64 rfl ?_
  refine hs_iload_n dX1_leastBlocking_65 rfl ?_
  exact hk_z0 (hs_vir (M' := m_X1_isBetterFor) (vs := [.int x2]) (c1 := 0) (s1 := 0) dX1_leastBlocking_66 wd_793 vi_X1_isBetterFor hrec rfl (Nat.le_of_ble_eq_true rfl) hc hq_i (hc_i (fun z h9 k9 => k9)))
theorem b_X1_leastBlocking_69 {G : hk_G} {d cb sb : Nat} {h : hk_H} {Q : hk_O → hk_H → Prop} {s0 : Int32} {o0 : Option Value} {o1 : Option Value} {o2 : Option Value} {o3 : Option Value} {o4 : Option Value} {o5 : Option Value} {o6 : Option Value} (kt : s0 = 0 → hk_S G m_X1_leastBlocking (d + 1) cb sb 74 [o0, o1, o2, o3, o4, o5, o6] [] h Q) (kf : ¬ s0 = 0 → hk_S G m_X1_leastBlocking (d + 1) cb sb 72 [o0, o1, o2, o3, o4, o5, o6] [] h Q) : hk_S G m_X1_leastBlocking (d + 1) cb sb 69 [o0, o1, o2, o3, o4, o5, o6] [.int s0] h Q := by
  exact hs_if_eq dX1_leastBlocking_69 (by decide) kt kf
theorem b_X1_leastBlocking_72 {G : hk_G} {d cb sb : Nat} {h : hk_H} {Q : hk_O → hk_H → Prop} {x2 : Int32} {o0 : Option Value} {o1 : Option Value} {o3 : Option Value} {o4 : Option Value} {o5 : Option Value} {o6 : Option Value} (hq : Q (.inl (some (.int x2))) h) : hk_S G m_X1_leastBlocking (d + 1) cb sb 72 [o0, o1, some (.int x2), o3, o4, o5, o6] [] h Q := by
  refine hs_iload_n dX1_leastBlocking_72 rfl ?_
  exact hs_iret dX1_leastBlocking_73 rfl hq
theorem b_X1_leastBlocking_74 {G : hk_G} {d cb sb : Nat} {h : hk_H} {Q : hk_O → hk_H → Prop} {x5 : Int32} {o0 : Option Value} {o1 : Option Value} {o2 : Option Value} {o3 : Option Value} {o4 : Option Value} {o6 : Option Value} (k : hk_S G m_X1_leastBlocking (d + 1) cb sb 33 [o0, o1, o2, o3, o4, some (.int (x5 + 1)), o6] [] h Q) (ho4 : hk_c1 o4 := by first | exact hk_c1i | exact hk_c1r | exact hk_c10 | exact hk_c1n) : hk_S G m_X1_leastBlocking (d + 1) cb sb 74 [o0, o1, o2, o3, o4, some (.int x5), o6] [] h Q := by
  refine hs_iincK (v := 1) dX1_leastBlocking_74 rfl (by decide) (by decide) (hk_nk1 rfl ho4) rfl ?_
  refine hs_goto dX1_leastBlocking_77 (tgt := 33) (by decide) ?_
  exact k
theorem b_X1_leastBlocking_80 {G : hk_G} {d cb sb : Nat} {h : hk_H} {Q : hk_O → hk_H → Prop} {x2 : Int32} {o0 : Option Value} {o1 : Option Value} {o3 : Option Value} {o4 : Option Value} {o5 : Option Value} {o6 : Option Value} (k : hk_S G m_X1_leastBlocking (d + 1) cb sb 11 [o0, o1, some (.int (x2 + 1)), o3, o4, o5, o6] [] h Q) (ho1 : hk_c1 o1 := by first | exact hk_c1i | exact hk_c1r | exact hk_c10 | exact hk_c1n) : hk_S G m_X1_leastBlocking (d + 1) cb sb 80 [o0, o1, some (.int x2), o3, o4, o5, o6] [] h Q := by
  refine hs_iincK (v := 1) dX1_leastBlocking_80 rfl (by decide) (by decide) (hk_nk1 rfl ho1) rfl ?_
  refine hs_goto dX1_leastBlocking_83 (tgt := 11) (by decide) ?_
  exact k
theorem b_X1_leastBlocking_86 {G : hk_G} {d cb sb : Nat} {h : hk_H} {Q : hk_O → hk_H → Prop} {o0 : Option Value} {o1 : Option Value} {o2 : Option Value} {o3 : Option Value} {o4 : Option Value} {o5 : Option Value} {o6 : Option Value} (hq : Q (.inl (some (.int 0))) h) : hk_S G m_X1_leastBlocking (d + 1) cb sb 86 [o0, o1, o2, o3, o4, o5, o6] [] h Q := by
  refine hs_iconst (v := 0) dX1_leastBlocking_86 (by decide) ?_
  exact hs_iret dX1_leastBlocking_87 rfl hq
-- HonestHouse$Market.keepsWithin(I)Z
theorem b_X1_keepsWithin_0 {G : hk_G} {d cb sb : Nat} {h : hk_H} {Q : hk_O → hk_H → Prop} {o0 : Option Value} {o1 : Option Value} {o2 : Option Value} (k : hk_S G m_X1_keepsWithin d cb sb 2 [o0, o1, some (.int 0)] [] h Q) (ho1 : hk_c1 o1 := by first | exact hk_c1i | exact hk_c1r | exact hk_c10 | exact hk_c1n) : hk_S G m_X1_keepsWithin d cb sb 0 [o0, o1, o2] [] h Q := by
  refine hs_iconst (v := 0) dX1_keepsWithin_0 (by decide) ?_
  refine hs_istK_n dX1_keepsWithin_1 (by decide) (hk_nk1 rfl ho1) rfl ?_
  exact k
theorem b_X1_keepsWithin_2 {G : hk_G} {d cb sb : Nat} {h : hk_H} {Q : hk_O → hk_H → Prop} {x2 : Int32} {r0 : Nat} {fs1 : List Value} {v3 : Int32} {o1 : Option Value} (hg2 : h.2 r0 = some (.inr (1, fs1))) (hv4 : fs1[0]? = some (.int v3)) (kt : v3 ≤ x2 → hk_S G m_X1_keepsWithin d cb sb 40 [some (.ref r0), o1, some (.int x2)] [] h Q) (kf : ¬ v3 ≤ x2 → hk_S G m_X1_keepsWithin d cb sb 10 [some (.ref r0), o1, some (.int x2)] [] h Q) : hk_S G m_X1_keepsWithin d cb sb 2 [some (.ref r0), o1, some (.int x2)] [] h Q := by
  refine hs_iload_n dX1_keepsWithin_2 rfl ?_
  refine hs_aload_n dX1_keepsWithin_3 rfl ?_
  refine hs_get dX1_keepsWithin_4 fl_X1_9_1 hg2 hv4 ?_
  exact hs_icmp_ge dX1_keepsWithin_7 (by decide) kt kf
theorem b_X1_keepsWithin_10 {G : hk_G} {d cb sb : Nat} {h : hk_H} {Q : hk_O → hk_H → Prop} {x1 : Int32} {x2 : Int32} {o0 : Option Value} (kt : ¬ ((x1 >>> (x2 &&& 31)) &&& 1) = 1 → hk_S G m_X1_keepsWithin d cb sb 34 [o0, some (.int x1), some (.int x2)] [] h Q) (kf : ((x1 >>> (x2 &&& 31)) &&& 1) = 1 → hk_S G m_X1_keepsWithin d cb sb 19 [o0, some (.int x1), some (.int x2)] [] h Q) : hk_S G m_X1_keepsWithin d cb sb 10 [o0, some (.int x1), some (.int x2)] [] h Q := by
  refine hs_iload_n dX1_keepsWithin_10 rfl ?_
  refine hs_iload_n dX1_keepsWithin_11 rfl ?_
  refine hs_ishr dX1_keepsWithin_12 ?_
  refine hs_iconst (v := 1) dX1_keepsWithin_13 (by decide) ?_
  refine hs_iand dX1_keepsWithin_14 ?_
  refine hs_iconst (v := 1) dX1_keepsWithin_15 (by decide) ?_
  exact hs_icmp_ne dX1_keepsWithin_16 (by decide) kt kf
theorem b_X1_keepsWithin_19 {G : hk_G} {d cb sb : Nat} {h : hk_H} {Q : hk_O → hk_H → Prop} {x1 : Int32} {r0 : Nat} {fs1 : List Value} {v3 : Nat} {x2 : Int32} {n5 : Nat} {f6 : Nat → Int32} (hg2 : h.2 r0 = some (.inr (1, fs1))) (hv4 : fs1[8]? = some (.ref v3)) (ha7 : h.2 v3 = some (.inl (0, n5, .inl f6))) (j8 : Nat) (hi9 : (x2 : Int32).toInt = (j8 : Int)) (hj10 : j8 < n5) (kt : ¬ ((x1 >>> ((f6 j8) &&& 31)) &&& 1) = 0 → hk_S G m_X1_keepsWithin d cb sb 34 [some (.ref r0), some (.int x1), some (.int x2)] [] h Q) (kf : ((x1 >>> ((f6 j8) &&& 31)) &&& 1) = 0 → hk_S G m_X1_keepsWithin d cb sb 32 [some (.ref r0), some (.int x1), some (.int x2)] [] h Q) : hk_S G m_X1_keepsWithin d cb sb 19 [some (.ref r0), some (.int x1), some (.int x2)] [] h Q := by
  refine hs_iload_n dX1_keepsWithin_19 rfl ?_
  refine hs_aload_n dX1_keepsWithin_20 rfl ?_
  refine hs_get dX1_keepsWithin_21 fl_X1_46_1 hg2 hv4 ?_
  refine hs_iload_n dX1_keepsWithin_24 rfl ?_
  refine hs_iald j8 dX1_keepsWithin_25 ha7 hi9 hj10 ?_
  refine hs_ishr dX1_keepsWithin_26 ?_
  refine hs_iconst (v := 1) dX1_keepsWithin_27 (by decide) ?_
  refine hs_iand dX1_keepsWithin_28 ?_
  exact hs_if_ne dX1_keepsWithin_29 (by decide) kt kf
theorem b_X1_keepsWithin_32 {G : hk_G} {d cb sb : Nat} {h : hk_H} {Q : hk_O → hk_H → Prop} {o0 : Option Value} {o1 : Option Value} {o2 : Option Value} (hq : Q (.inl (some (.int 0))) h) : hk_S G m_X1_keepsWithin d cb sb 32 [o0, o1, o2] [] h Q := by
  refine hs_iconst (v := 0) dX1_keepsWithin_32 (by decide) ?_
  exact hs_zret dX1_keepsWithin_33 rfl (by decide) hq
theorem b_X1_keepsWithin_34 {G : hk_G} {d cb sb : Nat} {h : hk_H} {Q : hk_O → hk_H → Prop} {x2 : Int32} {o0 : Option Value} {o1 : Option Value} (k : hk_S G m_X1_keepsWithin d cb sb 2 [o0, o1, some (.int (x2 + 1))] [] h Q) (ho1 : hk_c1 o1 := by first | exact hk_c1i | exact hk_c1r | exact hk_c10 | exact hk_c1n) : hk_S G m_X1_keepsWithin d cb sb 34 [o0, o1, some (.int x2)] [] h Q := by
  refine hs_iincK (v := 1) dX1_keepsWithin_34 rfl (by decide) (by decide) (hk_nk1 rfl ho1) rfl ?_
  refine hs_goto dX1_keepsWithin_37 (tgt := 2) (by decide) ?_
  exact k
theorem b_X1_keepsWithin_40 {G : hk_G} {d cb sb : Nat} {h : hk_H} {Q : hk_O → hk_H → Prop} {o0 : Option Value} {o1 : Option Value} {o2 : Option Value} (hq : Q (.inl (some (.int 1))) h) : hk_S G m_X1_keepsWithin d cb sb 40 [o0, o1, o2] [] h Q := by
  refine hs_iconst (v := 1) dX1_keepsWithin_40 (by decide) ?_
  exact hs_zret dX1_keepsWithin_41 rfl (by decide) hq
-- HonestHouse$Market.isBetterFor(I)Z
theorem b_X1_isBetterFor_0 {G : hk_G} {d cb sb : Nat} {h : hk_H} {Q : hk_O → hk_H → Prop} {o0 : Option Value} {o1 : Option Value} {o2 : Option Value} {o3 : Option Value} {o4 : Option Value} (k : hk_S G m_X1_isBetterFor (d + 1) cb sb 4 [o0, o1, some (.int 0), some (.int 0), o4] [] h Q) (ho1 : hk_c1 o1 := by first | exact hk_c1i | exact hk_c1r | exact hk_c10 | exact hk_c1n) : hk_S G m_X1_isBetterFor (d + 1) cb sb 0 [o0, o1, o2, o3, o4] [] h Q := by
  refine hs_iconst (v := 0) dX1_isBetterFor_0 (by decide) ?_
  refine hs_istK_n dX1_isBetterFor_1 (by decide) (hk_nk1 rfl ho1) rfl ?_
  refine hs_iconst (v := 0) dX1_isBetterFor_2 (by decide) ?_
  refine hs_istK_n dX1_isBetterFor_3 (by decide) (hk_nk1 rfl hk_c1i) rfl ?_
  exact k
theorem b_X1_isBetterFor_4 {G : hk_G} {d cb sb : Nat} {h : hk_H} {Q : hk_O → hk_H → Prop} {x3 : Int32} {r0 : Nat} {fs1 : List Value} {v3 : Int32} {o1 : Option Value} {o2 : Option Value} {o4 : Option Value} (hg2 : h.2 r0 = some (.inr (1, fs1))) (hv4 : fs1[0]? = some (.int v3)) (kt : v3 ≤ x3 → hk_S G m_X1_isBetterFor (d + 1) cb sb 72 [some (.ref r0), o1, o2, some (.int x3), o4] [] h Q) (kf : ¬ v3 ≤ x3 → hk_S G m_X1_isBetterFor (d + 1) cb sb 12 [some (.ref r0), o1, o2, some (.int x3), o4] [] h Q) : hk_S G m_X1_isBetterFor (d + 1) cb sb 4 [some (.ref r0), o1, o2, some (.int x3), o4] [] h Q := by
  refine hs_iload_n dX1_isBetterFor_4 rfl ?_
  refine hs_aload_n dX1_isBetterFor_5 rfl ?_
  refine hs_get dX1_isBetterFor_6 fl_X1_9_1 hg2 hv4 ?_
  exact hs_icmp_ge dX1_isBetterFor_9 (by decide) kt kf
theorem b_X1_isBetterFor_12 {G : hk_G} {d cb sb : Nat} {h : hk_H} {Q : hk_O → hk_H → Prop} {r0 : Nat} {x3 : Int32} {fs1 : List Value} {v3 : Nat} {n5 : Nat} {f6 : Nat → Int32} {o1 : Option Value} {o2 : Option Value} {o4 : Option Value} (hg2 : h.2 r0 = some (.inr (1, fs1))) (hv4 : fs1[7]? = some (.ref v3)) (ha7 : h.2 v3 = some (.inl (0, n5, .inl f6))) (j8 : Nat) (hi9 : (x3 : Int32).toInt = (j8 : Int)) (hj10 : j8 < n5) (hc : hk_Ci G m_X1_placeFor d 0 0 [.ref r0, .int x3, .int (f6 j8)] h (fun z h' => hk_S G m_X1_isBetterFor (d + 1) cb sb 23 [some (.ref r0), o1, o2, some (.int x3), o4] [.int z] h' Q)) : hk_S G m_X1_isBetterFor (d + 1) cb sb 12 [some (.ref r0), o1, o2, some (.int x3), o4] [] h Q := by
  refine hs_aload_n dX1_isBetterFor_12 rfl ?_
  refine hs_iload_n dX1_isBetterFor_13 rfl ?_
  refine hs_aload_n dX1_isBetterFor_14 rfl ?_
  refine hs_get dX1_isBetterFor_15 fl_X1_43_1 hg2 hv4 ?_
  refine hs_iload_n dX1_isBetterFor_18 rfl ?_
  refine hs_iald j8 dX1_isBetterFor_19 ha7 hi9 hj10 ?_
  exact hk_z0 (hs_vir (M' := m_X1_placeFor) (vs := [.int x3, .int (f6 j8)]) (c1 := 0) (s1 := 0) dX1_isBetterFor_20 wd_797 vi_X1_placeFor hg2 rfl (Nat.le_of_ble_eq_true rfl) hc hq_i (hc_i (fun z h9 k9 => k9)))
theorem b_X1_isBetterFor_23 {G : hk_G} {d cb sb : Nat} {h : hk_H} {Q : hk_O → hk_H → Prop} {s0 : Int32} {r0 : Nat} {x3 : Int32} {fs1 : List Value} {v3 : Nat} {n5 : Nat} {f6 : Nat → Int32} {o1 : Option Value} {o2 : Option Value} {o4 : Option Value} (hg2 : h.2 r0 = some (.inr (1, fs1))) (hv4 : fs1[8]? = some (.ref v3)) (ha7 : h.2 v3 = some (.inl (0, n5, .inl f6))) (j8 : Nat) (hi9 : (x3 : Int32).toInt = (j8 : Int)) (hj10 : j8 < n5) (hc : hk_Ci G m_X1_placeFor d 0 0 [.ref r0, .int x3, .int (f6 j8)] h (fun z h' => hk_S G m_X1_isBetterFor (d + 1) cb sb 34 [some (.ref r0), o1, o2, some (.int x3), o4] [.int z, .int s0] h' Q)) : hk_S G m_X1_isBetterFor (d + 1) cb sb 23 [some (.ref r0), o1, o2, some (.int x3), o4] [.int s0] h Q := by
  refine hs_aload_n dX1_isBetterFor_23 rfl ?_
  refine hs_iload_n dX1_isBetterFor_24 rfl ?_
  refine hs_aload_n dX1_isBetterFor_25 rfl ?_
  refine hs_get dX1_isBetterFor_26 fl_X1_46_1 hg2 hv4 ?_
  refine hs_iload_n dX1_isBetterFor_29 rfl ?_
  refine hs_iald j8 dX1_isBetterFor_30 ha7 hi9 hj10 ?_
  exact hk_z0 (hs_vir (M' := m_X1_placeFor) (vs := [.int x3, .int (f6 j8)]) (c1 := 0) (s1 := 0) dX1_isBetterFor_31 wd_797 vi_X1_placeFor hg2 rfl (Nat.le_of_ble_eq_true rfl) hc hq_i (hc_i (fun z h9 k9 => k9)))
theorem b_X1_isBetterFor_34 {G : hk_G} {d cb sb : Nat} {h : hk_H} {Q : hk_O → hk_H → Prop} {s0 : Int32} {s1 : Int32} {x1 : Int32} {x3 : Int32} {o0 : Option Value} {o2 : Option Value} {o4 : Option Value} (kt : ¬ ((x1 >>> (x3 &&& 31)) &&& 1) = 1 → hk_S G m_X1_isBetterFor (d + 1) cb sb 66 [o0, some (.int x1), o2, some (.int x3), some (.int (s0 - s1))] [] h Q) (kf : ((x1 >>> (x3 &&& 31)) &&& 1) = 1 → hk_S G m_X1_isBetterFor (d + 1) cb sb 46 [o0, some (.int x1), o2, some (.int x3), some (.int (s0 - s1))] [] h Q) : hk_S G m_X1_isBetterFor (d + 1) cb sb 34 [o0, some (.int x1), o2, some (.int x3), o4] [.int s1, .int s0] h Q := by
  refine hs_isub dX1_isBetterFor_34 ?_
  refine hs_istK dX1_isBetterFor_35 (by decide) (hk_nk1 rfl hk_c1i) rfl ?_
  refine hs_iload_n dX1_isBetterFor_37 rfl ?_
  refine hs_iload_n dX1_isBetterFor_38 rfl ?_
  refine hs_ishr dX1_isBetterFor_39 ?_
  refine hs_iconst (v := 1) dX1_isBetterFor_40 (by decide) ?_
  refine hs_iand dX1_isBetterFor_41 ?_
  refine hs_iconst (v := 1) dX1_isBetterFor_42 (by decide) ?_
  exact hs_icmp_ne dX1_isBetterFor_43 (by decide) kt kf
theorem b_X1_isBetterFor_46 {G : hk_G} {d cb sb : Nat} {h : hk_H} {Q : hk_O → hk_H → Prop} {x4 : Int32} {o0 : Option Value} {o1 : Option Value} {o2 : Option Value} {o3 : Option Value} (kt : 0 ≤ x4 → hk_S G m_X1_isBetterFor (d + 1) cb sb 53 [o0, o1, o2, o3, some (.int x4)] [] h Q) (kf : ¬ 0 ≤ x4 → hk_S G m_X1_isBetterFor (d + 1) cb sb 51 [o0, o1, o2, o3, some (.int x4)] [] h Q) : hk_S G m_X1_isBetterFor (d + 1) cb sb 46 [o0, o1, o2, o3, some (.int x4)] [] h Q := by
  refine hs_iload dX1_isBetterFor_46 rfl ?_
  exact hs_if_ge dX1_isBetterFor_48 (by decide) kt kf
theorem b_X1_isBetterFor_51 {G : hk_G} {d cb sb : Nat} {h : hk_H} {Q : hk_O → hk_H → Prop} {o0 : Option Value} {o1 : Option Value} {o2 : Option Value} {o3 : Option Value} {o4 : Option Value} (hq : Q (.inl (some (.int 0))) h) : hk_S G m_X1_isBetterFor (d + 1) cb sb 51 [o0, o1, o2, o3, o4] [] h Q := by
  refine hs_iconst (v := 0) dX1_isBetterFor_51 (by decide) ?_
  exact hs_zret dX1_isBetterFor_52 rfl (by decide) hq
theorem b_X1_isBetterFor_53 {G : hk_G} {d cb sb : Nat} {h : hk_H} {Q : hk_O → hk_H → Prop} {x2 : Int32} {x4 : Int32} {o0 : Option Value} {o1 : Option Value} {o3 : Option Value} (kt : x4 ≤ 0 → hk_S G m_X1_isBetterFor (d + 1) cb sb 63 [o0, o1, some (.int x2), o3, some (.int x4)] [.int x2] h Q) (kf : ¬ x4 ≤ 0 → hk_S G m_X1_isBetterFor (d + 1) cb sb 59 [o0, o1, some (.int x2), o3, some (.int x4)] [.int x2] h Q) : hk_S G m_X1_isBetterFor (d + 1) cb sb 53 [o0, o1, some (.int x2), o3, some (.int x4)] [] h Q := by
  refine hs_iload_n dX1_isBetterFor_53 rfl ?_
  refine hs_iload dX1_isBetterFor_54 rfl ?_
  exact hs_if_le dX1_isBetterFor_56 (by decide) kt kf
theorem b_X1_isBetterFor_59 {G : hk_G} {d cb sb : Nat} {h : hk_H} {Q : hk_O → hk_H → Prop} {s0 : Int32} {x3 : Int32} {o0 : Option Value} {o1 : Option Value} {o2 : Option Value} {o4 : Option Value} (k : hk_S G m_X1_isBetterFor (d + 1) cb sb 4 [o0, o1, some (.int (s0 ||| 1)), some (.int (x3 + 1)), o4] [] h Q) (ho1 : hk_c1 o1 := by first | exact hk_c1i | exact hk_c1r | exact hk_c10 | exact hk_c1n) : hk_S G m_X1_isBetterFor (d + 1) cb sb 59 [o0, o1, o2, some (.int x3), o4] [.int s0] h Q := by
  refine hs_iconst (v := 1) dX1_isBetterFor_59 (by decide) ?_
  refine hs_goto dX1_isBetterFor_60 (tgt := 64) (by decide) ?_
  refine hs_ior dX1_isBetterFor_64 ?_
  refine hs_istK_n dX1_isBetterFor_65 (by decide) (hk_nk1 rfl ho1) rfl ?_
  refine hs_iincK (v := 1) dX1_isBetterFor_66 rfl (by decide) (by decide) (hk_nk1 rfl hk_c1i) rfl ?_
  refine hs_goto dX1_isBetterFor_69 (tgt := 4) (by decide) ?_
  exact k
theorem b_X1_isBetterFor_63 {G : hk_G} {d cb sb : Nat} {h : hk_H} {Q : hk_O → hk_H → Prop} {s0 : Int32} {x3 : Int32} {o0 : Option Value} {o1 : Option Value} {o2 : Option Value} {o4 : Option Value} (k : hk_S G m_X1_isBetterFor (d + 1) cb sb 4 [o0, o1, some (.int (s0 ||| 0)), some (.int (x3 + 1)), o4] [] h Q) (ho1 : hk_c1 o1 := by first | exact hk_c1i | exact hk_c1r | exact hk_c10 | exact hk_c1n) : hk_S G m_X1_isBetterFor (d + 1) cb sb 63 [o0, o1, o2, some (.int x3), o4] [.int s0] h Q := by
  refine hs_iconst (v := 0) dX1_isBetterFor_63 (by decide) ?_
  refine hs_ior dX1_isBetterFor_64 ?_
  refine hs_istK_n dX1_isBetterFor_65 (by decide) (hk_nk1 rfl ho1) rfl ?_
  refine hs_iincK (v := 1) dX1_isBetterFor_66 rfl (by decide) (by decide) (hk_nk1 rfl hk_c1i) rfl ?_
  refine hs_goto dX1_isBetterFor_69 (tgt := 4) (by decide) ?_
  exact k
theorem b_X1_isBetterFor_64 {G : hk_G} {d cb sb : Nat} {h : hk_H} {Q : hk_O → hk_H → Prop} {s0 : Int32} {s1 : Int32} {x3 : Int32} {o0 : Option Value} {o1 : Option Value} {o2 : Option Value} {o4 : Option Value} (k : hk_S G m_X1_isBetterFor (d + 1) cb sb 4 [o0, o1, some (.int (s0 ||| s1)), some (.int (x3 + 1)), o4] [] h Q) (ho1 : hk_c1 o1 := by first | exact hk_c1i | exact hk_c1r | exact hk_c10 | exact hk_c1n) : hk_S G m_X1_isBetterFor (d + 1) cb sb 64 [o0, o1, o2, some (.int x3), o4] [.int s1, .int s0] h Q := by
  refine hs_ior dX1_isBetterFor_64 ?_
  refine hs_istK_n dX1_isBetterFor_65 (by decide) (hk_nk1 rfl ho1) rfl ?_
  refine hs_iincK (v := 1) dX1_isBetterFor_66 rfl (by decide) (by decide) (hk_nk1 rfl hk_c1i) rfl ?_
  refine hs_goto dX1_isBetterFor_69 (tgt := 4) (by decide) ?_
  exact k
theorem b_X1_isBetterFor_66 {G : hk_G} {d cb sb : Nat} {h : hk_H} {Q : hk_O → hk_H → Prop} {x3 : Int32} {o0 : Option Value} {o1 : Option Value} {o2 : Option Value} {o4 : Option Value} (k : hk_S G m_X1_isBetterFor (d + 1) cb sb 4 [o0, o1, o2, some (.int (x3 + 1)), o4] [] h Q) (ho2 : hk_c1 o2 := by first | exact hk_c1i | exact hk_c1r | exact hk_c10 | exact hk_c1n) : hk_S G m_X1_isBetterFor (d + 1) cb sb 66 [o0, o1, o2, some (.int x3), o4] [] h Q := by
  refine hs_iincK (v := 1) dX1_isBetterFor_66 rfl (by decide) (by decide) (hk_nk1 rfl ho2) rfl ?_
  refine hs_goto dX1_isBetterFor_69 (tgt := 4) (by decide) ?_
  exact k
theorem b_X1_isBetterFor_72 {G : hk_G} {d cb sb : Nat} {h : hk_H} {Q : hk_O → hk_H → Prop} {x2 : Int32} {o0 : Option Value} {o1 : Option Value} {o3 : Option Value} {o4 : Option Value} (hq : Q (.inl (some (.int x2))) h) (hb : x2 = 0 ∨ x2 = 1) : hk_S G m_X1_isBetterFor (d + 1) cb sb 72 [o0, o1, some (.int x2), o3, o4] [] h Q := by
  refine hs_iload_n dX1_isBetterFor_72 rfl ?_
  exact hs_zret dX1_isBetterFor_73 rfl hb hq
-- HonestHouse$Market.isBettered(I)Z
theorem b_X1_isBettered_0 {G : hk_G} {d cb sb : Nat} {h : hk_H} {Q : hk_O → hk_H → Prop} {r0 : Nat} {x1 : Int32} {fs1 : List Value} {v3 : Nat} {o2 : Option Value} {o3 : Option Value} {o4 : Option Value} {o5 : Option Value} (hg2 : h.2 r0 = some (.inr (1, fs1))) (hv4 : fs1[7]? = some (.ref v3)) (hc : hk_Cv G m_X1_read d 0 0 [.ref r0, .int x1, .ref v3] h (fun h' => hk_S G m_X1_isBettered (d + 1) cb sb 9 [some (.ref r0), some (.int x1), o2, o3, o4, o5] [] h' Q)) : hk_S G m_X1_isBettered (d + 1) cb sb 0 [some (.ref r0), some (.int x1), o2, o3, o4, o5] [] h Q := by
  refine hs_aload_n dX1_isBettered_0 rfl ?_
  refine hs_iload_n dX1_isBettered_1 rfl ?_
  refine hs_aload_n dX1_isBettered_2 rfl ?_
  refine hs_get dX1_isBettered_3 fl_X1_43_1 hg2 hv4 ?_
  exact hk_z0 (hs_vir (M' := m_X1_read) (vs := [.int x1, .ref v3]) (c1 := 0) (s1 := 0) dX1_isBettered_6 wd_741 vi_X1_read hg2 rfl (Nat.le_of_ble_eq_true rfl) hc hq_v (hc_v (fun h9 k9 => k9)))
theorem b_X1_isBettered_9 {G : hk_G} {d cb sb : Nat} {h : hk_H} {Q : hk_O → hk_H → Prop} {r0 : Nat} {fs1 : List Value} {v3 : Nat} {n5 : Nat} {t7 : Nat} {x6 : (Nat → Int32) ⊕ (Nat → Int64) ⊕ (Nat → UInt32) ⊕ (Nat → UInt64) ⊕ (Nat → Option Nat)} {o1 : Option Value} {o2 : Option Value} {o3 : Option Value} {o4 : Option Value} {o5 : Option Value} (hg2 : h.2 r0 = some (.inr (1, fs1))) (hv4 : fs1[1]? = some (.ref v3)) (ha8 : h.2 v3 = some (.inl (t7, n5, x6))) (ht9 : t7 < 5) (k : hk_S G m_X1_isBettered (d + 1) cb sb 20 [some (.ref r0), o1, some (.ref v3), some (.int (Int32.ofNat n5)), some (.int 0), o5] [] h Q) (ho1 : hk_c1 o1 := by first | exact hk_c1i | exact hk_c1r | exact hk_c10 | exact hk_c1n) : hk_S G m_X1_isBettered (d + 1) cb sb 9 [some (.ref r0), o1, o2, o3, o4, o5] [] h Q := by
  refine hs_aload_n dX1_isBettered_9 rfl ?_
  refine hs_get dX1_isBettered_10 fl_X1_25_1 hg2 hv4 ?_
  refine hs_astK_n dX1_isBettered_13 (by decide) (hk_nk1 rfl ho1) rfl ?_
  refine hs_aload_n dX1_isBettered_14 rfl ?_
  refine hs_alen dX1_isBettered_15 ha8 ht9 ?_
  refine hs_istK_n dX1_isBettered_16 (by decide) (hk_nk1 rfl hk_c1r) rfl ?_
  refine hs_iconst (v := 0) dX1_isBettered_17 (by decide) ?_
  refine hs_istK dX1_isBettered_18 (by decide) (hk_nk1 rfl hk_c1i) rfl ?_
  exact k
theorem b_X1_isBettered_20 {G : hk_G} {d cb sb : Nat} {h : hk_H} {Q : hk_O → hk_H → Prop} {x4 : Int32} {x3 : Int32} {o0 : Option Value} {o1 : Option Value} {o2 : Option Value} {o5 : Option Value} (kt : x3 ≤ x4 → hk_S G m_X1_isBettered (d + 1) cb sb 65 [o0, o1, o2, some (.int x3), some (.int x4), o5] [] h Q) (kf : ¬ x3 ≤ x4 → hk_S G m_X1_isBettered (d + 1) cb sb 26 [o0, o1, o2, some (.int x3), some (.int x4), o5] [] h Q) : hk_S G m_X1_isBettered (d + 1) cb sb 20 [o0, o1, o2, some (.int x3), some (.int x4), o5] [] h Q := by
  refine hs_iload dX1_isBettered_20 rfl ?_
  refine hs_iload_n dX1_isBettered_22 rfl ?_
  exact hs_icmp_ge dX1_isBettered_23 (by decide) kt kf
theorem b_X1_isBettered_26 {G : hk_G} {d cb sb : Nat} {h : hk_H} {Q : hk_O → hk_H → Prop} {r2 : Nat} {x4 : Int32} {n1 : Nat} {f2 : Nat → Int32} {r0 : Nat} {fs7 : List Value} {v9 : Nat} {o1 : Option Value} {o3 : Option Value} {o5 : Option Value} (ha3 : h.2 r2 = some (.inl (0, n1, .inl f2))) (j4 : Nat) (hi5 : (x4 : Int32).toInt = (j4 : Int)) (hj6 : j4 < n1) (hg8 : h.2 r0 = some (.inr (1, fs7))) (hv10 : fs7[8]? = some (.ref v9)) (hc : hk_Cv G m_X1_read d 0 0 [.ref r0, .int (f2 j4), .ref v9] h (fun h' => hk_S G m_X1_isBettered (d + 1) cb sb 42 [some (.ref r0), o1, some (.ref r2), o3, some (.int x4), some (.int (f2 j4))] [] h' Q)) : hk_S G m_X1_isBettered (d + 1) cb sb 26 [some (.ref r0), o1, some (.ref r2), o3, some (.int x4), o5] [] h Q := by
  refine hs_aload_n dX1_isBettered_26 rfl ?_
  refine hs_iload dX1_isBettered_27 rfl ?_
  refine hs_iald j4 dX1_isBettered_29 ha3 hi5 hj6 ?_
  refine hs_istK dX1_isBettered_30 (by decide) (hk_nk1 rfl hk_c1i) rfl ?_
  refine hs_aload_n dX1_isBettered_32 rfl ?_
  refine hs_iload dX1_isBettered_33 rfl ?_
  refine hs_aload_n dX1_isBettered_35 rfl ?_
  refine hs_get dX1_isBettered_36 fl_X1_46_1 hg8 hv10 ?_
  exact hk_z0 (hs_vir (M' := m_X1_read) (vs := [.int (f2 j4), .ref v9]) (c1 := 0) (s1 := 0) dX1_isBettered_39 wd_741 vi_X1_read hg8 rfl (Nat.le_of_ble_eq_true rfl) hc hq_v (hc_v (fun h9 k9 => k9)))
theorem b_X1_isBettered_42 {G : hk_G} {d cb sb : Nat} {h : hk_H} {Q : hk_O → hk_H → Prop} {r0 : Nat} {fs1 : List Value} {v3 : Int32} {o1 : Option Value} {o2 : Option Value} {o3 : Option Value} {o4 : Option Value} {o5 : Option Value} (hg2 : h.2 r0 = some (.inr (1, fs1))) (hv4 : fs1[0]? = some (.int v3)) (hc : hk_Ci G m_X1_isBetterFor d 0 0 [.ref r0, .int ((1 <<< (v3 &&& 31)) - 1)] h (fun z h' => hk_S G m_X1_isBettered (d + 1) cb sb 54 [some (.ref r0), o1, o2, o3, o4, o5] [.int z] h' Q)) : hk_S G m_X1_isBettered (d + 1) cb sb 42 [some (.ref r0), o1, o2, o3, o4, o5] [] h Q := by
  refine hs_aload_n dX1_isBettered_42 rfl ?_
  refine hs_iconst (v := 1) dX1_isBettered_43 (by decide) ?_
  refine hs_aload_n dX1_isBettered_44 rfl ?_
  refine hs_get dX1_isBettered_45 fl_X1_9_1 hg2 hv4 ?_
  refine hs_ishl dX1_isBettered_48 ?_
  refine hs_iconst (v := 1) dX1_isBettered_49 (by decide) ?_
  refine hs_isub dX1_isBettered_50 ?_
  exact hk_z0 (hs_vir (M' := m_X1_isBetterFor) (vs := [.int ((1 <<< (v3 &&& 31)) - 1)]) (c1 := 0) (s1 := 0) dX1_isBettered_51 wd_793 vi_X1_isBetterFor hg2 rfl (Nat.le_of_ble_eq_true rfl) hc hq_i (hc_i (fun z h9 k9 => k9)))
theorem b_X1_isBettered_54 {G : hk_G} {d cb sb : Nat} {h : hk_H} {Q : hk_O → hk_H → Prop} {s0 : Int32} {o0 : Option Value} {o1 : Option Value} {o2 : Option Value} {o3 : Option Value} {o4 : Option Value} {o5 : Option Value} (kt : s0 = 0 → hk_S G m_X1_isBettered (d + 1) cb sb 59 [o0, o1, o2, o3, o4, o5] [] h Q) (kf : ¬ s0 = 0 → hk_S G m_X1_isBettered (d + 1) cb sb 57 [o0, o1, o2, o3, o4, o5] [] h Q) : hk_S G m_X1_isBettered (d + 1) cb sb 54 [o0, o1, o2, o3, o4, o5] [.int s0] h Q := by
  exact hs_if_eq dX1_isBettered_54 (by decide) kt kf
theorem b_X1_isBettered_57 {G : hk_G} {d cb sb : Nat} {h : hk_H} {Q : hk_O → hk_H → Prop} {o0 : Option Value} {o1 : Option Value} {o2 : Option Value} {o3 : Option Value} {o4 : Option Value} {o5 : Option Value} (hq : Q (.inl (some (.int 1))) h) : hk_S G m_X1_isBettered (d + 1) cb sb 57 [o0, o1, o2, o3, o4, o5] [] h Q := by
  refine hs_iconst (v := 1) dX1_isBettered_57 (by decide) ?_
  exact hs_zret dX1_isBettered_58 rfl (by decide) hq
theorem b_X1_isBettered_59 {G : hk_G} {d cb sb : Nat} {h : hk_H} {Q : hk_O → hk_H → Prop} {x4 : Int32} {o0 : Option Value} {o1 : Option Value} {o2 : Option Value} {o3 : Option Value} {o5 : Option Value} (k : hk_S G m_X1_isBettered (d + 1) cb sb 20 [o0, o1, o2, o3, some (.int (x4 + 1)), o5] [] h Q) (ho3 : hk_c1 o3 := by first | exact hk_c1i | exact hk_c1r | exact hk_c10 | exact hk_c1n) : hk_S G m_X1_isBettered (d + 1) cb sb 59 [o0, o1, o2, o3, some (.int x4), o5] [] h Q := by
  refine hs_iincK (v := 1) dX1_isBettered_59 rfl (by decide) (by decide) (hk_nk1 rfl ho3) rfl ?_
  refine hs_goto dX1_isBettered_62 (tgt := 20) (by decide) ?_
  exact k
theorem b_X1_isBettered_65 {G : hk_G} {d cb sb : Nat} {h : hk_H} {Q : hk_O → hk_H → Prop} {o0 : Option Value} {o1 : Option Value} {o2 : Option Value} {o3 : Option Value} {o4 : Option Value} {o5 : Option Value} (hq : Q (.inl (some (.int 0))) h) : hk_S G m_X1_isBettered (d + 1) cb sb 65 [o0, o1, o2, o3, o4, o5] [] h Q := by
  refine hs_iconst (v := 0) dX1_isBettered_65 (by decide) ?_
  exact hs_zret dX1_isBettered_66 rfl (by decide) hq
-- HonestHouse$Market.goodTrades()I
theorem b_X1_goodTrades_0 {G : hk_G} {d cb sb : Nat} {h : hk_H} {Q : hk_O → hk_H → Prop} {r0 : Nat} {fs1 : List Value} {v3 : Nat} {n5 : Nat} {t7 : Nat} {x6 : (Nat → Int32) ⊕ (Nat → Int64) ⊕ (Nat → UInt32) ⊕ (Nat → UInt64) ⊕ (Nat → Option Nat)} {o1 : Option Value} {o2 : Option Value} {o3 : Option Value} {o4 : Option Value} {o5 : Option Value} (hg2 : h.2 r0 = some (.inr (1, fs1))) (hv4 : fs1[1]? = some (.ref v3)) (ha8 : h.2 v3 = some (.inl (t7, n5, x6))) (ht9 : t7 < 5) (k : hk_S G m_X1_goodTrades (d + 1) cb sb 13 [some (.ref r0), some (.int 0), some (.ref v3), some (.int (Int32.ofNat n5)), some (.int 0), o5] [] h Q) : hk_S G m_X1_goodTrades (d + 1) cb sb 0 [some (.ref r0), o1, o2, o3, o4, o5] [] h Q := by
  refine hs_iconst (v := 0) dX1_goodTrades_0 (by decide) ?_
  refine hs_istK_n dX1_goodTrades_1 (by decide) (hk_nk1 rfl hk_c1r) rfl ?_
  refine hs_aload_n dX1_goodTrades_2 rfl ?_
  refine hs_get dX1_goodTrades_3 fl_X1_25_1 hg2 hv4 ?_
  refine hs_astK_n dX1_goodTrades_6 (by decide) (hk_nk1 rfl hk_c1i) rfl ?_
  refine hs_aload_n dX1_goodTrades_7 rfl ?_
  refine hs_alen dX1_goodTrades_8 ha8 ht9 ?_
  refine hs_istK_n dX1_goodTrades_9 (by decide) (hk_nk1 rfl hk_c1r) rfl ?_
  refine hs_iconst (v := 0) dX1_goodTrades_10 (by decide) ?_
  refine hs_istK dX1_goodTrades_11 (by decide) (hk_nk1 rfl hk_c1i) rfl ?_
  exact k
theorem b_X1_goodTrades_13 {G : hk_G} {d cb sb : Nat} {h : hk_H} {Q : hk_O → hk_H → Prop} {x4 : Int32} {x3 : Int32} {o0 : Option Value} {o1 : Option Value} {o2 : Option Value} {o5 : Option Value} (kt : x3 ≤ x4 → hk_S G m_X1_goodTrades (d + 1) cb sb 43 [o0, o1, o2, some (.int x3), some (.int x4), o5] [] h Q) (kf : ¬ x3 ≤ x4 → hk_S G m_X1_goodTrades (d + 1) cb sb 19 [o0, o1, o2, some (.int x3), some (.int x4), o5] [] h Q) : hk_S G m_X1_goodTrades (d + 1) cb sb 13 [o0, o1, o2, some (.int x3), some (.int x4), o5] [] h Q := by
  refine hs_iload dX1_goodTrades_13 rfl ?_
  refine hs_iload_n dX1_goodTrades_15 rfl ?_
  exact hs_icmp_ge dX1_goodTrades_16 (by decide) kt kf
theorem b_X1_goodTrades_19 {G : hk_G} {d cb sb : Nat} {h : hk_H} {Q : hk_O → hk_H → Prop} {r2 : Nat} {x4 : Int32} {n1 : Nat} {f2 : Nat → Int32} {r0 : Nat} {fs_ : List Value} {o1 : Option Value} {o3 : Option Value} {o5 : Option Value} (ha3 : h.2 r2 = some (.inl (0, n1, .inl f2))) (j4 : Nat) (hi5 : (x4 : Int32).toInt = (j4 : Int)) (hj6 : j4 < n1) (hrec : h.2 r0 = some (.inr (1, fs_))) (hc : hk_Ci G m_X1_isBettered d 0 0 [.ref r0, .int (f2 j4)] h (fun z h' => hk_S G m_X1_goodTrades (d + 1) cb sb 31 [some (.ref r0), o1, some (.ref r2), o3, some (.int x4), some (.int (f2 j4))] [.int z] h' Q)) : hk_S G m_X1_goodTrades (d + 1) cb sb 19 [some (.ref r0), o1, some (.ref r2), o3, some (.int x4), o5] [] h Q := by
  refine hs_aload_n dX1_goodTrades_19 rfl ?_
  refine hs_iload dX1_goodTrades_20 rfl ?_
  refine hs_iald j4 dX1_goodTrades_22 ha3 hi5 hj6 ?_
  refine hs_istK dX1_goodTrades_23 (by decide) (hk_nk1 rfl hk_c1i) rfl ?_
  refine hs_aload_n dX1_goodTrades_25 rfl ?_
  refine hs_iload dX1_goodTrades_26 rfl ?_
  exact hk_z0 (hs_vir (M' := m_X1_isBettered) (vs := [.int (f2 j4)]) (c1 := 0) (s1 := 0) dX1_goodTrades_28 wd_843 vi_X1_isBettered hrec rfl (Nat.le_of_ble_eq_true rfl) hc hq_i (hc_i (fun z h9 k9 => k9)))
theorem b_X1_goodTrades_31 {G : hk_G} {d cb sb : Nat} {h : hk_H} {Q : hk_O → hk_H → Prop} {s0 : Int32} {o0 : Option Value} {o1 : Option Value} {o2 : Option Value} {o3 : Option Value} {o4 : Option Value} {o5 : Option Value} (kt : ¬ s0 = 0 → hk_S G m_X1_goodTrades (d + 1) cb sb 37 [o0, o1, o2, o3, o4, o5] [] h Q) (kf : s0 = 0 → hk_S G m_X1_goodTrades (d + 1) cb sb 34 [o0, o1, o2, o3, o4, o5] [] h Q) : hk_S G m_X1_goodTrades (d + 1) cb sb 31 [o0, o1, o2, o3, o4, o5] [.int s0] h Q := by
  exact hs_if_ne dX1_goodTrades_31 (by decide) kt kf
theorem b_X1_goodTrades_34 {G : hk_G} {d cb sb : Nat} {h : hk_H} {Q : hk_O → hk_H → Prop} {x1 : Int32} {x4 : Int32} {o0 : Option Value} {o2 : Option Value} {o3 : Option Value} {o5 : Option Value} (k : hk_S G m_X1_goodTrades (d + 1) cb sb 13 [o0, some (.int (x1 + 1)), o2, o3, some (.int (x4 + 1)), o5] [] h Q) (ho0 : hk_c1 o0 := by first | exact hk_c1i | exact hk_c1r | exact hk_c10 | exact hk_c1n) (ho3 : hk_c1 o3 := by first | exact hk_c1i | exact hk_c1r | exact hk_c10 | exact hk_c1n) : hk_S G m_X1_goodTrades (d + 1) cb sb 34 [o0, some (.int x1), o2, o3, some (.int x4), o5] [] h Q := by
  refine hs_iincK (v := 1) dX1_goodTrades_34 rfl (by decide) (by decide) (hk_nk1 rfl ho0) rfl ?_
  refine hs_iincK (v := 1) dX1_goodTrades_37 rfl (by decide) (by decide) (hk_nk1 rfl ho3) rfl ?_
  refine hs_goto dX1_goodTrades_40 (tgt := 13) (by decide) ?_
  exact k
theorem b_X1_goodTrades_37 {G : hk_G} {d cb sb : Nat} {h : hk_H} {Q : hk_O → hk_H → Prop} {x4 : Int32} {o0 : Option Value} {o1 : Option Value} {o2 : Option Value} {o3 : Option Value} {o5 : Option Value} (k : hk_S G m_X1_goodTrades (d + 1) cb sb 13 [o0, o1, o2, o3, some (.int (x4 + 1)), o5] [] h Q) (ho3 : hk_c1 o3 := by first | exact hk_c1i | exact hk_c1r | exact hk_c10 | exact hk_c1n) : hk_S G m_X1_goodTrades (d + 1) cb sb 37 [o0, o1, o2, o3, some (.int x4), o5] [] h Q := by
  refine hs_iincK (v := 1) dX1_goodTrades_37 rfl (by decide) (by decide) (hk_nk1 rfl ho3) rfl ?_
  refine hs_goto dX1_goodTrades_40 (tgt := 13) (by decide) ?_
  exact k
theorem b_X1_goodTrades_43 {G : hk_G} {d cb sb : Nat} {h : hk_H} {Q : hk_O → hk_H → Prop} {x1 : Int32} {o0 : Option Value} {o2 : Option Value} {o3 : Option Value} {o4 : Option Value} {o5 : Option Value} (hq : Q (.inl (some (.int x1))) h) : hk_S G m_X1_goodTrades (d + 1) cb sb 43 [o0, some (.int x1), o2, o3, o4, o5] [] h Q := by
  refine hs_iload_n dX1_goodTrades_43 rfl ?_
  exact hs_iret dX1_goodTrades_44 rfl hq
-- HonestHouse$Market.coreTrades()I
theorem b_X1_coreTrades_0 {G : hk_G} {d cb sb : Nat} {h : hk_H} {Q : hk_O → hk_H → Prop} {r0 : Nat} {fs1 : List Value} {v3 : Nat} {n5 : Nat} {t7 : Nat} {x6 : (Nat → Int32) ⊕ (Nat → Int64) ⊕ (Nat → UInt32) ⊕ (Nat → UInt64) ⊕ (Nat → Option Nat)} {o1 : Option Value} {o2 : Option Value} {o3 : Option Value} {o4 : Option Value} {o5 : Option Value} (hg2 : h.2 r0 = some (.inr (1, fs1))) (hv4 : fs1[1]? = some (.ref v3)) (ha8 : h.2 v3 = some (.inl (t7, n5, x6))) (ht9 : t7 < 5) (k : hk_S G m_X1_coreTrades (d + 1) cb sb 13 [some (.ref r0), some (.int 0), some (.ref v3), some (.int (Int32.ofNat n5)), some (.int 0), o5] [] h Q) : hk_S G m_X1_coreTrades (d + 1) cb sb 0 [some (.ref r0), o1, o2, o3, o4, o5] [] h Q := by
  refine hs_iconst (v := 0) dX1_coreTrades_0 (by decide) ?_
  refine hs_istK_n dX1_coreTrades_1 (by decide) (hk_nk1 rfl hk_c1r) rfl ?_
  refine hs_aload_n dX1_coreTrades_2 rfl ?_
  refine hs_get dX1_coreTrades_3 fl_X1_25_1 hg2 hv4 ?_
  refine hs_astK_n dX1_coreTrades_6 (by decide) (hk_nk1 rfl hk_c1i) rfl ?_
  refine hs_aload_n dX1_coreTrades_7 rfl ?_
  refine hs_alen dX1_coreTrades_8 ha8 ht9 ?_
  refine hs_istK_n dX1_coreTrades_9 (by decide) (hk_nk1 rfl hk_c1r) rfl ?_
  refine hs_iconst (v := 0) dX1_coreTrades_10 (by decide) ?_
  refine hs_istK dX1_coreTrades_11 (by decide) (hk_nk1 rfl hk_c1i) rfl ?_
  exact k
theorem b_X1_coreTrades_13 {G : hk_G} {d cb sb : Nat} {h : hk_H} {Q : hk_O → hk_H → Prop} {x4 : Int32} {x3 : Int32} {o0 : Option Value} {o1 : Option Value} {o2 : Option Value} {o5 : Option Value} (kt : x3 ≤ x4 → hk_S G m_X1_coreTrades (d + 1) cb sb 43 [o0, o1, o2, some (.int x3), some (.int x4), o5] [] h Q) (kf : ¬ x3 ≤ x4 → hk_S G m_X1_coreTrades (d + 1) cb sb 19 [o0, o1, o2, some (.int x3), some (.int x4), o5] [] h Q) : hk_S G m_X1_coreTrades (d + 1) cb sb 13 [o0, o1, o2, some (.int x3), some (.int x4), o5] [] h Q := by
  refine hs_iload dX1_coreTrades_13 rfl ?_
  refine hs_iload_n dX1_coreTrades_15 rfl ?_
  exact hs_icmp_ge dX1_coreTrades_16 (by decide) kt kf
theorem b_X1_coreTrades_19 {G : hk_G} {d cb sb : Nat} {h : hk_H} {Q : hk_O → hk_H → Prop} {r2 : Nat} {x4 : Int32} {n1 : Nat} {f2 : Nat → Int32} {r0 : Nat} {fs_ : List Value} {o1 : Option Value} {o3 : Option Value} {o5 : Option Value} (ha3 : h.2 r2 = some (.inl (0, n1, .inl f2))) (j4 : Nat) (hi5 : (x4 : Int32).toInt = (j4 : Int)) (hj6 : j4 < n1) (hrec : h.2 r0 = some (.inr (1, fs_))) (hc : hk_Ci G m_X1_leastBlocking d 0 0 [.ref r0, .int (f2 j4)] h (fun z h' => hk_S G m_X1_coreTrades (d + 1) cb sb 31 [some (.ref r0), o1, some (.ref r2), o3, some (.int x4), some (.int (f2 j4))] [.int z] h' Q)) : hk_S G m_X1_coreTrades (d + 1) cb sb 19 [some (.ref r0), o1, some (.ref r2), o3, some (.int x4), o5] [] h Q := by
  refine hs_aload_n dX1_coreTrades_19 rfl ?_
  refine hs_iload dX1_coreTrades_20 rfl ?_
  refine hs_iald j4 dX1_coreTrades_22 ha3 hi5 hj6 ?_
  refine hs_istK dX1_coreTrades_23 (by decide) (hk_nk1 rfl hk_c1i) rfl ?_
  refine hs_aload_n dX1_coreTrades_25 rfl ?_
  refine hs_iload dX1_coreTrades_26 rfl ?_
  exact hk_z0 (hs_vir (M' := m_X1_leastBlocking) (vs := [.int (f2 j4)]) (c1 := 0) (s1 := 0) dX1_coreTrades_28 wd_848 vi_X1_leastBlocking hrec rfl (Nat.le_of_ble_eq_true rfl) hc hq_i (hc_i (fun z h9 k9 => k9)))
theorem b_X1_coreTrades_31 {G : hk_G} {d cb sb : Nat} {h : hk_H} {Q : hk_O → hk_H → Prop} {s0 : Int32} {o0 : Option Value} {o1 : Option Value} {o2 : Option Value} {o3 : Option Value} {o4 : Option Value} {o5 : Option Value} (kt : ¬ s0 = 0 → hk_S G m_X1_coreTrades (d + 1) cb sb 37 [o0, o1, o2, o3, o4, o5] [] h Q) (kf : s0 = 0 → hk_S G m_X1_coreTrades (d + 1) cb sb 34 [o0, o1, o2, o3, o4, o5] [] h Q) : hk_S G m_X1_coreTrades (d + 1) cb sb 31 [o0, o1, o2, o3, o4, o5] [.int s0] h Q := by
  exact hs_if_ne dX1_coreTrades_31 (by decide) kt kf
theorem b_X1_coreTrades_34 {G : hk_G} {d cb sb : Nat} {h : hk_H} {Q : hk_O → hk_H → Prop} {x1 : Int32} {x4 : Int32} {o0 : Option Value} {o2 : Option Value} {o3 : Option Value} {o5 : Option Value} (k : hk_S G m_X1_coreTrades (d + 1) cb sb 13 [o0, some (.int (x1 + 1)), o2, o3, some (.int (x4 + 1)), o5] [] h Q) (ho0 : hk_c1 o0 := by first | exact hk_c1i | exact hk_c1r | exact hk_c10 | exact hk_c1n) (ho3 : hk_c1 o3 := by first | exact hk_c1i | exact hk_c1r | exact hk_c10 | exact hk_c1n) : hk_S G m_X1_coreTrades (d + 1) cb sb 34 [o0, some (.int x1), o2, o3, some (.int x4), o5] [] h Q := by
  refine hs_iincK (v := 1) dX1_coreTrades_34 rfl (by decide) (by decide) (hk_nk1 rfl ho0) rfl ?_
  refine hs_iincK (v := 1) dX1_coreTrades_37 rfl (by decide) (by decide) (hk_nk1 rfl ho3) rfl ?_
  refine hs_goto dX1_coreTrades_40 (tgt := 13) (by decide) ?_
  exact k
theorem b_X1_coreTrades_37 {G : hk_G} {d cb sb : Nat} {h : hk_H} {Q : hk_O → hk_H → Prop} {x4 : Int32} {o0 : Option Value} {o1 : Option Value} {o2 : Option Value} {o3 : Option Value} {o5 : Option Value} (k : hk_S G m_X1_coreTrades (d + 1) cb sb 13 [o0, o1, o2, o3, some (.int (x4 + 1)), o5] [] h Q) (ho3 : hk_c1 o3 := by first | exact hk_c1i | exact hk_c1r | exact hk_c10 | exact hk_c1n) : hk_S G m_X1_coreTrades (d + 1) cb sb 37 [o0, o1, o2, o3, some (.int x4), o5] [] h Q := by
  refine hs_iincK (v := 1) dX1_coreTrades_37 rfl (by decide) (by decide) (hk_nk1 rfl ho3) rfl ?_
  refine hs_goto dX1_coreTrades_40 (tgt := 13) (by decide) ?_
  exact k
theorem b_X1_coreTrades_43 {G : hk_G} {d cb sb : Nat} {h : hk_H} {Q : hk_O → hk_H → Prop} {x1 : Int32} {o0 : Option Value} {o2 : Option Value} {o3 : Option Value} {o4 : Option Value} {o5 : Option Value} (hq : Q (.inl (some (.int x1))) h) : hk_S G m_X1_coreTrades (d + 1) cb sb 43 [o0, some (.int x1), o2, o3, o4, o5] [] h Q := by
  refine hs_iload_n dX1_coreTrades_43 rfl ?_
  exact hs_iret dX1_coreTrades_44 rfl hq
-- HonestHouse$Market.leastLie(I)I
theorem b_X1_leastLie_0 {G : hk_G} {d cb sb : Nat} {h : hk_H} {Q : hk_O → hk_H → Prop} {r0 : Nat} {x1 : Int32} {fs_ : List Value} {o2 : Option Value} {o3 : Option Value} {o4 : Option Value} {o5 : Option Value} {o6 : Option Value} (hrec : h.2 r0 = some (.inr (1, fs_))) (hc : hk_Ci G m_X1_orderOf d 0 0 [.ref r0, .int x1] h (fun z h' => hk_S G m_X1_leastLie (d + 1) cb sb 5 [some (.ref r0), some (.int x1), o2, o3, o4, o5, o6] [.int z] h' Q)) : hk_S G m_X1_leastLie (d + 1) cb sb 0 [some (.ref r0), some (.int x1), o2, o3, o4, o5, o6] [] h Q := by
  refine hs_aload_n dX1_leastLie_0 rfl ?_
  refine hs_iload_n dX1_leastLie_1 rfl ?_
  exact hk_z0 (hs_vir (M' := m_X1_orderOf) (vs := [.int x1]) (c1 := 0) (s1 := 0) dX1_leastLie_2 wd_825 vi_X1_orderOf hrec rfl (Nat.le_of_ble_eq_true rfl) hc hq_i (hc_i (fun z h9 k9 => k9)))
theorem b_X1_leastLie_5 {G : hk_G} {d cb sb : Nat} {h : hk_H} {Q : hk_O → hk_H → Prop} {s0 : Int32} {r0 : Nat} {fs_ : List Value} {o1 : Option Value} {o2 : Option Value} {o3 : Option Value} {o4 : Option Value} {o5 : Option Value} {o6 : Option Value} (hrec : h.2 r0 = some (.inr (1, fs_))) (hc : hk_Ci G m_X1_tradeByRings d 0 0 [.ref r0] h (fun z h' => hk_S G m_X1_leastLie (d + 1) cb sb 10 [some (.ref r0), o1, some (.int s0), o3, o4, o5, o6] [.int z] h' Q)) (ho1 : hk_c1 o1 := by first | exact hk_c1i | exact hk_c1r | exact hk_c10 | exact hk_c1n) : hk_S G m_X1_leastLie (d + 1) cb sb 5 [some (.ref r0), o1, o2, o3, o4, o5, o6] [.int s0] h Q := by
  refine hs_istK_n dX1_leastLie_5 (by decide) (hk_nk1 rfl ho1) rfl ?_
  refine hs_aload_n dX1_leastLie_6 rfl ?_
  exact hk_z0 (hs_vir (M' := m_X1_tradeByRings) (vs := []) (c1 := 0) (s1 := 0) dX1_leastLie_7 wd_829 vi_X1_tradeByRings hrec rfl (Nat.le_of_ble_eq_true rfl) hc hq_i (hc_i (fun z h9 k9 => k9)))
theorem b_X1_leastLie_10 {G : hk_G} {d cb sb : Nat} {h : hk_H} {Q : hk_O → hk_H → Prop} {s0 : Int32} {r0 : Nat} {x1 : Int32} {fs1 : List Value} {v3 : Nat} {n5 : Nat} {f6 : Nat → Int32} {o2 : Option Value} {o3 : Option Value} {o4 : Option Value} {o5 : Option Value} {o6 : Option Value} (hg2 : h.2 r0 = some (.inr (1, fs1))) (hv4 : fs1[5]? = some (.ref v3)) (ha7 : h.2 v3 = some (.inl (0, n5, .inl f6))) (j8 : Nat) (hi9 : (x1 : Int32).toInt = (j8 : Int)) (hj10 : j8 < n5) (hc : hk_Ci G m_X1_placeFor d 0 0 [.ref r0, .int x1, .int (f6 j8)] h (fun z h' => hk_S G m_X1_leastLie (d + 1) cb sb 22 [some (.ref r0), some (.int x1), o2, o3, o4, o5, o6] [.int z] h' Q)) : hk_S G m_X1_leastLie (d + 1) cb sb 10 [some (.ref r0), some (.int x1), o2, o3, o4, o5, o6] [.int s0] h Q := by
  refine hs_pop dX1_leastLie_10 rfl ?_
  refine hs_aload_n dX1_leastLie_11 rfl ?_
  refine hs_iload_n dX1_leastLie_12 rfl ?_
  refine hs_aload_n dX1_leastLie_13 rfl ?_
  refine hs_get dX1_leastLie_14 fl_X1_37_1 hg2 hv4 ?_
  refine hs_iload_n dX1_leastLie_17 rfl ?_
  refine hs_iald j8 dX1_leastLie_18 ha7 hi9 hj10 ?_
  exact hk_z0 (hs_vir (M' := m_X1_placeFor) (vs := [.int x1, .int (f6 j8)]) (c1 := 0) (s1 := 0) dX1_leastLie_19 wd_797 vi_X1_placeFor hg2 rfl (Nat.le_of_ble_eq_true rfl) hc hq_i (hc_i (fun z h9 k9 => k9)))
theorem b_X1_leastLie_22 {G : hk_G} {d cb sb : Nat} {h : hk_H} {Q : hk_O → hk_H → Prop} {s0 : Int32} {o0 : Option Value} {o1 : Option Value} {o2 : Option Value} {o3 : Option Value} {o4 : Option Value} {o5 : Option Value} {o6 : Option Value} (k : hk_S G m_X1_leastLie (d + 1) cb sb 30 [o0, o1, o2, some (.int s0), some (.int ((-2))), some (.int 0), o6] [] h Q) (ho2 : hk_c1 o2 := by first | exact hk_c1i | exact hk_c1r | exact hk_c10 | exact hk_c1n) : hk_S G m_X1_leastLie (d + 1) cb sb 22 [o0, o1, o2, o3, o4, o5, o6] [.int s0] h Q := by
  refine hs_istK_n dX1_leastLie_22 (by decide) (hk_nk1 rfl ho2) rfl ?_
  refine hs_bipush (v := (-2)) dX1_leastLie_23 (by decide) ?_
  refine hs_istK dX1_leastLie_25 (by decide) (hk_nk1 rfl hk_c1i) rfl ?_
  refine hs_iconst (v := 0) dX1_leastLie_27 (by decide) ?_
  refine hs_istK dX1_leastLie_28 (by decide) (hk_nk1 rfl hk_c1i) rfl ?_
  exact k
theorem b_X1_leastLie_30 {G : hk_G} {d cb sb : Nat} {h : hk_H} {Q : hk_O → hk_H → Prop} {x5 : Int32} {r0 : Nat} {fs1 : List Value} {v3 : Nat} {n5 : Nat} {t7 : Nat} {x6 : (Nat → Int32) ⊕ (Nat → Int64) ⊕ (Nat → UInt32) ⊕ (Nat → UInt64) ⊕ (Nat → Option Nat)} {o1 : Option Value} {o2 : Option Value} {o3 : Option Value} {o4 : Option Value} {o6 : Option Value} (hg2 : h.2 r0 = some (.inr (1, fs1))) (hv4 : fs1[1]? = some (.ref v3)) (ha8 : h.2 v3 = some (.inl (t7, n5, x6))) (ht9 : t7 < 5) (kt : (Int32.ofNat n5) ≤ x5 → hk_S G m_X1_leastLie (d + 1) cb sb 93 [some (.ref r0), o1, o2, o3, o4, some (.int x5), o6] [] h Q) (kf : ¬ (Int32.ofNat n5) ≤ x5 → hk_S G m_X1_leastLie (d + 1) cb sb 40 [some (.ref r0), o1, o2, o3, o4, some (.int x5), o6] [] h Q) : hk_S G m_X1_leastLie (d + 1) cb sb 30 [some (.ref r0), o1, o2, o3, o4, some (.int x5), o6] [] h Q := by
  refine hs_iload dX1_leastLie_30 rfl ?_
  refine hs_aload_n dX1_leastLie_32 rfl ?_
  refine hs_get dX1_leastLie_33 fl_X1_25_1 hg2 hv4 ?_
  refine hs_alen dX1_leastLie_36 ha8 ht9 ?_
  exact hs_icmp_ge dX1_leastLie_37 (by decide) kt kf
theorem b_X1_leastLie_40 {G : hk_G} {d cb sb : Nat} {h : hk_H} {Q : hk_O → hk_H → Prop} {x4 : Int32} {o0 : Option Value} {o1 : Option Value} {o2 : Option Value} {o3 : Option Value} {o5 : Option Value} {o6 : Option Value} (kt : ¬ x4 = ((-2)) → hk_S G m_X1_leastLie (d + 1) cb sb 93 [o0, o1, o2, o3, some (.int x4), o5, o6] [] h Q) (kf : x4 = ((-2)) → hk_S G m_X1_leastLie (d + 1) cb sb 47 [o0, o1, o2, o3, some (.int x4), o5, o6] [] h Q) : hk_S G m_X1_leastLie (d + 1) cb sb 40 [o0, o1, o2, o3, some (.int x4), o5, o6] [] h Q := by
  refine hs_iload dX1_leastLie_40 rfl ?_
  refine hs_bipush (v := (-2)) dX1_leastLie_42 (by decide) ?_
  exact hs_icmp_ne dX1_leastLie_44 (by decide) kt kf
theorem b_X1_leastLie_47 {G : hk_G} {d cb sb : Nat} {h : hk_H} {Q : hk_O → hk_H → Prop} {r0 : Nat} {x1 : Int32} {fs1 : List Value} {v3 : Nat} {x5 : Int32} {n5 : Nat} {f6 : Nat → Int32} {o2 : Option Value} {o3 : Option Value} {o4 : Option Value} {o6 : Option Value} (hg2 : h.2 r0 = some (.inr (1, fs1))) (hv4 : fs1[1]? = some (.ref v3)) (ha7 : h.2 v3 = some (.inl (0, n5, .inl f6))) (j8 : Nat) (hi9 : (x5 : Int32).toInt = (j8 : Int)) (hj10 : j8 < n5) (hc : hk_Ci G m_X1_thingBySaying d 0 0 [.ref r0, .int x1, .int (f6 j8)] h (fun z h' => hk_S G m_X1_leastLie (d + 1) cb sb 59 [some (.ref r0), some (.int x1), o2, o3, o4, some (.int x5), o6] [.int z] h' Q)) : hk_S G m_X1_leastLie (d + 1) cb sb 47 [some (.ref r0), some (.int x1), o2, o3, o4, some (.int x5), o6] [] h Q := by
  refine hs_aload_n dX1_leastLie_47 rfl ?_
  refine hs_iload_n dX1_leastLie_48 rfl ?_
  refine hs_aload_n dX1_leastLie_49 rfl ?_
  refine hs_get dX1_leastLie_50 fl_X1_25_1 hg2 hv4 ?_
  refine hs_iload dX1_leastLie_53 rfl ?_
  refine hs_iald j8 dX1_leastLie_55 ha7 hi9 hj10 ?_
  exact hk_z0 (hs_vir (M' := m_X1_thingBySaying) (vs := [.int x1, .int (f6 j8)]) (c1 := 0) (s1 := 0) dX1_leastLie_56 wd_830 vi_X1_thingBySaying hg2 rfl (Nat.le_of_ble_eq_true rfl) hc hq_i (hc_i (fun z h9 k9 => k9)))
theorem b_X1_leastLie_59 {G : hk_G} {d cb sb : Nat} {h : hk_H} {Q : hk_O → hk_H → Prop} {s0 : Int32} {r0 : Nat} {x1 : Int32} {x2 : Int32} {fs_ : List Value} {o3 : Option Value} {o4 : Option Value} {o5 : Option Value} {o6 : Option Value} (hrec : h.2 r0 = some (.inr (1, fs_))) (hc : hk_Cv G m_X1_learn d 0 0 [.ref r0, .int x1, .int x2] h (fun h' => hk_S G m_X1_leastLie (d + 1) cb sb 67 [some (.ref r0), some (.int x1), some (.int x2), o3, o4, o5, some (.int s0)] [] h' Q)) (ho5 : hk_c1 o5 := by first | exact hk_c1i | exact hk_c1r | exact hk_c10 | exact hk_c1n) : hk_S G m_X1_leastLie (d + 1) cb sb 59 [some (.ref r0), some (.int x1), some (.int x2), o3, o4, o5, o6] [.int s0] h Q := by
  refine hs_istK dX1_leastLie_59 (by decide) (hk_nk1 rfl ho5) rfl ?_
  refine hs_aload_n dX1_leastLie_61 rfl ?_
  refine hs_iload_n dX1_leastLie_62 rfl ?_
  refine hs_iload_n dX1_leastLie_63 rfl ?_
  exact hk_z0 (hs_vir (M' := m_X1_learn) (vs := [.int x1, .int x2]) (c1 := 0) (s1 := 0) dX1_leastLie_64 wd_834 vi_X1_learn hrec rfl (Nat.le_of_ble_eq_true rfl) hc hq_v (hc_v (fun h9 k9 => k9)))
theorem b_X1_leastLie_67 {G : hk_G} {d cb sb : Nat} {h : hk_H} {Q : hk_O → hk_H → Prop} {r0 : Nat} {x1 : Int32} {x6 : Int32} {fs_ : List Value} {o2 : Option Value} {o3 : Option Value} {o4 : Option Value} {o5 : Option Value} (hrec : h.2 r0 = some (.inr (1, fs_))) (hc : hk_Ci G m_X1_placeFor d 0 0 [.ref r0, .int x1, .int x6] h (fun z h' => hk_S G m_X1_leastLie (d + 1) cb sb 74 [some (.ref r0), some (.int x1), o2, o3, o4, o5, some (.int x6)] [.int z] h' Q)) : hk_S G m_X1_leastLie (d + 1) cb sb 67 [some (.ref r0), some (.int x1), o2, o3, o4, o5, some (.int x6)] [] h Q := by
  refine hs_aload_n dX1_leastLie_67 rfl ?_
  refine hs_iload_n dX1_leastLie_68 rfl ?_
  refine hs_iload dX1_leastLie_69 rfl ?_
  exact hk_z0 (hs_vir (M' := m_X1_placeFor) (vs := [.int x1, .int x6]) (c1 := 0) (s1 := 0) dX1_leastLie_71 wd_797 vi_X1_placeFor hrec rfl (Nat.le_of_ble_eq_true rfl) hc hq_i (hc_i (fun z h9 k9 => k9)))
theorem b_X1_leastLie_74 {G : hk_G} {d cb sb : Nat} {h : hk_H} {Q : hk_O → hk_H → Prop} {s0 : Int32} {x3 : Int32} {o0 : Option Value} {o1 : Option Value} {o2 : Option Value} {o4 : Option Value} {o5 : Option Value} {o6 : Option Value} (kt : x3 ≤ s0 → hk_S G m_X1_leastLie (d + 1) cb sb 87 [o0, o1, o2, some (.int x3), o4, o5, o6] [] h Q) (kf : ¬ x3 ≤ s0 → hk_S G m_X1_leastLie (d + 1) cb sb 78 [o0, o1, o2, some (.int x3), o4, o5, o6] [] h Q) : hk_S G m_X1_leastLie (d + 1) cb sb 74 [o0, o1, o2, some (.int x3), o4, o5, o6] [.int s0] h Q := by
  refine hs_iload_n dX1_leastLie_74 rfl ?_
  exact hs_icmp_ge dX1_leastLie_75 (by decide) kt kf
theorem b_X1_leastLie_78 {G : hk_G} {d cb sb : Nat} {h : hk_H} {Q : hk_O → hk_H → Prop} {r0 : Nat} {fs1 : List Value} {v3 : Nat} {x5 : Int32} {n5 : Nat} {f6 : Nat → Int32} {o1 : Option Value} {o2 : Option Value} {o3 : Option Value} {o4 : Option Value} {o6 : Option Value} (hg2 : h.2 r0 = some (.inr (1, fs1))) (hv4 : fs1[1]? = some (.ref v3)) (ha7 : h.2 v3 = some (.inl (0, n5, .inl f6))) (j8 : Nat) (hi9 : (x5 : Int32).toInt = (j8 : Int)) (hj10 : j8 < n5) (k : hk_S G m_X1_leastLie (d + 1) cb sb 30 [some (.ref r0), o1, o2, o3, some (.int (f6 j8)), some (.int (x5 + 1)), o6] [] h Q) (ho3 : hk_c1 o3 := by first | exact hk_c1i | exact hk_c1r | exact hk_c10 | exact hk_c1n) : hk_S G m_X1_leastLie (d + 1) cb sb 78 [some (.ref r0), o1, o2, o3, o4, some (.int x5), o6] [] h Q := by
  refine hs_aload_n dX1_leastLie_78 rfl ?_
  refine hs_get dX1_leastLie_79 fl_X1_25_1 hg2 hv4 ?_
  refine hs_iload dX1_leastLie_82 rfl ?_
  refine hs_iald j8 dX1_leastLie_84 ha7 hi9 hj10 ?_
  refine hs_istK dX1_leastLie_85 (by decide) (hk_nk1 rfl ho3) rfl ?_
  refine hs_iincK (v := 1) dX1_leastLie_87 rfl (by decide) (by decide) (hk_nk1 rfl hk_c1i) rfl ?_
  refine hs_goto dX1_leastLie_90 (tgt := 30) (by decide) ?_
  exact k
theorem b_X1_leastLie_87 {G : hk_G} {d cb sb : Nat} {h : hk_H} {Q : hk_O → hk_H → Prop} {x5 : Int32} {o0 : Option Value} {o1 : Option Value} {o2 : Option Value} {o3 : Option Value} {o4 : Option Value} {o6 : Option Value} (k : hk_S G m_X1_leastLie (d + 1) cb sb 30 [o0, o1, o2, o3, o4, some (.int (x5 + 1)), o6] [] h Q) (ho4 : hk_c1 o4 := by first | exact hk_c1i | exact hk_c1r | exact hk_c10 | exact hk_c1n) : hk_S G m_X1_leastLie (d + 1) cb sb 87 [o0, o1, o2, o3, o4, some (.int x5), o6] [] h Q := by
  refine hs_iincK (v := 1) dX1_leastLie_87 rfl (by decide) (by decide) (hk_nk1 rfl ho4) rfl ?_
  refine hs_goto dX1_leastLie_90 (tgt := 30) (by decide) ?_
  exact k
theorem b_X1_leastLie_93 {G : hk_G} {d cb sb : Nat} {h : hk_H} {Q : hk_O → hk_H → Prop} {x4 : Int32} {o0 : Option Value} {o1 : Option Value} {o2 : Option Value} {o3 : Option Value} {o5 : Option Value} {o6 : Option Value} (hq : Q (.inl (some (.int x4))) h) : hk_S G m_X1_leastLie (d + 1) cb sb 93 [o0, o1, o2, o3, some (.int x4), o5, o6] [] h Q := by
  refine hs_iload dX1_leastLie_93 rfl ?_
  exact hs_iret dX1_leastLie_95 rfl hq
-- HonestHouse$Market.thingBySaying(II)I
theorem b_X1_thingBySaying_0 {G : hk_G} {d cb sb : Nat} {h : hk_H} {Q : hk_O → hk_H → Prop} {r0 : Nat} {x1 : Int32} {x2 : Int32} {fs_ : List Value} (hrec : h.2 r0 = some (.inr (1, fs_))) (hc : hk_Cv G m_X1_learn d 0 0 [.ref r0, .int x1, .int x2] h (fun h' => hk_S G m_X1_thingBySaying (d + 1) cb sb 6 [some (.ref r0), some (.int x1), some (.int x2)] [] h' Q)) : hk_S G m_X1_thingBySaying (d + 1) cb sb 0 [some (.ref r0), some (.int x1), some (.int x2)] [] h Q := by
  refine hs_aload_n dX1_thingBySaying_0 rfl ?_
  refine hs_iload_n dX1_thingBySaying_1 rfl ?_
  refine hs_iload_n dX1_thingBySaying_2 rfl ?_
  exact hk_z0 (hs_vir (M' := m_X1_learn) (vs := [.int x1, .int x2]) (c1 := 0) (s1 := 0) dX1_thingBySaying_3 wd_834 vi_X1_learn hrec rfl (Nat.le_of_ble_eq_true rfl) hc hq_v (hc_v (fun h9 k9 => k9)))
theorem b_X1_thingBySaying_6 {G : hk_G} {d cb sb : Nat} {h : hk_H} {Q : hk_O → hk_H → Prop} {r0 : Nat} {fs_ : List Value} {o1 : Option Value} {o2 : Option Value} (hrec : h.2 r0 = some (.inr (1, fs_))) (hc : hk_Ci G m_X1_tradeByRings d 0 0 [.ref r0] h (fun z h' => hk_S G m_X1_thingBySaying (d + 1) cb sb 10 [some (.ref r0), o1, o2] [.int z] h' Q)) : hk_S G m_X1_thingBySaying (d + 1) cb sb 6 [some (.ref r0), o1, o2] [] h Q := by
  refine hs_aload_n dX1_thingBySaying_6 rfl ?_
  exact hk_z0 (hs_vir (M' := m_X1_tradeByRings) (vs := []) (c1 := 0) (s1 := 0) dX1_thingBySaying_7 wd_829 vi_X1_tradeByRings hrec rfl (Nat.le_of_ble_eq_true rfl) hc hq_i (hc_i (fun z h9 k9 => k9)))
theorem b_X1_thingBySaying_10 {G : hk_G} {d cb sb : Nat} {h : hk_H} {Q : hk_O → hk_H → Prop} {s0 : Int32} {r0 : Nat} {fs1 : List Value} {v3 : Nat} {x1 : Int32} {n5 : Nat} {f6 : Nat → Int32} {o2 : Option Value} (hg2 : h.2 r0 = some (.inr (1, fs1))) (hv4 : fs1[5]? = some (.ref v3)) (ha7 : h.2 v3 = some (.inl (0, n5, .inl f6))) (j8 : Nat) (hi9 : (x1 : Int32).toInt = (j8 : Int)) (hj10 : j8 < n5) (hq : Q (.inl (some (.int (f6 j8)))) h) : hk_S G m_X1_thingBySaying (d + 1) cb sb 10 [some (.ref r0), some (.int x1), o2] [.int s0] h Q := by
  refine hs_pop dX1_thingBySaying_10 rfl ?_
  refine hs_aload_n dX1_thingBySaying_11 rfl ?_
  refine hs_get dX1_thingBySaying_12 fl_X1_37_1 hg2 hv4 ?_
  refine hs_iload_n dX1_thingBySaying_15 rfl ?_
  refine hs_iald j8 dX1_thingBySaying_16 ha7 hi9 hj10 ?_
  exact hs_iret dX1_thingBySaying_17 rfl hq
