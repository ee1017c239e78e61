-- HonestHouse$Wishes.<init>(II)V
theorem b_X8_init_0 {G : hk_G} {d cb sb : Nat} {h : hk_H} {Q : hk_O → hk_H → Prop} {r0 : Nat} {x1 : Int32} {fs1 : List Value} {h_1 : hk_H} {x2 : Int32} {fs4 : List Value} {h_2 : hk_H} {h_3 : hk_H} {fs7 : List Value} {h_4 : hk_H} {h_5 : hk_H} {fs10 : List Value} {h_6 : hk_H} (hg2 : h.2 r0 = some (.inr (8, fs1))) (h4_r0 : 4 ≤ r0) (e_1 : (hk_set h r0 (.inr (8, fs1.set 0 (.int x1)))) = h_1) (hg5 : h_1.2 r0 = some (.inr (8, fs4))) (e_2 : (hk_set h_1 r0 (.inr (8, fs4.set 1 (.int x2)))) = h_2) (e_3 : (hk_new h_2 (.inl (0, 30, .inl (fun _ => 0)))) = h_3) (hg8 : h_3.2 r0 = some (.inr (8, fs7))) (e_4 : (hk_set h_3 r0 (.inr (8, fs7.set 2 (.ref h_2.1)))) = h_4) (e_5 : (hk_new h_4 (.inl (0, 5, .inl (fun _ => 0)))) = h_5) (hg11 : h_5.2 r0 = some (.inr (8, fs10))) (e_6 : (hk_set h_5 r0 (.inr (8, fs10.set 3 (.ref h_4.1)))) = h_6) (hq : Q (.inl none) h_6) (hl3 : 0 < fs1.length := by exact Nat.le_of_ble_eq_true rfl) (hl6 : 1 < fs4.length := by exact Nat.le_of_ble_eq_true rfl) (hl9 : 2 < fs7.length := by exact Nat.le_of_ble_eq_true rfl) (hl12 : 3 < fs10.length := by exact Nat.le_of_ble_eq_true rfl) : hk_S G m_X8_init d ((cb + 1) + 1) ((sb + 5) + 30) 0 [some (.ref r0), some (.int x1), some (.int x2)] [] h Q := by
  subst e_1
  subst e_2
  subst e_3
  subst e_4
  subst e_5
  subst e_6
  refine hs_aload_n dX8_init_0 rfl ?_
  refine hs_objInit (a := r0) dX8_init_1 ⟨wd_37, oi_.1, oi_.2⟩ (Nat.le_of_ble_eq_true rfl) ?_
  refine hs_aload_n dX8_init_4 rfl ?_
  refine hs_iload_n dX8_init_5 rfl ?_
  refine hs_putF (t := .int) dX8_init_6 rfl fw_X8_9_8 hg2 h4_r0 hl3 rfl rfl ?_
  refine hs_aload_n dX8_init_9 rfl ?_
  refine hs_iload_n dX8_init_10 rfl ?_
  refine hs_putF (t := .int) dX8_init_11 rfl fw_X8_15_8 hg5 h4_r0 hl6 rfl rfl ?_
  refine hs_aload_n dX8_init_14 rfl ?_
  refine hs_bipush (v := 30) dX8_init_15 (by decide) ?_
  refine hs_newi (N := 30) dX8_init_17 (by decide) (by decide) ?_
  refine hs_putF (t := .array .int) dX8_init_19 rfl fw_X8_18_8 hg8 h4_r0 hl9 rfl rfl ?_
  refine hs_aload_n dX8_init_22 rfl ?_
  refine hs_iconst (v := 5) dX8_init_23 (by decide) ?_
  refine hs_newi (N := 5) dX8_init_24 (by decide) (by decide) ?_
  refine hs_putF (t := .array .int) dX8_init_26 rfl fw_X8_22_8 hg11 h4_r0 hl12 rfl rfl ?_
  exact hs_vret dX8_init_29 rfl hq
-- HonestHouse$Wishes.come()I
theorem b_X8_come_0 {G : hk_G} {d cb sb : Nat} {h : hk_H} {Q : hk_O → hk_H → Prop} {r0 : Nat} {fs1 : List Value} {v3 : Int32} {h_1 : hk_H} {o1 : Option Value} {o2 : Option Value} (hg2 : h.2 r0 = some (.inr (8, fs1))) (hv4 : fs1[4]? = some (.int v3)) (h4_r0 : 4 ≤ r0) (e_1 : (hk_set h r0 (.inr (8, fs1.set 4 (.int (v3 + 1))))) = h_1) (k : hk_S G m_X8_come d cb sb 14 [some (.ref r0), some (.int 1), some (.int 0)] [] h_1 Q) (hl5 : 4 < fs1.length := by exact Nat.le_of_ble_eq_true rfl) : hk_S G m_X8_come d cb sb 0 [some (.ref r0), o1, o2] [] h Q := by
  subst e_1
  refine hs_aload_n dX8_come_0 rfl ?_
  refine hs_dup dX8_come_1 rfl ?_
  refine hs_get dX8_come_2 fl_X8_25_8 hg2 hv4 ?_
  refine hs_iconst (v := 1) dX8_come_5 (by decide) ?_
  refine hs_iadd dX8_come_6 ?_
  refine hs_put (t := .int) dX8_come_7 fw_X8_25_8 hg2 h4_r0 hl5 rfl rfl ?_
  refine hs_iconst (v := 1) dX8_come_10 (by decide) ?_
  refine hs_istK_n dX8_come_11 (by decide) (hk_nk1 rfl hk_c1r) rfl ?_
  refine hs_iconst (v := 0) dX8_come_12 (by decide) ?_
  refine hs_istK_n dX8_come_13 (by decide) (hk_nk1 rfl hk_c1i) rfl ?_
  exact k
theorem b_X8_come_14 {G : hk_G} {d cb sb : Nat} {h : hk_H} {Q : hk_O → hk_H → Prop} {x2 : Int32} {r0 : Nat} {fs1 : List Value} {v3 : Int32} {o1 : Option Value} (hg2 : h.2 r0 = some (.inr (8, fs1))) (hv4 : fs1[0]? = some (.int v3)) (kt : v3 < x2 → hk_S G m_X8_come d cb sb 42 [some (.ref r0), o1, some (.int x2)] [] h Q) (kf : ¬ v3 < x2 → hk_S G m_X8_come d cb sb 22 [some (.ref r0), o1, some (.int x2)] [] h Q) : hk_S G m_X8_come d cb sb 14 [some (.ref r0), o1, some (.int x2)] [] h Q := by
  refine hs_iload_n dX8_come_14 rfl ?_
  refine hs_aload_n dX8_come_15 rfl ?_
  refine hs_get dX8_come_16 fl_X8_9_8 hg2 hv4 ?_
  exact hs_icmp_gt dX8_come_19 (by decide) kt kf
theorem b_X8_come_22 {G : hk_G} {d cb sb : Nat} {h : hk_H} {Q : hk_O → hk_H → Prop} {r0 : Nat} {fs1 : List Value} {v3 : Nat} {x2 : Int32} {x1 : Int32} {n5 : Nat} {f6 : Nat → Int32} {h_1 : hk_H} {fs11 : List Value} {v13 : Int32} (hg2 : h.2 r0 = some (.inr (8, fs1))) (hv4 : fs1[3]? = some (.ref v3)) (ha7 : h.2 v3 = some (.inl (0, n5, .inl f6))) (h4_v3 : 4 ≤ v3) (j8 : Nat) (hi9 : (x2 : Int32).toInt = (j8 : Int)) (hj10 : j8 < n5) (e_1 : (hk_set h v3 (.inl (0, n5, .inl (upd f6 j8 x1)))) = h_1) (hg12 : h_1.2 r0 = some (.inr (8, fs11))) (hv14 : fs11[4]? = some (.int v13)) (k : hk_S G m_X8_come d cb sb 14 [some (.ref r0), some (.int (x1 * v13)), some (.int (x2 + 1))] [] h_1 Q) : hk_S G m_X8_come d cb sb 22 [some (.ref r0), some (.int x1), some (.int x2)] [] h Q := by
  subst e_1
  refine hs_aload_n dX8_come_22 rfl ?_
  refine hs_get dX8_come_23 fl_X8_22_8 hg2 hv4 ?_
  refine hs_iload_n dX8_come_26 rfl ?_
  refine hs_iload_n dX8_come_27 rfl ?_
  refine hs_iast j8 dX8_come_28 ha7 h4_v3 hi9 hj10 ?_
  refine hs_iload_n dX8_come_29 rfl ?_
  refine hs_aload_n dX8_come_30 rfl ?_
  refine hs_get dX8_come_31 fl_X8_25_8 hg12 hv14 ?_
  refine hs_imul dX8_come_34 ?_
  refine hs_istK_n dX8_come_35 (by decide) (hk_nk1 rfl hk_c1r) rfl ?_
  refine hs_iincK (v := 1) dX8_come_36 rfl (by decide) (by decide) (hk_nk1 rfl hk_c1i) rfl ?_
  refine hs_goto dX8_come_39 (tgt := 14) (by decide) ?_
  exact k
theorem b_X8_come_42 {G : hk_G} {d cb sb : Nat} {h : hk_H} {Q : hk_O → hk_H → Prop} {r0 : Nat} {fs1 : List Value} {v3 : Nat} {v5 : Int32} {n7 : Nat} {f8 : Nat → Int32} {h_1 : hk_H} {fs14 : List Value} {v16 : Int32} {o1 : Option Value} {o2 : Option Value} (hg2 : h.2 r0 = some (.inr (8, fs1))) (hv4 : fs1[3]? = some (.ref v3)) (hv6 : fs1[0]? = some (.int v5)) (ha9 : h.2 v3 = some (.inl (0, n7, .inl f8))) (j10 : Nat) (hi11 : (v5 : Int32).toInt = (j10 : Int)) (hj12 : j10 < n7) (h4_r0 : 4 ≤ r0) (e_1 : (hk_set h r0 (.inr (8, fs1.set 5 (.int (f8 j10))))) = h_1) (hg15 : h_1.2 r0 = some (.inr (8, fs14))) (hv17 : fs14[4]? = some (.int v16)) (hq : Q (.inl (some (.int (v16 - 1)))) h_1) (hl13 : 5 < fs1.length := by exact Nat.le_of_ble_eq_true rfl) : hk_S G m_X8_come d cb sb 42 [some (.ref r0), o1, o2] [] h Q := by
  subst e_1
  refine hs_aload_n dX8_come_42 rfl ?_
  refine hs_aload_n dX8_come_43 rfl ?_
  refine hs_get dX8_come_44 fl_X8_22_8 hg2 hv4 ?_
  refine hs_aload_n dX8_come_47 rfl ?_
  refine hs_get dX8_come_48 fl_X8_9_8 hg2 hv6 ?_
  refine hs_iald j10 dX8_come_51 ha9 hi11 hj12 ?_
  refine hs_put (t := .int) dX8_come_52 fw_X8_28_8 hg2 h4_r0 hl13 rfl rfl ?_
  refine hs_aload_n dX8_come_55 rfl ?_
  refine hs_get dX8_come_56 fl_X8_25_8 hg15 hv17 ?_
  refine hs_iconst (v := 1) dX8_come_59 (by decide) ?_
  refine hs_isub dX8_come_60 ?_
  exact hs_iret dX8_come_61 rfl hq
-- HonestHouse$Wishes.number(II)I
theorem b_X8_number_0 {G : hk_G} {d cb sb : Nat} {h : hk_H} {Q : hk_O → hk_H → Prop} {r0 : Nat} {fs1 : List Value} {v3 : Nat} {x1 : Int32} {x2 : Int32} {n5 : Nat} {f6 : Nat → Int32} (hg2 : h.2 r0 = some (.inr (8, fs1))) (hv4 : fs1[2]? = some (.ref v3)) (ha7 : h.2 v3 = some (.inl (0, n5, .inl f6))) (j8 : Nat) (hi9 : ((x1 * 5) + x2 : Int32).toInt = (j8 : Int)) (hj10 : j8 < n5) (hq : Q (.inl (some (.int (f6 j8)))) h) : hk_S G m_X8_number d cb sb 0 [some (.ref r0), some (.int x1), some (.int x2)] [] h Q := by
  refine hs_aload_n dX8_number_0 rfl ?_
  refine hs_get dX8_number_1 fl_X8_18_8 hg2 hv4 ?_
  refine hs_iload_n dX8_number_4 rfl ?_
  refine hs_iconst (v := 5) dX8_number_5 (by decide) ?_
  refine hs_imul dX8_number_6 ?_
  refine hs_iload_n dX8_number_7 rfl ?_
  refine hs_iadd dX8_number_8 ?_
  refine hs_iald j8 dX8_number_9 ha7 hi9 hj10 ?_
  exact hs_iret dX8_number_10 rfl hq
-- HonestHouse$Wishes.changeNumber(III)I
theorem b_X8_changeNumber_0 {G : hk_G} {d cb sb : Nat} {h : hk_H} {Q : hk_O → hk_H → Prop} {r0 : Nat} {x1 : Int32} {x2 : Int32} {fs_ : List Value} {o3 : Option Value} {o4 : Option Value} (hrec : h.2 r0 = some (.inr (8, fs_))) (hc : hk_Ci G m_X8_number d 0 0 [.ref r0, .int x1, .int x2] h (fun z h' => hk_S G m_X8_changeNumber (d + 1) cb sb 6 [some (.ref r0), some (.int x1), some (.int x2), o3, o4] [.int z] h' Q)) : hk_S G m_X8_changeNumber (d + 1) cb sb 0 [some (.ref r0), some (.int x1), some (.int x2), o3, o4] [] h Q := by
  refine hs_aload_n dX8_changeNumber_0 rfl ?_
  refine hs_iload_n dX8_changeNumber_1 rfl ?_
  refine hs_iload_n dX8_changeNumber_2 rfl ?_
  exact hk_z0 (hs_vir (M' := m_X8_number) (vs := [.int x1, .int x2]) (c1 := 0) (s1 := 0) dX8_changeNumber_3 wd_251 vi_X8_number hrec rfl (Nat.le_of_ble_eq_true rfl) hc hq_i (hc_i (fun z h9 k9 => k9)))
theorem b_X8_changeNumber_6 {G : hk_G} {d cb sb : Nat} {h : hk_H} {Q : hk_O → hk_H → Prop} {s0 : Int32} {r0 : Nat} {fs1 : List Value} {v3 : Nat} {x1 : Int32} {x2 : Int32} {x3 : Int32} {n5 : Nat} {f6 : Nat → Int32} {h_1 : hk_H} {o4 : Option Value} (hg2 : h.2 r0 = some (.inr (8, fs1))) (hv4 : fs1[2]? = some (.ref v3)) (ha7 : h.2 v3 = some (.inl (0, n5, .inl f6))) (h4_v3 : 4 ≤ v3) (j8 : Nat) (hi9 : ((x1 * 5) + x2 : Int32).toInt = (j8 : Int)) (hj10 : j8 < n5) (e_1 : (hk_set h v3 (.inl (0, n5, .inl (upd f6 j8 x3)))) = h_1) (kt : ¬ s0 = x3 → hk_S G m_X8_changeNumber (d + 1) cb sb 29 [some (.ref r0), some (.int x1), some (.int x2), some (.int x3), some (.int s0)] [] h_1 Q) (kf : s0 = x3 → hk_S G m_X8_changeNumber (d + 1) cb sb 25 [some (.ref r0), some (.int x1), some (.int x2), some (.int x3), some (.int s0)] [] h_1 Q) : hk_S G m_X8_changeNumber (d + 1) cb sb 6 [some (.ref r0), some (.int x1), some (.int x2), some (.int x3), o4] [.int s0] h Q := by
  subst e_1
  refine hs_istK dX8_changeNumber_6 (by decide) (hk_nk1 rfl hk_c1i) rfl ?_
  refine hs_aload_n dX8_changeNumber_8 rfl ?_
  refine hs_get dX8_changeNumber_9 fl_X8_18_8 hg2 hv4 ?_
  refine hs_iload_n dX8_changeNumber_12 rfl ?_
  refine hs_iconst (v := 5) dX8_changeNumber_13 (by decide) ?_
  refine hs_imul dX8_changeNumber_14 ?_
  refine hs_iload_n dX8_changeNumber_15 rfl ?_
  refine hs_iadd dX8_changeNumber_16 ?_
  refine hs_iload_n dX8_changeNumber_17 rfl ?_
  refine hs_iast j8 dX8_changeNumber_18 ha7 h4_v3 hi9 hj10 ?_
  refine hs_iload dX8_changeNumber_19 rfl ?_
  refine hs_iload_n dX8_changeNumber_21 rfl ?_
  exact hs_icmp_ne dX8_changeNumber_22 (by decide) kt kf
theorem b_X8_changeNumber_25 {G : hk_G} {d cb sb : Nat} {h : hk_H} {Q : hk_O → hk_H → Prop} {o0 : Option Value} {o1 : Option Value} {o2 : Option Value} {o3 : Option Value} {o4 : Option Value} (hq : Q (.inl (some (.int 0))) h) : hk_S G m_X8_changeNumber (d + 1) cb sb 25 [o0, o1, o2, o3, o4] [] h Q := by
  refine hs_iconst (v := 0) dX8_changeNumber_25 (by decide) ?_
  refine hs_goto dX8_changeNumber_26 (tgt := 30) (by decide) ?_
  exact hs_iret dX8_changeNumber_30 rfl hq
theorem b_X8_changeNumber_29 {G : hk_G} {d cb sb : Nat} {h : hk_H} {Q : hk_O → hk_H → Prop} {o0 : Option Value} {o1 : Option Value} {o2 : Option Value} {o3 : Option Value} {o4 : Option Value} (hq : Q (.inl (some (.int 1))) h) : hk_S G m_X8_changeNumber (d + 1) cb sb 29 [o0, o1, o2, o3, o4] [] h Q := by
  refine hs_iconst (v := 1) dX8_changeNumber_29 (by decide) ?_
  exact hs_iret dX8_changeNumber_30 rfl hq
theorem b_X8_changeNumber_30 {G : hk_G} {d cb sb : Nat} {h : hk_H} {Q : hk_O → hk_H → Prop} {s0 : Int32} {o0 : Option Value} {o1 : Option Value} {o2 : Option Value} {o3 : Option Value} {o4 : Option Value} (hq : Q (.inl (some (.int s0))) h) : hk_S G m_X8_changeNumber (d + 1) cb sb 30 [o0, o1, o2, o3, o4] [.int s0] h Q := by
  exact hs_iret dX8_changeNumber_30 rfl hq
-- HonestHouse$Wishes.wishIn(II)I
theorem b_X8_wishIn_0 {G : hk_G} {d cb sb : Nat} {h : hk_H} {Q : hk_O → hk_H → Prop} {r0 : Nat} {fs1 : List Value} {v3 : Nat} {x2 : Int32} {n5 : Nat} {f6 : Nat → Int32} {o1 : Option Value} {o3 : Option Value} (hg2 : h.2 r0 = some (.inr (8, fs1))) (hv4 : fs1[3]? = some (.ref v3)) (ha7 : h.2 v3 = some (.inl (0, n5, .inl f6))) (j8 : Nat) (hi9 : (x2 : Int32).toInt = (j8 : Int)) (hj10 : j8 < n5) (kt : (f6 j8) < 1 → hk_S G m_X8_wishIn d cb sb 20 [some (.ref r0), o1, some (.int x2), some (.int (f6 j8))] [] h Q) (kf : ¬ (f6 j8) < 1 → hk_S G m_X8_wishIn d cb sb 12 [some (.ref r0), o1, some (.int x2), some (.int (f6 j8))] [] h Q) : hk_S G m_X8_wishIn d cb sb 0 [some (.ref r0), o1, some (.int x2), o3] [] h Q := by
  refine hs_aload_n dX8_wishIn_0 rfl ?_
  refine hs_get dX8_wishIn_1 fl_X8_22_8 hg2 hv4 ?_
  refine hs_iload_n dX8_wishIn_4 rfl ?_
  refine hs_iald j8 dX8_wishIn_5 ha7 hi9 hj10 ?_
  refine hs_istK_n dX8_wishIn_6 (by decide) (hk_nk1 rfl hk_c1i) rfl ?_
  refine hs_iload_n dX8_wishIn_7 rfl ?_
  refine hs_iconst (v := 1) dX8_wishIn_8 (by decide) ?_
  exact hs_icmp_lt dX8_wishIn_9 (by decide) kt kf
theorem b_X8_wishIn_12 {G : hk_G} {d cb sb : Nat} {h : hk_H} {Q : hk_O → hk_H → Prop} {r0 : Nat} {fs1 : List Value} {v3 : Int32} {o1 : Option Value} {o2 : Option Value} {o3 : Option Value} (hg2 : h.2 r0 = some (.inr (8, fs1))) (hv4 : fs1[4]? = some (.int v3)) (kt : 1 ≤ v3 → hk_S G m_X8_wishIn d cb sb 24 [some (.ref r0), o1, o2, o3] [] h Q) (kf : ¬ 1 ≤ v3 → hk_S G m_X8_wishIn d cb sb 20 [some (.ref r0), o1, o2, o3] [] h Q) : hk_S G m_X8_wishIn d cb sb 12 [some (.ref r0), o1, o2, o3] [] h Q := by
  refine hs_aload_n dX8_wishIn_12 rfl ?_
  refine hs_get dX8_wishIn_13 fl_X8_25_8 hg2 hv4 ?_
  refine hs_iconst (v := 1) dX8_wishIn_16 (by decide) ?_
  exact hs_icmp_ge dX8_wishIn_17 (by decide) kt kf
theorem b_X8_wishIn_20 {G : hk_G} {d cb sb : Nat} {h : hk_H} {Q : hk_O → hk_H → Prop} {o0 : Option Value} {o1 : Option Value} {o2 : Option Value} {o3 : Option Value} (hq : Q (.inl (some (.int 0))) h) : hk_S G m_X8_wishIn d cb sb 20 [o0, o1, o2, o3] [] h Q := by
  refine hs_iconst (v := 0) dX8_wishIn_20 (by decide) ?_
  refine hs_goto dX8_wishIn_21 (tgt := 32) (by decide) ?_
  exact hs_iret dX8_wishIn_32 rfl hq
theorem b_X8_wishIn_24 {G : hk_G} {d cb sb : Nat} {h : hk_H} {Q : hk_O → hk_H → Prop} {x1 : Int32} {x3 : Int32} {r0 : Nat} {fs2 : List Value} {v4 : Int32} {o2 : Option Value} (hz1 : ¬ x3 = 0) (hg3 : h.2 r0 = some (.inr (8, fs2))) (hv5 : fs2[4]? = some (.int v4)) (hz6 : ¬ v4 = 0) (hq : Q (.inl (some (.int ((x1 / x3) - (x1 / x3) / v4 * v4)))) h) : hk_S G m_X8_wishIn d cb sb 24 [some (.ref r0), some (.int x1), o2, some (.int x3)] [] h Q := by
  refine hs_iload_n dX8_wishIn_24 rfl ?_
  refine hs_iload_n dX8_wishIn_25 rfl ?_
  refine hs_idiv dX8_wishIn_26 hz1 ?_
  refine hs_aload_n dX8_wishIn_27 rfl ?_
  refine hs_get dX8_wishIn_28 fl_X8_25_8 hg3 hv5 ?_
  refine hs_irem dX8_wishIn_31 hz6 ?_
  exact hs_iret dX8_wishIn_32 rfl hq
theorem b_X8_wishIn_32 {G : hk_G} {d cb sb : Nat} {h : hk_H} {Q : hk_O → hk_H → Prop} {s0 : Int32} {o0 : Option Value} {o1 : Option Value} {o2 : Option Value} {o3 : Option Value} (hq : Q (.inl (some (.int s0))) h) : hk_S G m_X8_wishIn d cb sb 32 [o0, o1, o2, o3] [.int s0] h Q := by
  exact hs_iret dX8_wishIn_32 rfl hq
-- HonestHouse$Wishes.rowSaying(III)I
theorem b_X8_rowSaying_0 {G : hk_G} {d cb sb : Nat} {h : hk_H} {Q : hk_O → hk_H → Prop} {x1 : Int32} {x3 : Int32} {r0 : Nat} {x2 : Int32} {fs_ : List Value} (hrec : h.2 r0 = some (.inr (8, fs_))) (hc : hk_Ci G m_X8_wishIn d 0 0 [.ref r0, .int x1, .int x2] h (fun z h' => hk_S G m_X8_rowSaying (d + 1) cb sb 8 [some (.ref r0), some (.int x1), some (.int x2), some (.int x3)] [.int z, .int x3, .int x1] h' Q)) : hk_S G m_X8_rowSaying (d + 1) cb sb 0 [some (.ref r0), some (.int x1), some (.int x2), some (.int x3)] [] h Q := by
  refine hs_iload_n dX8_rowSaying_0 rfl ?_
  refine hs_iload_n dX8_rowSaying_1 rfl ?_
  refine hs_aload_n dX8_rowSaying_2 rfl ?_
  refine hs_iload_n dX8_rowSaying_3 rfl ?_
  refine hs_iload_n dX8_rowSaying_4 rfl ?_
  exact hk_z0 (hs_vir (M' := m_X8_wishIn) (vs := [.int x1, .int x2]) (c1 := 0) (s1 := 0) dX8_rowSaying_5 wd_495 vi_X8_wishIn hrec rfl (Nat.le_of_ble_eq_true rfl) hc hq_i (hc_i (fun z h9 k9 => k9)))
theorem b_X8_rowSaying_8 {G : hk_G} {d cb sb : Nat} {h : hk_H} {Q : hk_O → hk_H → Prop} {s0 : Int32} {s1 : Int32} {s2 : Int32} {r0 : Nat} {fs1 : List Value} {v3 : Nat} {x2 : Int32} {n5 : Nat} {f6 : Nat → Int32} {o1 : Option Value} {o3 : Option Value} (hg2 : h.2 r0 = some (.inr (8, fs1))) (hv4 : fs1[3]? = some (.ref v3)) (ha7 : h.2 v3 = some (.inl (0, n5, .inl f6))) (j8 : Nat) (hi9 : (x2 : Int32).toInt = (j8 : Int)) (hj10 : j8 < n5) (hq : Q (.inl (some (.int (s0 + ((s1 - s2) * (f6 j8)))))) h) : hk_S G m_X8_rowSaying (d + 1) cb sb 8 [some (.ref r0), o1, some (.int x2), o3] [.int s2, .int s1, .int s0] h Q := by
  refine hs_isub dX8_rowSaying_8 ?_
  refine hs_aload_n dX8_rowSaying_9 rfl ?_
  refine hs_get dX8_rowSaying_10 fl_X8_22_8 hg2 hv4 ?_
  refine hs_iload_n dX8_rowSaying_13 rfl ?_
  refine hs_iald j8 dX8_rowSaying_14 ha7 hi9 hj10 ?_
  refine hs_imul dX8_rowSaying_15 ?_
  refine hs_iadd dX8_rowSaying_16 ?_
  exact hs_iret dX8_rowSaying_17 rfl hq
-- HonestHouse$Wishes.top(I)I
theorem b_X8_top_0 {G : hk_G} {d cb sb : Nat} {h : hk_H} {Q : hk_O → hk_H → Prop} {o0 : Option Value} {o1 : Option Value} {o2 : Option Value} {o3 : Option Value} (k : hk_S G m_X8_top (d + 1) cb sb 4 [o0, o1, some (.int 0), some (.int 1)] [] h Q) (ho1 : hk_c1 o1 := by first | exact hk_c1i | exact hk_c1r | exact hk_c10 | exact hk_c1n) : hk_S G m_X8_top (d + 1) cb sb 0 [o0, o1, o2, o3] [] h Q := by
  refine hs_iconst (v := 0) dX8_top_0 (by decide) ?_
  refine hs_istK_n dX8_top_1 (by decide) (hk_nk1 rfl ho1) rfl ?_
  refine hs_iconst (v := 1) dX8_top_2 (by decide) ?_
  refine hs_istK_n dX8_top_3 (by decide) (hk_nk1 rfl hk_c1i) rfl ?_
  exact k
theorem b_X8_top_4 {G : hk_G} {d cb sb : Nat} {h : hk_H} {Q : hk_O → hk_H → Prop} {x3 : Int32} {r0 : Nat} {fs1 : List Value} {v3 : Int32} {o1 : Option Value} {o2 : Option Value} (hg2 : h.2 r0 = some (.inr (8, fs1))) (hv4 : fs1[1]? = some (.int v3)) (kt : v3 ≤ x3 → hk_S G m_X8_top (d + 1) cb sb 35 [some (.ref r0), o1, o2, some (.int x3)] [] h Q) (kf : ¬ v3 ≤ x3 → hk_S G m_X8_top (d + 1) cb sb 12 [some (.ref r0), o1, o2, some (.int x3)] [] h Q) : hk_S G m_X8_top (d + 1) cb sb 4 [some (.ref r0), o1, o2, some (.int x3)] [] h Q := by
  refine hs_iload_n dX8_top_4 rfl ?_
  refine hs_aload_n dX8_top_5 rfl ?_
  refine hs_get dX8_top_6 fl_X8_15_8 hg2 hv4 ?_
  exact hs_icmp_ge dX8_top_9 (by decide) kt kf
theorem b_X8_top_12 {G : hk_G} {d cb sb : Nat} {h : hk_H} {Q : hk_O → hk_H → Prop} {r0 : Nat} {x1 : Int32} {x3 : Int32} {fs_ : List Value} {o2 : Option Value} (hrec : h.2 r0 = some (.inr (8, fs_))) (hc : hk_Ci G m_X8_number d 0 0 [.ref r0, .int x1, .int x3] h (fun z h' => hk_S G m_X8_top (d + 1) cb sb 18 [some (.ref r0), some (.int x1), o2, some (.int x3)] [.int z] h' Q)) : hk_S G m_X8_top (d + 1) cb sb 12 [some (.ref r0), some (.int x1), o2, some (.int x3)] [] h Q := by
  refine hs_aload_n dX8_top_12 rfl ?_
  refine hs_iload_n dX8_top_13 rfl ?_
  refine hs_iload_n dX8_top_14 rfl ?_
  exact hk_z0 (hs_vir (M' := m_X8_number) (vs := [.int x1, .int x3]) (c1 := 0) (s1 := 0) dX8_top_15 wd_251 vi_X8_number hrec rfl (Nat.le_of_ble_eq_true rfl) hc hq_i (hc_i (fun z h9 k9 => k9)))
theorem b_X8_top_18 {G : hk_G} {d cb sb : Nat} {h : hk_H} {Q : hk_O → hk_H → Prop} {s0 : Int32} {r0 : Nat} {x1 : Int32} {x2 : Int32} {fs_ : List Value} {o3 : Option Value} (hrec : h.2 r0 = some (.inr (8, fs_))) (hc : hk_Ci G m_X8_number d 0 0 [.ref r0, .int x1, .int x2] h (fun z h' => hk_S G m_X8_top (d + 1) cb sb 24 [some (.ref r0), some (.int x1), some (.int x2), o3] [.int z, .int s0] h' Q)) : hk_S G m_X8_top (d + 1) cb sb 18 [some (.ref r0), some (.int x1), some (.int x2), o3] [.int s0] h Q := by
  refine hs_aload_n dX8_top_18 rfl ?_
  refine hs_iload_n dX8_top_19 rfl ?_
  refine hs_iload_n dX8_top_20 rfl ?_
  exact hk_z0 (hs_vir (M' := m_X8_number) (vs := [.int x1, .int x2]) (c1 := 0) (s1 := 0) dX8_top_21 wd_251 vi_X8_number hrec rfl (Nat.le_of_ble_eq_true rfl) hc hq_i (hc_i (fun z h9 k9 => k9)))
theorem b_X8_top_24 {G : hk_G} {d cb sb : Nat} {h : hk_H} {Q : hk_O → hk_H → Prop} {s0 : Int32} {s1 : Int32} {o0 : Option Value} {o1 : Option Value} {o2 : Option Value} {o3 : Option Value} (kt : s0 ≤ s1 → hk_S G m_X8_top (d + 1) cb sb 29 [o0, o1, o2, o3] [] h Q) (kf : ¬ s0 ≤ s1 → hk_S G m_X8_top (d + 1) cb sb 27 [o0, o1, o2, o3] [] h Q) : hk_S G m_X8_top (d + 1) cb sb 24 [o0, o1, o2, o3] [.int s1, .int s0] h Q := by
  exact hs_icmp_le dX8_top_24 (by decide) kt kf
theorem b_X8_top_27 {G : hk_G} {d cb sb : Nat} {h : hk_H} {Q : hk_O → hk_H → Prop} {x3 : Int32} {o0 : Option Value} {o1 : Option Value} {o2 : Option Value} (k : hk_S G m_X8_top (d + 1) cb sb 4 [o0, o1, some (.int x3), some (.int (x3 + 1))] [] h Q) (ho1 : hk_c1 o1 := by first | exact hk_c1i | exact hk_c1r | exact hk_c10 | exact hk_c1n) : hk_S G m_X8_top (d + 1) cb sb 27 [o0, o1, o2, some (.int x3)] [] h Q := by
  refine hs_iload_n dX8_top_27 rfl ?_
  refine hs_istK_n dX8_top_28 (by decide) (hk_nk1 rfl ho1) rfl ?_
  refine hs_iincK (v := 1) dX8_top_29 rfl (by decide) (by decide) (hk_nk1 rfl hk_c1i) rfl ?_
  refine hs_goto dX8_top_32 (tgt := 4) (by decide) ?_
  exact k
theorem b_X8_top_29 {G : hk_G} {d cb sb : Nat} {h : hk_H} {Q : hk_O → hk_H → Prop} {x3 : Int32} {o0 : Option Value} {o1 : Option Value} {o2 : Option Value} (k : hk_S G m_X8_top (d + 1) cb sb 4 [o0, o1, o2, some (.int (x3 + 1))] [] h Q) (ho2 : hk_c1 o2 := by first | exact hk_c1i | exact hk_c1r | exact hk_c10 | exact hk_c1n) : hk_S G m_X8_top (d + 1) cb sb 29 [o0, o1, o2, some (.int x3)] [] h Q := by
  refine hs_iincK (v := 1) dX8_top_29 rfl (by decide) (by decide) (hk_nk1 rfl ho2) rfl ?_
  refine hs_goto dX8_top_32 (tgt := 4) (by decide) ?_
  exact k
theorem b_X8_top_35 {G : hk_G} {d cb sb : Nat} {h : hk_H} {Q : hk_O → hk_H → Prop} {x2 : Int32} {o0 : Option Value} {o1 : Option Value} {o3 : Option Value} (hq : Q (.inl (some (.int x2))) h) : hk_S G m_X8_top (d + 1) cb sb 35 [o0, o1, some (.int x2), o3] [] h Q := by
  refine hs_iload_n dX8_top_35 rfl ?_
  exact hs_iret dX8_top_36 rfl hq
