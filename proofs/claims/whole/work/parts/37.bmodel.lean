-- HonestHouseModel.<init>(II)V
theorem b_X10_init_0 {G : hk_G} {d cb sb : Nat} {h : hk_H} {Q : hk_O → hk_H → Prop} {r0 : Nat} {h_1 : hk_H} {fs1 : List Value} {h_2 : hk_H} {h_3 : hk_H} {fs4 : List Value} {h_4 : hk_H} {h_5 : hk_H} {fs7 : List Value} {h_6 : hk_H} {h_7 : hk_H} {fs13 : List Value} {h_8 : hk_H} {h_9 : hk_H} {fs19 : List Value} {h_10 : hk_H} {h_11 : hk_H} {fs22 : List Value} {h_12 : hk_H} {h_13 : hk_H} {fs25 : List Value} {h_14 : hk_H} {h_15 : hk_H} {fs28 : List Value} {h_16 : hk_H} {h_17 : hk_H} {fs34 : List Value} {h_18 : hk_H} {h_19 : hk_H} {fs40 : List Value} {h_20 : hk_H} {h_21 : hk_H} {fs43 : List Value} {h_22 : hk_H} {h_23 : hk_H} {fs46 : List Value} {h_24 : hk_H} {h_25 : hk_H} {fs49 : List Value} {h_26 : hk_H} {h_27 : hk_H} {fs52 : List Value} {h_28 : hk_H} {h_29 : hk_H} {fs55 : List Value} {h_30 : hk_H} {h_31 : hk_H} {fs58 : List Value} {h_32 : hk_H} {h_33 : hk_H} {fs61 : List Value} {h_34 : hk_H} {h_35 : hk_H} {fs64 : List Value} {h_36 : hk_H} {h_37 : hk_H} {fs67 : List Value} {h_38 : hk_H} {h_39 : hk_H} {fs70 : List Value} {h_40 : hk_H} {h_41 : hk_H} {fs73 : List Value} {h_42 : hk_H} {h_43 : hk_H} {fs76 : List Value} {h_44 : hk_H} {h_45 : hk_H} {fs79 : List Value} {h_46 : hk_H} {h_47 : hk_H} {fs82 : List Value} {h_48 : hk_H} {h_49 : hk_H} {fs88 : List Value} {h_50 : hk_H} {h_51 : hk_H} {fs91 : List Value} {h_52 : hk_H} {x1 : Int32} {o2 : Option Value} {o3 : Option Value} {o4 : Option Value} (e_1 : (hk_new h (.inl (0, 30, .inl (fun _ => 0)))) = h_1) (hg2 : h_1.2 r0 = some (.inr (10, fs1))) (h4_r0 : 4 ≤ r0) (e_2 : (hk_set h_1 r0 (.inr (10, fs1.set 5 (.ref h.1)))) = h_2) (e_3 : (hk_new h_2 (.inl (0, 5, .inl (fun _ => 0)))) = h_3) (hg5 : h_3.2 r0 = some (.inr (10, fs4))) (e_4 : (hk_set h_3 r0 (.inr (10, fs4.set 6 (.ref h_2.1)))) = h_4) (e_5 : (hk_new h_4 (.inl (0, 8, .inl (fun _ => 0)))) = h_5) (hg8 : h_5.2 r0 = some (.inr (10, fs7))) (e_6 : (hk_set h_5 r0 (.inr (10, fs7.set 7 (.ref h_4.1)))) = h_6) (N10 : Nat) (hn11 : (10368 : Int32).toInt = (N10 : Int)) (hb12 : N10 ≤ 1000000) (e_7 : (hk_new h_6 (.inl (0, N10, .inl (fun _ => 0)))) = h_7) (hg14 : h_7.2 r0 = some (.inr (10, fs13))) (e_8 : (hk_set h_7 r0 (.inr (10, fs13.set 8 (.ref h_6.1)))) = h_8) (N16 : Nat) (hn17 : (41472 : Int32).toInt = (N16 : Int)) (hb18 : N16 ≤ 1000000) (e_9 : (hk_new h_8 (.inl (0, N16, .inl (fun _ => 0)))) = h_9) (hg20 : h_9.2 r0 = some (.inr (10, fs19))) (e_10 : (hk_set h_9 r0 (.inr (10, fs19.set 9 (.ref h_8.1)))) = h_10) (e_11 : (hk_new h_10 (.inl (0, 40, .inl (fun _ => 0)))) = h_11) (hg23 : h_11.2 r0 = some (.inr (10, fs22))) (e_12 : (hk_set h_11 r0 (.inr (10, fs22.set 10 (.ref h_10.1)))) = h_12) (e_13 : (hk_new h_12 (.inl (0, 32, .inl (fun _ => 0)))) = h_13) (hg26 : h_13.2 r0 = some (.inr (10, fs25))) (e_14 : (hk_set h_13 r0 (.inr (10, fs25.set 11 (.ref h_12.1)))) = h_14) (e_15 : (hk_new h_14 (.inl (0, 32, .inl (fun _ => 0)))) = h_15) (hg29 : h_15.2 r0 = some (.inr (10, fs28))) (e_16 : (hk_set h_15 r0 (.inr (10, fs28.set 12 (.ref h_14.1)))) = h_16) (N31 : Nat) (hn32 : (1296 : Int32).toInt = (N31 : Int)) (hb33 : N31 ≤ 1000000) (e_17 : (hk_new h_16 (.inl (0, N31, .inl (fun _ => 0)))) = h_17) (hg35 : h_17.2 r0 = some (.inr (10, fs34))) (e_18 : (hk_set h_17 r0 (.inr (10, fs34.set 14 (.ref h_16.1)))) = h_18) (N37 : Nat) (hn38 : (5184 : Int32).toInt = (N37 : Int)) (hb39 : N37 ≤ 1000000) (e_19 : (hk_new h_18 (.inl (0, N37, .inl (fun _ => 0)))) = h_19) (hg41 : h_19.2 r0 = some (.inr (10, fs40))) (e_20 : (hk_set h_19 r0 (.inr (10, fs40.set 15 (.ref h_18.1)))) = h_20) (e_21 : (hk_new h_20 (.inl (2, 5, .inl (fun _ => 0)))) = h_21) (hg44 : h_21.2 r0 = some (.inr (10, fs43))) (e_22 : (hk_set h_21 r0 (.inr (10, fs43.set 16 (.ref h_20.1)))) = h_22) (e_23 : (hk_new h_22 (.inl (0, 25, .inl (fun _ => 0)))) = h_23) (hg47 : h_23.2 r0 = some (.inr (10, fs46))) (e_24 : (hk_set h_23 r0 (.inr (10, fs46.set 17 (.ref h_22.1)))) = h_24) (e_25 : (hk_new h_24 (.inl (0, 5, .inl (fun _ => 0)))) = h_25) (hg50 : h_25.2 r0 = some (.inr (10, fs49))) (e_26 : (hk_set h_25 r0 (.inr (10, fs49.set 18 (.ref h_24.1)))) = h_26) (e_27 : (hk_new h_26 (.inl (0, 16, .inl (fun _ => 0)))) = h_27) (hg53 : h_27.2 r0 = some (.inr (10, fs52))) (e_28 : (hk_set h_27 r0 (.inr (10, fs52.set 19 (.ref h_26.1)))) = h_28) (e_29 : (hk_new h_28 (.inl (0, 4, .inl (fun _ => 0)))) = h_29) (hg56 : h_29.2 r0 = some (.inr (10, fs55))) (e_30 : (hk_set h_29 r0 (.inr (10, fs55.set 20 (.ref h_28.1)))) = h_30) (e_31 : (hk_new h_30 (.inl (0, 4, .inl (fun _ => 0)))) = h_31) (hg59 : h_31.2 r0 = some (.inr (10, fs58))) (e_32 : (hk_set h_31 r0 (.inr (10, fs58.set 21 (.ref h_30.1)))) = h_32) (e_33 : (hk_new h_32 (.inl (0, 4, .inl (fun _ => 0)))) = h_33) (hg62 : h_33.2 r0 = some (.inr (10, fs61))) (e_34 : (hk_set h_33 r0 (.inr (10, fs61.set 22 (.ref h_32.1)))) = h_34) (e_35 : (hk_new h_34 (.inl (0, 4, .inl (fun _ => 0)))) = h_35) (hg65 : h_35.2 r0 = some (.inr (10, fs64))) (e_36 : (hk_set h_35 r0 (.inr (10, fs64.set 23 (.ref h_34.1)))) = h_36) (e_37 : (hk_new h_36 (.inl (0, 4, .inl (fun _ => 0)))) = h_37) (hg68 : h_37.2 r0 = some (.inr (10, fs67))) (e_38 : (hk_set h_37 r0 (.inr (10, fs67.set 24 (.ref h_36.1)))) = h_38) (e_39 : (hk_new h_38 (.inl (0, 8, .inl (fun _ => 0)))) = h_39) (hg71 : h_39.2 r0 = some (.inr (10, fs70))) (e_40 : (hk_set h_39 r0 (.inr (10, fs70.set 25 (.ref h_38.1)))) = h_40) (e_41 : (hk_new h_40 (.inl (0, 8, .inl (fun _ => 0)))) = h_41) (hg74 : h_41.2 r0 = some (.inr (10, fs73))) (e_42 : (hk_set h_41 r0 (.inr (10, fs73.set 26 (.ref h_40.1)))) = h_42) (e_43 : (hk_new h_42 (.inl (0, 8, .inl (fun _ => 0)))) = h_43) (hg77 : h_43.2 r0 = some (.inr (10, fs76))) (e_44 : (hk_set h_43 r0 (.inr (10, fs76.set 27 (.ref h_42.1)))) = h_44) (e_45 : (hk_new h_44 (.inl (0, 8, .inl (fun _ => 0)))) = h_45) (hg80 : h_45.2 r0 = some (.inr (10, fs79))) (e_46 : (hk_set h_45 r0 (.inr (10, fs79.set 28 (.ref h_44.1)))) = h_46) (e_47 : (hk_new h_46 (.inl (0, 8, .inl (fun _ => 0)))) = h_47) (hg83 : h_47.2 r0 = some (.inr (10, fs82))) (e_48 : (hk_set h_47 r0 (.inr (10, fs82.set 29 (.ref h_46.1)))) = h_48) (N85 : Nat) (hn86 : (480 : Int32).toInt = (N85 : Int)) (hb87 : N85 ≤ 1000000) (e_49 : (hk_new h_48 (.inl (1, N85, .inr (.inl (fun _ => 0))))) = h_49) (hg89 : h_49.2 r0 = some (.inr (10, fs88))) (e_50 : (hk_set h_49 r0 (.inr (10, fs88.set 30 (.ref h_48.1)))) = h_50) (e_51 : (hk_new h_50 (.inl (1, 60, .inr (.inl (fun _ => 0))))) = h_51) (hg92 : h_51.2 r0 = some (.inr (10, fs91))) (e_52 : (hk_set h_51 r0 (.inr (10, fs91.set 31 (.ref h_50.1)))) = h_52) (hc : hk_Ci G m_J9_floorMod_7cf53 d 0 0 [.int x1, .int 3] h_52 (fun z h' => hk_S G m_X10_init (d + 1) cb sb 215 [some (.ref r0), some (.int x1), o2, o3, o4] [.int z, .int 2, .ref r0] h' Q)) (hl3 : 5 < fs1.length := by exact Nat.le_of_ble_eq_true rfl) (hl6 : 6 < fs4.length := by exact Nat.le_of_ble_eq_true rfl) (hl9 : 7 < fs7.length := by exact Nat.le_of_ble_eq_true rfl) (hl15 : 8 < fs13.length := by exact Nat.le_of_ble_eq_true rfl) (hl21 : 9 < fs19.length := by exact Nat.le_of_ble_eq_true rfl) (hl24 : 10 < fs22.length := by exact Nat.le_of_ble_eq_true rfl) (hl27 : 11 < fs25.length := by exact Nat.le_of_ble_eq_true rfl) (hl30 : 12 < fs28.length := by exact Nat.le_of_ble_eq_true rfl) (hl36 : 14 < fs34.length := by exact Nat.le_of_ble_eq_true rfl) (hl42 : 15 < fs40.length := by exact Nat.le_of_ble_eq_true rfl) (hl45 : 16 < fs43.length := by exact Nat.le_of_ble_eq_true rfl) (hl48 : 17 < fs46.length := by exact Nat.le_of_ble_eq_true rfl) (hl51 : 18 < fs49.length := by exact Nat.le_of_ble_eq_true rfl) (hl54 : 19 < fs52.length := by exact Nat.le_of_ble_eq_true rfl) (hl57 : 20 < fs55.length := by exact Nat.le_of_ble_eq_true rfl) (hl60 : 21 < fs58.length := by exact Nat.le_of_ble_eq_true rfl) (hl63 : 22 < fs61.length := by exact Nat.le_of_ble_eq_true rfl) (hl66 : 23 < fs64.length := by exact Nat.le_of_ble_eq_true rfl) (hl69 : 24 < fs67.length := by exact Nat.le_of_ble_eq_true rfl) (hl72 : 25 < fs70.length := by exact Nat.le_of_ble_eq_true rfl) (hl75 : 26 < fs73.length := by exact Nat.le_of_ble_eq_true rfl) (hl78 : 27 < fs76.length := by exact Nat.le_of_ble_eq_true rfl) (hl81 : 28 < fs79.length := by exact Nat.le_of_ble_eq_true rfl) (hl84 : 29 < fs82.length := by exact Nat.le_of_ble_eq_true rfl) (hl90 : 30 < fs88.length := by exact Nat.le_of_ble_eq_true rfl) (hl93 : 31 < fs91.length := by exact Nat.le_of_ble_eq_true rfl) : hk_S G m_X10_init (d + 1) ((((((((((((((((((((((((((cb + 1) + 1) + 1) + 1) + 1) + 1) + 1) + 1) + 1) + 1) + 1) + 1) + 1) + 1) + 1) + 1) + 1) + 1) + 1) + 1) + 1) + 1) + 1) + 1) + 1) + 1) ((((((((((((((((((((((((((sb + 60) + N85) + 8) + 8) + 8) + 8) + 8) + 4) + 4) + 4) + 4) + 4) + 16) + 5) + 25) + 5) + N37) + N31) + 32) + 32) + 40) + N16) + N10) + 8) + 5) + 30) 0 [some (.ref r0), some (.int x1), o2, o3, o4] [] h Q := by
  subst e_1
  subst e_2
  subst e_3
  subst e_4
  subst e_5
  subst e_6
  subst e_7
  subst e_8
  subst e_9
  subst e_10
  subst e_11
  subst e_12
  subst e_13
  subst e_14
  subst e_15
  subst e_16
  subst e_17
  subst e_18
  subst e_19
  subst e_20
  subst e_21
  subst e_22
  subst e_23
  subst e_24
  subst e_25
  subst e_26
  subst e_27
  subst e_28
  subst e_29
  subst e_30
  subst e_31
  subst e_32
  subst e_33
  subst e_34
  subst e_35
  subst e_36
  subst e_37
  subst e_38
  subst e_39
  subst e_40
  subst e_41
  subst e_42
  subst e_43
  subst e_44
  subst e_45
  subst e_46
  subst e_47
  subst e_48
  subst e_49
  subst e_50
  subst e_51
  subst e_52
  refine hs_aload_n dX10_init_0 rfl ?_
  refine hs_objInit (a := r0) dX10_init_1 ⟨wd_1110, oi_.1, oi_.2⟩ (Nat.le_of_ble_eq_true rfl) ?_
  refine hs_aload_n dX10_init_4 rfl ?_
  refine hs_bipush (v := 30) dX10_init_5 (by decide) ?_
  refine hs_newi (N := 30) dX10_init_7 (by decide) (by decide) ?_
  refine hs_putF (t := .array .int) dX10_init_9 rfl fw_X10_9_10 hg2 h4_r0 hl3 rfl rfl ?_
  refine hs_aload_n dX10_init_12 rfl ?_
  refine hs_iconst (v := 5) dX10_init_13 (by decide) ?_
  refine hs_newi (N := 5) dX10_init_14 (by decide) (by decide) ?_
  refine hs_putF (t := .array .int) dX10_init_16 rfl fw_X10_13_10 hg5 h4_r0 hl6 rfl rfl ?_
  refine hs_aload_n dX10_init_19 rfl ?_
  refine hs_bipush (v := 8) dX10_init_20 (by decide) ?_
  refine hs_newi (N := 8) dX10_init_22 (by decide) (by decide) ?_
  refine hs_putF (t := .array .int) dX10_init_24 rfl fw_X10_16_10 hg8 h4_r0 hl9 rfl rfl ?_
  refine hs_aload_n dX10_init_27 rfl ?_
  refine hs_sipush (v := 10368) dX10_init_28 (by decide) ?_
  refine hs_newi (N := N10) dX10_init_31 hn11 hb12 ?_
  refine hs_putF (t := .array .int) dX10_init_33 rfl fw_X10_19_10 hg14 h4_r0 hl15 rfl rfl ?_
  refine hs_aload_n dX10_init_36 rfl ?_
  refine hs_ldc (v := 41472) dX10_init_37 wd_1111 ?_
  refine hs_newi (N := N16) dX10_init_39 hn17 hb18 ?_
  refine hs_putF (t := .array .int) dX10_init_41 rfl fw_X10_23_10 hg20 h4_r0 hl21 rfl rfl ?_
  refine hs_aload_n dX10_init_44 rfl ?_
  refine hs_bipush (v := 40) dX10_init_45 (by decide) ?_
  refine hs_newi (N := 40) dX10_init_47 (by decide) (by decide) ?_
  refine hs_putF (t := .array .int) dX10_init_49 rfl fw_X10_26_10 hg23 h4_r0 hl24 rfl rfl ?_
  refine hs_aload_n dX10_init_52 rfl ?_
  refine hs_bipush (v := 32) dX10_init_53 (by decide) ?_
  refine hs_newi (N := 32) dX10_init_55 (by decide) (by decide) ?_
  refine hs_putF (t := .array .int) dX10_init_57 rfl fw_X10_29_10 hg26 h4_r0 hl27 rfl rfl ?_
  refine hs_aload_n dX10_init_60 rfl ?_
  refine hs_bipush (v := 32) dX10_init_61 (by decide) ?_
  refine hs_newi (N := 32) dX10_init_63 (by decide) (by decide) ?_
  refine hs_putF (t := .array .int) dX10_init_65 rfl fw_X10_32_10 hg29 h4_r0 hl30 rfl rfl ?_
  refine hs_aload_n dX10_init_68 rfl ?_
  refine hs_sipush (v := 1296) dX10_init_69 (by decide) ?_
  refine hs_newi (N := N31) dX10_init_72 hn32 hb33 ?_
  refine hs_putF (t := .array .int) dX10_init_74 rfl fw_X10_35_10 hg35 h4_r0 hl36 rfl rfl ?_
  refine hs_aload_n dX10_init_77 rfl ?_
  refine hs_sipush (v := 5184) dX10_init_78 (by decide) ?_
  refine hs_newi (N := N37) dX10_init_81 hn38 hb39 ?_
  refine hs_putF (t := .array .int) dX10_init_83 rfl fw_X10_38_10 hg41 h4_r0 hl42 rfl rfl ?_
  refine hs_aload_n dX10_init_86 rfl ?_
  refine hs_iconst (v := 5) dX10_init_87 (by decide) ?_
  refine hs_newz (N := 5) dX10_init_88 (by decide) (by decide) ?_
  refine hs_putF (t := .array .boolean) dX10_init_90 rfl fw_X10_41_10 hg44 h4_r0 hl45 rfl rfl ?_
  refine hs_aload_n dX10_init_93 rfl ?_
  refine hs_bipush (v := 25) dX10_init_94 (by decide) ?_
  refine hs_newi (N := 25) dX10_init_96 (by decide) (by decide) ?_
  refine hs_putF (t := .array .int) dX10_init_98 rfl fw_X10_45_10 hg47 h4_r0 hl48 rfl rfl ?_
  refine hs_aload_n dX10_init_101 rfl ?_
  refine hs_iconst (v := 5) dX10_init_102 (by decide) ?_
  refine hs_newi (N := 5) dX10_init_103 (by decide) (by decide) ?_
  refine hs_putF (t := .array .int) dX10_init_105 rfl fw_X10_48_10 hg50 h4_r0 hl51 rfl rfl ?_
  refine hs_aload_n dX10_init_108 rfl ?_
  refine hs_bipush (v := 16) dX10_init_109 (by decide) ?_
  refine hs_newi (N := 16) dX10_init_111 (by decide) (by decide) ?_
  refine hs_putF (t := .array .int) dX10_init_113 rfl fw_X10_51_10 hg53 h4_r0 hl54 rfl rfl ?_
  refine hs_aload_n dX10_init_116 rfl ?_
  refine hs_iconst (v := 4) dX10_init_117 (by decide) ?_
  refine hs_newi (N := 4) dX10_init_118 (by decide) (by decide) ?_
  refine hs_putF (t := .array .int) dX10_init_120 rfl fw_X10_54_10 hg56 h4_r0 hl57 rfl rfl ?_
  refine hs_aload_n dX10_init_123 rfl ?_
  refine hs_iconst (v := 4) dX10_init_124 (by decide) ?_
  refine hs_newi (N := 4) dX10_init_125 (by decide) (by decide) ?_
  refine hs_putF (t := .array .int) dX10_init_127 rfl fw_X10_57_10 hg59 h4_r0 hl60 rfl rfl ?_
  refine hs_aload_n dX10_init_130 rfl ?_
  refine hs_iconst (v := 4) dX10_init_131 (by decide) ?_
  refine hs_newi (N := 4) dX10_init_132 (by decide) (by decide) ?_
  refine hs_putF (t := .array .int) dX10_init_134 rfl fw_X10_60_10 hg62 h4_r0 hl63 rfl rfl ?_
  refine hs_aload_n dX10_init_137 rfl ?_
  refine hs_iconst (v := 4) dX10_init_138 (by decide) ?_
  refine hs_newi (N := 4) dX10_init_139 (by decide) (by decide) ?_
  refine hs_putF (t := .array .int) dX10_init_141 rfl fw_X10_63_10 hg65 h4_r0 hl66 rfl rfl ?_
  refine hs_aload_n dX10_init_144 rfl ?_
  refine hs_iconst (v := 4) dX10_init_145 (by decide) ?_
  refine hs_newi (N := 4) dX10_init_146 (by decide) (by decide) ?_
  refine hs_putF (t := .array .int) dX10_init_148 rfl fw_X10_66_10 hg68 h4_r0 hl69 rfl rfl ?_
  refine hs_aload_n dX10_init_151 rfl ?_
  refine hs_bipush (v := 8) dX10_init_152 (by decide) ?_
  refine hs_newi (N := 8) dX10_init_154 (by decide) (by decide) ?_
  refine hs_putF (t := .array .int) dX10_init_156 rfl fw_X10_69_10 hg71 h4_r0 hl72 rfl rfl ?_
  refine hs_aload_n dX10_init_159 rfl ?_
  refine hs_bipush (v := 8) dX10_init_160 (by decide) ?_
  refine hs_newi (N := 8) dX10_init_162 (by decide) (by decide) ?_
  refine hs_putF (t := .array .int) dX10_init_164 rfl fw_X10_72_10 hg74 h4_r0 hl75 rfl rfl ?_
  refine hs_aload_n dX10_init_167 rfl ?_
  refine hs_bipush (v := 8) dX10_init_168 (by decide) ?_
  refine hs_newi (N := 8) dX10_init_170 (by decide) (by decide) ?_
  refine hs_putF (t := .array .int) dX10_init_172 rfl fw_X10_75_10 hg77 h4_r0 hl78 rfl rfl ?_
  refine hs_aload_n dX10_init_175 rfl ?_
  refine hs_bipush (v := 8) dX10_init_176 (by decide) ?_
  refine hs_newi (N := 8) dX10_init_178 (by decide) (by decide) ?_
  refine hs_putF (t := .array .int) dX10_init_180 rfl fw_X10_78_10 hg80 h4_r0 hl81 rfl rfl ?_
  refine hs_aload_n dX10_init_183 rfl ?_
  refine hs_bipush (v := 8) dX10_init_184 (by decide) ?_
  refine hs_newi (N := 8) dX10_init_186 (by decide) (by decide) ?_
  refine hs_putF (t := .array .int) dX10_init_188 rfl fw_X10_81_10 hg83 h4_r0 hl84 rfl rfl ?_
  refine hs_aload_n dX10_init_191 rfl ?_
  refine hs_sipush (v := 480) dX10_init_192 (by decide) ?_
  refine hs_newl (N := N85) dX10_init_195 hn86 hb87 ?_
  refine hs_putF (t := .array .long) dX10_init_197 rfl fw_X10_84_10 hg89 h4_r0 hl90 rfl rfl ?_
  refine hs_aload_n dX10_init_200 rfl ?_
  refine hs_bipush (v := 60) dX10_init_201 (by decide) ?_
  refine hs_newl (N := 60) dX10_init_203 (by decide) (by decide) ?_
  refine hs_putF (t := .array .long) dX10_init_205 rfl fw_X10_88_10 hg92 h4_r0 hl93 rfl rfl ?_
  refine hs_aload_n dX10_init_208 rfl ?_
  refine hs_iconst (v := 2) dX10_init_209 (by decide) ?_
  refine hs_iload_n dX10_init_210 rfl ?_
  refine hs_iconst (v := 3) dX10_init_211 (by decide) ?_
  exact hk_z0 (hs_sta (M' := m_J9_floorMod_7cf53) (vs := [.int x1, .int 3]) (c1 := 0) (s1 := 0) dX10_init_212 wd_1112 st_J9_floorMod_7cf53 rfl (Nat.le_of_ble_eq_true rfl) hc hq_i (hc_i (fun z h9 k9 => k9)))
theorem b_X10_init_215 {G : hk_G} {d cb sb : Nat} {h : hk_H} {Q : hk_O → hk_H → Prop} {s0 : Nat} {s1 : Int32} {s2 : Int32} {fs1 : List Value} {h_1 : hk_H} {r0 : Nat} {x2 : Int32} {o1 : Option Value} {o3 : Option Value} {o4 : Option Value} (hg2 : h.2 s0 = some (.inr (10, fs1))) (h4_s0 : 4 ≤ s0) (e_1 : (hk_set h s0 (.inr (10, fs1.set 0 (.int (s1 + s2))))) = h_1) (hc : hk_Ci G m_J9_floorMod_7cf53 d 0 0 [.int x2, .int 4] h_1 (fun z h' => hk_S G m_X10_init (d + 1) cb sb 226 [some (.ref r0), o1, some (.int x2), o3, o4] [.int z, .int 2, .ref r0] h' Q)) (hl3 : 0 < fs1.length := by exact Nat.le_of_ble_eq_true rfl) : hk_S G m_X10_init (d + 1) cb sb 215 [some (.ref r0), o1, some (.int x2), o3, o4] [.int s2, .int s1, .ref s0] h Q := by
  subst e_1
  refine hs_iadd dX10_init_215 ?_
  refine hs_putF (t := .int) dX10_init_216 rfl fw_X10_97_10 hg2 h4_s0 hl3 rfl rfl ?_
  refine hs_aload_n dX10_init_219 rfl ?_
  refine hs_iconst (v := 2) dX10_init_220 (by decide) ?_
  refine hs_iload_n dX10_init_221 rfl ?_
  refine hs_iconst (v := 4) dX10_init_222 (by decide) ?_
  exact hk_z0 (hs_sta (M' := m_J9_floorMod_7cf53) (vs := [.int x2, .int 4]) (c1 := 0) (s1 := 0) dX10_init_223 wd_1112 st_J9_floorMod_7cf53 rfl (Nat.le_of_ble_eq_true rfl) hc hq_i (hc_i (fun z h9 k9 => k9)))
theorem b_X10_init_226 {G : hk_G} {d cb sb : Nat} {h : hk_H} {Q : hk_O → hk_H → Prop} {s0 : Nat} {s1 : Int32} {s2 : Int32} {fs1 : List Value} {h_1 : hk_H} {o0 : Option Value} {o1 : Option Value} {o2 : Option Value} {o3 : Option Value} {o4 : Option Value} (hg2 : h.2 s0 = some (.inr (10, fs1))) (h4_s0 : 4 ≤ s0) (e_1 : (hk_set h s0 (.inr (10, fs1.set 1 (.int (s1 + s2))))) = h_1) (k : hk_S G m_X10_init (d + 1) cb sb 232 [o0, o1, o2, some (.int 0), o4] [] h_1 Q) (ho2 : hk_c1 o2 := by first | exact hk_c1i | exact hk_c1r | exact hk_c10 | exact hk_c1n) (hl3 : 1 < fs1.length := by exact Nat.le_of_ble_eq_true rfl) : hk_S G m_X10_init (d + 1) cb sb 226 [o0, o1, o2, o3, o4] [.int s2, .int s1, .ref s0] h Q := by
  subst e_1
  refine hs_iadd dX10_init_226 ?_
  refine hs_putF (t := .int) dX10_init_227 rfl fw_X10_101_10 hg2 h4_s0 hl3 rfl rfl ?_
  refine hs_iconst (v := 0) dX10_init_230 (by decide) ?_
  refine hs_istK_n dX10_init_231 (by decide) (hk_nk1 rfl ho2) rfl ?_
  exact k
theorem b_X10_init_232 {G : hk_G} {d cb sb : Nat} {h : hk_H} {Q : hk_O → hk_H → Prop} {x3 : Int32} {r0 : Nat} {fs1 : List Value} {v3 : Int32} {o1 : Option Value} {o2 : Option Value} {o4 : Option Value} (hg2 : h.2 r0 = some (.inr (10, fs1))) (hv4 : fs1[0]? = some (.int v3)) (kt : v3 ≤ x3 → hk_S G m_X10_init (d + 1) cb sb 277 [some (.ref r0), o1, o2, some (.int x3), o4] [] h Q) (kf : ¬ v3 ≤ x3 → hk_S G m_X10_init (d + 1) cb sb 240 [some (.ref r0), o1, o2, some (.int x3), o4] [] h Q) : hk_S G m_X10_init (d + 1) cb sb 232 [some (.ref r0), o1, o2, some (.int x3), o4] [] h Q := by
  refine hs_iload_n dX10_init_232 rfl ?_
  refine hs_aload_n dX10_init_233 rfl ?_
  refine hs_get dX10_init_234 fl_X10_97_10 hg2 hv4 ?_
  exact hs_icmp_ge dX10_init_237 (by decide) kt kf
theorem b_X10_init_240 {G : hk_G} {d cb sb : Nat} {h : hk_H} {Q : hk_O → hk_H → Prop} {o0 : Option Value} {o1 : Option Value} {o2 : Option Value} {o3 : Option Value} {o4 : Option Value} (k : hk_S G m_X10_init (d + 1) cb sb 243 [o0, o1, o2, o3, some (.int 0)] [] h Q) (ho3 : hk_c1 o3 := by first | exact hk_c1i | exact hk_c1r | exact hk_c10 | exact hk_c1n) : hk_S G m_X10_init (d + 1) cb sb 240 [o0, o1, o2, o3, o4] [] h Q := by
  refine hs_iconst (v := 0) dX10_init_240 (by decide) ?_
  refine hs_istK dX10_init_241 (by decide) (hk_nk1 rfl ho3) rfl ?_
  exact k
theorem b_X10_init_243 {G : hk_G} {d cb sb : Nat} {h : hk_H} {Q : hk_O → hk_H → Prop} {x4 : Int32} {r0 : Nat} {fs1 : List Value} {v3 : Int32} {o1 : Option Value} {o2 : Option Value} {o3 : Option Value} (hg2 : h.2 r0 = some (.inr (10, fs1))) (hv4 : fs1[0]? = some (.int v3)) (kt : v3 ≤ x4 → hk_S G m_X10_init (d + 1) cb sb 271 [some (.ref r0), o1, o2, o3, some (.int x4)] [] h Q) (kf : ¬ v3 ≤ x4 → hk_S G m_X10_init (d + 1) cb sb 252 [some (.ref r0), o1, o2, o3, some (.int x4)] [] h Q) : hk_S G m_X10_init (d + 1) cb sb 243 [some (.ref r0), o1, o2, o3, some (.int x4)] [] h Q := by
  refine hs_iload dX10_init_243 rfl ?_
  refine hs_aload_n dX10_init_245 rfl ?_
  refine hs_get dX10_init_246 fl_X10_97_10 hg2 hv4 ?_
  exact hs_icmp_ge dX10_init_249 (by decide) kt kf
theorem b_X10_init_252 {G : hk_G} {d cb sb : Nat} {h : hk_H} {Q : hk_O → hk_H → Prop} {r0 : Nat} {fs1 : List Value} {v3 : Nat} {x3 : Int32} {x4 : Int32} {n5 : Nat} {f6 : Nat → Int32} {h_1 : hk_H} {o1 : Option Value} {o2 : Option Value} (hg2 : h.2 r0 = some (.inr (10, fs1))) (hv4 : fs1[19]? = some (.ref v3)) (ha7 : h.2 v3 = some (.inl (0, n5, .inl f6))) (h4_v3 : 4 ≤ v3) (j8 : Nat) (hi9 : ((4 * x3) + x4 : Int32).toInt = (j8 : Int)) (hj10 : j8 < n5) (e_1 : (hk_set h v3 (.inl (0, n5, .inl (upd f6 j8 x4)))) = h_1) (k : hk_S G m_X10_init (d + 1) cb sb 243 [some (.ref r0), o1, o2, some (.int x3), some (.int (x4 + 1))] [] h_1 Q) : hk_S G m_X10_init (d + 1) cb sb 252 [some (.ref r0), o1, o2, some (.int x3), some (.int x4)] [] h Q := by
  subst e_1
  refine hs_aload_n dX10_init_252 rfl ?_
  refine hs_get dX10_init_253 fl_X10_51_10 hg2 hv4 ?_
  refine hs_iconst (v := 4) dX10_init_256 (by decide) ?_
  refine hs_iload_n dX10_init_257 rfl ?_
  refine hs_imul dX10_init_258 ?_
  refine hs_iload dX10_init_259 rfl ?_
  refine hs_iadd dX10_init_261 ?_
  refine hs_iload dX10_init_262 rfl ?_
  refine hs_iast j8 dX10_init_264 ha7 h4_v3 hi9 hj10 ?_
  refine hs_iincK (v := 1) dX10_init_265 rfl (by decide) (by decide) (hk_nk1 rfl hk_c1i) rfl ?_
  refine hs_goto dX10_init_268 (tgt := 243) (by decide) ?_
  exact k
theorem b_X10_init_271 {G : hk_G} {d cb sb : Nat} {h : hk_H} {Q : hk_O → hk_H → Prop} {x3 : Int32} {o0 : Option Value} {o1 : Option Value} {o2 : Option Value} {o4 : Option Value} (k : hk_S G m_X10_init (d + 1) cb sb 232 [o0, o1, o2, some (.int (x3 + 1)), o4] [] h Q) (ho2 : hk_c1 o2 := by first | exact hk_c1i | exact hk_c1r | exact hk_c10 | exact hk_c1n) : hk_S G m_X10_init (d + 1) cb sb 271 [o0, o1, o2, some (.int x3), o4] [] h Q := by
  refine hs_iincK (v := 1) dX10_init_271 rfl (by decide) (by decide) (hk_nk1 rfl ho2) rfl ?_
  refine hs_goto dX10_init_274 (tgt := 232) (by decide) ?_
  exact k
theorem b_X10_init_277 {G : hk_G} {d cb sb : Nat} {h : hk_H} {Q : hk_O → hk_H → Prop} {r0 : Nat} {fs_ : List Value} {o1 : Option Value} {o2 : Option Value} {o3 : Option Value} {o4 : Option Value} (hrec : h.2 r0 = some (.inr (10, fs_))) (hc : hk_Cv G m_X10_counts d 0 0 [.ref r0] h (fun h' => hk_S G m_X10_init (d + 1) cb sb 281 [some (.ref r0), o1, o2, o3, o4] [] h' Q)) : hk_S G m_X10_init (d + 1) cb sb 277 [some (.ref r0), o1, o2, o3, o4] [] h Q := by
  refine hs_aload_n dX10_init_277 rfl ?_
  exact hk_z0 (hs_vir (M' := m_X10_counts) (vs := []) (c1 := 0) (s1 := 0) dX10_init_278 wd_1113 vi_X10_counts hrec rfl (Nat.le_of_ble_eq_true rfl) hc hq_v (hc_v (fun h9 k9 => k9)))
theorem b_X10_init_281 {G : hk_G} {d cb sb : Nat} {h : hk_H} {Q : hk_O → hk_H → Prop} {o0 : Option Value} {o1 : Option Value} {o2 : Option Value} {o3 : Option Value} {o4 : Option Value} (hq : Q (.inl none) h) : hk_S G m_X10_init (d + 1) cb sb 281 [o0, o1, o2, o3, o4] [] h Q := by
  exact hs_vret dX10_init_281 rfl hq
-- HonestHouseModel.thrown()I
theorem b_X10_thrown_0 {G : hk_G} {d cb sb : Nat} {h : hk_H} {Q : hk_O → hk_H → Prop} {r0 : Nat} {fs1 : List Value} {v3 : Int32} (hg2 : h.2 r0 = some (.inr (10, fs1))) (hv4 : fs1[13]? = some (.int v3)) (hq : Q (.inl (some (.int v3))) h) : hk_S G m_X10_thrown d cb sb 0 [some (.ref r0)] [] h Q := by
  refine hs_aload_n dX10_thrown_0 rfl ?_
  refine hs_get dX10_thrown_1 fl_X10_107_10 hg2 hv4 ?_
  exact hs_iret dX10_thrown_4 rfl hq
-- HonestHouseModel.raises(I)I
theorem b_X10_raises_0 {G : hk_G} {d cb sb : Nat} {h : hk_H} {Q : hk_O → hk_H → Prop} {r0 : Nat} {x1 : Int32} {fs1 : List Value} {h_1 : hk_H} (hg2 : h.2 r0 = some (.inr (10, fs1))) (h4_r0 : 4 ≤ r0) (e_1 : (hk_set h r0 (.inr (10, fs1.set 13 (.int x1)))) = h_1) (hq : Q (.inl (some (.int 0))) h_1) (hl3 : 13 < fs1.length := by exact Nat.le_of_ble_eq_true rfl) : hk_S G m_X10_raises d cb sb 0 [some (.ref r0), some (.int x1)] [] h Q := by
  subst e_1
  refine hs_aload_n dX10_raises_0 rfl ?_
  refine hs_iload_n dX10_raises_1 rfl ?_
  refine hs_put (t := .int) dX10_raises_2 fw_X10_107_10 hg2 h4_r0 hl3 rfl rfl ?_
  refine hs_iconst (v := 0) dX10_raises_5 (by decide) ?_
  exact hs_iret dX10_raises_6 rfl hq
-- HonestHouseModel.isIn(II)Z
theorem b_X10_isIn_0 {G : hk_G} {d cb sb : Nat} {h : hk_H} {Q : hk_O → hk_H → Prop} {x0 : Int32} {o1 : Option Value} (kt : x0 < 0 → hk_S G m_X10_isIn d cb sb 13 [some (.int x0), o1] [] h Q) (kf : ¬ x0 < 0 → hk_S G m_X10_isIn d cb sb 4 [some (.int x0), o1] [] h Q) : hk_S G m_X10_isIn d cb sb 0 [some (.int x0), o1] [] h Q := by
  refine hs_iload_n dX10_isIn_0 rfl ?_
  exact hs_if_lt dX10_isIn_1 (by decide) kt kf
theorem b_X10_isIn_4 {G : hk_G} {d cb sb : Nat} {h : hk_H} {Q : hk_O → hk_H → Prop} {x0 : Int32} {x1 : Int32} (kt : x1 ≤ x0 → hk_S G m_X10_isIn d cb sb 13 [some (.int x0), some (.int x1)] [] h Q) (kf : ¬ x1 ≤ x0 → hk_S G m_X10_isIn d cb sb 9 [some (.int x0), some (.int x1)] [] h Q) : hk_S G m_X10_isIn d cb sb 4 [some (.int x0), some (.int x1)] [] h Q := by
  refine hs_iload_n dX10_isIn_4 rfl ?_
  refine hs_iload_n dX10_isIn_5 rfl ?_
  exact hs_icmp_ge dX10_isIn_6 (by decide) kt kf
theorem b_X10_isIn_9 {G : hk_G} {d cb sb : Nat} {h : hk_H} {Q : hk_O → hk_H → Prop} {o0 : Option Value} {o1 : Option Value} (hq : Q (.inl (some (.int 1))) h) : hk_S G m_X10_isIn d cb sb 9 [o0, o1] [] h Q := by
  refine hs_iconst (v := 1) dX10_isIn_9 (by decide) ?_
  refine hs_goto dX10_isIn_10 (tgt := 14) (by decide) ?_
  exact hs_zret dX10_isIn_14 rfl (by decide) hq
theorem b_X10_isIn_13 {G : hk_G} {d cb sb : Nat} {h : hk_H} {Q : hk_O → hk_H → Prop} {o0 : Option Value} {o1 : Option Value} (hq : Q (.inl (some (.int 0))) h) : hk_S G m_X10_isIn d cb sb 13 [o0, o1] [] h Q := by
  refine hs_iconst (v := 0) dX10_isIn_13 (by decide) ?_
  exact hs_zret dX10_isIn_14 rfl (by decide) hq
theorem b_X10_isIn_14 {G : hk_G} {d cb sb : Nat} {h : hk_H} {Q : hk_O → hk_H → Prop} {s0 : Int32} {o0 : Option Value} {o1 : Option Value} (hq : Q (.inl (some (.int s0))) h) (hb : s0 = 0 ∨ s0 = 1) : hk_S G m_X10_isIn d cb sb 14 [o0, o1] [.int s0] h Q := by
  exact hs_zret dX10_isIn_14 rfl hb hq
-- HonestHouseModel.counts()V
theorem b_X10_counts_0 {G : hk_G} {d cb sb : Nat} {h : hk_H} {Q : hk_O → hk_H → Prop} {r0 : Nat} {fs1 : List Value} {v3 : Nat} {n5 : Nat} {f6 : Nat → Int32} {h_1 : hk_H} {o1 : Option Value} (hg2 : h.2 r0 = some (.inr (10, fs1))) (hv4 : fs1[6]? = some (.ref v3)) (ha7 : h.2 v3 = some (.inl (0, n5, .inl f6))) (h4_v3 : 4 ≤ v3) (j8 : Nat) (hi9 : (0 : Int32).toInt = (j8 : Int)) (hj10 : j8 < n5) (e_1 : (hk_set h v3 (.inl (0, n5, .inl (upd f6 j8 1)))) = h_1) (k : hk_S G m_X10_counts d cb sb 9 [some (.ref r0), some (.int 1)] [] h_1 Q) : hk_S G m_X10_counts d cb sb 0 [some (.ref r0), o1] [] h Q := by
  subst e_1
  refine hs_aload_n dX10_counts_0 rfl ?_
  refine hs_get dX10_counts_1 fl_X10_13_10 hg2 hv4 ?_
  refine hs_iconst (v := 0) dX10_counts_4 (by decide) ?_
  refine hs_iconst (v := 1) dX10_counts_5 (by decide) ?_
  refine hs_iast j8 dX10_counts_6 ha7 h4_v3 hi9 hj10 ?_
  refine hs_iconst (v := 1) dX10_counts_7 (by decide) ?_
  refine hs_istK_n dX10_counts_8 (by decide) (hk_nk1 rfl hk_c1r) rfl ?_
  exact k
theorem b_X10_counts_9 {G : hk_G} {d cb sb : Nat} {h : hk_H} {Q : hk_O → hk_H → Prop} {x1 : Int32} {r0 : Nat} {fs1 : List Value} {v3 : Int32} (hg2 : h.2 r0 = some (.inr (10, fs1))) (hv4 : fs1[0]? = some (.int v3)) (kt : v3 < x1 → hk_S G m_X10_counts d cb sb 42 [some (.ref r0), some (.int x1)] [] h Q) (kf : ¬ v3 < x1 → hk_S G m_X10_counts d cb sb 17 [some (.ref r0), some (.int x1)] [] h Q) : hk_S G m_X10_counts d cb sb 9 [some (.ref r0), some (.int x1)] [] h Q := by
  refine hs_iload_n dX10_counts_9 rfl ?_
  refine hs_aload_n dX10_counts_10 rfl ?_
  refine hs_get dX10_counts_11 fl_X10_97_10 hg2 hv4 ?_
  exact hs_icmp_gt dX10_counts_14 (by decide) kt kf
theorem b_X10_counts_17 {G : hk_G} {d cb sb : Nat} {h : hk_H} {Q : hk_O → hk_H → Prop} {r0 : Nat} {fs1 : List Value} {v3 : Nat} {x1 : Int32} {n5 : Nat} {f6 : Nat → Int32} {v11 : Int32} {h_1 : hk_H} (hg2 : h.2 r0 = some (.inr (10, fs1))) (hv4 : fs1[6]? = some (.ref v3)) (ha7 : h.2 v3 = some (.inl (0, n5, .inl f6))) (j8 : Nat) (hi9 : (x1 - 1 : Int32).toInt = (j8 : Int)) (hj10 : j8 < n5) (hv12 : fs1[2]? = some (.int v11)) (h4_v3 : 4 ≤ v3) (j13 : Nat) (hi14 : (x1 : Int32).toInt = (j13 : Int)) (hj15 : j13 < n5) (e_1 : (hk_set h v3 (.inl (0, n5, .inl (upd f6 j13 ((f6 j8) * v11))))) = h_1) (k : hk_S G m_X10_counts d cb sb 9 [some (.ref r0), some (.int (x1 + 1))] [] h_1 Q) : hk_S G m_X10_counts d cb sb 17 [some (.ref r0), some (.int x1)] [] h Q := by
  subst e_1
  refine hs_aload_n dX10_counts_17 rfl ?_
  refine hs_get dX10_counts_18 fl_X10_13_10 hg2 hv4 ?_
  refine hs_iload_n dX10_counts_21 rfl ?_
  refine hs_aload_n dX10_counts_22 rfl ?_
  refine hs_get dX10_counts_23 fl_X10_13_10 hg2 hv4 ?_
  refine hs_iload_n dX10_counts_26 rfl ?_
  refine hs_iconst (v := 1) dX10_counts_27 (by decide) ?_
  refine hs_isub dX10_counts_28 ?_
  refine hs_iald j8 dX10_counts_29 ha7 hi9 hj10 ?_
  refine hs_aload_n dX10_counts_30 rfl ?_
  refine hs_get dX10_counts_31 fl_X10_110_10 hg2 hv12 ?_
  refine hs_imul dX10_counts_34 ?_
  refine hs_iast j13 dX10_counts_35 ha7 h4_v3 hi14 hj15 ?_
  refine hs_iincK (v := 1) dX10_counts_36 rfl (by decide) (by decide) (hk_nk1 rfl hk_c1r) rfl ?_
  refine hs_goto dX10_counts_39 (tgt := 9) (by decide) ?_
  exact k
theorem b_X10_counts_42 {G : hk_G} {d cb sb : Nat} {h : hk_H} {Q : hk_O → hk_H → Prop} {r0 : Nat} {fs1 : List Value} {v3 : Int32} {o1 : Option Value} (hg2 : h.2 r0 = some (.inr (10, fs1))) (hv4 : fs1[2]? = some (.int v3)) (kt : ¬ v3 = 0 → hk_S G m_X10_counts d cb sb 54 [some (.ref r0), o1] [.ref r0] h Q) (kf : v3 = 0 → hk_S G m_X10_counts d cb sb 50 [some (.ref r0), o1] [.ref r0] h Q) : hk_S G m_X10_counts d cb sb 42 [some (.ref r0), o1] [] h Q := by
  refine hs_aload_n dX10_counts_42 rfl ?_
  refine hs_aload_n dX10_counts_43 rfl ?_
  refine hs_get dX10_counts_44 fl_X10_110_10 hg2 hv4 ?_
  exact hs_if_ne dX10_counts_47 (by decide) kt kf
theorem b_X10_counts_50 {G : hk_G} {d cb sb : Nat} {h : hk_H} {Q : hk_O → hk_H → Prop} {s0 : Nat} {fs1 : List Value} {h_1 : hk_H} {o0 : Option Value} {o1 : Option Value} (hg2 : h.2 s0 = some (.inr (10, fs1))) (h4_s0 : 4 ≤ s0) (e_1 : (hk_set h s0 (.inr (10, fs1.set 4 (.int 0)))) = h_1) (hq : Q (.inl none) h_1) (hl3 : 4 < fs1.length := by exact Nat.le_of_ble_eq_true rfl) : hk_S G m_X10_counts d cb sb 50 [o0, o1] [.ref s0] h Q := by
  subst e_1
  refine hs_iconst (v := 0) dX10_counts_50 (by decide) ?_
  refine hs_goto dX10_counts_51 (tgt := 63) (by decide) ?_
  refine hs_put (t := .int) dX10_counts_63 fw_X10_113_10 hg2 h4_s0 hl3 rfl rfl ?_
  exact hs_vret dX10_counts_66 rfl hq
theorem b_X10_counts_54 {G : hk_G} {d cb sb : Nat} {h : hk_H} {Q : hk_O → hk_H → Prop} {s0 : Nat} {r0 : Nat} {fs1 : List Value} {v3 : Nat} {v5 : Int32} {n7 : Nat} {f8 : Nat → Int32} {fs13 : List Value} {h_1 : hk_H} {o1 : Option Value} (hg2 : h.2 r0 = some (.inr (10, fs1))) (hv4 : fs1[6]? = some (.ref v3)) (hv6 : fs1[0]? = some (.int v5)) (ha9 : h.2 v3 = some (.inl (0, n7, .inl f8))) (j10 : Nat) (hi11 : (v5 : Int32).toInt = (j10 : Int)) (hj12 : j10 < n7) (hg14 : h.2 s0 = some (.inr (10, fs13))) (h4_s0 : 4 ≤ s0) (e_1 : (hk_set h s0 (.inr (10, fs13.set 4 (.int (f8 j10))))) = h_1) (hq : Q (.inl none) h_1) (hl15 : 4 < fs13.length := by exact Nat.le_of_ble_eq_true rfl) : hk_S G m_X10_counts d cb sb 54 [some (.ref r0), o1] [.ref s0] h Q := by
  subst e_1
  refine hs_aload_n dX10_counts_54 rfl ?_
  refine hs_get dX10_counts_55 fl_X10_13_10 hg2 hv4 ?_
  refine hs_aload_n dX10_counts_58 rfl ?_
  refine hs_get dX10_counts_59 fl_X10_97_10 hg2 hv6 ?_
  refine hs_iald j10 dX10_counts_62 ha9 hi11 hj12 ?_
  refine hs_put (t := .int) dX10_counts_63 fw_X10_113_10 hg14 h4_s0 hl15 rfl rfl ?_
  exact hs_vret dX10_counts_66 rfl hq
theorem b_X10_counts_63 {G : hk_G} {d cb sb : Nat} {h : hk_H} {Q : hk_O → hk_H → Prop} {s0 : Nat} {s1 : Int32} {fs1 : List Value} {h_1 : hk_H} {o0 : Option Value} {o1 : Option Value} (hg2 : h.2 s0 = some (.inr (10, fs1))) (h4_s0 : 4 ≤ s0) (e_1 : (hk_set h s0 (.inr (10, fs1.set 4 (.int s1)))) = h_1) (hq : Q (.inl none) h_1) (hl3 : 4 < fs1.length := by exact Nat.le_of_ble_eq_true rfl) : hk_S G m_X10_counts d cb sb 63 [o0, o1] [.int s1, .ref s0] h Q := by
  subst e_1
  refine hs_put (t := .int) dX10_counts_63 fw_X10_113_10 hg2 h4_s0 hl3 rfl rfl ?_
  exact hs_vret dX10_counts_66 rfl hq
-- HonestHouseModel.wish()I
theorem b_X10_wish_0 {G : hk_G} {d cb sb : Nat} {h : hk_H} {Q : hk_O → hk_H → Prop} {r0 : Nat} {fs1 : List Value} {v3 : Int32} (hg2 : h.2 r0 = some (.inr (10, fs1))) (hv4 : fs1[2]? = some (.int v3)) (kt : ¬ v3 = 6 → hk_S G m_X10_wish (d + 1) cb sb 12 [some (.ref r0)] [] h Q) (kf : v3 = 6 → hk_S G m_X10_wish (d + 1) cb sb 9 [some (.ref r0)] [] h Q) : hk_S G m_X10_wish (d + 1) cb sb 0 [some (.ref r0)] [] h Q := by
  refine hs_aload_n dX10_wish_0 rfl ?_
  refine hs_get dX10_wish_1 fl_X10_110_10 hg2 hv4 ?_
  refine hs_bipush (v := 6) dX10_wish_4 (by decide) ?_
  exact hs_icmp_ne dX10_wish_6 (by decide) kt kf
theorem b_X10_wish_9 {G : hk_G} {d cb sb : Nat} {h : hk_H} {Q : hk_O → hk_H → Prop} {o0 : Option Value} (hq : Q (.inl (some (.int ((-2))))) h) : hk_S G m_X10_wish (d + 1) cb sb 9 [o0] [] h Q := by
  refine hs_bipush (v := (-2)) dX10_wish_9 (by decide) ?_
  exact hs_iret dX10_wish_11 rfl hq
theorem b_X10_wish_12 {G : hk_G} {d cb sb : Nat} {h : hk_H} {Q : hk_O → hk_H → Prop} {r0 : Nat} {fs1 : List Value} {v3 : Int32} (hg2 : h.2 r0 = some (.inr (10, fs1))) (hv4 : fs1[3]? = some (.int v3)) (kt : v3 ≤ 0 → hk_S G m_X10_wish (d + 1) cb sb 22 [some (.ref r0)] [] h Q) (kf : ¬ v3 ≤ 0 → hk_S G m_X10_wish (d + 1) cb sb 19 [some (.ref r0)] [] h Q) : hk_S G m_X10_wish (d + 1) cb sb 12 [some (.ref r0)] [] h Q := by
  refine hs_aload_n dX10_wish_12 rfl ?_
  refine hs_get dX10_wish_13 fl_X10_116_10 hg2 hv4 ?_
  exact hs_if_le dX10_wish_16 (by decide) kt kf
theorem b_X10_wish_19 {G : hk_G} {d cb sb : Nat} {h : hk_H} {Q : hk_O → hk_H → Prop} {o0 : Option Value} (hq : Q (.inl (some (.int ((-3))))) h) : hk_S G m_X10_wish (d + 1) cb sb 19 [o0] [] h Q := by
  refine hs_bipush (v := (-3)) dX10_wish_19 (by decide) ?_
  exact hs_iret dX10_wish_21 rfl hq
theorem b_X10_wish_22 {G : hk_G} {d cb sb : Nat} {h : hk_H} {Q : hk_O → hk_H → Prop} {r0 : Nat} {fs1 : List Value} {v3 : Int32} {h_1 : hk_H} {fs_ : List Value} (hg2 : h.2 r0 = some (.inr (10, fs1))) (hv4 : fs1[2]? = some (.int v3)) (h4_r0 : 4 ≤ r0) (e_1 : (hk_set h r0 (.inr (10, fs1.set 2 (.int (v3 + 1))))) = h_1) (hrec : h_1.2 r0 = some (.inr (10, fs_))) (hc : hk_Cv G m_X10_counts d 0 0 [.ref r0] h_1 (fun h' => hk_S G m_X10_wish (d + 1) cb sb 36 [some (.ref r0)] [] h' Q)) (hl5 : 2 < fs1.length := by exact Nat.le_of_ble_eq_true rfl) : hk_S G m_X10_wish (d + 1) cb sb 22 [some (.ref r0)] [] h Q := by
  subst e_1
  refine hs_aload_n dX10_wish_22 rfl ?_
  refine hs_dup dX10_wish_23 rfl ?_
  refine hs_get dX10_wish_24 fl_X10_110_10 hg2 hv4 ?_
  refine hs_iconst (v := 1) dX10_wish_27 (by decide) ?_
  refine hs_iadd dX10_wish_28 ?_
  refine hs_put (t := .int) dX10_wish_29 fw_X10_110_10 hg2 h4_r0 hl5 rfl rfl ?_
  refine hs_aload_n dX10_wish_32 rfl ?_
  exact hk_z0 (hs_vir (M' := m_X10_counts) (vs := []) (c1 := 0) (s1 := 0) dX10_wish_33 wd_1113 vi_X10_counts hrec rfl (Nat.le_of_ble_eq_true rfl) hc hq_v (hc_v (fun h9 k9 => k9)))
theorem b_X10_wish_36 {G : hk_G} {d cb sb : Nat} {h : hk_H} {Q : hk_O → hk_H → Prop} {r0 : Nat} {fs1 : List Value} {v3 : Int32} (hg2 : h.2 r0 = some (.inr (10, fs1))) (hv4 : fs1[2]? = some (.int v3)) (hq : Q (.inl (some (.int (v3 - 1)))) h) : hk_S G m_X10_wish (d + 1) cb sb 36 [some (.ref r0)] [] h Q := by
  refine hs_aload_n dX10_wish_36 rfl ?_
  refine hs_get dX10_wish_37 fl_X10_110_10 hg2 hv4 ?_
  refine hs_iconst (v := 1) dX10_wish_40 (by decide) ?_
  refine hs_isub dX10_wish_41 ?_
  exact hs_iret dX10_wish_42 rfl hq
-- HonestHouseModel.worth(III)I
theorem b_X10_worth_0 {G : hk_G} {d cb sb : Nat} {h : hk_H} {Q : hk_O → hk_H → Prop} {x1 : Int32} {r0 : Nat} {fs1 : List Value} {v3 : Int32} {o2 : Option Value} {o3 : Option Value} {o4 : Option Value} (hg2 : h.2 r0 = some (.inr (10, fs1))) (hv4 : fs1[2]? = some (.int v3)) (hc : hk_Ci G m_X10_isIn d 0 0 [.int x1, .int v3] h (fun z h' => hk_S G m_X10_worth (d + 1) cb sb 8 [some (.ref r0), some (.int x1), o2, o3, o4] [.int z] h' Q)) : hk_S G m_X10_worth (d + 1) cb sb 0 [some (.ref r0), some (.int x1), o2, o3, o4] [] h Q := by
  refine hs_iload_n dX10_worth_0 rfl ?_
  refine hs_aload_n dX10_worth_1 rfl ?_
  refine hs_get dX10_worth_2 fl_X10_110_10 hg2 hv4 ?_
  exact hk_z0 (hs_sta (M' := m_X10_isIn) (vs := [.int x1, .int v3]) (c1 := 0) (s1 := 0) dX10_worth_5 wd_1226 st_X10_isIn rfl (Nat.le_of_ble_eq_true rfl) hc hq_i (hc_i (fun z h9 k9 => k9)))
theorem b_X10_worth_8 {G : hk_G} {d cb sb : Nat} {h : hk_H} {Q : hk_O → hk_H → Prop} {s0 : Int32} {o0 : Option Value} {o1 : Option Value} {o2 : Option Value} {o3 : Option Value} {o4 : Option Value} (kt : s0 = 0 → hk_S G m_X10_worth (d + 1) cb sb 34 [o0, o1, o2, o3, o4] [] h Q) (kf : ¬ s0 = 0 → hk_S G m_X10_worth (d + 1) cb sb 11 [o0, o1, o2, o3, o4] [] h Q) : hk_S G m_X10_worth (d + 1) cb sb 8 [o0, o1, o2, o3, o4] [.int s0] h Q := by
  exact hs_if_eq dX10_worth_8 (by decide) kt kf
theorem b_X10_worth_11 {G : hk_G} {d cb sb : Nat} {h : hk_H} {Q : hk_O → hk_H → Prop} {x2 : Int32} {r0 : Nat} {fs1 : List Value} {v3 : Int32} {o1 : Option Value} {o3 : Option Value} {o4 : Option Value} (hg2 : h.2 r0 = some (.inr (10, fs1))) (hv4 : fs1[1]? = some (.int v3)) (hc : hk_Ci G m_X10_isIn d 0 0 [.int x2, .int v3] h (fun z h' => hk_S G m_X10_worth (d + 1) cb sb 19 [some (.ref r0), o1, some (.int x2), o3, o4] [.int z] h' Q)) : hk_S G m_X10_worth (d + 1) cb sb 11 [some (.ref r0), o1, some (.int x2), o3, o4] [] h Q := by
  refine hs_iload_n dX10_worth_11 rfl ?_
  refine hs_aload_n dX10_worth_12 rfl ?_
  refine hs_get dX10_worth_13 fl_X10_101_10 hg2 hv4 ?_
  exact hk_z0 (hs_sta (M' := m_X10_isIn) (vs := [.int x2, .int v3]) (c1 := 0) (s1 := 0) dX10_worth_16 wd_1226 st_X10_isIn rfl (Nat.le_of_ble_eq_true rfl) hc hq_i (hc_i (fun z h9 k9 => k9)))
theorem b_X10_worth_19 {G : hk_G} {d cb sb : Nat} {h : hk_H} {Q : hk_O → hk_H → Prop} {s0 : Int32} {o0 : Option Value} {o1 : Option Value} {o2 : Option Value} {o3 : Option Value} {o4 : Option Value} (kt : s0 = 0 → hk_S G m_X10_worth (d + 1) cb sb 34 [o0, o1, o2, o3, o4] [] h Q) (kf : ¬ s0 = 0 → hk_S G m_X10_worth (d + 1) cb sb 22 [o0, o1, o2, o3, o4] [] h Q) : hk_S G m_X10_worth (d + 1) cb sb 19 [o0, o1, o2, o3, o4] [.int s0] h Q := by
  exact hs_if_eq dX10_worth_19 (by decide) kt kf
theorem b_X10_worth_22 {G : hk_G} {d cb sb : Nat} {h : hk_H} {Q : hk_O → hk_H → Prop} {x3 : Int32} {o0 : Option Value} {o1 : Option Value} {o2 : Option Value} {o4 : Option Value} (kt : x3 < ((-99)) → hk_S G m_X10_worth (d + 1) cb sb 34 [o0, o1, o2, some (.int x3), o4] [] h Q) (kf : ¬ x3 < ((-99)) → hk_S G m_X10_worth (d + 1) cb sb 28 [o0, o1, o2, some (.int x3), o4] [] h Q) : hk_S G m_X10_worth (d + 1) cb sb 22 [o0, o1, o2, some (.int x3), o4] [] h Q := by
  refine hs_iload_n dX10_worth_22 rfl ?_
  refine hs_bipush (v := (-99)) dX10_worth_23 (by decide) ?_
  exact hs_icmp_lt dX10_worth_25 (by decide) kt kf
theorem b_X10_worth_28 {G : hk_G} {d cb sb : Nat} {h : hk_H} {Q : hk_O → hk_H → Prop} {x3 : Int32} {o0 : Option Value} {o1 : Option Value} {o2 : Option Value} {o4 : Option Value} (kt : x3 ≤ 99 → hk_S G m_X10_worth (d + 1) cb sb 36 [o0, o1, o2, some (.int x3), o4] [] h Q) (kf : ¬ x3 ≤ 99 → hk_S G m_X10_worth (d + 1) cb sb 34 [o0, o1, o2, some (.int x3), o4] [] h Q) : hk_S G m_X10_worth (d + 1) cb sb 28 [o0, o1, o2, some (.int x3), o4] [] h Q := by
  refine hs_iload_n dX10_worth_28 rfl ?_
  refine hs_bipush (v := 99) dX10_worth_29 (by decide) ?_
  exact hs_icmp_le dX10_worth_31 (by decide) kt kf
theorem b_X10_worth_34 {G : hk_G} {d cb sb : Nat} {h : hk_H} {Q : hk_O → hk_H → Prop} {o0 : Option Value} {o1 : Option Value} {o2 : Option Value} {o3 : Option Value} {o4 : Option Value} (hq : Q (.inl (some (.int ((-1))))) h) : hk_S G m_X10_worth (d + 1) cb sb 34 [o0, o1, o2, o3, o4] [] h Q := by
  refine hs_iconst (v := (-1)) dX10_worth_34 (by decide) ?_
  exact hs_iret dX10_worth_35 rfl hq
theorem b_X10_worth_36 {G : hk_G} {d cb sb : Nat} {h : hk_H} {Q : hk_O → hk_H → Prop} {r0 : Nat} {fs1 : List Value} {v3 : Int32} {o1 : Option Value} {o2 : Option Value} {o3 : Option Value} {o4 : Option Value} (hg2 : h.2 r0 = some (.inr (10, fs1))) (hv4 : fs1[3]? = some (.int v3)) (kt : v3 ≤ 0 → hk_S G m_X10_worth (d + 1) cb sb 46 [some (.ref r0), o1, o2, o3, o4] [] h Q) (kf : ¬ v3 ≤ 0 → hk_S G m_X10_worth (d + 1) cb sb 43 [some (.ref r0), o1, o2, o3, o4] [] h Q) : hk_S G m_X10_worth (d + 1) cb sb 36 [some (.ref r0), o1, o2, o3, o4] [] h Q := by
  refine hs_aload_n dX10_worth_36 rfl ?_
  refine hs_get dX10_worth_37 fl_X10_116_10 hg2 hv4 ?_
  exact hs_if_le dX10_worth_40 (by decide) kt kf
theorem b_X10_worth_43 {G : hk_G} {d cb sb : Nat} {h : hk_H} {Q : hk_O → hk_H → Prop} {o0 : Option Value} {o1 : Option Value} {o2 : Option Value} {o3 : Option Value} {o4 : Option Value} (hq : Q (.inl (some (.int ((-3))))) h) : hk_S G m_X10_worth (d + 1) cb sb 43 [o0, o1, o2, o3, o4] [] h Q := by
  refine hs_bipush (v := (-3)) dX10_worth_43 (by decide) ?_
  exact hs_iret dX10_worth_45 rfl hq
theorem b_X10_worth_46 {G : hk_G} {d cb sb : Nat} {h : hk_H} {Q : hk_O → hk_H → Prop} {r0 : Nat} {fs1 : List Value} {v3 : Nat} {x1 : Int32} {x2 : Int32} {n5 : Nat} {f6 : Nat → Int32} {x3 : Int32} {h_1 : hk_H} {o4 : Option Value} (hg2 : h.2 r0 = some (.inr (10, fs1))) (hv4 : fs1[5]? = some (.ref v3)) (ha7 : h.2 v3 = some (.inl (0, n5, .inl f6))) (j8 : Nat) (hi9 : ((5 * x1) + x2 : Int32).toInt = (j8 : Int)) (hj10 : j8 < n5) (h4_v3 : 4 ≤ v3) (e_1 : (hk_set h v3 (.inl (0, n5, .inl (upd f6 j8 x3)))) = h_1) (kt : ¬ (f6 j8) = x3 → hk_S G m_X10_worth (d + 1) cb sb 79 [some (.ref r0), some (.int x1), some (.int x2), some (.int x3), some (.int (f6 j8))] [] h_1 Q) (kf : (f6 j8) = x3 → hk_S G m_X10_worth (d + 1) cb sb 75 [some (.ref r0), some (.int x1), some (.int x2), some (.int x3), some (.int (f6 j8))] [] h_1 Q) : hk_S G m_X10_worth (d + 1) cb sb 46 [some (.ref r0), some (.int x1), some (.int x2), some (.int x3), o4] [] h Q := by
  subst e_1
  refine hs_aload_n dX10_worth_46 rfl ?_
  refine hs_get dX10_worth_47 fl_X10_9_10 hg2 hv4 ?_
  refine hs_iconst (v := 5) dX10_worth_50 (by decide) ?_
  refine hs_iload_n dX10_worth_51 rfl ?_
  refine hs_imul dX10_worth_52 ?_
  refine hs_iload_n dX10_worth_53 rfl ?_
  refine hs_iadd dX10_worth_54 ?_
  refine hs_iald j8 dX10_worth_55 ha7 hi9 hj10 ?_
  refine hs_istK dX10_worth_56 (by decide) (hk_nk1 rfl hk_c1i) rfl ?_
  refine hs_aload_n dX10_worth_58 rfl ?_
  refine hs_get dX10_worth_59 fl_X10_9_10 hg2 hv4 ?_
  refine hs_iconst (v := 5) dX10_worth_62 (by decide) ?_
  refine hs_iload_n dX10_worth_63 rfl ?_
  refine hs_imul dX10_worth_64 ?_
  refine hs_iload_n dX10_worth_65 rfl ?_
  refine hs_iadd dX10_worth_66 ?_
  refine hs_iload_n dX10_worth_67 rfl ?_
  refine hs_iast j8 dX10_worth_68 ha7 h4_v3 hi9 hj10 ?_
  refine hs_iload dX10_worth_69 rfl ?_
  refine hs_iload_n dX10_worth_71 rfl ?_
  exact hs_icmp_ne dX10_worth_72 (by decide) kt kf
theorem b_X10_worth_75 {G : hk_G} {d cb sb : Nat} {h : hk_H} {Q : hk_O → hk_H → Prop} {o0 : Option Value} {o1 : Option Value} {o2 : Option Value} {o3 : Option Value} {o4 : Option Value} (hq : Q (.inl (some (.int 0))) h) : hk_S G m_X10_worth (d + 1) cb sb 75 [o0, o1, o2, o3, o4] [] h Q := by
  refine hs_iconst (v := 0) dX10_worth_75 (by decide) ?_
  refine hs_goto dX10_worth_76 (tgt := 80) (by decide) ?_
  exact hs_iret dX10_worth_80 rfl hq
theorem b_X10_worth_79 {G : hk_G} {d cb sb : Nat} {h : hk_H} {Q : hk_O → hk_H → Prop} {o0 : Option Value} {o1 : Option Value} {o2 : Option Value} {o3 : Option Value} {o4 : Option Value} (hq : Q (.inl (some (.int 1))) h) : hk_S G m_X10_worth (d + 1) cb sb 79 [o0, o1, o2, o3, o4] [] h Q := by
  refine hs_iconst (v := 1) dX10_worth_79 (by decide) ?_
  exact hs_iret dX10_worth_80 rfl hq
theorem b_X10_worth_80 {G : hk_G} {d cb sb : Nat} {h : hk_H} {Q : hk_O → hk_H → Prop} {s0 : Int32} {o0 : Option Value} {o1 : Option Value} {o2 : Option Value} {o3 : Option Value} {o4 : Option Value} (hq : Q (.inl (some (.int s0))) h) : hk_S G m_X10_worth (d + 1) cb sb 80 [o0, o1, o2, o3, o4] [.int s0] h Q := by
  exact hs_iret dX10_worth_80 rfl hq
-- HonestHouseModel.rule(I)I
theorem b_X10_rule_0 {G : hk_G} {d cb sb : Nat} {h : hk_H} {Q : hk_O → hk_H → Prop} {x1 : Int32} {o0 : Option Value} {o2 : Option Value} (hc : hk_Ci G m_X10_isIn d 0 0 [.int x1, .int 4] h (fun z h' => hk_S G m_X10_rule (d + 1) cb sb 5 [o0, some (.int x1), o2] [.int z] h' Q)) : hk_S G m_X10_rule (d + 1) cb sb 0 [o0, some (.int x1), o2] [] h Q := by
  refine hs_iload_n dX10_rule_0 rfl ?_
  refine hs_iconst (v := 4) dX10_rule_1 (by decide) ?_
  exact hk_z0 (hs_sta (M' := m_X10_isIn) (vs := [.int x1, .int 4]) (c1 := 0) (s1 := 0) dX10_rule_2 wd_1226 st_X10_isIn rfl (Nat.le_of_ble_eq_true rfl) hc hq_i (hc_i (fun z h9 k9 => k9)))
theorem b_X10_rule_5 {G : hk_G} {d cb sb : Nat} {h : hk_H} {Q : hk_O → hk_H → Prop} {s0 : Int32} {o0 : Option Value} {o1 : Option Value} {o2 : Option Value} (kt : s0 = 0 → hk_S G m_X10_rule (d + 1) cb sb 15 [o0, o1, o2] [] h Q) (kf : ¬ s0 = 0 → hk_S G m_X10_rule (d + 1) cb sb 8 [o0, o1, o2] [] h Q) : hk_S G m_X10_rule (d + 1) cb sb 5 [o0, o1, o2] [.int s0] h Q := by
  exact hs_if_eq dX10_rule_5 (by decide) kt kf
theorem b_X10_rule_8 {G : hk_G} {d cb sb : Nat} {h : hk_H} {Q : hk_O → hk_H → Prop} {r0 : Nat} {fs1 : List Value} {v3 : Int32} {o1 : Option Value} {o2 : Option Value} (hg2 : h.2 r0 = some (.inr (10, fs1))) (hv4 : fs1[2]? = some (.int v3)) (kt : ¬ v3 = 0 → hk_S G m_X10_rule (d + 1) cb sb 17 [some (.ref r0), o1, o2] [] h Q) (kf : v3 = 0 → hk_S G m_X10_rule (d + 1) cb sb 15 [some (.ref r0), o1, o2] [] h Q) : hk_S G m_X10_rule (d + 1) cb sb 8 [some (.ref r0), o1, o2] [] h Q := by
  refine hs_aload_n dX10_rule_8 rfl ?_
  refine hs_get dX10_rule_9 fl_X10_110_10 hg2 hv4 ?_
  exact hs_if_ne dX10_rule_12 (by decide) kt kf
theorem b_X10_rule_15 {G : hk_G} {d cb sb : Nat} {h : hk_H} {Q : hk_O → hk_H → Prop} {o0 : Option Value} {o1 : Option Value} {o2 : Option Value} (hq : Q (.inl (some (.int ((-1))))) h) : hk_S G m_X10_rule (d + 1) cb sb 15 [o0, o1, o2] [] h Q := by
  refine hs_iconst (v := (-1)) dX10_rule_15 (by decide) ?_
  exact hs_iret dX10_rule_16 rfl hq
theorem b_X10_rule_17 {G : hk_G} {d cb sb : Nat} {h : hk_H} {Q : hk_O → hk_H → Prop} {r0 : Nat} {fs1 : List Value} {v3 : Int32} {o1 : Option Value} {o2 : Option Value} (hg2 : h.2 r0 = some (.inr (10, fs1))) (hv4 : fs1[3]? = some (.int v3)) (kt : ¬ v3 = 8 → hk_S G m_X10_rule (d + 1) cb sb 29 [some (.ref r0), o1, o2] [] h Q) (kf : v3 = 8 → hk_S G m_X10_rule (d + 1) cb sb 26 [some (.ref r0), o1, o2] [] h Q) : hk_S G m_X10_rule (d + 1) cb sb 17 [some (.ref r0), o1, o2] [] h Q := by
  refine hs_aload_n dX10_rule_17 rfl ?_
  refine hs_get dX10_rule_18 fl_X10_116_10 hg2 hv4 ?_
  refine hs_bipush (v := 8) dX10_rule_21 (by decide) ?_
  exact hs_icmp_ne dX10_rule_23 (by decide) kt kf
theorem b_X10_rule_26 {G : hk_G} {d cb sb : Nat} {h : hk_H} {Q : hk_O → hk_H → Prop} {o0 : Option Value} {o1 : Option Value} {o2 : Option Value} (hq : Q (.inl (some (.int ((-2))))) h) : hk_S G m_X10_rule (d + 1) cb sb 26 [o0, o1, o2] [] h Q := by
  refine hs_bipush (v := (-2)) dX10_rule_26 (by decide) ?_
  exact hs_iret dX10_rule_28 rfl hq
theorem b_X10_rule_29 {G : hk_G} {d cb sb : Nat} {h : hk_H} {Q : hk_O → hk_H → Prop} {r0 : Nat} {fs1 : List Value} {v3 : Nat} {v5 : Int32} {x1 : Int32} {n7 : Nat} {f8 : Nat → Int32} {h_1 : hk_H} {o2 : Option Value} (hg2 : h.2 r0 = some (.inr (10, fs1))) (hv4 : fs1[7]? = some (.ref v3)) (hv6 : fs1[3]? = some (.int v5)) (ha9 : h.2 v3 = some (.inl (0, n7, .inl f8))) (h4_v3 : 4 ≤ v3) (j10 : Nat) (hi11 : (v5 : Int32).toInt = (j10 : Int)) (hj12 : j10 < n7) (e_1 : (hk_set h v3 (.inl (0, n7, .inl (upd f8 j10 x1)))) = h_1) (k : hk_S G m_X10_rule (d + 1) cb sb 41 [some (.ref r0), some (.int x1), some (.int 0)] [] h_1 Q) : hk_S G m_X10_rule (d + 1) cb sb 29 [some (.ref r0), some (.int x1), o2] [] h Q := by
  subst e_1
  refine hs_aload_n dX10_rule_29 rfl ?_
  refine hs_get dX10_rule_30 fl_X10_16_10 hg2 hv4 ?_
  refine hs_aload_n dX10_rule_33 rfl ?_
  refine hs_get dX10_rule_34 fl_X10_116_10 hg2 hv6 ?_
  refine hs_iload_n dX10_rule_37 rfl ?_
  refine hs_iast j10 dX10_rule_38 ha9 h4_v3 hi11 hj12 ?_
  refine hs_iconst (v := 0) dX10_rule_39 (by decide) ?_
  refine hs_istK_n dX10_rule_40 (by decide) (hk_nk1 rfl hk_c1i) rfl ?_
  exact k
theorem b_X10_rule_41 {G : hk_G} {d cb sb : Nat} {h : hk_H} {Q : hk_O → hk_H → Prop} {x2 : Int32} {r0 : Nat} {fs1 : List Value} {v3 : Int32} {o1 : Option Value} (hg2 : h.2 r0 = some (.inr (10, fs1))) (hv4 : fs1[4]? = some (.int v3)) (kt : v3 ≤ x2 → hk_S G m_X10_rule (d + 1) cb sb 71 [some (.ref r0), o1, some (.int x2)] [] h Q) (kf : ¬ v3 ≤ x2 → hk_S G m_X10_rule (d + 1) cb sb 49 [some (.ref r0), o1, some (.int x2)] [] h Q) : hk_S G m_X10_rule (d + 1) cb sb 41 [some (.ref r0), o1, some (.int x2)] [] h Q := by
  refine hs_iload_n dX10_rule_41 rfl ?_
  refine hs_aload_n dX10_rule_42 rfl ?_
  refine hs_get dX10_rule_43 fl_X10_113_10 hg2 hv4 ?_
  exact hs_icmp_ge dX10_rule_46 (by decide) kt kf
theorem b_X10_rule_49 {G : hk_G} {d cb sb : Nat} {h : hk_H} {Q : hk_O → hk_H → Prop} {r0 : Nat} {fs1 : List Value} {v3 : Nat} {v5 : Int32} {x2 : Int32} {n7 : Nat} {f8 : Nat → Int32} {h_1 : hk_H} {o1 : Option Value} (hg2 : h.2 r0 = some (.inr (10, fs1))) (hv4 : fs1[8]? = some (.ref v3)) (hv6 : fs1[3]? = some (.int v5)) (ha9 : h.2 v3 = some (.inl (0, n7, .inl f8))) (h4_v3 : 4 ≤ v3) (j10 : Nat) (hi11 : ((1296 * v5) + x2 : Int32).toInt = (j10 : Int)) (hj12 : j10 < n7) (e_1 : (hk_set h v3 (.inl (0, n7, .inl (upd f8 j10 0)))) = h_1) (k : hk_S G m_X10_rule (d + 1) cb sb 41 [some (.ref r0), o1, some (.int (x2 + 1))] [] h_1 Q) (ho1 : hk_c1 o1 := by first | exact hk_c1i | exact hk_c1r | exact hk_c10 | exact hk_c1n) : hk_S G m_X10_rule (d + 1) cb sb 49 [some (.ref r0), o1, some (.int x2)] [] h Q := by
  subst e_1
  refine hs_aload_n dX10_rule_49 rfl ?_
  refine hs_get dX10_rule_50 fl_X10_19_10 hg2 hv4 ?_
  refine hs_sipush (v := 1296) dX10_rule_53 (by decide) ?_
  refine hs_aload_n dX10_rule_56 rfl ?_
  refine hs_get dX10_rule_57 fl_X10_116_10 hg2 hv6 ?_
  refine hs_imul dX10_rule_60 ?_
  refine hs_iload_n dX10_rule_61 rfl ?_
  refine hs_iadd dX10_rule_62 ?_
  refine hs_iconst (v := 0) dX10_rule_63 (by decide) ?_
  refine hs_iast j10 dX10_rule_64 ha9 h4_v3 hi11 hj12 ?_
  refine hs_iincK (v := 1) dX10_rule_65 rfl (by decide) (by decide) (hk_nk1 rfl ho1) rfl ?_
  refine hs_goto dX10_rule_68 (tgt := 41) (by decide) ?_
  exact k
theorem b_X10_rule_71 {G : hk_G} {d cb sb : Nat} {h : hk_H} {Q : hk_O → hk_H → Prop} {o0 : Option Value} {o1 : Option Value} {o2 : Option Value} (k : hk_S G m_X10_rule (d + 1) cb sb 73 [o0, o1, some (.int 0)] [] h Q) (ho1 : hk_c1 o1 := by first | exact hk_c1i | exact hk_c1r | exact hk_c10 | exact hk_c1n) : hk_S G m_X10_rule (d + 1) cb sb 71 [o0, o1, o2] [] h Q := by
  refine hs_iconst (v := 0) dX10_rule_71 (by decide) ?_
  refine hs_istK_n dX10_rule_72 (by decide) (hk_nk1 rfl ho1) rfl ?_
  exact k
theorem b_X10_rule_73 {G : hk_G} {d cb sb : Nat} {h : hk_H} {Q : hk_O → hk_H → Prop} {x2 : Int32} {r0 : Nat} {fs1 : List Value} {v3 : Int32} {o1 : Option Value} (hg2 : h.2 r0 = some (.inr (10, fs1))) (hv4 : fs1[4]? = some (.int v3)) (kt : (4 * v3) ≤ x2 → hk_S G m_X10_rule (d + 1) cb sb 105 [some (.ref r0), o1, some (.int x2)] [] h Q) (kf : ¬ (4 * v3) ≤ x2 → hk_S G m_X10_rule (d + 1) cb sb 83 [some (.ref r0), o1, some (.int x2)] [] h Q) : hk_S G m_X10_rule (d + 1) cb sb 73 [some (.ref r0), o1, some (.int x2)] [] h Q := by
  refine hs_iload_n dX10_rule_73 rfl ?_
  refine hs_iconst (v := 4) dX10_rule_74 (by decide) ?_
  refine hs_aload_n dX10_rule_75 rfl ?_
  refine hs_get dX10_rule_76 fl_X10_113_10 hg2 hv4 ?_
  refine hs_imul dX10_rule_79 ?_
  exact hs_icmp_ge dX10_rule_80 (by decide) kt kf
theorem b_X10_rule_83 {G : hk_G} {d cb sb : Nat} {h : hk_H} {Q : hk_O → hk_H → Prop} {r0 : Nat} {fs1 : List Value} {v3 : Nat} {v5 : Int32} {x2 : Int32} {n7 : Nat} {f8 : Nat → Int32} {h_1 : hk_H} {o1 : Option Value} (hg2 : h.2 r0 = some (.inr (10, fs1))) (hv4 : fs1[9]? = some (.ref v3)) (hv6 : fs1[3]? = some (.int v5)) (ha9 : h.2 v3 = some (.inl (0, n7, .inl f8))) (h4_v3 : 4 ≤ v3) (j10 : Nat) (hi11 : ((5184 * v5) + x2 : Int32).toInt = (j10 : Int)) (hj12 : j10 < n7) (e_1 : (hk_set h v3 (.inl (0, n7, .inl (upd f8 j10 0)))) = h_1) (k : hk_S G m_X10_rule (d + 1) cb sb 73 [some (.ref r0), o1, some (.int (x2 + 1))] [] h_1 Q) (ho1 : hk_c1 o1 := by first | exact hk_c1i | exact hk_c1r | exact hk_c10 | exact hk_c1n) : hk_S G m_X10_rule (d + 1) cb sb 83 [some (.ref r0), o1, some (.int x2)] [] h Q := by
  subst e_1
  refine hs_aload_n dX10_rule_83 rfl ?_
  refine hs_get dX10_rule_84 fl_X10_23_10 hg2 hv4 ?_
  refine hs_sipush (v := 5184) dX10_rule_87 (by decide) ?_
  refine hs_aload_n dX10_rule_90 rfl ?_
  refine hs_get dX10_rule_91 fl_X10_116_10 hg2 hv6 ?_
  refine hs_imul dX10_rule_94 ?_
  refine hs_iload_n dX10_rule_95 rfl ?_
  refine hs_iadd dX10_rule_96 ?_
  refine hs_iconst (v := 0) dX10_rule_97 (by decide) ?_
  refine hs_iast j10 dX10_rule_98 ha9 h4_v3 hi11 hj12 ?_
  refine hs_iincK (v := 1) dX10_rule_99 rfl (by decide) (by decide) (hk_nk1 rfl ho1) rfl ?_
  refine hs_goto dX10_rule_102 (tgt := 73) (by decide) ?_
  exact k
theorem b_X10_rule_105 {G : hk_G} {d cb sb : Nat} {h : hk_H} {Q : hk_O → hk_H → Prop} {o0 : Option Value} {o1 : Option Value} {o2 : Option Value} (k : hk_S G m_X10_rule (d + 1) cb sb 107 [o0, o1, some (.int 0)] [] h Q) (ho1 : hk_c1 o1 := by first | exact hk_c1i | exact hk_c1r | exact hk_c10 | exact hk_c1n) : hk_S G m_X10_rule (d + 1) cb sb 105 [o0, o1, o2] [] h Q := by
  refine hs_iconst (v := 0) dX10_rule_105 (by decide) ?_
  refine hs_istK_n dX10_rule_106 (by decide) (hk_nk1 rfl ho1) rfl ?_
  exact k
theorem b_X10_rule_107 {G : hk_G} {d cb sb : Nat} {h : hk_H} {Q : hk_O → hk_H → Prop} {x2 : Int32} {r0 : Nat} {fs1 : List Value} {v3 : Int32} {o1 : Option Value} (hg2 : h.2 r0 = some (.inr (10, fs1))) (hv4 : fs1[1]? = some (.int v3)) (kt : v3 ≤ x2 → hk_S G m_X10_rule (d + 1) cb sb 135 [some (.ref r0), o1, some (.int x2)] [] h Q) (kf : ¬ v3 ≤ x2 → hk_S G m_X10_rule (d + 1) cb sb 115 [some (.ref r0), o1, some (.int x2)] [] h Q) : hk_S G m_X10_rule (d + 1) cb sb 107 [some (.ref r0), o1, some (.int x2)] [] h Q := by
  refine hs_iload_n dX10_rule_107 rfl ?_
  refine hs_aload_n dX10_rule_108 rfl ?_
  refine hs_get dX10_rule_109 fl_X10_101_10 hg2 hv4 ?_
  exact hs_icmp_ge dX10_rule_112 (by decide) kt kf
theorem b_X10_rule_115 {G : hk_G} {d cb sb : Nat} {h : hk_H} {Q : hk_O → hk_H → Prop} {r0 : Nat} {fs1 : List Value} {v3 : Nat} {v5 : Int32} {x2 : Int32} {n7 : Nat} {f8 : Nat → Int32} {h_1 : hk_H} {o1 : Option Value} (hg2 : h.2 r0 = some (.inr (10, fs1))) (hv4 : fs1[10]? = some (.ref v3)) (hv6 : fs1[3]? = some (.int v5)) (ha9 : h.2 v3 = some (.inl (0, n7, .inl f8))) (h4_v3 : 4 ≤ v3) (j10 : Nat) (hi11 : ((5 * v5) + x2 : Int32).toInt = (j10 : Int)) (hj12 : j10 < n7) (e_1 : (hk_set h v3 (.inl (0, n7, .inl (upd f8 j10 0)))) = h_1) (k : hk_S G m_X10_rule (d + 1) cb sb 107 [some (.ref r0), o1, some (.int (x2 + 1))] [] h_1 Q) (ho1 : hk_c1 o1 := by first | exact hk_c1i | exact hk_c1r | exact hk_c10 | exact hk_c1n) : hk_S G m_X10_rule (d + 1) cb sb 115 [some (.ref r0), o1, some (.int x2)] [] h Q := by
  subst e_1
  refine hs_aload_n dX10_rule_115 rfl ?_
  refine hs_get dX10_rule_116 fl_X10_26_10 hg2 hv4 ?_
  refine hs_iconst (v := 5) dX10_rule_119 (by decide) ?_
  refine hs_aload_n dX10_rule_120 rfl ?_
  refine hs_get dX10_rule_121 fl_X10_116_10 hg2 hv6 ?_
  refine hs_imul dX10_rule_124 ?_
  refine hs_iload_n dX10_rule_125 rfl ?_
  refine hs_iadd dX10_rule_126 ?_
  refine hs_iconst (v := 0) dX10_rule_127 (by decide) ?_
  refine hs_iast j10 dX10_rule_128 ha9 h4_v3 hi11 hj12 ?_
  refine hs_iincK (v := 1) dX10_rule_129 rfl (by decide) (by decide) (hk_nk1 rfl ho1) rfl ?_
  refine hs_goto dX10_rule_132 (tgt := 107) (by decide) ?_
  exact k
theorem b_X10_rule_135 {G : hk_G} {d cb sb : Nat} {h : hk_H} {Q : hk_O → hk_H → Prop} {o0 : Option Value} {o1 : Option Value} {o2 : Option Value} (k : hk_S G m_X10_rule (d + 1) cb sb 137 [o0, o1, some (.int 0)] [] h Q) (ho1 : hk_c1 o1 := by first | exact hk_c1i | exact hk_c1r | exact hk_c10 | exact hk_c1n) : hk_S G m_X10_rule (d + 1) cb sb 135 [o0, o1, o2] [] h Q := by
  refine hs_iconst (v := 0) dX10_rule_135 (by decide) ?_
  refine hs_istK_n dX10_rule_136 (by decide) (hk_nk1 rfl ho1) rfl ?_
  exact k
theorem b_X10_rule_137 {G : hk_G} {d cb sb : Nat} {h : hk_H} {Q : hk_O → hk_H → Prop} {x2 : Int32} {r0 : Nat} {fs1 : List Value} {v3 : Int32} {o1 : Option Value} (hg2 : h.2 r0 = some (.inr (10, fs1))) (hv4 : fs1[0]? = some (.int v3)) (kt : v3 ≤ x2 → hk_S G m_X10_rule (d + 1) cb sb 165 [some (.ref r0), o1, some (.int x2)] [] h Q) (kf : ¬ v3 ≤ x2 → hk_S G m_X10_rule (d + 1) cb sb 145 [some (.ref r0), o1, some (.int x2)] [] h Q) : hk_S G m_X10_rule (d + 1) cb sb 137 [some (.ref r0), o1, some (.int x2)] [] h Q := by
  refine hs_iload_n dX10_rule_137 rfl ?_
  refine hs_aload_n dX10_rule_138 rfl ?_
  refine hs_get dX10_rule_139 fl_X10_97_10 hg2 hv4 ?_
  exact hs_icmp_ge dX10_rule_142 (by decide) kt kf
theorem b_X10_rule_145 {G : hk_G} {d cb sb : Nat} {h : hk_H} {Q : hk_O → hk_H → Prop} {r0 : Nat} {fs1 : List Value} {v3 : Nat} {v5 : Int32} {x2 : Int32} {n7 : Nat} {f8 : Nat → Int32} {h_1 : hk_H} {o1 : Option Value} (hg2 : h.2 r0 = some (.inr (10, fs1))) (hv4 : fs1[11]? = some (.ref v3)) (hv6 : fs1[3]? = some (.int v5)) (ha9 : h.2 v3 = some (.inl (0, n7, .inl f8))) (h4_v3 : 4 ≤ v3) (j10 : Nat) (hi11 : ((4 * v5) + x2 : Int32).toInt = (j10 : Int)) (hj12 : j10 < n7) (e_1 : (hk_set h v3 (.inl (0, n7, .inl (upd f8 j10 1)))) = h_1) (k : hk_S G m_X10_rule (d + 1) cb sb 137 [some (.ref r0), o1, some (.int (x2 + 1))] [] h_1 Q) (ho1 : hk_c1 o1 := by first | exact hk_c1i | exact hk_c1r | exact hk_c10 | exact hk_c1n) : hk_S G m_X10_rule (d + 1) cb sb 145 [some (.ref r0), o1, some (.int x2)] [] h Q := by
  subst e_1
  refine hs_aload_n dX10_rule_145 rfl ?_
  refine hs_get dX10_rule_146 fl_X10_29_10 hg2 hv4 ?_
  refine hs_iconst (v := 4) dX10_rule_149 (by decide) ?_
  refine hs_aload_n dX10_rule_150 rfl ?_
  refine hs_get dX10_rule_151 fl_X10_116_10 hg2 hv6 ?_
  refine hs_imul dX10_rule_154 ?_
  refine hs_iload_n dX10_rule_155 rfl ?_
  refine hs_iadd dX10_rule_156 ?_
  refine hs_iconst (v := 1) dX10_rule_157 (by decide) ?_
  refine hs_iast j10 dX10_rule_158 ha9 h4_v3 hi11 hj12 ?_
  refine hs_iincK (v := 1) dX10_rule_159 rfl (by decide) (by decide) (hk_nk1 rfl ho1) rfl ?_
  refine hs_goto dX10_rule_162 (tgt := 137) (by decide) ?_
  exact k
theorem b_X10_rule_165 {G : hk_G} {d cb sb : Nat} {h : hk_H} {Q : hk_O → hk_H → Prop} {o0 : Option Value} {o1 : Option Value} {o2 : Option Value} (k : hk_S G m_X10_rule (d + 1) cb sb 167 [o0, o1, some (.int 0)] [] h Q) (ho1 : hk_c1 o1 := by first | exact hk_c1i | exact hk_c1r | exact hk_c10 | exact hk_c1n) : hk_S G m_X10_rule (d + 1) cb sb 165 [o0, o1, o2] [] h Q := by
  refine hs_iconst (v := 0) dX10_rule_165 (by decide) ?_
  refine hs_istK_n dX10_rule_166 (by decide) (hk_nk1 rfl ho1) rfl ?_
  exact k
theorem b_X10_rule_167 {G : hk_G} {d cb sb : Nat} {h : hk_H} {Q : hk_O → hk_H → Prop} {x2 : Int32} {r0 : Nat} {fs1 : List Value} {v3 : Int32} {o1 : Option Value} (hg2 : h.2 r0 = some (.inr (10, fs1))) (hv4 : fs1[0]? = some (.int v3)) (kt : (v3 - 1) ≤ x2 → hk_S G m_X10_rule (d + 1) cb sb 197 [some (.ref r0), o1, some (.int x2)] [] h Q) (kf : ¬ (v3 - 1) ≤ x2 → hk_S G m_X10_rule (d + 1) cb sb 177 [some (.ref r0), o1, some (.int x2)] [] h Q) : hk_S G m_X10_rule (d + 1) cb sb 167 [some (.ref r0), o1, some (.int x2)] [] h Q := by
  refine hs_iload_n dX10_rule_167 rfl ?_
  refine hs_aload_n dX10_rule_168 rfl ?_
  refine hs_get dX10_rule_169 fl_X10_97_10 hg2 hv4 ?_
  refine hs_iconst (v := 1) dX10_rule_172 (by decide) ?_
  refine hs_isub dX10_rule_173 ?_
  exact hs_icmp_ge dX10_rule_174 (by decide) kt kf
theorem b_X10_rule_177 {G : hk_G} {d cb sb : Nat} {h : hk_H} {Q : hk_O → hk_H → Prop} {r0 : Nat} {fs1 : List Value} {v3 : Nat} {v5 : Int32} {x2 : Int32} {n7 : Nat} {f8 : Nat → Int32} {h_1 : hk_H} {o1 : Option Value} (hg2 : h.2 r0 = some (.inr (10, fs1))) (hv4 : fs1[12]? = some (.ref v3)) (hv6 : fs1[3]? = some (.int v5)) (ha9 : h.2 v3 = some (.inl (0, n7, .inl f8))) (h4_v3 : 4 ≤ v3) (j10 : Nat) (hi11 : ((4 * v5) + x2 : Int32).toInt = (j10 : Int)) (hj12 : j10 < n7) (e_1 : (hk_set h v3 (.inl (0, n7, .inl (upd f8 j10 0)))) = h_1) (k : hk_S G m_X10_rule (d + 1) cb sb 167 [some (.ref r0), o1, some (.int (x2 + 1))] [] h_1 Q) (ho1 : hk_c1 o1 := by first | exact hk_c1i | exact hk_c1r | exact hk_c10 | exact hk_c1n) : hk_S G m_X10_rule (d + 1) cb sb 177 [some (.ref r0), o1, some (.int x2)] [] h Q := by
  subst e_1
  refine hs_aload_n dX10_rule_177 rfl ?_
  refine hs_get dX10_rule_178 fl_X10_32_10 hg2 hv4 ?_
  refine hs_iconst (v := 4) dX10_rule_181 (by decide) ?_
  refine hs_aload_n dX10_rule_182 rfl ?_
  refine hs_get dX10_rule_183 fl_X10_116_10 hg2 hv6 ?_
  refine hs_imul dX10_rule_186 ?_
  refine hs_iload_n dX10_rule_187 rfl ?_
  refine hs_iadd dX10_rule_188 ?_
  refine hs_iconst (v := 0) dX10_rule_189 (by decide) ?_
  refine hs_iast j10 dX10_rule_190 ha9 h4_v3 hi11 hj12 ?_
  refine hs_iincK (v := 1) dX10_rule_191 rfl (by decide) (by decide) (hk_nk1 rfl ho1) rfl ?_
  refine hs_goto dX10_rule_194 (tgt := 167) (by decide) ?_
  exact k
theorem b_X10_rule_197 {G : hk_G} {d cb sb : Nat} {h : hk_H} {Q : hk_O → hk_H → Prop} {r0 : Nat} {fs1 : List Value} {v3 : Int32} {h_1 : hk_H} {fs6 : List Value} {v8 : Int32} {o1 : Option Value} {o2 : Option Value} (hg2 : h.2 r0 = some (.inr (10, fs1))) (hv4 : fs1[3]? = some (.int v3)) (h4_r0 : 4 ≤ r0) (e_1 : (hk_set h r0 (.inr (10, fs1.set 3 (.int (v3 + 1))))) = h_1) (hg7 : h_1.2 r0 = some (.inr (10, fs6))) (hv9 : fs6[3]? = some (.int v8)) (hq : Q (.inl (some (.int (v8 - 1)))) h_1) (hl5 : 3 < fs1.length := by exact Nat.le_of_ble_eq_true rfl) : hk_S G m_X10_rule (d + 1) cb sb 197 [some (.ref r0), o1, o2] [] h Q := by
  subst e_1
  refine hs_aload_n dX10_rule_197 rfl ?_
  refine hs_dup dX10_rule_198 rfl ?_
  refine hs_get dX10_rule_199 fl_X10_116_10 hg2 hv4 ?_
  refine hs_iconst (v := 1) dX10_rule_202 (by decide) ?_
  refine hs_iadd dX10_rule_203 ?_
  refine hs_put (t := .int) dX10_rule_204 fw_X10_116_10 hg2 h4_r0 hl5 rfl rfl ?_
  refine hs_aload_n dX10_rule_207 rfl ?_
  refine hs_get dX10_rule_208 fl_X10_116_10 hg7 hv9 ?_
  refine hs_iconst (v := 1) dX10_rule_211 (by decide) ?_
  refine hs_isub dX10_rule_212 ?_
  exact hs_iret dX10_rule_213 rfl hq
-- HonestHouseModel.isRow(II)Z
theorem b_X10_isRow_0 {G : hk_G} {d cb sb : Nat} {h : hk_H} {Q : hk_O → hk_H → Prop} {x1 : Int32} {r0 : Nat} {fs1 : List Value} {v3 : Int32} {o2 : Option Value} (hg2 : h.2 r0 = some (.inr (10, fs1))) (hv4 : fs1[3]? = some (.int v3)) (hc : hk_Ci G m_X10_isIn d 0 0 [.int x1, .int v3] h (fun z h' => hk_S G m_X10_isRow (d + 1) cb sb 8 [some (.ref r0), some (.int x1), o2] [.int z] h' Q)) : hk_S G m_X10_isRow (d + 1) cb sb 0 [some (.ref r0), some (.int x1), o2] [] h Q := by
  refine hs_iload_n dX10_isRow_0 rfl ?_
  refine hs_aload_n dX10_isRow_1 rfl ?_
  refine hs_get dX10_isRow_2 fl_X10_116_10 hg2 hv4 ?_
  exact hk_z0 (hs_sta (M' := m_X10_isIn) (vs := [.int x1, .int v3]) (c1 := 0) (s1 := 0) dX10_isRow_5 wd_1226 st_X10_isIn rfl (Nat.le_of_ble_eq_true rfl) hc hq_i (hc_i (fun z h9 k9 => k9)))
theorem b_X10_isRow_8 {G : hk_G} {d cb sb : Nat} {h : hk_H} {Q : hk_O → hk_H → Prop} {s0 : Int32} {o0 : Option Value} {o1 : Option Value} {o2 : Option Value} (kt : s0 = 0 → hk_S G m_X10_isRow (d + 1) cb sb 26 [o0, o1, o2] [] h Q) (kf : ¬ s0 = 0 → hk_S G m_X10_isRow (d + 1) cb sb 11 [o0, o1, o2] [] h Q) : hk_S G m_X10_isRow (d + 1) cb sb 8 [o0, o1, o2] [.int s0] h Q := by
  exact hs_if_eq dX10_isRow_8 (by decide) kt kf
theorem b_X10_isRow_11 {G : hk_G} {d cb sb : Nat} {h : hk_H} {Q : hk_O → hk_H → Prop} {x2 : Int32} {r0 : Nat} {fs1 : List Value} {v3 : Int32} {o1 : Option Value} (hg2 : h.2 r0 = some (.inr (10, fs1))) (hv4 : fs1[4]? = some (.int v3)) (hc : hk_Ci G m_X10_isIn d 0 0 [.int x2, .int v3] h (fun z h' => hk_S G m_X10_isRow (d + 1) cb sb 19 [some (.ref r0), o1, some (.int x2)] [.int z] h' Q)) : hk_S G m_X10_isRow (d + 1) cb sb 11 [some (.ref r0), o1, some (.int x2)] [] h Q := by
  refine hs_iload_n dX10_isRow_11 rfl ?_
  refine hs_aload_n dX10_isRow_12 rfl ?_
  refine hs_get dX10_isRow_13 fl_X10_113_10 hg2 hv4 ?_
  exact hk_z0 (hs_sta (M' := m_X10_isIn) (vs := [.int x2, .int v3]) (c1 := 0) (s1 := 0) dX10_isRow_16 wd_1226 st_X10_isIn rfl (Nat.le_of_ble_eq_true rfl) hc hq_i (hc_i (fun z h9 k9 => k9)))
theorem b_X10_isRow_19 {G : hk_G} {d cb sb : Nat} {h : hk_H} {Q : hk_O → hk_H → Prop} {s0 : Int32} {o0 : Option Value} {o1 : Option Value} {o2 : Option Value} (kt : s0 = 0 → hk_S G m_X10_isRow (d + 1) cb sb 26 [o0, o1, o2] [] h Q) (kf : ¬ s0 = 0 → hk_S G m_X10_isRow (d + 1) cb sb 22 [o0, o1, o2] [] h Q) : hk_S G m_X10_isRow (d + 1) cb sb 19 [o0, o1, o2] [.int s0] h Q := by
  exact hs_if_eq dX10_isRow_19 (by decide) kt kf
theorem b_X10_isRow_22 {G : hk_G} {d cb sb : Nat} {h : hk_H} {Q : hk_O → hk_H → Prop} {o0 : Option Value} {o1 : Option Value} {o2 : Option Value} (hq : Q (.inl (some (.int 1))) h) : hk_S G m_X10_isRow (d + 1) cb sb 22 [o0, o1, o2] [] h Q := by
  refine hs_iconst (v := 1) dX10_isRow_22 (by decide) ?_
  refine hs_goto dX10_isRow_23 (tgt := 27) (by decide) ?_
  exact hs_zret dX10_isRow_27 rfl (by decide) hq
theorem b_X10_isRow_26 {G : hk_G} {d cb sb : Nat} {h : hk_H} {Q : hk_O → hk_H → Prop} {o0 : Option Value} {o1 : Option Value} {o2 : Option Value} (hq : Q (.inl (some (.int 0))) h) : hk_S G m_X10_isRow (d + 1) cb sb 26 [o0, o1, o2] [] h Q := by
  refine hs_iconst (v := 0) dX10_isRow_26 (by decide) ?_
  exact hs_zret dX10_isRow_27 rfl (by decide) hq
theorem b_X10_isRow_27 {G : hk_G} {d cb sb : Nat} {h : hk_H} {Q : hk_O → hk_H → Prop} {s0 : Int32} {o0 : Option Value} {o1 : Option Value} {o2 : Option Value} (hq : Q (.inl (some (.int s0))) h) (hb : s0 = 0 ∨ s0 = 1) : hk_S G m_X10_isRow (d + 1) cb sb 27 [o0, o1, o2] [.int s0] h Q := by
  exact hs_zret dX10_isRow_27 rfl hb hq
-- HonestHouseModel.put(III)I
theorem b_X10_put_0 {G : hk_G} {d cb sb : Nat} {h : hk_H} {Q : hk_O → hk_H → Prop} {r0 : Nat} {x1 : Int32} {x2 : Int32} {fs_ : List Value} {o3 : Option Value} {o4 : Option Value} (hrec : h.2 r0 = some (.inr (10, fs_))) (hc : hk_Ci G m_X10_isRow d 0 0 [.ref r0, .int x1, .int x2] h (fun z h' => hk_S G m_X10_put (d + 1) cb sb 6 [some (.ref r0), some (.int x1), some (.int x2), o3, o4] [.int z] h' Q)) : hk_S G m_X10_put (d + 1) cb sb 0 [some (.ref r0), some (.int x1), some (.int x2), o3, o4] [] h Q := by
  refine hs_aload_n dX10_put_0 rfl ?_
  refine hs_iload_n dX10_put_1 rfl ?_
  refine hs_iload_n dX10_put_2 rfl ?_
  exact hk_z0 (hs_vir (M' := m_X10_isRow) (vs := [.int x1, .int x2]) (c1 := 0) (s1 := 0) dX10_put_3 wd_1237 vi_X10_isRow hrec rfl (Nat.le_of_ble_eq_true rfl) hc hq_i (hc_i (fun z h9 k9 => k9)))
theorem b_X10_put_6 {G : hk_G} {d cb sb : Nat} {h : hk_H} {Q : hk_O → hk_H → Prop} {s0 : Int32} {o0 : Option Value} {o1 : Option Value} {o2 : Option Value} {o3 : Option Value} {o4 : Option Value} (kt : s0 = 0 → hk_S G m_X10_put (d + 1) cb sb 20 [o0, o1, o2, o3, o4] [] h Q) (kf : ¬ s0 = 0 → hk_S G m_X10_put (d + 1) cb sb 9 [o0, o1, o2, o3, o4] [] h Q) : hk_S G m_X10_put (d + 1) cb sb 6 [o0, o1, o2, o3, o4] [.int s0] h Q := by
  exact hs_if_eq dX10_put_6 (by decide) kt kf
theorem b_X10_put_9 {G : hk_G} {d cb sb : Nat} {h : hk_H} {Q : hk_O → hk_H → Prop} {x3 : Int32} {r0 : Nat} {fs1 : List Value} {v3 : Int32} {o1 : Option Value} {o2 : Option Value} {o4 : Option Value} (hg2 : h.2 r0 = some (.inr (10, fs1))) (hv4 : fs1[1]? = some (.int v3)) (hc : hk_Ci G m_X10_isIn d 0 0 [.int x3, .int v3] h (fun z h' => hk_S G m_X10_put (d + 1) cb sb 17 [some (.ref r0), o1, o2, some (.int x3), o4] [.int z] h' Q)) : hk_S G m_X10_put (d + 1) cb sb 9 [some (.ref r0), o1, o2, some (.int x3), o4] [] h Q := by
  refine hs_iload_n dX10_put_9 rfl ?_
  refine hs_aload_n dX10_put_10 rfl ?_
  refine hs_get dX10_put_11 fl_X10_101_10 hg2 hv4 ?_
  exact hk_z0 (hs_sta (M' := m_X10_isIn) (vs := [.int x3, .int v3]) (c1 := 0) (s1 := 0) dX10_put_14 wd_1226 st_X10_isIn rfl (Nat.le_of_ble_eq_true rfl) hc hq_i (hc_i (fun z h9 k9 => k9)))
theorem b_X10_put_17 {G : hk_G} {d cb sb : Nat} {h : hk_H} {Q : hk_O → hk_H → Prop} {s0 : Int32} {o0 : Option Value} {o1 : Option Value} {o2 : Option Value} {o3 : Option Value} {o4 : Option Value} (kt : ¬ s0 = 0 → hk_S G m_X10_put (d + 1) cb sb 22 [o0, o1, o2, o3, o4] [] h Q) (kf : s0 = 0 → hk_S G m_X10_put (d + 1) cb sb 20 [o0, o1, o2, o3, o4] [] h Q) : hk_S G m_X10_put (d + 1) cb sb 17 [o0, o1, o2, o3, o4] [.int s0] h Q := by
  exact hs_if_ne dX10_put_17 (by decide) kt kf
theorem b_X10_put_20 {G : hk_G} {d cb sb : Nat} {h : hk_H} {Q : hk_O → hk_H → Prop} {o0 : Option Value} {o1 : Option Value} {o2 : Option Value} {o3 : Option Value} {o4 : Option Value} (hq : Q (.inl (some (.int ((-1))))) h) : hk_S G m_X10_put (d + 1) cb sb 20 [o0, o1, o2, o3, o4] [] h Q := by
  refine hs_iconst (v := (-1)) dX10_put_20 (by decide) ?_
  exact hs_iret dX10_put_21 rfl hq
theorem b_X10_put_22 {G : hk_G} {d cb sb : Nat} {h : hk_H} {Q : hk_O → hk_H → Prop} {r0 : Nat} {fs1 : List Value} {v3 : Nat} {x1 : Int32} {n5 : Nat} {f6 : Nat → Int32} {o2 : Option Value} {o3 : Option Value} {o4 : Option Value} (hg2 : h.2 r0 = some (.inr (10, fs1))) (hv4 : fs1[7]? = some (.ref v3)) (ha7 : h.2 v3 = some (.inl (0, n5, .inl f6))) (j8 : Nat) (hi9 : (x1 : Int32).toInt = (j8 : Int)) (hj10 : j8 < n5) (kt : (f6 j8) ≤ 1 → hk_S G m_X10_put (d + 1) cb sb 35 [some (.ref r0), some (.int x1), o2, o3, o4] [] h Q) (kf : ¬ (f6 j8) ≤ 1 → hk_S G m_X10_put (d + 1) cb sb 32 [some (.ref r0), some (.int x1), o2, o3, o4] [] h Q) : hk_S G m_X10_put (d + 1) cb sb 22 [some (.ref r0), some (.int x1), o2, o3, o4] [] h Q := by
  refine hs_aload_n dX10_put_22 rfl ?_
  refine hs_get dX10_put_23 fl_X10_16_10 hg2 hv4 ?_
  refine hs_iload_n dX10_put_26 rfl ?_
  refine hs_iald j8 dX10_put_27 ha7 hi9 hj10 ?_
  refine hs_iconst (v := 1) dX10_put_28 (by decide) ?_
  exact hs_icmp_le dX10_put_29 (by decide) kt kf
theorem b_X10_put_32 {G : hk_G} {d cb sb : Nat} {h : hk_H} {Q : hk_O → hk_H → Prop} {o0 : Option Value} {o1 : Option Value} {o2 : Option Value} {o3 : Option Value} {o4 : Option Value} (hq : Q (.inl (some (.int ((-4))))) h) : hk_S G m_X10_put (d + 1) cb sb 32 [o0, o1, o2, o3, o4] [] h Q := by
  refine hs_bipush (v := (-4)) dX10_put_32 (by decide) ?_
  exact hs_iret dX10_put_34 rfl hq
theorem b_X10_put_35 {G : hk_G} {d cb sb : Nat} {h : hk_H} {Q : hk_O → hk_H → Prop} {r0 : Nat} {fs1 : List Value} {v3 : Nat} {x1 : Int32} {x2 : Int32} {n5 : Nat} {f6 : Nat → Int32} {x3 : Int32} {h_1 : hk_H} {o4 : Option Value} (hg2 : h.2 r0 = some (.inr (10, fs1))) (hv4 : fs1[8]? = some (.ref v3)) (ha7 : h.2 v3 = some (.inl (0, n5, .inl f6))) (j8 : Nat) (hi9 : ((1296 * x1) + x2 : Int32).toInt = (j8 : Int)) (hj10 : j8 < n5) (h4_v3 : 4 ≤ v3) (e_1 : (hk_set h v3 (.inl (0, n5, .inl (upd f6 j8 x3)))) = h_1) (hq : Q (.inl (some (.int (f6 j8)))) h_1) : hk_S G m_X10_put (d + 1) cb sb 35 [some (.ref r0), some (.int x1), some (.int x2), some (.int x3), o4] [] h Q := by
  subst e_1
  refine hs_aload_n dX10_put_35 rfl ?_
  refine hs_get dX10_put_36 fl_X10_19_10 hg2 hv4 ?_
  refine hs_sipush (v := 1296) dX10_put_39 (by decide) ?_
  refine hs_iload_n dX10_put_42 rfl ?_
  refine hs_imul dX10_put_43 ?_
  refine hs_iload_n dX10_put_44 rfl ?_
  refine hs_iadd dX10_put_45 ?_
  refine hs_iald j8 dX10_put_46 ha7 hi9 hj10 ?_
  refine hs_istK dX10_put_47 (by decide) (hk_nk1 rfl hk_c1i) rfl ?_
  refine hs_aload_n dX10_put_49 rfl ?_
  refine hs_get dX10_put_50 fl_X10_19_10 hg2 hv4 ?_
  refine hs_sipush (v := 1296) dX10_put_53 (by decide) ?_
  refine hs_iload_n dX10_put_56 rfl ?_
  refine hs_imul dX10_put_57 ?_
  refine hs_iload_n dX10_put_58 rfl ?_
  refine hs_iadd dX10_put_59 ?_
  refine hs_iload_n dX10_put_60 rfl ?_
  refine hs_iast j8 dX10_put_61 ha7 h4_v3 hi9 hj10 ?_
  refine hs_iload dX10_put_62 rfl ?_
  exact hs_iret dX10_put_64 rfl hq
-- HonestHouseModel.pay(IIII)I
theorem b_X10_pay_0 {G : hk_G} {d cb sb : Nat} {h : hk_H} {Q : hk_O → hk_H → Prop} {r0 : Nat} {x1 : Int32} {x2 : Int32} {fs_ : List Value} {o3 : Option Value} {o4 : Option Value} {o5 : Option Value} {o6 : Option Value} (hrec : h.2 r0 = some (.inr (10, fs_))) (hc : hk_Ci G m_X10_isRow d 0 0 [.ref r0, .int x1, .int x2] h (fun z h' => hk_S G m_X10_pay (d + 1) cb sb 6 [some (.ref r0), some (.int x1), some (.int x2), o3, o4, o5, o6] [.int z] h' Q)) : hk_S G m_X10_pay (d + 1) cb sb 0 [some (.ref r0), some (.int x1), some (.int x2), o3, o4, o5, o6] [] h Q := by
  refine hs_aload_n dX10_pay_0 rfl ?_
  refine hs_iload_n dX10_pay_1 rfl ?_
  refine hs_iload_n dX10_pay_2 rfl ?_
  exact hk_z0 (hs_vir (M' := m_X10_isRow) (vs := [.int x1, .int x2]) (c1 := 0) (s1 := 0) dX10_pay_3 wd_1237 vi_X10_isRow hrec rfl (Nat.le_of_ble_eq_true rfl) hc hq_i (hc_i (fun z h9 k9 => k9)))
theorem b_X10_pay_6 {G : hk_G} {d cb sb : Nat} {h : hk_H} {Q : hk_O → hk_H → Prop} {s0 : Int32} {o0 : Option Value} {o1 : Option Value} {o2 : Option Value} {o3 : Option Value} {o4 : Option Value} {o5 : Option Value} {o6 : Option Value} (kt : s0 = 0 → hk_S G m_X10_pay (d + 1) cb sb 36 [o0, o1, o2, o3, o4, o5, o6] [] h Q) (kf : ¬ s0 = 0 → hk_S G m_X10_pay (d + 1) cb sb 9 [o0, o1, o2, o3, o4, o5, o6] [] h Q) : hk_S G m_X10_pay (d + 1) cb sb 6 [o0, o1, o2, o3, o4, o5, o6] [.int s0] h Q := by
  exact hs_if_eq dX10_pay_6 (by decide) kt kf
theorem b_X10_pay_9 {G : hk_G} {d cb sb : Nat} {h : hk_H} {Q : hk_O → hk_H → Prop} {x3 : Int32} {r0 : Nat} {fs1 : List Value} {v3 : Int32} {o1 : Option Value} {o2 : Option Value} {o4 : Option Value} {o5 : Option Value} {o6 : Option Value} (hg2 : h.2 r0 = some (.inr (10, fs1))) (hv4 : fs1[0]? = some (.int v3)) (hc : hk_Ci G m_X10_isIn d 0 0 [.int x3, .int v3] h (fun z h' => hk_S G m_X10_pay (d + 1) cb sb 17 [some (.ref r0), o1, o2, some (.int x3), o4, o5, o6] [.int z] h' Q)) : hk_S G m_X10_pay (d + 1) cb sb 9 [some (.ref r0), o1, o2, some (.int x3), o4, o5, o6] [] h Q := by
  refine hs_iload_n dX10_pay_9 rfl ?_
  refine hs_aload_n dX10_pay_10 rfl ?_
  refine hs_get dX10_pay_11 fl_X10_97_10 hg2 hv4 ?_
  exact hk_z0 (hs_sta (M' := m_X10_isIn) (vs := [.int x3, .int v3]) (c1 := 0) (s1 := 0) dX10_pay_14 wd_1226 st_X10_isIn rfl (Nat.le_of_ble_eq_true rfl) hc hq_i (hc_i (fun z h9 k9 => k9)))
theorem b_X10_pay_17 {G : hk_G} {d cb sb : Nat} {h : hk_H} {Q : hk_O → hk_H → Prop} {s0 : Int32} {o0 : Option Value} {o1 : Option Value} {o2 : Option Value} {o3 : Option Value} {o4 : Option Value} {o5 : Option Value} {o6 : Option Value} (kt : s0 = 0 → hk_S G m_X10_pay (d + 1) cb sb 36 [o0, o1, o2, o3, o4, o5, o6] [] h Q) (kf : ¬ s0 = 0 → hk_S G m_X10_pay (d + 1) cb sb 20 [o0, o1, o2, o3, o4, o5, o6] [] h Q) : hk_S G m_X10_pay (d + 1) cb sb 17 [o0, o1, o2, o3, o4, o5, o6] [.int s0] h Q := by
  exact hs_if_eq dX10_pay_17 (by decide) kt kf
theorem b_X10_pay_20 {G : hk_G} {d cb sb : Nat} {h : hk_H} {Q : hk_O → hk_H → Prop} {x4 : Int32} {o0 : Option Value} {o1 : Option Value} {o2 : Option Value} {o3 : Option Value} {o5 : Option Value} {o6 : Option Value} (kt : x4 < ((-9999)) → hk_S G m_X10_pay (d + 1) cb sb 36 [o0, o1, o2, o3, some (.int x4), o5, o6] [] h Q) (kf : ¬ x4 < ((-9999)) → hk_S G m_X10_pay (d + 1) cb sb 28 [o0, o1, o2, o3, some (.int x4), o5, o6] [] h Q) : hk_S G m_X10_pay (d + 1) cb sb 20 [o0, o1, o2, o3, some (.int x4), o5, o6] [] h Q := by
  refine hs_iload dX10_pay_20 rfl ?_
  refine hs_sipush (v := (-9999)) dX10_pay_22 (by decide) ?_
  exact hs_icmp_lt dX10_pay_25 (by decide) kt kf
theorem b_X10_pay_28 {G : hk_G} {d cb sb : Nat} {h : hk_H} {Q : hk_O → hk_H → Prop} {x4 : Int32} {o0 : Option Value} {o1 : Option Value} {o2 : Option Value} {o3 : Option Value} {o5 : Option Value} {o6 : Option Value} (kt : x4 ≤ 9999 → hk_S G m_X10_pay (d + 1) cb sb 38 [o0, o1, o2, o3, some (.int x4), o5, o6] [] h Q) (kf : ¬ x4 ≤ 9999 → hk_S G m_X10_pay (d + 1) cb sb 36 [o0, o1, o2, o3, some (.int x4), o5, o6] [] h Q) : hk_S G m_X10_pay (d + 1) cb sb 28 [o0, o1, o2, o3, some (.int x4), o5, o6] [] h Q := by
  refine hs_iload dX10_pay_28 rfl ?_
  refine hs_sipush (v := 9999) dX10_pay_30 (by decide) ?_
  exact hs_icmp_le dX10_pay_33 (by decide) kt kf
theorem b_X10_pay_36 {G : hk_G} {d cb sb : Nat} {h : hk_H} {Q : hk_O → hk_H → Prop} {o0 : Option Value} {o1 : Option Value} {o2 : Option Value} {o3 : Option Value} {o4 : Option Value} {o5 : Option Value} {o6 : Option Value} (hq : Q (.inl (some (.int ((-1))))) h) : hk_S G m_X10_pay (d + 1) cb sb 36 [o0, o1, o2, o3, o4, o5, o6] [] h Q := by
  refine hs_iconst (v := (-1)) dX10_pay_36 (by decide) ?_
  exact hs_iret dX10_pay_37 rfl hq
theorem b_X10_pay_38 {G : hk_G} {d cb sb : Nat} {h : hk_H} {Q : hk_O → hk_H → Prop} {r0 : Nat} {fs1 : List Value} {v3 : Nat} {x1 : Int32} {n5 : Nat} {f6 : Nat → Int32} {o2 : Option Value} {o3 : Option Value} {o4 : Option Value} {o5 : Option Value} {o6 : Option Value} (hg2 : h.2 r0 = some (.inr (10, fs1))) (hv4 : fs1[7]? = some (.ref v3)) (ha7 : h.2 v3 = some (.inl (0, n5, .inl f6))) (j8 : Nat) (hi9 : (x1 : Int32).toInt = (j8 : Int)) (hj10 : j8 < n5) (kt : (f6 j8) = 1 → hk_S G m_X10_pay (d + 1) cb sb 51 [some (.ref r0), some (.int x1), o2, o3, o4, o5, o6] [] h Q) (kf : ¬ (f6 j8) = 1 → hk_S G m_X10_pay (d + 1) cb sb 48 [some (.ref r0), some (.int x1), o2, o3, o4, o5, o6] [] h Q) : hk_S G m_X10_pay (d + 1) cb sb 38 [some (.ref r0), some (.int x1), o2, o3, o4, o5, o6] [] h Q := by
  refine hs_aload_n dX10_pay_38 rfl ?_
  refine hs_get dX10_pay_39 fl_X10_16_10 hg2 hv4 ?_
  refine hs_iload_n dX10_pay_42 rfl ?_
  refine hs_iald j8 dX10_pay_43 ha7 hi9 hj10 ?_
  refine hs_iconst (v := 1) dX10_pay_44 (by decide) ?_
  exact hs_icmp_eq dX10_pay_45 (by decide) kt kf
theorem b_X10_pay_48 {G : hk_G} {d cb sb : Nat} {h : hk_H} {Q : hk_O → hk_H → Prop} {o0 : Option Value} {o1 : Option Value} {o2 : Option Value} {o3 : Option Value} {o4 : Option Value} {o5 : Option Value} {o6 : Option Value} (hq : Q (.inl (some (.int ((-4))))) h) : hk_S G m_X10_pay (d + 1) cb sb 48 [o0, o1, o2, o3, o4, o5, o6] [] h Q := by
  refine hs_bipush (v := (-4)) dX10_pay_48 (by decide) ?_
  exact hs_iret dX10_pay_50 rfl hq
theorem b_X10_pay_51 {G : hk_G} {d cb sb : Nat} {h : hk_H} {Q : hk_O → hk_H → Prop} {x1 : Int32} {x2 : Int32} {x3 : Int32} {r0 : Nat} {fs1 : List Value} {v3 : Nat} {n5 : Nat} {f6 : Nat → Int32} {x4 : Int32} {h_1 : hk_H} {o5 : Option Value} {o6 : Option Value} (hg2 : h.2 r0 = some (.inr (10, fs1))) (hv4 : fs1[9]? = some (.ref v3)) (ha7 : h.2 v3 = some (.inl (0, n5, .inl f6))) (j8 : Nat) (hi9 : ((4 * ((1296 * x1) + x2)) + x3 : Int32).toInt = (j8 : Int)) (hj10 : j8 < n5) (h4_v3 : 4 ≤ v3) (e_1 : (hk_set h v3 (.inl (0, n5, .inl (upd f6 j8 x4)))) = h_1) (kt : ¬ (f6 j8) = x4 → hk_S G m_X10_pay (d + 1) cb sb 93 [some (.ref r0), some (.int x1), some (.int x2), some (.int x3), some (.int x4), some (.int ((4 * ((1296 * x1) + x2)) + x3)), some (.int (f6 j8))] [] h_1 Q) (kf : (f6 j8) = x4 → hk_S G m_X10_pay (d + 1) cb sb 89 [some (.ref r0), some (.int x1), some (.int x2), some (.int x3), some (.int x4), some (.int ((4 * ((1296 * x1) + x2)) + x3)), some (.int (f6 j8))] [] h_1 Q) : hk_S G m_X10_pay (d + 1) cb sb 51 [some (.ref r0), some (.int x1), some (.int x2), some (.int x3), some (.int x4), o5, o6] [] h Q := by
  subst e_1
  refine hs_iconst (v := 4) dX10_pay_51 (by decide) ?_
  refine hs_sipush (v := 1296) dX10_pay_52 (by decide) ?_
  refine hs_iload_n dX10_pay_55 rfl ?_
  refine hs_imul dX10_pay_56 ?_
  refine hs_iload_n dX10_pay_57 rfl ?_
  refine hs_iadd dX10_pay_58 ?_
  refine hs_imul dX10_pay_59 ?_
  refine hs_iload_n dX10_pay_60 rfl ?_
  refine hs_iadd dX10_pay_61 ?_
  refine hs_istK dX10_pay_62 (by decide) (hk_nk1 rfl hk_c1i) rfl ?_
  refine hs_aload_n dX10_pay_64 rfl ?_
  refine hs_get dX10_pay_65 fl_X10_23_10 hg2 hv4 ?_
  refine hs_iload dX10_pay_68 rfl ?_
  refine hs_iald j8 dX10_pay_70 ha7 hi9 hj10 ?_
  refine hs_istK dX10_pay_71 (by decide) (hk_nk1 rfl hk_c1i) rfl ?_
  refine hs_aload_n dX10_pay_73 rfl ?_
  refine hs_get dX10_pay_74 fl_X10_23_10 hg2 hv4 ?_
  refine hs_iload dX10_pay_77 rfl ?_
  refine hs_iload dX10_pay_79 rfl ?_
  refine hs_iast j8 dX10_pay_81 ha7 h4_v3 hi9 hj10 ?_
  refine hs_iload dX10_pay_82 rfl ?_
  refine hs_iload dX10_pay_84 rfl ?_
  exact hs_icmp_ne dX10_pay_86 (by decide) kt kf
theorem b_X10_pay_89 {G : hk_G} {d cb sb : Nat} {h : hk_H} {Q : hk_O → hk_H → Prop} {o0 : Option Value} {o1 : Option Value} {o2 : Option Value} {o3 : Option Value} {o4 : Option Value} {o5 : Option Value} {o6 : Option Value} (hq : Q (.inl (some (.int 0))) h) : hk_S G m_X10_pay (d + 1) cb sb 89 [o0, o1, o2, o3, o4, o5, o6] [] h Q := by
  refine hs_iconst (v := 0) dX10_pay_89 (by decide) ?_
  refine hs_goto dX10_pay_90 (tgt := 94) (by decide) ?_
  exact hs_iret dX10_pay_94 rfl hq
theorem b_X10_pay_93 {G : hk_G} {d cb sb : Nat} {h : hk_H} {Q : hk_O → hk_H → Prop} {o0 : Option Value} {o1 : Option Value} {o2 : Option Value} {o3 : Option Value} {o4 : Option Value} {o5 : Option Value} {o6 : Option Value} (hq : Q (.inl (some (.int 1))) h) : hk_S G m_X10_pay (d + 1) cb sb 93 [o0, o1, o2, o3, o4, o5, o6] [] h Q := by
  refine hs_iconst (v := 1) dX10_pay_93 (by decide) ?_
  exact hs_iret dX10_pay_94 rfl hq
theorem b_X10_pay_94 {G : hk_G} {d cb sb : Nat} {h : hk_H} {Q : hk_O → hk_H → Prop} {s0 : Int32} {o0 : Option Value} {o1 : Option Value} {o2 : Option Value} {o3 : Option Value} {o4 : Option Value} {o5 : Option Value} {o6 : Option Value} (hq : Q (.inl (some (.int s0))) h) : hk_S G m_X10_pay (d + 1) cb sb 94 [o0, o1, o2, o3, o4, o5, o6] [.int s0] h Q := by
  exact hs_iret dX10_pay_94 rfl hq
-- HonestHouseModel.gift(IIII)I
theorem b_X10_gift_0 {G : hk_G} {d cb sb : Nat} {h : hk_H} {Q : hk_O → hk_H → Prop} {x3 : Int32} {o0 : Option Value} {o1 : Option Value} {o2 : Option Value} {o4 : Option Value} {o5 : Option Value} {o6 : Option Value} {o7 : Option Value} (kt : ¬ x3 = ((-1)) → hk_S G m_X10_gift (d + 1) cb sb 34 [o0, o1, o2, some (.int x3), o4, o5, o6, o7] [] h Q) (kf : x3 = ((-1)) → hk_S G m_X10_gift (d + 1) cb sb 5 [o0, o1, o2, some (.int x3), o4, o5, o6, o7] [] h Q) : hk_S G m_X10_gift (d + 1) cb sb 0 [o0, o1, o2, some (.int x3), o4, o5, o6, o7] [] h Q := by
  refine hs_iload_n dX10_gift_0 rfl ?_
  refine hs_iconst (v := (-1)) dX10_gift_1 (by decide) ?_
  exact hs_icmp_ne dX10_gift_2 (by decide) kt kf
theorem b_X10_gift_5 {G : hk_G} {d cb sb : Nat} {h : hk_H} {Q : hk_O → hk_H → Prop} {x2 : Int32} {r0 : Nat} {fs1 : List Value} {v3 : Int32} {o1 : Option Value} {o3 : Option Value} {o4 : Option Value} {o5 : Option Value} {o6 : Option Value} {o7 : Option Value} (hg2 : h.2 r0 = some (.inr (10, fs1))) (hv4 : fs1[1]? = some (.int v3)) (hc : hk_Ci G m_X10_isIn d 0 0 [.int x2, .int v3] h (fun z h' => hk_S G m_X10_gift (d + 1) cb sb 13 [some (.ref r0), o1, some (.int x2), o3, o4, o5, o6, o7] [.int z] h' Q)) : hk_S G m_X10_gift (d + 1) cb sb 5 [some (.ref r0), o1, some (.int x2), o3, o4, o5, o6, o7] [] h Q := by
  refine hs_iload_n dX10_gift_5 rfl ?_
  refine hs_aload_n dX10_gift_6 rfl ?_
  refine hs_get dX10_gift_7 fl_X10_101_10 hg2 hv4 ?_
  exact hk_z0 (hs_sta (M' := m_X10_isIn) (vs := [.int x2, .int v3]) (c1 := 0) (s1 := 0) dX10_gift_10 wd_1226 st_X10_isIn rfl (Nat.le_of_ble_eq_true rfl) hc hq_i (hc_i (fun z h9 k9 => k9)))
theorem b_X10_gift_13 {G : hk_G} {d cb sb : Nat} {h : hk_H} {Q : hk_O → hk_H → Prop} {s0 : Int32} {o0 : Option Value} {o1 : Option Value} {o2 : Option Value} {o3 : Option Value} {o4 : Option Value} {o5 : Option Value} {o6 : Option Value} {o7 : Option Value} (kt : s0 = 0 → hk_S G m_X10_gift (d + 1) cb sb 34 [o0, o1, o2, o3, o4, o5, o6, o7] [] h Q) (kf : ¬ s0 = 0 → hk_S G m_X10_gift (d + 1) cb sb 16 [o0, o1, o2, o3, o4, o5, o6, o7] [] h Q) : hk_S G m_X10_gift (d + 1) cb sb 13 [o0, o1, o2, o3, o4, o5, o6, o7] [.int s0] h Q := by
  exact hs_if_eq dX10_gift_13 (by decide) kt kf
theorem b_X10_gift_16 {G : hk_G} {d cb sb : Nat} {h : hk_H} {Q : hk_O → hk_H → Prop} {x4 : Int32} {o0 : Option Value} {o1 : Option Value} {o2 : Option Value} {o3 : Option Value} {o5 : Option Value} {o6 : Option Value} {o7 : Option Value} (kt : x4 < ((-99)) → hk_S G m_X10_gift (d + 1) cb sb 34 [o0, o1, o2, o3, some (.int x4), o5, o6, o7] [] h Q) (kf : ¬ x4 < ((-99)) → hk_S G m_X10_gift (d + 1) cb sb 23 [o0, o1, o2, o3, some (.int x4), o5, o6, o7] [] h Q) : hk_S G m_X10_gift (d + 1) cb sb 16 [o0, o1, o2, o3, some (.int x4), o5, o6, o7] [] h Q := by
  refine hs_iload dX10_gift_16 rfl ?_
  refine hs_bipush (v := (-99)) dX10_gift_18 (by decide) ?_
  exact hs_icmp_lt dX10_gift_20 (by decide) kt kf
theorem b_X10_gift_23 {G : hk_G} {d cb sb : Nat} {h : hk_H} {Q : hk_O → hk_H → Prop} {x4 : Int32} {o0 : Option Value} {o1 : Option Value} {o2 : Option Value} {o3 : Option Value} {o5 : Option Value} {o6 : Option Value} {o7 : Option Value} (kt : 99 < x4 → hk_S G m_X10_gift (d + 1) cb sb 34 [o0, o1, o2, o3, some (.int x4), o5, o6, o7] [] h Q) (kf : ¬ 99 < x4 → hk_S G m_X10_gift (d + 1) cb sb 30 [o0, o1, o2, o3, some (.int x4), o5, o6, o7] [] h Q) : hk_S G m_X10_gift (d + 1) cb sb 23 [o0, o1, o2, o3, some (.int x4), o5, o6, o7] [] h Q := by
  refine hs_iload dX10_gift_23 rfl ?_
  refine hs_bipush (v := 99) dX10_gift_25 (by decide) ?_
  exact hs_icmp_gt dX10_gift_27 (by decide) kt kf
theorem b_X10_gift_30 {G : hk_G} {d cb sb : Nat} {h : hk_H} {Q : hk_O → hk_H → Prop} {x2 : Int32} {o0 : Option Value} {o1 : Option Value} {o3 : Option Value} {o4 : Option Value} {o5 : Option Value} {o6 : Option Value} {o7 : Option Value} (kt : ¬ x2 = ((-1)) → hk_S G m_X10_gift (d + 1) cb sb 67 [o0, o1, some (.int x2), o3, o4, some (.int 1), o6, o7] [] h Q) (kf : x2 = ((-1)) → hk_S G m_X10_gift (d + 1) cb sb 42 [o0, o1, some (.int x2), o3, o4, some (.int 1), o6, o7] [] h Q) (ho4 : hk_c1 o4 := by first | exact hk_c1i | exact hk_c1r | exact hk_c10 | exact hk_c1n) : hk_S G m_X10_gift (d + 1) cb sb 30 [o0, o1, some (.int x2), o3, o4, o5, o6, o7] [] h Q := by
  refine hs_iconst (v := 1) dX10_gift_30 (by decide) ?_
  refine hs_goto dX10_gift_31 (tgt := 35) (by decide) ?_
  refine hs_istK dX10_gift_35 (by decide) (hk_nk1 rfl ho4) rfl ?_
  refine hs_iload_n dX10_gift_37 rfl ?_
  refine hs_iconst (v := (-1)) dX10_gift_38 (by decide) ?_
  exact hs_icmp_ne dX10_gift_39 (by decide) kt kf
theorem b_X10_gift_34 {G : hk_G} {d cb sb : Nat} {h : hk_H} {Q : hk_O → hk_H → Prop} {x2 : Int32} {o0 : Option Value} {o1 : Option Value} {o3 : Option Value} {o4 : Option Value} {o5 : Option Value} {o6 : Option Value} {o7 : Option Value} (kt : ¬ x2 = ((-1)) → hk_S G m_X10_gift (d + 1) cb sb 67 [o0, o1, some (.int x2), o3, o4, some (.int 0), o6, o7] [] h Q) (kf : x2 = ((-1)) → hk_S G m_X10_gift (d + 1) cb sb 42 [o0, o1, some (.int x2), o3, o4, some (.int 0), o6, o7] [] h Q) (ho4 : hk_c1 o4 := by first | exact hk_c1i | exact hk_c1r | exact hk_c10 | exact hk_c1n) : hk_S G m_X10_gift (d + 1) cb sb 34 [o0, o1, some (.int x2), o3, o4, o5, o6, o7] [] h Q := by
  refine hs_iconst (v := 0) dX10_gift_34 (by decide) ?_
  refine hs_istK dX10_gift_35 (by decide) (hk_nk1 rfl ho4) rfl ?_
  refine hs_iload_n dX10_gift_37 rfl ?_
  refine hs_iconst (v := (-1)) dX10_gift_38 (by decide) ?_
  exact hs_icmp_ne dX10_gift_39 (by decide) kt kf
theorem b_X10_gift_35 {G : hk_G} {d cb sb : Nat} {h : hk_H} {Q : hk_O → hk_H → Prop} {s0 : Int32} {x2 : Int32} {o0 : Option Value} {o1 : Option Value} {o3 : Option Value} {o4 : Option Value} {o5 : Option Value} {o6 : Option Value} {o7 : Option Value} (kt : ¬ x2 = ((-1)) → hk_S G m_X10_gift (d + 1) cb sb 67 [o0, o1, some (.int x2), o3, o4, some (.int s0), o6, o7] [] h Q) (kf : x2 = ((-1)) → hk_S G m_X10_gift (d + 1) cb sb 42 [o0, o1, some (.int x2), o3, o4, some (.int s0), o6, o7] [] h Q) (ho4 : hk_c1 o4 := by first | exact hk_c1i | exact hk_c1r | exact hk_c10 | exact hk_c1n) : hk_S G m_X10_gift (d + 1) cb sb 35 [o0, o1, some (.int x2), o3, o4, o5, o6, o7] [.int s0] h Q := by
  refine hs_istK dX10_gift_35 (by decide) (hk_nk1 rfl ho4) rfl ?_
  refine hs_iload_n dX10_gift_37 rfl ?_
  refine hs_iconst (v := (-1)) dX10_gift_38 (by decide) ?_
  exact hs_icmp_ne dX10_gift_39 (by decide) kt kf
theorem b_X10_gift_42 {G : hk_G} {d cb sb : Nat} {h : hk_H} {Q : hk_O → hk_H → Prop} {x3 : Int32} {r0 : Nat} {fs1 : List Value} {v3 : Int32} {o1 : Option Value} {o2 : Option Value} {o4 : Option Value} {o5 : Option Value} {o6 : Option Value} {o7 : Option Value} (hg2 : h.2 r0 = some (.inr (10, fs1))) (hv4 : fs1[0]? = some (.int v3)) (hc : hk_Ci G m_X10_isIn d 0 0 [.int x3, .int v3] h (fun z h' => hk_S G m_X10_gift (d + 1) cb sb 50 [some (.ref r0), o1, o2, some (.int x3), o4, o5, o6, o7] [.int z] h' Q)) : hk_S G m_X10_gift (d + 1) cb sb 42 [some (.ref r0), o1, o2, some (.int x3), o4, o5, o6, o7] [] h Q := by
  refine hs_iload_n dX10_gift_42 rfl ?_
  refine hs_aload_n dX10_gift_43 rfl ?_
  refine hs_get dX10_gift_44 fl_X10_97_10 hg2 hv4 ?_
  exact hk_z0 (hs_sta (M' := m_X10_isIn) (vs := [.int x3, .int v3]) (c1 := 0) (s1 := 0) dX10_gift_47 wd_1226 st_X10_isIn rfl (Nat.le_of_ble_eq_true rfl) hc hq_i (hc_i (fun z h9 k9 => k9)))
theorem b_X10_gift_50 {G : hk_G} {d cb sb : Nat} {h : hk_H} {Q : hk_O → hk_H → Prop} {s0 : Int32} {o0 : Option Value} {o1 : Option Value} {o2 : Option Value} {o3 : Option Value} {o4 : Option Value} {o5 : Option Value} {o6 : Option Value} {o7 : Option Value} (kt : s0 = 0 → hk_S G m_X10_gift (d + 1) cb sb 67 [o0, o1, o2, o3, o4, o5, o6, o7] [] h Q) (kf : ¬ s0 = 0 → hk_S G m_X10_gift (d + 1) cb sb 53 [o0, o1, o2, o3, o4, o5, o6, o7] [] h Q) : hk_S G m_X10_gift (d + 1) cb sb 50 [o0, o1, o2, o3, o4, o5, o6, o7] [.int s0] h Q := by
  exact hs_if_eq dX10_gift_50 (by decide) kt kf
theorem b_X10_gift_53 {G : hk_G} {d cb sb : Nat} {h : hk_H} {Q : hk_O → hk_H → Prop} {x4 : Int32} {o0 : Option Value} {o1 : Option Value} {o2 : Option Value} {o3 : Option Value} {o5 : Option Value} {o6 : Option Value} {o7 : Option Value} (hc : hk_Ci G m_X10_isIn d 0 0 [.int x4, .int 10] h (fun z h' => hk_S G m_X10_gift (d + 1) cb sb 60 [o0, o1, o2, o3, some (.int x4), o5, o6, o7] [.int z] h' Q)) : hk_S G m_X10_gift (d + 1) cb sb 53 [o0, o1, o2, o3, some (.int x4), o5, o6, o7] [] h Q := by
  refine hs_iload dX10_gift_53 rfl ?_
  refine hs_bipush (v := 10) dX10_gift_55 (by decide) ?_
  exact hk_z0 (hs_sta (M' := m_X10_isIn) (vs := [.int x4, .int 10]) (c1 := 0) (s1 := 0) dX10_gift_57 wd_1226 st_X10_isIn rfl (Nat.le_of_ble_eq_true rfl) hc hq_i (hc_i (fun z h9 k9 => k9)))
theorem b_X10_gift_60 {G : hk_G} {d cb sb : Nat} {h : hk_H} {Q : hk_O → hk_H → Prop} {s0 : Int32} {o0 : Option Value} {o1 : Option Value} {o2 : Option Value} {o3 : Option Value} {o4 : Option Value} {o5 : Option Value} {o6 : Option Value} {o7 : Option Value} (kt : s0 = 0 → hk_S G m_X10_gift (d + 1) cb sb 67 [o0, o1, o2, o3, o4, o5, o6, o7] [] h Q) (kf : ¬ s0 = 0 → hk_S G m_X10_gift (d + 1) cb sb 63 [o0, o1, o2, o3, o4, o5, o6, o7] [] h Q) : hk_S G m_X10_gift (d + 1) cb sb 60 [o0, o1, o2, o3, o4, o5, o6, o7] [.int s0] h Q := by
  exact hs_if_eq dX10_gift_60 (by decide) kt kf
theorem b_X10_gift_63 {G : hk_G} {d cb sb : Nat} {h : hk_H} {Q : hk_O → hk_H → Prop} {x1 : Int32} {r0 : Nat} {fs1 : List Value} {v3 : Int32} {o2 : Option Value} {o3 : Option Value} {o4 : Option Value} {o5 : Option Value} {o6 : Option Value} {o7 : Option Value} (hg2 : h.2 r0 = some (.inr (10, fs1))) (hv4 : fs1[3]? = some (.int v3)) (hc : hk_Ci G m_X10_isIn d 0 0 [.int x1, .int v3] h (fun z h' => hk_S G m_X10_gift (d + 1) cb sb 78 [some (.ref r0), some (.int x1), o2, o3, o4, o5, some (.int 1), o7] [.int z] h' Q)) (ho5 : hk_c1 o5 := by first | exact hk_c1i | exact hk_c1r | exact hk_c10 | exact hk_c1n) : hk_S G m_X10_gift (d + 1) cb sb 63 [some (.ref r0), some (.int x1), o2, o3, o4, o5, o6, o7] [] h Q := by
  refine hs_iconst (v := 1) dX10_gift_63 (by decide) ?_
  refine hs_goto dX10_gift_64 (tgt := 68) (by decide) ?_
  refine hs_istK dX10_gift_68 (by decide) (hk_nk1 rfl ho5) rfl ?_
  refine hs_iload_n dX10_gift_70 rfl ?_
  refine hs_aload_n dX10_gift_71 rfl ?_
  refine hs_get dX10_gift_72 fl_X10_116_10 hg2 hv4 ?_
  exact hk_z0 (hs_sta (M' := m_X10_isIn) (vs := [.int x1, .int v3]) (c1 := 0) (s1 := 0) dX10_gift_75 wd_1226 st_X10_isIn rfl (Nat.le_of_ble_eq_true rfl) hc hq_i (hc_i (fun z h9 k9 => k9)))
theorem b_X10_gift_67 {G : hk_G} {d cb sb : Nat} {h : hk_H} {Q : hk_O → hk_H → Prop} {x1 : Int32} {r0 : Nat} {fs1 : List Value} {v3 : Int32} {o2 : Option Value} {o3 : Option Value} {o4 : Option Value} {o5 : Option Value} {o6 : Option Value} {o7 : Option Value} (hg2 : h.2 r0 = some (.inr (10, fs1))) (hv4 : fs1[3]? = some (.int v3)) (hc : hk_Ci G m_X10_isIn d 0 0 [.int x1, .int v3] h (fun z h' => hk_S G m_X10_gift (d + 1) cb sb 78 [some (.ref r0), some (.int x1), o2, o3, o4, o5, some (.int 0), o7] [.int z] h' Q)) (ho5 : hk_c1 o5 := by first | exact hk_c1i | exact hk_c1r | exact hk_c10 | exact hk_c1n) : hk_S G m_X10_gift (d + 1) cb sb 67 [some (.ref r0), some (.int x1), o2, o3, o4, o5, o6, o7] [] h Q := by
  refine hs_iconst (v := 0) dX10_gift_67 (by decide) ?_
  refine hs_istK dX10_gift_68 (by decide) (hk_nk1 rfl ho5) rfl ?_
  refine hs_iload_n dX10_gift_70 rfl ?_
  refine hs_aload_n dX10_gift_71 rfl ?_
  refine hs_get dX10_gift_72 fl_X10_116_10 hg2 hv4 ?_
  exact hk_z0 (hs_sta (M' := m_X10_isIn) (vs := [.int x1, .int v3]) (c1 := 0) (s1 := 0) dX10_gift_75 wd_1226 st_X10_isIn rfl (Nat.le_of_ble_eq_true rfl) hc hq_i (hc_i (fun z h9 k9 => k9)))
theorem b_X10_gift_68 {G : hk_G} {d cb sb : Nat} {h : hk_H} {Q : hk_O → hk_H → Prop} {s0 : Int32} {x1 : Int32} {r0 : Nat} {fs1 : List Value} {v3 : Int32} {o2 : Option Value} {o3 : Option Value} {o4 : Option Value} {o5 : Option Value} {o6 : Option Value} {o7 : Option Value} (hg2 : h.2 r0 = some (.inr (10, fs1))) (hv4 : fs1[3]? = some (.int v3)) (hc : hk_Ci G m_X10_isIn d 0 0 [.int x1, .int v3] h (fun z h' => hk_S G m_X10_gift (d + 1) cb sb 78 [some (.ref r0), some (.int x1), o2, o3, o4, o5, some (.int s0), o7] [.int z] h' Q)) (ho5 : hk_c1 o5 := by first | exact hk_c1i | exact hk_c1r | exact hk_c10 | exact hk_c1n) : hk_S G m_X10_gift (d + 1) cb sb 68 [some (.ref r0), some (.int x1), o2, o3, o4, o5, o6, o7] [.int s0] h Q := by
  refine hs_istK dX10_gift_68 (by decide) (hk_nk1 rfl ho5) rfl ?_
  refine hs_iload_n dX10_gift_70 rfl ?_
  refine hs_aload_n dX10_gift_71 rfl ?_
  refine hs_get dX10_gift_72 fl_X10_116_10 hg2 hv4 ?_
  exact hk_z0 (hs_sta (M' := m_X10_isIn) (vs := [.int x1, .int v3]) (c1 := 0) (s1 := 0) dX10_gift_75 wd_1226 st_X10_isIn rfl (Nat.le_of_ble_eq_true rfl) hc hq_i (hc_i (fun z h9 k9 => k9)))
theorem b_X10_gift_78 {G : hk_G} {d cb sb : Nat} {h : hk_H} {Q : hk_O → hk_H → Prop} {s0 : Int32} {o0 : Option Value} {o1 : Option Value} {o2 : Option Value} {o3 : Option Value} {o4 : Option Value} {o5 : Option Value} {o6 : Option Value} {o7 : Option Value} (kt : s0 = 0 → hk_S G m_X10_gift (d + 1) cb sb 91 [o0, o1, o2, o3, o4, o5, o6, o7] [] h Q) (kf : ¬ s0 = 0 → hk_S G m_X10_gift (d + 1) cb sb 81 [o0, o1, o2, o3, o4, o5, o6, o7] [] h Q) : hk_S G m_X10_gift (d + 1) cb sb 78 [o0, o1, o2, o3, o4, o5, o6, o7] [.int s0] h Q := by
  exact hs_if_eq dX10_gift_78 (by decide) kt kf
theorem b_X10_gift_81 {G : hk_G} {d cb sb : Nat} {h : hk_H} {Q : hk_O → hk_H → Prop} {x5 : Int32} {o0 : Option Value} {o1 : Option Value} {o2 : Option Value} {o3 : Option Value} {o4 : Option Value} {o6 : Option Value} {o7 : Option Value} (kt : ¬ x5 = 0 → hk_S G m_X10_gift (d + 1) cb sb 93 [o0, o1, o2, o3, o4, some (.int x5), o6, o7] [] h Q) (kf : x5 = 0 → hk_S G m_X10_gift (d + 1) cb sb 86 [o0, o1, o2, o3, o4, some (.int x5), o6, o7] [] h Q) : hk_S G m_X10_gift (d + 1) cb sb 81 [o0, o1, o2, o3, o4, some (.int x5), o6, o7] [] h Q := by
  refine hs_iload dX10_gift_81 rfl ?_
  exact hs_if_ne dX10_gift_83 (by decide) kt kf
theorem b_X10_gift_86 {G : hk_G} {d cb sb : Nat} {h : hk_H} {Q : hk_O → hk_H → Prop} {x6 : Int32} {o0 : Option Value} {o1 : Option Value} {o2 : Option Value} {o3 : Option Value} {o4 : Option Value} {o5 : Option Value} {o7 : Option Value} (kt : ¬ x6 = 0 → hk_S G m_X10_gift (d + 1) cb sb 93 [o0, o1, o2, o3, o4, o5, some (.int x6), o7] [] h Q) (kf : x6 = 0 → hk_S G m_X10_gift (d + 1) cb sb 91 [o0, o1, o2, o3, o4, o5, some (.int x6), o7] [] h Q) : hk_S G m_X10_gift (d + 1) cb sb 86 [o0, o1, o2, o3, o4, o5, some (.int x6), o7] [] h Q := by
  refine hs_iload dX10_gift_86 rfl ?_
  exact hs_if_ne dX10_gift_88 (by decide) kt kf
theorem b_X10_gift_91 {G : hk_G} {d cb sb : Nat} {h : hk_H} {Q : hk_O → hk_H → Prop} {o0 : Option Value} {o1 : Option Value} {o2 : Option Value} {o3 : Option Value} {o4 : Option Value} {o5 : Option Value} {o6 : Option Value} {o7 : Option Value} (hq : Q (.inl (some (.int ((-1))))) h) : hk_S G m_X10_gift (d + 1) cb sb 91 [o0, o1, o2, o3, o4, o5, o6, o7] [] h Q := by
  refine hs_iconst (v := (-1)) dX10_gift_91 (by decide) ?_
  exact hs_iret dX10_gift_92 rfl hq
theorem b_X10_gift_93 {G : hk_G} {d cb sb : Nat} {h : hk_H} {Q : hk_O → hk_H → Prop} {r0 : Nat} {fs1 : List Value} {v3 : Nat} {x1 : Int32} {n5 : Nat} {f6 : Nat → Int32} {o2 : Option Value} {o3 : Option Value} {o4 : Option Value} {o5 : Option Value} {o6 : Option Value} {o7 : Option Value} (hg2 : h.2 r0 = some (.inr (10, fs1))) (hv4 : fs1[7]? = some (.ref v3)) (ha7 : h.2 v3 = some (.inl (0, n5, .inl f6))) (j8 : Nat) (hi9 : (x1 : Int32).toInt = (j8 : Int)) (hj10 : j8 < n5) (kt : (f6 j8) = 2 → hk_S G m_X10_gift (d + 1) cb sb 106 [some (.ref r0), some (.int x1), o2, o3, o4, o5, o6, o7] [] h Q) (kf : ¬ (f6 j8) = 2 → hk_S G m_X10_gift (d + 1) cb sb 103 [some (.ref r0), some (.int x1), o2, o3, o4, o5, o6, o7] [] h Q) : hk_S G m_X10_gift (d + 1) cb sb 93 [some (.ref r0), some (.int x1), o2, o3, o4, o5, o6, o7] [] h Q := by
  refine hs_aload_n dX10_gift_93 rfl ?_
  refine hs_get dX10_gift_94 fl_X10_16_10 hg2 hv4 ?_
  refine hs_iload_n dX10_gift_97 rfl ?_
  refine hs_iald j8 dX10_gift_98 ha7 hi9 hj10 ?_
  refine hs_iconst (v := 2) dX10_gift_99 (by decide) ?_
  exact hs_icmp_eq dX10_gift_100 (by decide) kt kf
theorem b_X10_gift_103 {G : hk_G} {d cb sb : Nat} {h : hk_H} {Q : hk_O → hk_H → Prop} {o0 : Option Value} {o1 : Option Value} {o2 : Option Value} {o3 : Option Value} {o4 : Option Value} {o5 : Option Value} {o6 : Option Value} {o7 : Option Value} (hq : Q (.inl (some (.int ((-4))))) h) : hk_S G m_X10_gift (d + 1) cb sb 103 [o0, o1, o2, o3, o4, o5, o6, o7] [] h Q := by
  refine hs_bipush (v := (-4)) dX10_gift_103 (by decide) ?_
  exact hs_iret dX10_gift_105 rfl hq
theorem b_X10_gift_106 {G : hk_G} {d cb sb : Nat} {h : hk_H} {Q : hk_O → hk_H → Prop} {x5 : Int32} {o0 : Option Value} {o1 : Option Value} {o2 : Option Value} {o3 : Option Value} {o4 : Option Value} {o6 : Option Value} {o7 : Option Value} (kt : x5 = 0 → hk_S G m_X10_gift (d + 1) cb sb 124 [o0, o1, o2, o3, o4, some (.int x5), o6, o7] [] h Q) (kf : ¬ x5 = 0 → hk_S G m_X10_gift (d + 1) cb sb 111 [o0, o1, o2, o3, o4, some (.int x5), o6, o7] [] h Q) : hk_S G m_X10_gift (d + 1) cb sb 106 [o0, o1, o2, o3, o4, some (.int x5), o6, o7] [] h Q := by
  refine hs_iload dX10_gift_106 rfl ?_
  exact hs_if_eq dX10_gift_108 (by decide) kt kf
theorem b_X10_gift_111 {G : hk_G} {d cb sb : Nat} {h : hk_H} {Q : hk_O → hk_H → Prop} {r0 : Nat} {fs1 : List Value} {v3 : Nat} {x1 : Int32} {x2 : Int32} {n5 : Nat} {f6 : Nat → Int32} {x5 : Int32} {o3 : Option Value} {o4 : Option Value} {o6 : Option Value} {o7 : Option Value} (hg2 : h.2 r0 = some (.inr (10, fs1))) (hv4 : fs1[10]? = some (.ref v3)) (ha7 : h.2 v3 = some (.inl (0, n5, .inl f6))) (j8 : Nat) (hi9 : ((5 * x1) + x2 : Int32).toInt = (j8 : Int)) (hj10 : j8 < n5) (kt : x5 = 0 → hk_S G m_X10_gift (d + 1) cb sb 156 [some (.ref r0), some (.int x1), some (.int x2), o3, o4, some (.int x5), o6, some (.int (f6 j8))] [] h Q) (kf : ¬ x5 = 0 → hk_S G m_X10_gift (d + 1) cb sb 141 [some (.ref r0), some (.int x1), some (.int x2), o3, o4, some (.int x5), o6, some (.int (f6 j8))] [] h Q) (ho6 : hk_c1 o6 := by first | exact hk_c1i | exact hk_c1r | exact hk_c10 | exact hk_c1n) : hk_S G m_X10_gift (d + 1) cb sb 111 [some (.ref r0), some (.int x1), some (.int x2), o3, o4, some (.int x5), o6, o7] [] h Q := by
  refine hs_aload_n dX10_gift_111 rfl ?_
  refine hs_get dX10_gift_112 fl_X10_26_10 hg2 hv4 ?_
  refine hs_iconst (v := 5) dX10_gift_115 (by decide) ?_
  refine hs_iload_n dX10_gift_116 rfl ?_
  refine hs_imul dX10_gift_117 ?_
  refine hs_iload_n dX10_gift_118 rfl ?_
  refine hs_iadd dX10_gift_119 ?_
  refine hs_iald j8 dX10_gift_120 ha7 hi9 hj10 ?_
  refine hs_goto dX10_gift_121 (tgt := 134) (by decide) ?_
  refine hs_istK dX10_gift_134 (by decide) (hk_nk1 rfl ho6) rfl ?_
  refine hs_iload dX10_gift_136 rfl ?_
  exact hs_if_eq dX10_gift_138 (by decide) kt kf
theorem b_X10_gift_124 {G : hk_G} {d cb sb : Nat} {h : hk_H} {Q : hk_O → hk_H → Prop} {r0 : Nat} {fs1 : List Value} {v3 : Nat} {x1 : Int32} {x3 : Int32} {n5 : Nat} {f6 : Nat → Int32} {x5 : Int32} {o2 : Option Value} {o4 : Option Value} {o6 : Option Value} {o7 : Option Value} (hg2 : h.2 r0 = some (.inr (10, fs1))) (hv4 : fs1[11]? = some (.ref v3)) (ha7 : h.2 v3 = some (.inl (0, n5, .inl f6))) (j8 : Nat) (hi9 : ((4 * x1) + x3 : Int32).toInt = (j8 : Int)) (hj10 : j8 < n5) (kt : x5 = 0 → hk_S G m_X10_gift (d + 1) cb sb 156 [some (.ref r0), some (.int x1), o2, some (.int x3), o4, some (.int x5), o6, some (.int (f6 j8))] [] h Q) (kf : ¬ x5 = 0 → hk_S G m_X10_gift (d + 1) cb sb 141 [some (.ref r0), some (.int x1), o2, some (.int x3), o4, some (.int x5), o6, some (.int (f6 j8))] [] h Q) (ho6 : hk_c1 o6 := by first | exact hk_c1i | exact hk_c1r | exact hk_c10 | exact hk_c1n) : hk_S G m_X10_gift (d + 1) cb sb 124 [some (.ref r0), some (.int x1), o2, some (.int x3), o4, some (.int x5), o6, o7] [] h Q := by
  refine hs_aload_n dX10_gift_124 rfl ?_
  refine hs_get dX10_gift_125 fl_X10_29_10 hg2 hv4 ?_
  refine hs_iconst (v := 4) dX10_gift_128 (by decide) ?_
  refine hs_iload_n dX10_gift_129 rfl ?_
  refine hs_imul dX10_gift_130 ?_
  refine hs_iload_n dX10_gift_131 rfl ?_
  refine hs_iadd dX10_gift_132 ?_
  refine hs_iald j8 dX10_gift_133 ha7 hi9 hj10 ?_
  refine hs_istK dX10_gift_134 (by decide) (hk_nk1 rfl ho6) rfl ?_
  refine hs_iload dX10_gift_136 rfl ?_
  exact hs_if_eq dX10_gift_138 (by decide) kt kf
theorem b_X10_gift_134 {G : hk_G} {d cb sb : Nat} {h : hk_H} {Q : hk_O → hk_H → Prop} {s0 : Int32} {x5 : Int32} {o0 : Option Value} {o1 : Option Value} {o2 : Option Value} {o3 : Option Value} {o4 : Option Value} {o6 : Option Value} {o7 : Option Value} (kt : x5 = 0 → hk_S G m_X10_gift (d + 1) cb sb 156 [o0, o1, o2, o3, o4, some (.int x5), o6, some (.int s0)] [] h Q) (kf : ¬ x5 = 0 → hk_S G m_X10_gift (d + 1) cb sb 141 [o0, o1, o2, o3, o4, some (.int x5), o6, some (.int s0)] [] h Q) (ho6 : hk_c1 o6 := by first | exact hk_c1i | exact hk_c1r | exact hk_c10 | exact hk_c1n) : hk_S G m_X10_gift (d + 1) cb sb 134 [o0, o1, o2, o3, o4, some (.int x5), o6, o7] [.int s0] h Q := by
  refine hs_istK dX10_gift_134 (by decide) (hk_nk1 rfl ho6) rfl ?_
  refine hs_iload dX10_gift_136 rfl ?_
  exact hs_if_eq dX10_gift_138 (by decide) kt kf
theorem b_X10_gift_141 {G : hk_G} {d cb sb : Nat} {h : hk_H} {Q : hk_O → hk_H → Prop} {r0 : Nat} {fs1 : List Value} {v3 : Nat} {x1 : Int32} {x2 : Int32} {x4 : Int32} {n5 : Nat} {f6 : Nat → Int32} {h_1 : hk_H} {x7 : Int32} {o3 : Option Value} {o5 : Option Value} {o6 : Option Value} (hg2 : h.2 r0 = some (.inr (10, fs1))) (hv4 : fs1[10]? = some (.ref v3)) (ha7 : h.2 v3 = some (.inl (0, n5, .inl f6))) (h4_v3 : 4 ≤ v3) (j8 : Nat) (hi9 : ((5 * x1) + x2 : Int32).toInt = (j8 : Int)) (hj10 : j8 < n5) (e_1 : (hk_set h v3 (.inl (0, n5, .inl (upd f6 j8 x4)))) = h_1) (kt : ¬ x7 = x4 → hk_S G m_X10_gift (d + 1) cb sb 179 [some (.ref r0), some (.int x1), some (.int x2), o3, some (.int x4), o5, o6, some (.int x7)] [] h_1 Q) (kf : x7 = x4 → hk_S G m_X10_gift (d + 1) cb sb 175 [some (.ref r0), some (.int x1), some (.int x2), o3, some (.int x4), o5, o6, some (.int x7)] [] h_1 Q) : hk_S G m_X10_gift (d + 1) cb sb 141 [some (.ref r0), some (.int x1), some (.int x2), o3, some (.int x4), o5, o6, some (.int x7)] [] h Q := by
  subst e_1
  refine hs_aload_n dX10_gift_141 rfl ?_
  refine hs_get dX10_gift_142 fl_X10_26_10 hg2 hv4 ?_
  refine hs_iconst (v := 5) dX10_gift_145 (by decide) ?_
  refine hs_iload_n dX10_gift_146 rfl ?_
  refine hs_imul dX10_gift_147 ?_
  refine hs_iload_n dX10_gift_148 rfl ?_
  refine hs_iadd dX10_gift_149 ?_
  refine hs_iload dX10_gift_150 rfl ?_
  refine hs_iast j8 dX10_gift_152 ha7 h4_v3 hi9 hj10 ?_
  refine hs_goto dX10_gift_153 (tgt := 168) (by decide) ?_
  refine hs_iload dX10_gift_168 rfl ?_
  refine hs_iload dX10_gift_170 rfl ?_
  exact hs_icmp_ne dX10_gift_172 (by decide) kt kf
theorem b_X10_gift_156 {G : hk_G} {d cb sb : Nat} {h : hk_H} {Q : hk_O → hk_H → Prop} {r0 : Nat} {fs1 : List Value} {v3 : Nat} {x1 : Int32} {x3 : Int32} {x4 : Int32} {n5 : Nat} {f6 : Nat → Int32} {h_1 : hk_H} {x7 : Int32} {o2 : Option Value} {o5 : Option Value} {o6 : Option Value} (hg2 : h.2 r0 = some (.inr (10, fs1))) (hv4 : fs1[11]? = some (.ref v3)) (ha7 : h.2 v3 = some (.inl (0, n5, .inl f6))) (h4_v3 : 4 ≤ v3) (j8 : Nat) (hi9 : ((4 * x1) + x3 : Int32).toInt = (j8 : Int)) (hj10 : j8 < n5) (e_1 : (hk_set h v3 (.inl (0, n5, .inl (upd f6 j8 x4)))) = h_1) (kt : ¬ x7 = x4 → hk_S G m_X10_gift (d + 1) cb sb 179 [some (.ref r0), some (.int x1), o2, some (.int x3), some (.int x4), o5, o6, some (.int x7)] [] h_1 Q) (kf : x7 = x4 → hk_S G m_X10_gift (d + 1) cb sb 175 [some (.ref r0), some (.int x1), o2, some (.int x3), some (.int x4), o5, o6, some (.int x7)] [] h_1 Q) : hk_S G m_X10_gift (d + 1) cb sb 156 [some (.ref r0), some (.int x1), o2, some (.int x3), some (.int x4), o5, o6, some (.int x7)] [] h Q := by
  subst e_1
  refine hs_aload_n dX10_gift_156 rfl ?_
  refine hs_get dX10_gift_157 fl_X10_29_10 hg2 hv4 ?_
  refine hs_iconst (v := 4) dX10_gift_160 (by decide) ?_
  refine hs_iload_n dX10_gift_161 rfl ?_
  refine hs_imul dX10_gift_162 ?_
  refine hs_iload_n dX10_gift_163 rfl ?_
  refine hs_iadd dX10_gift_164 ?_
  refine hs_iload dX10_gift_165 rfl ?_
  refine hs_iast j8 dX10_gift_167 ha7 h4_v3 hi9 hj10 ?_
  refine hs_iload dX10_gift_168 rfl ?_
  refine hs_iload dX10_gift_170 rfl ?_
  exact hs_icmp_ne dX10_gift_172 (by decide) kt kf
theorem b_X10_gift_168 {G : hk_G} {d cb sb : Nat} {h : hk_H} {Q : hk_O → hk_H → Prop} {x7 : Int32} {x4 : Int32} {o0 : Option Value} {o1 : Option Value} {o2 : Option Value} {o3 : Option Value} {o5 : Option Value} {o6 : Option Value} (kt : ¬ x7 = x4 → hk_S G m_X10_gift (d + 1) cb sb 179 [o0, o1, o2, o3, some (.int x4), o5, o6, some (.int x7)] [] h Q) (kf : x7 = x4 → hk_S G m_X10_gift (d + 1) cb sb 175 [o0, o1, o2, o3, some (.int x4), o5, o6, some (.int x7)] [] h Q) : hk_S G m_X10_gift (d + 1) cb sb 168 [o0, o1, o2, o3, some (.int x4), o5, o6, some (.int x7)] [] h Q := by
  refine hs_iload dX10_gift_168 rfl ?_
  refine hs_iload dX10_gift_170 rfl ?_
  exact hs_icmp_ne dX10_gift_172 (by decide) kt kf
theorem b_X10_gift_175 {G : hk_G} {d cb sb : Nat} {h : hk_H} {Q : hk_O → hk_H → Prop} {o0 : Option Value} {o1 : Option Value} {o2 : Option Value} {o3 : Option Value} {o4 : Option Value} {o5 : Option Value} {o6 : Option Value} {o7 : Option Value} (hq : Q (.inl (some (.int 0))) h) : hk_S G m_X10_gift (d + 1) cb sb 175 [o0, o1, o2, o3, o4, o5, o6, o7] [] h Q := by
  refine hs_iconst (v := 0) dX10_gift_175 (by decide) ?_
  refine hs_goto dX10_gift_176 (tgt := 180) (by decide) ?_
  exact hs_iret dX10_gift_180 rfl hq
theorem b_X10_gift_179 {G : hk_G} {d cb sb : Nat} {h : hk_H} {Q : hk_O → hk_H → Prop} {o0 : Option Value} {o1 : Option Value} {o2 : Option Value} {o3 : Option Value} {o4 : Option Value} {o5 : Option Value} {o6 : Option Value} {o7 : Option Value} (hq : Q (.inl (some (.int 1))) h) : hk_S G m_X10_gift (d + 1) cb sb 179 [o0, o1, o2, o3, o4, o5, o6, o7] [] h Q := by
  refine hs_iconst (v := 1) dX10_gift_179 (by decide) ?_
  exact hs_iret dX10_gift_180 rfl hq
theorem b_X10_gift_180 {G : hk_G} {d cb sb : Nat} {h : hk_H} {Q : hk_O → hk_H → Prop} {s0 : Int32} {o0 : Option Value} {o1 : Option Value} {o2 : Option Value} {o3 : Option Value} {o4 : Option Value} {o5 : Option Value} {o6 : Option Value} {o7 : Option Value} (hq : Q (.inl (some (.int s0))) h) : hk_S G m_X10_gift (d + 1) cb sb 180 [o0, o1, o2, o3, o4, o5, o6, o7] [.int s0] h Q := by
  exact hs_iret dX10_gift_180 rfl hq
-- HonestHouseModel.middle(III)I
theorem b_X10_middle_0 {G : hk_G} {d cb sb : Nat} {h : hk_H} {Q : hk_O → hk_H → Prop} {x1 : Int32} {r0 : Nat} {fs1 : List Value} {v3 : Int32} {o2 : Option Value} {o3 : Option Value} {o4 : Option Value} (hg2 : h.2 r0 = some (.inr (10, fs1))) (hv4 : fs1[3]? = some (.int v3)) (hc : hk_Ci G m_X10_isIn d 0 0 [.int x1, .int v3] h (fun z h' => hk_S G m_X10_middle (d + 1) cb sb 8 [some (.ref r0), some (.int x1), o2, o3, o4] [.int z] h' Q)) : hk_S G m_X10_middle (d + 1) cb sb 0 [some (.ref r0), some (.int x1), o2, o3, o4] [] h Q := by
  refine hs_iload_n dX10_middle_0 rfl ?_
  refine hs_aload_n dX10_middle_1 rfl ?_
  refine hs_get dX10_middle_2 fl_X10_116_10 hg2 hv4 ?_
  exact hk_z0 (hs_sta (M' := m_X10_isIn) (vs := [.int x1, .int v3]) (c1 := 0) (s1 := 0) dX10_middle_5 wd_1226 st_X10_isIn rfl (Nat.le_of_ble_eq_true rfl) hc hq_i (hc_i (fun z h9 k9 => k9)))
theorem b_X10_middle_8 {G : hk_G} {d cb sb : Nat} {h : hk_H} {Q : hk_O → hk_H → Prop} {s0 : Int32} {o0 : Option Value} {o1 : Option Value} {o2 : Option Value} {o3 : Option Value} {o4 : Option Value} (kt : s0 = 0 → hk_S G m_X10_middle (d + 1) cb sb 35 [o0, o1, o2, o3, o4] [] h Q) (kf : ¬ s0 = 0 → hk_S G m_X10_middle (d + 1) cb sb 11 [o0, o1, o2, o3, o4] [] h Q) : hk_S G m_X10_middle (d + 1) cb sb 8 [o0, o1, o2, o3, o4] [.int s0] h Q := by
  exact hs_if_eq dX10_middle_8 (by decide) kt kf
theorem b_X10_middle_11 {G : hk_G} {d cb sb : Nat} {h : hk_H} {Q : hk_O → hk_H → Prop} {x2 : Int32} {r0 : Nat} {fs1 : List Value} {v3 : Int32} {o1 : Option Value} {o3 : Option Value} {o4 : Option Value} (hg2 : h.2 r0 = some (.inr (10, fs1))) (hv4 : fs1[0]? = some (.int v3)) (hc : hk_Ci G m_X10_isIn d 0 0 [.int x2, .int (v3 - 1)] h (fun z h' => hk_S G m_X10_middle (d + 1) cb sb 21 [some (.ref r0), o1, some (.int x2), o3, o4] [.int z] h' Q)) : hk_S G m_X10_middle (d + 1) cb sb 11 [some (.ref r0), o1, some (.int x2), o3, o4] [] h Q := by
  refine hs_iload_n dX10_middle_11 rfl ?_
  refine hs_aload_n dX10_middle_12 rfl ?_
  refine hs_get dX10_middle_13 fl_X10_97_10 hg2 hv4 ?_
  refine hs_iconst (v := 1) dX10_middle_16 (by decide) ?_
  refine hs_isub dX10_middle_17 ?_
  exact hk_z0 (hs_sta (M' := m_X10_isIn) (vs := [.int x2, .int (v3 - 1)]) (c1 := 0) (s1 := 0) dX10_middle_18 wd_1226 st_X10_isIn rfl (Nat.le_of_ble_eq_true rfl) hc hq_i (hc_i (fun z h9 k9 => k9)))
theorem b_X10_middle_21 {G : hk_G} {d cb sb : Nat} {h : hk_H} {Q : hk_O → hk_H → Prop} {s0 : Int32} {o0 : Option Value} {o1 : Option Value} {o2 : Option Value} {o3 : Option Value} {o4 : Option Value} (kt : s0 = 0 → hk_S G m_X10_middle (d + 1) cb sb 35 [o0, o1, o2, o3, o4] [] h Q) (kf : ¬ s0 = 0 → hk_S G m_X10_middle (d + 1) cb sb 24 [o0, o1, o2, o3, o4] [] h Q) : hk_S G m_X10_middle (d + 1) cb sb 21 [o0, o1, o2, o3, o4] [.int s0] h Q := by
  exact hs_if_eq dX10_middle_21 (by decide) kt kf
theorem b_X10_middle_24 {G : hk_G} {d cb sb : Nat} {h : hk_H} {Q : hk_O → hk_H → Prop} {x3 : Int32} {r0 : Nat} {fs1 : List Value} {v3 : Int32} {o1 : Option Value} {o2 : Option Value} {o4 : Option Value} (hg2 : h.2 r0 = some (.inr (10, fs1))) (hv4 : fs1[1]? = some (.int v3)) (hc : hk_Ci G m_X10_isIn d 0 0 [.int x3, .int v3] h (fun z h' => hk_S G m_X10_middle (d + 1) cb sb 32 [some (.ref r0), o1, o2, some (.int x3), o4] [.int z] h' Q)) : hk_S G m_X10_middle (d + 1) cb sb 24 [some (.ref r0), o1, o2, some (.int x3), o4] [] h Q := by
  refine hs_iload_n dX10_middle_24 rfl ?_
  refine hs_aload_n dX10_middle_25 rfl ?_
  refine hs_get dX10_middle_26 fl_X10_101_10 hg2 hv4 ?_
  exact hk_z0 (hs_sta (M' := m_X10_isIn) (vs := [.int x3, .int v3]) (c1 := 0) (s1 := 0) dX10_middle_29 wd_1226 st_X10_isIn rfl (Nat.le_of_ble_eq_true rfl) hc hq_i (hc_i (fun z h9 k9 => k9)))
theorem b_X10_middle_32 {G : hk_G} {d cb sb : Nat} {h : hk_H} {Q : hk_O → hk_H → Prop} {s0 : Int32} {o0 : Option Value} {o1 : Option Value} {o2 : Option Value} {o3 : Option Value} {o4 : Option Value} (kt : ¬ s0 = 0 → hk_S G m_X10_middle (d + 1) cb sb 37 [o0, o1, o2, o3, o4] [] h Q) (kf : s0 = 0 → hk_S G m_X10_middle (d + 1) cb sb 35 [o0, o1, o2, o3, o4] [] h Q) : hk_S G m_X10_middle (d + 1) cb sb 32 [o0, o1, o2, o3, o4] [.int s0] h Q := by
  exact hs_if_ne dX10_middle_32 (by decide) kt kf
theorem b_X10_middle_35 {G : hk_G} {d cb sb : Nat} {h : hk_H} {Q : hk_O → hk_H → Prop} {o0 : Option Value} {o1 : Option Value} {o2 : Option Value} {o3 : Option Value} {o4 : Option Value} (hq : Q (.inl (some (.int ((-1))))) h) : hk_S G m_X10_middle (d + 1) cb sb 35 [o0, o1, o2, o3, o4] [] h Q := by
  refine hs_iconst (v := (-1)) dX10_middle_35 (by decide) ?_
  exact hs_iret dX10_middle_36 rfl hq
theorem b_X10_middle_37 {G : hk_G} {d cb sb : Nat} {h : hk_H} {Q : hk_O → hk_H → Prop} {r0 : Nat} {fs1 : List Value} {v3 : Nat} {x1 : Int32} {n5 : Nat} {f6 : Nat → Int32} {o2 : Option Value} {o3 : Option Value} {o4 : Option Value} (hg2 : h.2 r0 = some (.inr (10, fs1))) (hv4 : fs1[7]? = some (.ref v3)) (ha7 : h.2 v3 = some (.inl (0, n5, .inl f6))) (j8 : Nat) (hi9 : (x1 : Int32).toInt = (j8 : Int)) (hj10 : j8 < n5) (kt : (f6 j8) = 3 → hk_S G m_X10_middle (d + 1) cb sb 50 [some (.ref r0), some (.int x1), o2, o3, o4] [] h Q) (kf : ¬ (f6 j8) = 3 → hk_S G m_X10_middle (d + 1) cb sb 47 [some (.ref r0), some (.int x1), o2, o3, o4] [] h Q) : hk_S G m_X10_middle (d + 1) cb sb 37 [some (.ref r0), some (.int x1), o2, o3, o4] [] h Q := by
  refine hs_aload_n dX10_middle_37 rfl ?_
  refine hs_get dX10_middle_38 fl_X10_16_10 hg2 hv4 ?_
  refine hs_iload_n dX10_middle_41 rfl ?_
  refine hs_iald j8 dX10_middle_42 ha7 hi9 hj10 ?_
  refine hs_iconst (v := 3) dX10_middle_43 (by decide) ?_
  exact hs_icmp_eq dX10_middle_44 (by decide) kt kf
theorem b_X10_middle_47 {G : hk_G} {d cb sb : Nat} {h : hk_H} {Q : hk_O → hk_H → Prop} {o0 : Option Value} {o1 : Option Value} {o2 : Option Value} {o3 : Option Value} {o4 : Option Value} (hq : Q (.inl (some (.int ((-4))))) h) : hk_S G m_X10_middle (d + 1) cb sb 47 [o0, o1, o2, o3, o4] [] h Q := by
  refine hs_bipush (v := (-4)) dX10_middle_47 (by decide) ?_
  exact hs_iret dX10_middle_49 rfl hq
theorem b_X10_middle_50 {G : hk_G} {d cb sb : Nat} {h : hk_H} {Q : hk_O → hk_H → Prop} {r0 : Nat} {fs1 : List Value} {v3 : Nat} {x1 : Int32} {x2 : Int32} {n5 : Nat} {f6 : Nat → Int32} {x3 : Int32} {h_1 : hk_H} {o4 : Option Value} (hg2 : h.2 r0 = some (.inr (10, fs1))) (hv4 : fs1[12]? = some (.ref v3)) (ha7 : h.2 v3 = some (.inl (0, n5, .inl f6))) (j8 : Nat) (hi9 : ((4 * x1) + x2 : Int32).toInt = (j8 : Int)) (hj10 : j8 < n5) (h4_v3 : 4 ≤ v3) (e_1 : (hk_set h v3 (.inl (0, n5, .inl (upd f6 j8 x3)))) = h_1) (hq : Q (.inl (some (.int (f6 j8)))) h_1) : hk_S G m_X10_middle (d + 1) cb sb 50 [some (.ref r0), some (.int x1), some (.int x2), some (.int x3), o4] [] h Q := by
  subst e_1
  refine hs_aload_n dX10_middle_50 rfl ?_
  refine hs_get dX10_middle_51 fl_X10_32_10 hg2 hv4 ?_
  refine hs_iconst (v := 4) dX10_middle_54 (by decide) ?_
  refine hs_iload_n dX10_middle_55 rfl ?_
  refine hs_imul dX10_middle_56 ?_
  refine hs_iload_n dX10_middle_57 rfl ?_
  refine hs_iadd dX10_middle_58 ?_
  refine hs_iald j8 dX10_middle_59 ha7 hi9 hj10 ?_
  refine hs_istK dX10_middle_60 (by decide) (hk_nk1 rfl hk_c1i) rfl ?_
  refine hs_aload_n dX10_middle_62 rfl ?_
  refine hs_get dX10_middle_63 fl_X10_32_10 hg2 hv4 ?_
  refine hs_iconst (v := 4) dX10_middle_66 (by decide) ?_
  refine hs_iload_n dX10_middle_67 rfl ?_
  refine hs_imul dX10_middle_68 ?_
  refine hs_iload_n dX10_middle_69 rfl ?_
  refine hs_iadd dX10_middle_70 ?_
  refine hs_iload_n dX10_middle_71 rfl ?_
  refine hs_iast j8 dX10_middle_72 ha7 h4_v3 hi9 hj10 ?_
  refine hs_iload dX10_middle_73 rfl ?_
  exact hs_iret dX10_middle_75 rfl hq
-- HonestHouseModel.wishOf(II)I
theorem b_X10_wishOf_0 {G : hk_G} {d cb sb : Nat} {h : hk_H} {Q : hk_O → hk_H → Prop} {x1 : Int32} {r0 : Nat} {fs1 : List Value} {v3 : Nat} {x2 : Int32} {n5 : Nat} {f6 : Nat → Int32} {v12 : Int32} (hg2 : h.2 r0 = some (.inr (10, fs1))) (hv4 : fs1[6]? = some (.ref v3)) (ha7 : h.2 v3 = some (.inl (0, n5, .inl f6))) (j8 : Nat) (hi9 : (x2 : Int32).toInt = (j8 : Int)) (hj10 : j8 < n5) (hz11 : ¬ (f6 j8) = 0) (hv13 : fs1[2]? = some (.int v12)) (hz14 : ¬ v12 = 0) (hq : Q (.inl (some (.int ((x1 / (f6 j8)) - (x1 / (f6 j8)) / v12 * v12)))) h) : hk_S G m_X10_wishOf d cb sb 0 [some (.ref r0), some (.int x1), some (.int x2)] [] h Q := by
  refine hs_iload_n dX10_wishOf_0 rfl ?_
  refine hs_aload_n dX10_wishOf_1 rfl ?_
  refine hs_get dX10_wishOf_2 fl_X10_13_10 hg2 hv4 ?_
  refine hs_iload_n dX10_wishOf_5 rfl ?_
  refine hs_iald j8 dX10_wishOf_6 ha7 hi9 hj10 ?_
  refine hs_idiv dX10_wishOf_7 hz11 ?_
  refine hs_aload_n dX10_wishOf_8 rfl ?_
  refine hs_get dX10_wishOf_9 fl_X10_110_10 hg2 hv13 ?_
  refine hs_irem dX10_wishOf_12 hz14 ?_
  exact hs_iret dX10_wishOf_13 rfl hq
-- HonestHouseModel.saying(III)I
theorem b_X10_saying_0 {G : hk_G} {d cb sb : Nat} {h : hk_H} {Q : hk_O → hk_H → Prop} {x1 : Int32} {x3 : Int32} {r0 : Nat} {x2 : Int32} {fs_ : List Value} (hrec : h.2 r0 = some (.inr (10, fs_))) (hc : hk_Ci G m_X10_wishOf d 0 0 [.ref r0, .int x1, .int x2] h (fun z h' => hk_S G m_X10_saying (d + 1) cb sb 8 [some (.ref r0), some (.int x1), some (.int x2), some (.int x3)] [.int z, .int x3, .int x1] h' Q)) : hk_S G m_X10_saying (d + 1) cb sb 0 [some (.ref r0), some (.int x1), some (.int x2), some (.int x3)] [] h Q := by
  refine hs_iload_n dX10_saying_0 rfl ?_
  refine hs_iload_n dX10_saying_1 rfl ?_
  refine hs_aload_n dX10_saying_2 rfl ?_
  refine hs_iload_n dX10_saying_3 rfl ?_
  refine hs_iload_n dX10_saying_4 rfl ?_
  exact hk_z0 (hs_vir (M' := m_X10_wishOf) (vs := [.int x1, .int x2]) (c1 := 0) (s1 := 0) dX10_saying_5 wd_1269 vi_X10_wishOf hrec rfl (Nat.le_of_ble_eq_true rfl) hc hq_i (hc_i (fun z h9 k9 => k9)))
theorem b_X10_saying_8 {G : hk_G} {d cb sb : Nat} {h : hk_H} {Q : hk_O → hk_H → Prop} {s0 : Int32} {s1 : Int32} {s2 : Int32} {r0 : Nat} {fs1 : List Value} {v3 : Nat} {x2 : Int32} {n5 : Nat} {f6 : Nat → Int32} {o1 : Option Value} {o3 : Option Value} (hg2 : h.2 r0 = some (.inr (10, fs1))) (hv4 : fs1[6]? = some (.ref v3)) (ha7 : h.2 v3 = some (.inl (0, n5, .inl f6))) (j8 : Nat) (hi9 : (x2 : Int32).toInt = (j8 : Int)) (hj10 : j8 < n5) (hq : Q (.inl (some (.int (s0 + ((s1 - s2) * (f6 j8)))))) h) : hk_S G m_X10_saying (d + 1) cb sb 8 [some (.ref r0), o1, some (.int x2), o3] [.int s2, .int s1, .int s0] h Q := by
  refine hs_isub dX10_saying_8 ?_
  refine hs_aload_n dX10_saying_9 rfl ?_
  refine hs_get dX10_saying_10 fl_X10_13_10 hg2 hv4 ?_
  refine hs_iload_n dX10_saying_13 rfl ?_
  refine hs_iald j8 dX10_saying_14 ha7 hi9 hj10 ?_
  refine hs_imul dX10_saying_15 ?_
  refine hs_iadd dX10_saying_16 ?_
  exact hs_iret dX10_saying_17 rfl hq
-- HonestHouseModel.sumOf(IIII)I
theorem b_X10_sumOf_0 {G : hk_G} {d cb sb : Nat} {h : hk_H} {Q : hk_O → hk_H → Prop} {r0 : Nat} {fs1 : List Value} {v3 : Nat} {x1 : Int32} {x3 : Int32} {n5 : Nat} {f6 : Nat → Int32} {o2 : Option Value} {o4 : Option Value} {o5 : Option Value} {o6 : Option Value} (hg2 : h.2 r0 = some (.inr (10, fs1))) (hv4 : fs1[10]? = some (.ref v3)) (ha7 : h.2 v3 = some (.inl (0, n5, .inl f6))) (j8 : Nat) (hi9 : ((5 * x1) + x3 : Int32).toInt = (j8 : Int)) (hj10 : j8 < n5) (k : hk_S G m_X10_sumOf (d + 1) cb sb 15 [some (.ref r0), some (.int x1), o2, some (.int x3), o4, some (.int (f6 j8)), some (.int 0)] [] h Q) (ho4 : hk_c1 o4 := by first | exact hk_c1i | exact hk_c1r | exact hk_c10 | exact hk_c1n) : hk_S G m_X10_sumOf (d + 1) cb sb 0 [some (.ref r0), some (.int x1), o2, some (.int x3), o4, o5, o6] [] h Q := by
  refine hs_aload_n dX10_sumOf_0 rfl ?_
  refine hs_get dX10_sumOf_1 fl_X10_26_10 hg2 hv4 ?_
  refine hs_iconst (v := 5) dX10_sumOf_4 (by decide) ?_
  refine hs_iload_n dX10_sumOf_5 rfl ?_
  refine hs_imul dX10_sumOf_6 ?_
  refine hs_iload_n dX10_sumOf_7 rfl ?_
  refine hs_iadd dX10_sumOf_8 ?_
  refine hs_iald j8 dX10_sumOf_9 ha7 hi9 hj10 ?_
  refine hs_istK dX10_sumOf_10 (by decide) (hk_nk1 rfl ho4) rfl ?_
  refine hs_iconst (v := 0) dX10_sumOf_12 (by decide) ?_
  refine hs_istK dX10_sumOf_13 (by decide) (hk_nk1 rfl hk_c1i) rfl ?_
  exact k
theorem b_X10_sumOf_15 {G : hk_G} {d cb sb : Nat} {h : hk_H} {Q : hk_O → hk_H → Prop} {x6 : Int32} {r0 : Nat} {fs1 : List Value} {v3 : Int32} {o1 : Option Value} {o2 : Option Value} {o3 : Option Value} {o4 : Option Value} {o5 : Option Value} (hg2 : h.2 r0 = some (.inr (10, fs1))) (hv4 : fs1[0]? = some (.int v3)) (kt : v3 ≤ x6 → hk_S G m_X10_sumOf (d + 1) cb sb 74 [some (.ref r0), o1, o2, o3, o4, o5, some (.int x6)] [] h Q) (kf : ¬ v3 ≤ x6 → hk_S G m_X10_sumOf (d + 1) cb sb 24 [some (.ref r0), o1, o2, o3, o4, o5, some (.int x6)] [] h Q) : hk_S G m_X10_sumOf (d + 1) cb sb 15 [some (.ref r0), o1, o2, o3, o4, o5, some (.int x6)] [] h Q := by
  refine hs_iload dX10_sumOf_15 rfl ?_
  refine hs_aload_n dX10_sumOf_17 rfl ?_
  refine hs_get dX10_sumOf_18 fl_X10_97_10 hg2 hv4 ?_
  exact hs_icmp_ge dX10_sumOf_21 (by decide) kt kf
theorem b_X10_sumOf_24 {G : hk_G} {d cb sb : Nat} {h : hk_H} {Q : hk_O → hk_H → Prop} {x5 : Int32} {x6 : Int32} {x4 : Int32} {o0 : Option Value} {o1 : Option Value} {o2 : Option Value} {o3 : Option Value} (kt : ¬ x6 = x4 → hk_S G m_X10_sumOf (d + 1) cb sb 37 [o0, o1, o2, o3, some (.int x4), some (.int x5), some (.int x6)] [.int x5] h Q) (kf : x6 = x4 → hk_S G m_X10_sumOf (d + 1) cb sb 33 [o0, o1, o2, o3, some (.int x4), some (.int x5), some (.int x6)] [.int x5] h Q) : hk_S G m_X10_sumOf (d + 1) cb sb 24 [o0, o1, o2, o3, some (.int x4), some (.int x5), some (.int x6)] [] h Q := by
  refine hs_iload dX10_sumOf_24 rfl ?_
  refine hs_iload dX10_sumOf_26 rfl ?_
  refine hs_iload dX10_sumOf_28 rfl ?_
  exact hs_icmp_ne dX10_sumOf_30 (by decide) kt kf
theorem b_X10_sumOf_33 {G : hk_G} {d cb sb : Nat} {h : hk_H} {Q : hk_O → hk_H → Prop} {s0 : Int32} {x6 : Int32} {o0 : Option Value} {o1 : Option Value} {o2 : Option Value} {o3 : Option Value} {o4 : Option Value} {o5 : Option Value} (k : hk_S G m_X10_sumOf (d + 1) cb sb 15 [o0, o1, o2, o3, o4, some (.int (s0 + 0)), some (.int (x6 + 1))] [] h Q) (ho4 : hk_c1 o4 := by first | exact hk_c1i | exact hk_c1r | exact hk_c10 | exact hk_c1n) : hk_S G m_X10_sumOf (d + 1) cb sb 33 [o0, o1, o2, o3, o4, o5, some (.int x6)] [.int s0] h Q := by
  refine hs_iconst (v := 0) dX10_sumOf_33 (by decide) ?_
  refine hs_goto dX10_sumOf_34 (tgt := 65) (by decide) ?_
  refine hs_iadd dX10_sumOf_65 ?_
  refine hs_istK dX10_sumOf_66 (by decide) (hk_nk1 rfl ho4) rfl ?_
  refine hs_iincK (v := 1) dX10_sumOf_68 rfl (by decide) (by decide) (hk_nk1 rfl hk_c1i) rfl ?_
  refine hs_goto dX10_sumOf_71 (tgt := 15) (by decide) ?_
  exact k
theorem b_X10_sumOf_37 {G : hk_G} {d cb sb : Nat} {h : hk_H} {Q : hk_O → hk_H → Prop} {s0 : Int32} {r0 : Nat} {fs1 : List Value} {v3 : Nat} {x1 : Int32} {x6 : Int32} {n5 : Nat} {f6 : Nat → Int32} {v11 : Nat} {x2 : Int32} {o3 : Option Value} {o4 : Option Value} {o5 : Option Value} (hg2 : h.2 r0 = some (.inr (10, fs1))) (hv4 : fs1[11]? = some (.ref v3)) (ha7 : h.2 v3 = some (.inl (0, n5, .inl f6))) (j8 : Nat) (hi9 : ((4 * x1) + x6 : Int32).toInt = (j8 : Int)) (hj10 : j8 < n5) (hv12 : fs1[5]? = some (.ref v11)) (hc : hk_Ci G m_X10_wishOf d 0 0 [.ref r0, .int x2, .int x6] h (fun z h' => hk_S G m_X10_sumOf (d + 1) cb sb 60 [some (.ref r0), some (.int x1), some (.int x2), o3, o4, o5, some (.int x6)] [.int z, .int 5, .ref v11, .int (f6 j8), .int s0] h' Q)) : hk_S G m_X10_sumOf (d + 1) cb sb 37 [some (.ref r0), some (.int x1), some (.int x2), o3, o4, o5, some (.int x6)] [.int s0] h Q := by
  refine hs_aload_n dX10_sumOf_37 rfl ?_
  refine hs_get dX10_sumOf_38 fl_X10_29_10 hg2 hv4 ?_
  refine hs_iconst (v := 4) dX10_sumOf_41 (by decide) ?_
  refine hs_iload_n dX10_sumOf_42 rfl ?_
  refine hs_imul dX10_sumOf_43 ?_
  refine hs_iload dX10_sumOf_44 rfl ?_
  refine hs_iadd dX10_sumOf_46 ?_
  refine hs_iald j8 dX10_sumOf_47 ha7 hi9 hj10 ?_
  refine hs_aload_n dX10_sumOf_48 rfl ?_
  refine hs_get dX10_sumOf_49 fl_X10_9_10 hg2 hv12 ?_
  refine hs_iconst (v := 5) dX10_sumOf_52 (by decide) ?_
  refine hs_aload_n dX10_sumOf_53 rfl ?_
  refine hs_iload_n dX10_sumOf_54 rfl ?_
  refine hs_iload dX10_sumOf_55 rfl ?_
  exact hk_z0 (hs_vir (M' := m_X10_wishOf) (vs := [.int x2, .int x6]) (c1 := 0) (s1 := 0) dX10_sumOf_57 wd_1269 vi_X10_wishOf hg2 rfl (Nat.le_of_ble_eq_true rfl) hc hq_i (hc_i (fun z h9 k9 => k9)))
theorem b_X10_sumOf_60 {G : hk_G} {d cb sb : Nat} {h : hk_H} {Q : hk_O → hk_H → Prop} {s0 : Int32} {s1 : Int32} {s2 : Nat} {s3 : Int32} {s4 : Int32} {x3 : Int32} {n1 : Nat} {f2 : Nat → Int32} {x6 : Int32} {o0 : Option Value} {o1 : Option Value} {o2 : Option Value} {o4 : Option Value} {o5 : Option Value} (ha3 : h.2 s2 = some (.inl (0, n1, .inl f2))) (j4 : Nat) (hi5 : ((s3 * s4) + x3 : Int32).toInt = (j4 : Int)) (hj6 : j4 < n1) (k : hk_S G m_X10_sumOf (d + 1) cb sb 15 [o0, o1, o2, some (.int x3), o4, some (.int (s0 + (s1 * (f2 j4)))), some (.int (x6 + 1))] [] h Q) (ho4 : hk_c1 o4 := by first | exact hk_c1i | exact hk_c1r | exact hk_c10 | exact hk_c1n) : hk_S G m_X10_sumOf (d + 1) cb sb 60 [o0, o1, o2, some (.int x3), o4, o5, some (.int x6)] [.int s4, .int s3, .ref s2, .int s1, .int s0] h Q := by
  refine hs_imul dX10_sumOf_60 ?_
  refine hs_iload_n dX10_sumOf_61 rfl ?_
  refine hs_iadd dX10_sumOf_62 ?_
  refine hs_iald j4 dX10_sumOf_63 ha3 hi5 hj6 ?_
  refine hs_imul dX10_sumOf_64 ?_
  refine hs_iadd dX10_sumOf_65 ?_
  refine hs_istK dX10_sumOf_66 (by decide) (hk_nk1 rfl ho4) rfl ?_
  refine hs_iincK (v := 1) dX10_sumOf_68 rfl (by decide) (by decide) (hk_nk1 rfl hk_c1i) rfl ?_
  refine hs_goto dX10_sumOf_71 (tgt := 15) (by decide) ?_
  exact k
theorem b_X10_sumOf_65 {G : hk_G} {d cb sb : Nat} {h : hk_H} {Q : hk_O → hk_H → Prop} {s0 : Int32} {s1 : Int32} {x6 : Int32} {o0 : Option Value} {o1 : Option Value} {o2 : Option Value} {o3 : Option Value} {o4 : Option Value} {o5 : Option Value} (k : hk_S G m_X10_sumOf (d + 1) cb sb 15 [o0, o1, o2, o3, o4, some (.int (s0 + s1)), some (.int (x6 + 1))] [] h Q) (ho4 : hk_c1 o4 := by first | exact hk_c1i | exact hk_c1r | exact hk_c10 | exact hk_c1n) : hk_S G m_X10_sumOf (d + 1) cb sb 65 [o0, o1, o2, o3, o4, o5, some (.int x6)] [.int s1, .int s0] h Q := by
  refine hs_iadd dX10_sumOf_65 ?_
  refine hs_istK dX10_sumOf_66 (by decide) (hk_nk1 rfl ho4) rfl ?_
  refine hs_iincK (v := 1) dX10_sumOf_68 rfl (by decide) (by decide) (hk_nk1 rfl hk_c1i) rfl ?_
  refine hs_goto dX10_sumOf_71 (tgt := 15) (by decide) ?_
  exact k
theorem b_X10_sumOf_74 {G : hk_G} {d cb sb : Nat} {h : hk_H} {Q : hk_O → hk_H → Prop} {x5 : Int32} {o0 : Option Value} {o1 : Option Value} {o2 : Option Value} {o3 : Option Value} {o4 : Option Value} {o6 : Option Value} (hq : Q (.inl (some (.int x5))) h) : hk_S G m_X10_sumOf (d + 1) cb sb 74 [o0, o1, o2, o3, o4, some (.int x5), o6] [] h Q := by
  refine hs_iload dX10_sumOf_74 rfl ?_
  exact hs_iret dX10_sumOf_76 rfl hq
-- HonestHouseModel.greatest(III)I
theorem b_X10_greatest_0 {G : hk_G} {d cb sb : Nat} {h : hk_H} {Q : hk_O → hk_H → Prop} {o0 : Option Value} {o1 : Option Value} {o2 : Option Value} {o3 : Option Value} {o4 : Option Value} {o5 : Option Value} (k : hk_S G m_X10_greatest (d + 1) cb sb 6 [o0, o1, o2, o3, some (.int 0), some (.int 1)] [] h Q) (ho3 : hk_c1 o3 := by first | exact hk_c1i | exact hk_c1r | exact hk_c10 | exact hk_c1n) : hk_S G m_X10_greatest (d + 1) cb sb 0 [o0, o1, o2, o3, o4, o5] [] h Q := by
  refine hs_iconst (v := 0) dX10_greatest_0 (by decide) ?_
  refine hs_istK dX10_greatest_1 (by decide) (hk_nk1 rfl ho3) rfl ?_
  refine hs_iconst (v := 1) dX10_greatest_3 (by decide) ?_
  refine hs_istK dX10_greatest_4 (by decide) (hk_nk1 rfl hk_c1i) rfl ?_
  exact k
theorem b_X10_greatest_6 {G : hk_G} {d cb sb : Nat} {h : hk_H} {Q : hk_O → hk_H → Prop} {x5 : Int32} {r0 : Nat} {fs1 : List Value} {v3 : Int32} {o1 : Option Value} {o2 : Option Value} {o3 : Option Value} {o4 : Option Value} (hg2 : h.2 r0 = some (.inr (10, fs1))) (hv4 : fs1[1]? = some (.int v3)) (kt : v3 ≤ x5 → hk_S G m_X10_greatest (d + 1) cb sb 46 [some (.ref r0), o1, o2, o3, o4, some (.int x5)] [] h Q) (kf : ¬ v3 ≤ x5 → hk_S G m_X10_greatest (d + 1) cb sb 15 [some (.ref r0), o1, o2, o3, o4, some (.int x5)] [] h Q) : hk_S G m_X10_greatest (d + 1) cb sb 6 [some (.ref r0), o1, o2, o3, o4, some (.int x5)] [] h Q := by
  refine hs_iload dX10_greatest_6 rfl ?_
  refine hs_aload_n dX10_greatest_8 rfl ?_
  refine hs_get dX10_greatest_9 fl_X10_101_10 hg2 hv4 ?_
  exact hs_icmp_ge dX10_greatest_12 (by decide) kt kf
theorem b_X10_greatest_15 {G : hk_G} {d cb sb : Nat} {h : hk_H} {Q : hk_O → hk_H → Prop} {r0 : Nat} {x1 : Int32} {x2 : Int32} {x5 : Int32} {x3 : Int32} {fs_ : List Value} {o4 : Option Value} (hrec : h.2 r0 = some (.inr (10, fs_))) (hc : hk_Ci G m_X10_sumOf d 0 0 [.ref r0, .int x1, .int x2, .int x5, .int x3] h (fun z h' => hk_S G m_X10_greatest (d + 1) cb sb 24 [some (.ref r0), some (.int x1), some (.int x2), some (.int x3), o4, some (.int x5)] [.int z] h' Q)) : hk_S G m_X10_greatest (d + 1) cb sb 15 [some (.ref r0), some (.int x1), some (.int x2), some (.int x3), o4, some (.int x5)] [] h Q := by
  refine hs_aload_n dX10_greatest_15 rfl ?_
  refine hs_iload_n dX10_greatest_16 rfl ?_
  refine hs_iload_n dX10_greatest_17 rfl ?_
  refine hs_iload dX10_greatest_18 rfl ?_
  refine hs_iload_n dX10_greatest_20 rfl ?_
  exact hk_z0 (hs_vir (M' := m_X10_sumOf) (vs := [.int x1, .int x2, .int x5, .int x3]) (c1 := 0) (s1 := 0) dX10_greatest_21 wd_1265 vi_X10_sumOf hrec rfl (Nat.le_of_ble_eq_true rfl) hc hq_i (hc_i (fun z h9 k9 => k9)))
theorem b_X10_greatest_24 {G : hk_G} {d cb sb : Nat} {h : hk_H} {Q : hk_O → hk_H → Prop} {s0 : Int32} {r0 : Nat} {x1 : Int32} {x2 : Int32} {x4 : Int32} {x3 : Int32} {fs_ : List Value} {o5 : Option Value} (hrec : h.2 r0 = some (.inr (10, fs_))) (hc : hk_Ci G m_X10_sumOf d 0 0 [.ref r0, .int x1, .int x2, .int x4, .int x3] h (fun z h' => hk_S G m_X10_greatest (d + 1) cb sb 33 [some (.ref r0), some (.int x1), some (.int x2), some (.int x3), some (.int x4), o5] [.int z, .int s0] h' Q)) : hk_S G m_X10_greatest (d + 1) cb sb 24 [some (.ref r0), some (.int x1), some (.int x2), some (.int x3), some (.int x4), o5] [.int s0] h Q := by
  refine hs_aload_n dX10_greatest_24 rfl ?_
  refine hs_iload_n dX10_greatest_25 rfl ?_
  refine hs_iload_n dX10_greatest_26 rfl ?_
  refine hs_iload dX10_greatest_27 rfl ?_
  refine hs_iload_n dX10_greatest_29 rfl ?_
  exact hk_z0 (hs_vir (M' := m_X10_sumOf) (vs := [.int x1, .int x2, .int x4, .int x3]) (c1 := 0) (s1 := 0) dX10_greatest_30 wd_1265 vi_X10_sumOf hrec rfl (Nat.le_of_ble_eq_true rfl) hc hq_i (hc_i (fun z h9 k9 => k9)))
theorem b_X10_greatest_33 {G : hk_G} {d cb sb : Nat} {h : hk_H} {Q : hk_O → hk_H → Prop} {s0 : Int32} {s1 : Int32} {o0 : Option Value} {o1 : Option Value} {o2 : Option Value} {o3 : Option Value} {o4 : Option Value} {o5 : Option Value} (kt : s0 ≤ s1 → hk_S G m_X10_greatest (d + 1) cb sb 40 [o0, o1, o2, o3, o4, o5] [] h Q) (kf : ¬ s0 ≤ s1 → hk_S G m_X10_greatest (d + 1) cb sb 36 [o0, o1, o2, o3, o4, o5] [] h Q) : hk_S G m_X10_greatest (d + 1) cb sb 33 [o0, o1, o2, o3, o4, o5] [.int s1, .int s0] h Q := by
  exact hs_icmp_le dX10_greatest_33 (by decide) kt kf
theorem b_X10_greatest_36 {G : hk_G} {d cb sb : Nat} {h : hk_H} {Q : hk_O → hk_H → Prop} {x5 : Int32} {o0 : Option Value} {o1 : Option Value} {o2 : Option Value} {o3 : Option Value} {o4 : Option Value} (k : hk_S G m_X10_greatest (d + 1) cb sb 6 [o0, o1, o2, o3, some (.int x5), some (.int (x5 + 1))] [] h Q) (ho3 : hk_c1 o3 := by first | exact hk_c1i | exact hk_c1r | exact hk_c10 | exact hk_c1n) : hk_S G m_X10_greatest (d + 1) cb sb 36 [o0, o1, o2, o3, o4, some (.int x5)] [] h Q := by
  refine hs_iload dX10_greatest_36 rfl ?_
  refine hs_istK dX10_greatest_38 (by decide) (hk_nk1 rfl ho3) rfl ?_
  refine hs_iincK (v := 1) dX10_greatest_40 rfl (by decide) (by decide) (hk_nk1 rfl hk_c1i) rfl ?_
  refine hs_goto dX10_greatest_43 (tgt := 6) (by decide) ?_
  exact k
theorem b_X10_greatest_40 {G : hk_G} {d cb sb : Nat} {h : hk_H} {Q : hk_O → hk_H → Prop} {x5 : Int32} {o0 : Option Value} {o1 : Option Value} {o2 : Option Value} {o3 : Option Value} {o4 : Option Value} (k : hk_S G m_X10_greatest (d + 1) cb sb 6 [o0, o1, o2, o3, o4, some (.int (x5 + 1))] [] h Q) (ho4 : hk_c1 o4 := by first | exact hk_c1i | exact hk_c1r | exact hk_c10 | exact hk_c1n) : hk_S G m_X10_greatest (d + 1) cb sb 40 [o0, o1, o2, o3, o4, some (.int x5)] [] h Q := by
  refine hs_iincK (v := 1) dX10_greatest_40 rfl (by decide) (by decide) (hk_nk1 rfl ho4) rfl ?_
  refine hs_goto dX10_greatest_43 (tgt := 6) (by decide) ?_
  exact k
theorem b_X10_greatest_46 {G : hk_G} {d cb sb : Nat} {h : hk_H} {Q : hk_O → hk_H → Prop} {x4 : Int32} {o0 : Option Value} {o1 : Option Value} {o2 : Option Value} {o3 : Option Value} {o5 : Option Value} (hq : Q (.inl (some (.int x4))) h) : hk_S G m_X10_greatest (d + 1) cb sb 46 [o0, o1, o2, o3, some (.int x4), o5] [] h Q := by
  refine hs_iload dX10_greatest_46 rfl ?_
  exact hs_iret dX10_greatest_48 rfl hq
-- HonestHouseModel.top(I)I
theorem b_X10_top_0 {G : hk_G} {d cb sb : Nat} {h : hk_H} {Q : hk_O → hk_H → Prop} {o0 : Option Value} {o1 : Option Value} {o2 : Option Value} {o3 : Option Value} (k : hk_S G m_X10_top d cb sb 4 [o0, o1, some (.int 0), some (.int 1)] [] h Q) (ho1 : hk_c1 o1 := by first | exact hk_c1i | exact hk_c1r | exact hk_c10 | exact hk_c1n) : hk_S G m_X10_top d cb sb 0 [o0, o1, o2, o3] [] h Q := by
  refine hs_iconst (v := 0) dX10_top_0 (by decide) ?_
  refine hs_istK_n dX10_top_1 (by decide) (hk_nk1 rfl ho1) rfl ?_
  refine hs_iconst (v := 1) dX10_top_2 (by decide) ?_
  refine hs_istK_n dX10_top_3 (by decide) (hk_nk1 rfl hk_c1i) rfl ?_
  exact k
theorem b_X10_top_4 {G : hk_G} {d cb sb : Nat} {h : hk_H} {Q : hk_O → hk_H → Prop} {x3 : Int32} {r0 : Nat} {fs1 : List Value} {v3 : Int32} {o1 : Option Value} {o2 : Option Value} (hg2 : h.2 r0 = some (.inr (10, fs1))) (hv4 : fs1[1]? = some (.int v3)) (kt : v3 ≤ x3 → hk_S G m_X10_top d cb sb 43 [some (.ref r0), o1, o2, some (.int x3)] [] h Q) (kf : ¬ v3 ≤ x3 → hk_S G m_X10_top d cb sb 12 [some (.ref r0), o1, o2, some (.int x3)] [] h Q) : hk_S G m_X10_top d cb sb 4 [some (.ref r0), o1, o2, some (.int x3)] [] h Q := by
  refine hs_iload_n dX10_top_4 rfl ?_
  refine hs_aload_n dX10_top_5 rfl ?_
  refine hs_get dX10_top_6 fl_X10_101_10 hg2 hv4 ?_
  exact hs_icmp_ge dX10_top_9 (by decide) kt kf
theorem b_X10_top_12 {G : hk_G} {d cb sb : Nat} {h : hk_H} {Q : hk_O → hk_H → Prop} {r0 : Nat} {fs1 : List Value} {v3 : Nat} {x1 : Int32} {x3 : Int32} {n5 : Nat} {f6 : Nat → Int32} {x2 : Int32} (hg2 : h.2 r0 = some (.inr (10, fs1))) (hv4 : fs1[5]? = some (.ref v3)) (ha7 : h.2 v3 = some (.inl (0, n5, .inl f6))) (j8 : Nat) (hi9 : ((5 * x1) + x3 : Int32).toInt = (j8 : Int)) (hj10 : j8 < n5) (j11 : Nat) (hi12 : ((5 * x1) + x2 : Int32).toInt = (j11 : Int)) (hj13 : j11 < n5) (kt : (f6 j8) ≤ (f6 j11) → hk_S G m_X10_top d cb sb 37 [some (.ref r0), some (.int x1), some (.int x2), some (.int x3)] [] h Q) (kf : ¬ (f6 j8) ≤ (f6 j11) → hk_S G m_X10_top d cb sb 35 [some (.ref r0), some (.int x1), some (.int x2), some (.int x3)] [] h Q) : hk_S G m_X10_top d cb sb 12 [some (.ref r0), some (.int x1), some (.int x2), some (.int x3)] [] h Q := by
  refine hs_aload_n dX10_top_12 rfl ?_
  refine hs_get dX10_top_13 fl_X10_9_10 hg2 hv4 ?_
  refine hs_iconst (v := 5) dX10_top_16 (by decide) ?_
  refine hs_iload_n dX10_top_17 rfl ?_
  refine hs_imul dX10_top_18 ?_
  refine hs_iload_n dX10_top_19 rfl ?_
  refine hs_iadd dX10_top_20 ?_
  refine hs_iald j8 dX10_top_21 ha7 hi9 hj10 ?_
  refine hs_aload_n dX10_top_22 rfl ?_
  refine hs_get dX10_top_23 fl_X10_9_10 hg2 hv4 ?_
  refine hs_iconst (v := 5) dX10_top_26 (by decide) ?_
  refine hs_iload_n dX10_top_27 rfl ?_
  refine hs_imul dX10_top_28 ?_
  refine hs_iload_n dX10_top_29 rfl ?_
  refine hs_iadd dX10_top_30 ?_
  refine hs_iald j11 dX10_top_31 ha7 hi12 hj13 ?_
  exact hs_icmp_le dX10_top_32 (by decide) kt kf
theorem b_X10_top_35 {G : hk_G} {d cb sb : Nat} {h : hk_H} {Q : hk_O → hk_H → Prop} {x3 : Int32} {o0 : Option Value} {o1 : Option Value} {o2 : Option Value} (k : hk_S G m_X10_top d cb sb 4 [o0, o1, some (.int x3), some (.int (x3 + 1))] [] h Q) (ho1 : hk_c1 o1 := by first | exact hk_c1i | exact hk_c1r | exact hk_c10 | exact hk_c1n) : hk_S G m_X10_top d cb sb 35 [o0, o1, o2, some (.int x3)] [] h Q := by
  refine hs_iload_n dX10_top_35 rfl ?_
  refine hs_istK_n dX10_top_36 (by decide) (hk_nk1 rfl ho1) rfl ?_
  refine hs_iincK (v := 1) dX10_top_37 rfl (by decide) (by decide) (hk_nk1 rfl hk_c1i) rfl ?_
  refine hs_goto dX10_top_40 (tgt := 4) (by decide) ?_
  exact k
theorem b_X10_top_37 {G : hk_G} {d cb sb : Nat} {h : hk_H} {Q : hk_O → hk_H → Prop} {x3 : Int32} {o0 : Option Value} {o1 : Option Value} {o2 : Option Value} (k : hk_S G m_X10_top d cb sb 4 [o0, o1, o2, some (.int (x3 + 1))] [] h Q) (ho2 : hk_c1 o2 := by first | exact hk_c1i | exact hk_c1r | exact hk_c10 | exact hk_c1n) : hk_S G m_X10_top d cb sb 37 [o0, o1, o2, some (.int x3)] [] h Q := by
  refine hs_iincK (v := 1) dX10_top_37 rfl (by decide) (by decide) (hk_nk1 rfl ho2) rfl ?_
  refine hs_goto dX10_top_40 (tgt := 4) (by decide) ?_
  exact k
theorem b_X10_top_43 {G : hk_G} {d cb sb : Nat} {h : hk_H} {Q : hk_O → hk_H → Prop} {x2 : Int32} {o0 : Option Value} {o1 : Option Value} {o3 : Option Value} (hq : Q (.inl (some (.int x2))) h) : hk_S G m_X10_top d cb sb 43 [o0, o1, some (.int x2), o3] [] h Q := by
  refine hs_iload_n dX10_top_43 rfl ?_
  exact hs_iret dX10_top_44 rfl hq
-- HonestHouseModel.middleOf(II)I
theorem b_X10_middleOf_0 {G : hk_G} {d cb sb : Nat} {h : hk_H} {Q : hk_O → hk_H → Prop} {o0 : Option Value} {o1 : Option Value} {o2 : Option Value} {o3 : Option Value} {o4 : Option Value} {o5 : Option Value} (k : hk_S G m_X10_middleOf (d + 1) cb sb 2 [o0, o1, o2, some (.int 0), o4, o5] [] h Q) (ho2 : hk_c1 o2 := by first | exact hk_c1i | exact hk_c1r | exact hk_c10 | exact hk_c1n) : hk_S G m_X10_middleOf (d + 1) cb sb 0 [o0, o1, o2, o3, o4, o5] [] h Q := by
  refine hs_iconst (v := 0) dX10_middleOf_0 (by decide) ?_
  refine hs_istK_n dX10_middleOf_1 (by decide) (hk_nk1 rfl ho2) rfl ?_
  exact k
theorem b_X10_middleOf_2 {G : hk_G} {d cb sb : Nat} {h : hk_H} {Q : hk_O → hk_H → Prop} {x3 : Int32} {r0 : Nat} {fs1 : List Value} {v3 : Int32} {o1 : Option Value} {o2 : Option Value} {o4 : Option Value} {o5 : Option Value} (hg2 : h.2 r0 = some (.inr (10, fs1))) (hv4 : fs1[1]? = some (.int v3)) (kt : v3 ≤ x3 → hk_S G m_X10_middleOf (d + 1) cb sb 118 [some (.ref r0), o1, o2, some (.int x3), o4, o5] [] h Q) (kf : ¬ v3 ≤ x3 → hk_S G m_X10_middleOf (d + 1) cb sb 10 [some (.ref r0), o1, o2, some (.int x3), o4, o5] [] h Q) : hk_S G m_X10_middleOf (d + 1) cb sb 2 [some (.ref r0), o1, o2, some (.int x3), o4, o5] [] h Q := by
  refine hs_iload_n dX10_middleOf_2 rfl ?_
  refine hs_aload_n dX10_middleOf_3 rfl ?_
  refine hs_get dX10_middleOf_4 fl_X10_101_10 hg2 hv4 ?_
  exact hs_icmp_ge dX10_middleOf_7 (by decide) kt kf
theorem b_X10_middleOf_10 {G : hk_G} {d cb sb : Nat} {h : hk_H} {Q : hk_O → hk_H → Prop} {o0 : Option Value} {o1 : Option Value} {o2 : Option Value} {o3 : Option Value} {o4 : Option Value} {o5 : Option Value} (k : hk_S G m_X10_middleOf (d + 1) cb sb 16 [o0, o1, o2, o3, some (.int 0), some (.int 0)] [] h Q) (ho3 : hk_c1 o3 := by first | exact hk_c1i | exact hk_c1r | exact hk_c10 | exact hk_c1n) : hk_S G m_X10_middleOf (d + 1) cb sb 10 [o0, o1, o2, o3, o4, o5] [] h Q := by
  refine hs_iconst (v := 0) dX10_middleOf_10 (by decide) ?_
  refine hs_istK dX10_middleOf_11 (by decide) (hk_nk1 rfl ho3) rfl ?_
  refine hs_iconst (v := 0) dX10_middleOf_13 (by decide) ?_
  refine hs_istK dX10_middleOf_14 (by decide) (hk_nk1 rfl hk_c1i) rfl ?_
  exact k
theorem b_X10_middleOf_16 {G : hk_G} {d cb sb : Nat} {h : hk_H} {Q : hk_O → hk_H → Prop} {x5 : Int32} {r0 : Nat} {fs1 : List Value} {v3 : Int32} {o1 : Option Value} {o2 : Option Value} {o3 : Option Value} {o4 : Option Value} (hg2 : h.2 r0 = some (.inr (10, fs1))) (hv4 : fs1[0]? = some (.int v3)) (kt : v3 ≤ x5 → hk_S G m_X10_middleOf (d + 1) cb sb 56 [some (.ref r0), o1, o2, o3, o4, some (.int x5)] [] h Q) (kf : ¬ v3 ≤ x5 → hk_S G m_X10_middleOf (d + 1) cb sb 25 [some (.ref r0), o1, o2, o3, o4, some (.int x5)] [] h Q) : hk_S G m_X10_middleOf (d + 1) cb sb 16 [some (.ref r0), o1, o2, o3, o4, some (.int x5)] [] h Q := by
  refine hs_iload dX10_middleOf_16 rfl ?_
  refine hs_aload_n dX10_middleOf_18 rfl ?_
  refine hs_get dX10_middleOf_19 fl_X10_97_10 hg2 hv4 ?_
  exact hs_icmp_ge dX10_middleOf_22 (by decide) kt kf
theorem b_X10_middleOf_25 {G : hk_G} {d cb sb : Nat} {h : hk_H} {Q : hk_O → hk_H → Prop} {x4 : Int32} {r0 : Nat} {x2 : Int32} {x5 : Int32} {fs_ : List Value} {o1 : Option Value} {o3 : Option Value} (hrec : h.2 r0 = some (.inr (10, fs_))) (hc : hk_Ci G m_X10_wishOf d 0 0 [.ref r0, .int x2, .int x5] h (fun z h' => hk_S G m_X10_middleOf (d + 1) cb sb 35 [some (.ref r0), o1, some (.int x2), o3, some (.int x4), some (.int x5)] [.int z, .ref r0, .int x4] h' Q)) : hk_S G m_X10_middleOf (d + 1) cb sb 25 [some (.ref r0), o1, some (.int x2), o3, some (.int x4), some (.int x5)] [] h Q := by
  refine hs_iload dX10_middleOf_25 rfl ?_
  refine hs_aload_n dX10_middleOf_27 rfl ?_
  refine hs_aload_n dX10_middleOf_28 rfl ?_
  refine hs_iload_n dX10_middleOf_29 rfl ?_
  refine hs_iload dX10_middleOf_30 rfl ?_
  exact hk_z0 (hs_vir (M' := m_X10_wishOf) (vs := [.int x2, .int x5]) (c1 := 0) (s1 := 0) dX10_middleOf_32 wd_1269 vi_X10_wishOf hrec rfl (Nat.le_of_ble_eq_true rfl) hc hq_i (hc_i (fun z h9 k9 => k9)))
theorem b_X10_middleOf_35 {G : hk_G} {d cb sb : Nat} {h : hk_H} {Q : hk_O → hk_H → Prop} {s0 : Int32} {s1 : Nat} {s2 : Int32} {fs_ : List Value} {o0 : Option Value} {o1 : Option Value} {o2 : Option Value} {o3 : Option Value} {o4 : Option Value} {o5 : Option Value} (hrec : h.2 s1 = some (.inr (10, fs_))) (hc : hk_Ci G m_X10_top d 0 0 [.ref s1, .int s2] h (fun z h' => hk_S G m_X10_middleOf (d + 1) cb sb 38 [o0, o1, o2, o3, o4, o5] [.int z, .int s0] h' Q)) : hk_S G m_X10_middleOf (d + 1) cb sb 35 [o0, o1, o2, o3, o4, o5] [.int s2, .ref s1, .int s0] h Q := by
  exact hk_z0 (hs_vir (M' := m_X10_top) (vs := [.int s2]) (c1 := 0) (s1 := 0) dX10_middleOf_35 wd_1277 vi_X10_top hrec rfl (Nat.le_of_ble_eq_true rfl) hc hq_i (hc_i (fun z h9 k9 => k9)))
theorem b_X10_middleOf_38 {G : hk_G} {d cb sb : Nat} {h : hk_H} {Q : hk_O → hk_H → Prop} {s0 : Int32} {s1 : Int32} {x3 : Int32} {o0 : Option Value} {o1 : Option Value} {o2 : Option Value} {o4 : Option Value} {o5 : Option Value} (kt : x3 < s1 → hk_S G m_X10_middleOf (d + 1) cb sb 46 [o0, o1, o2, some (.int x3), o4, o5] [.int s0] h Q) (kf : ¬ x3 < s1 → hk_S G m_X10_middleOf (d + 1) cb sb 42 [o0, o1, o2, some (.int x3), o4, o5] [.int s0] h Q) : hk_S G m_X10_middleOf (d + 1) cb sb 38 [o0, o1, o2, some (.int x3), o4, o5] [.int s1, .int s0] h Q := by
  refine hs_iload_n dX10_middleOf_38 rfl ?_
  exact hs_icmp_gt dX10_middleOf_39 (by decide) kt kf
theorem b_X10_middleOf_42 {G : hk_G} {d cb sb : Nat} {h : hk_H} {Q : hk_O → hk_H → Prop} {s0 : Int32} {x5 : Int32} {o0 : Option Value} {o1 : Option Value} {o2 : Option Value} {o3 : Option Value} {o4 : Option Value} (k : hk_S G m_X10_middleOf (d + 1) cb sb 16 [o0, o1, o2, o3, some (.int (s0 + 1)), some (.int (x5 + 1))] [] h Q) (ho3 : hk_c1 o3 := by first | exact hk_c1i | exact hk_c1r | exact hk_c10 | exact hk_c1n) : hk_S G m_X10_middleOf (d + 1) cb sb 42 [o0, o1, o2, o3, o4, some (.int x5)] [.int s0] h Q := by
  refine hs_iconst (v := 1) dX10_middleOf_42 (by decide) ?_
  refine hs_goto dX10_middleOf_43 (tgt := 47) (by decide) ?_
  refine hs_iadd dX10_middleOf_47 ?_
  refine hs_istK dX10_middleOf_48 (by decide) (hk_nk1 rfl ho3) rfl ?_
  refine hs_iincK (v := 1) dX10_middleOf_50 rfl (by decide) (by decide) (hk_nk1 rfl hk_c1i) rfl ?_
  refine hs_goto dX10_middleOf_53 (tgt := 16) (by decide) ?_
  exact k
theorem b_X10_middleOf_46 {G : hk_G} {d cb sb : Nat} {h : hk_H} {Q : hk_O → hk_H → Prop} {s0 : Int32} {x5 : Int32} {o0 : Option Value} {o1 : Option Value} {o2 : Option Value} {o3 : Option Value} {o4 : Option Value} (k : hk_S G m_X10_middleOf (d + 1) cb sb 16 [o0, o1, o2, o3, some (.int (s0 + 0)), some (.int (x5 + 1))] [] h Q) (ho3 : hk_c1 o3 := by first | exact hk_c1i | exact hk_c1r | exact hk_c10 | exact hk_c1n) : hk_S G m_X10_middleOf (d + 1) cb sb 46 [o0, o1, o2, o3, o4, some (.int x5)] [.int s0] h Q := by
  refine hs_iconst (v := 0) dX10_middleOf_46 (by decide) ?_
  refine hs_iadd dX10_middleOf_47 ?_
  refine hs_istK dX10_middleOf_48 (by decide) (hk_nk1 rfl ho3) rfl ?_
  refine hs_iincK (v := 1) dX10_middleOf_50 rfl (by decide) (by decide) (hk_nk1 rfl hk_c1i) rfl ?_
  refine hs_goto dX10_middleOf_53 (tgt := 16) (by decide) ?_
  exact k
theorem b_X10_middleOf_47 {G : hk_G} {d cb sb : Nat} {h : hk_H} {Q : hk_O → hk_H → Prop} {s0 : Int32} {s1 : Int32} {x5 : Int32} {o0 : Option Value} {o1 : Option Value} {o2 : Option Value} {o3 : Option Value} {o4 : Option Value} (k : hk_S G m_X10_middleOf (d + 1) cb sb 16 [o0, o1, o2, o3, some (.int (s0 + s1)), some (.int (x5 + 1))] [] h Q) (ho3 : hk_c1 o3 := by first | exact hk_c1i | exact hk_c1r | exact hk_c10 | exact hk_c1n) : hk_S G m_X10_middleOf (d + 1) cb sb 47 [o0, o1, o2, o3, o4, some (.int x5)] [.int s1, .int s0] h Q := by
  refine hs_iadd dX10_middleOf_47 ?_
  refine hs_istK dX10_middleOf_48 (by decide) (hk_nk1 rfl ho3) rfl ?_
  refine hs_iincK (v := 1) dX10_middleOf_50 rfl (by decide) (by decide) (hk_nk1 rfl hk_c1i) rfl ?_
  refine hs_goto dX10_middleOf_53 (tgt := 16) (by decide) ?_
  exact k
theorem b_X10_middleOf_56 {G : hk_G} {d cb sb : Nat} {h : hk_H} {Q : hk_O → hk_H → Prop} {o0 : Option Value} {o1 : Option Value} {o2 : Option Value} {o3 : Option Value} {o4 : Option Value} {o5 : Option Value} (k : hk_S G m_X10_middleOf (d + 1) cb sb 59 [o0, o1, o2, o3, o4, some (.int 0)] [] h Q) (ho4 : hk_c1 o4 := by first | exact hk_c1i | exact hk_c1r | exact hk_c10 | exact hk_c1n) : hk_S G m_X10_middleOf (d + 1) cb sb 56 [o0, o1, o2, o3, o4, o5] [] h Q := by
  refine hs_iconst (v := 0) dX10_middleOf_56 (by decide) ?_
  refine hs_istK dX10_middleOf_57 (by decide) (hk_nk1 rfl ho4) rfl ?_
  exact k
theorem b_X10_middleOf_59 {G : hk_G} {d cb sb : Nat} {h : hk_H} {Q : hk_O → hk_H → Prop} {x5 : Int32} {r0 : Nat} {fs1 : List Value} {v3 : Int32} {o1 : Option Value} {o2 : Option Value} {o3 : Option Value} {o4 : Option Value} (hg2 : h.2 r0 = some (.inr (10, fs1))) (hv4 : fs1[0]? = some (.int v3)) (kt : (v3 - 1) ≤ x5 → hk_S G m_X10_middleOf (d + 1) cb sb 101 [some (.ref r0), o1, o2, o3, o4, some (.int x5)] [] h Q) (kf : ¬ (v3 - 1) ≤ x5 → hk_S G m_X10_middleOf (d + 1) cb sb 70 [some (.ref r0), o1, o2, o3, o4, some (.int x5)] [] h Q) : hk_S G m_X10_middleOf (d + 1) cb sb 59 [some (.ref r0), o1, o2, o3, o4, some (.int x5)] [] h Q := by
  refine hs_iload dX10_middleOf_59 rfl ?_
  refine hs_aload_n dX10_middleOf_61 rfl ?_
  refine hs_get dX10_middleOf_62 fl_X10_97_10 hg2 hv4 ?_
  refine hs_iconst (v := 1) dX10_middleOf_65 (by decide) ?_
  refine hs_isub dX10_middleOf_66 ?_
  exact hs_icmp_ge dX10_middleOf_67 (by decide) kt kf
theorem b_X10_middleOf_70 {G : hk_G} {d cb sb : Nat} {h : hk_H} {Q : hk_O → hk_H → Prop} {x4 : Int32} {r0 : Nat} {fs1 : List Value} {v3 : Nat} {x1 : Int32} {x5 : Int32} {n5 : Nat} {f6 : Nat → Int32} {x3 : Int32} {o2 : Option Value} (hg2 : h.2 r0 = some (.inr (10, fs1))) (hv4 : fs1[12]? = some (.ref v3)) (ha7 : h.2 v3 = some (.inl (0, n5, .inl f6))) (j8 : Nat) (hi9 : ((4 * x1) + x5 : Int32).toInt = (j8 : Int)) (hj10 : j8 < n5) (kt : x3 < (f6 j8) → hk_S G m_X10_middleOf (d + 1) cb sb 91 [some (.ref r0), some (.int x1), o2, some (.int x3), some (.int x4), some (.int x5)] [.int x4] h Q) (kf : ¬ x3 < (f6 j8) → hk_S G m_X10_middleOf (d + 1) cb sb 87 [some (.ref r0), some (.int x1), o2, some (.int x3), some (.int x4), some (.int x5)] [.int x4] h Q) : hk_S G m_X10_middleOf (d + 1) cb sb 70 [some (.ref r0), some (.int x1), o2, some (.int x3), some (.int x4), some (.int x5)] [] h Q := by
  refine hs_iload dX10_middleOf_70 rfl ?_
  refine hs_aload_n dX10_middleOf_72 rfl ?_
  refine hs_get dX10_middleOf_73 fl_X10_32_10 hg2 hv4 ?_
  refine hs_iconst (v := 4) dX10_middleOf_76 (by decide) ?_
  refine hs_iload_n dX10_middleOf_77 rfl ?_
  refine hs_imul dX10_middleOf_78 ?_
  refine hs_iload dX10_middleOf_79 rfl ?_
  refine hs_iadd dX10_middleOf_81 ?_
  refine hs_iald j8 dX10_middleOf_82 ha7 hi9 hj10 ?_
  refine hs_iload_n dX10_middleOf_83 rfl ?_
  exact hs_icmp_gt dX10_middleOf_84 (by decide) kt kf
theorem b_X10_middleOf_87 {G : hk_G} {d cb sb : Nat} {h : hk_H} {Q : hk_O → hk_H → Prop} {s0 : Int32} {x5 : Int32} {o0 : Option Value} {o1 : Option Value} {o2 : Option Value} {o3 : Option Value} {o4 : Option Value} (k : hk_S G m_X10_middleOf (d + 1) cb sb 59 [o0, o1, o2, o3, some (.int (s0 + 1)), some (.int (x5 + 1))] [] h Q) (ho3 : hk_c1 o3 := by first | exact hk_c1i | exact hk_c1r | exact hk_c10 | exact hk_c1n) : hk_S G m_X10_middleOf (d + 1) cb sb 87 [o0, o1, o2, o3, o4, some (.int x5)] [.int s0] h Q := by
  refine hs_iconst (v := 1) dX10_middleOf_87 (by decide) ?_
  refine hs_goto dX10_middleOf_88 (tgt := 92) (by decide) ?_
  refine hs_iadd dX10_middleOf_92 ?_
  refine hs_istK dX10_middleOf_93 (by decide) (hk_nk1 rfl ho3) rfl ?_
  refine hs_iincK (v := 1) dX10_middleOf_95 rfl (by decide) (by decide) (hk_nk1 rfl hk_c1i) rfl ?_
  refine hs_goto dX10_middleOf_98 (tgt := 59) (by decide) ?_
  exact k
theorem b_X10_middleOf_91 {G : hk_G} {d cb sb : Nat} {h : hk_H} {Q : hk_O → hk_H → Prop} {s0 : Int32} {x5 : Int32} {o0 : Option Value} {o1 : Option Value} {o2 : Option Value} {o3 : Option Value} {o4 : Option Value} (k : hk_S G m_X10_middleOf (d + 1) cb sb 59 [o0, o1, o2, o3, some (.int (s0 + 0)), some (.int (x5 + 1))] [] h Q) (ho3 : hk_c1 o3 := by first | exact hk_c1i | exact hk_c1r | exact hk_c10 | exact hk_c1n) : hk_S G m_X10_middleOf (d + 1) cb sb 91 [o0, o1, o2, o3, o4, some (.int x5)] [.int s0] h Q := by
  refine hs_iconst (v := 0) dX10_middleOf_91 (by decide) ?_
  refine hs_iadd dX10_middleOf_92 ?_
  refine hs_istK dX10_middleOf_93 (by decide) (hk_nk1 rfl ho3) rfl ?_
  refine hs_iincK (v := 1) dX10_middleOf_95 rfl (by decide) (by decide) (hk_nk1 rfl hk_c1i) rfl ?_
  refine hs_goto dX10_middleOf_98 (tgt := 59) (by decide) ?_
  exact k
theorem b_X10_middleOf_92 {G : hk_G} {d cb sb : Nat} {h : hk_H} {Q : hk_O → hk_H → Prop} {s0 : Int32} {s1 : Int32} {x5 : Int32} {o0 : Option Value} {o1 : Option Value} {o2 : Option Value} {o3 : Option Value} {o4 : Option Value} (k : hk_S G m_X10_middleOf (d + 1) cb sb 59 [o0, o1, o2, o3, some (.int (s0 + s1)), some (.int (x5 + 1))] [] h Q) (ho3 : hk_c1 o3 := by first | exact hk_c1i | exact hk_c1r | exact hk_c10 | exact hk_c1n) : hk_S G m_X10_middleOf (d + 1) cb sb 92 [o0, o1, o2, o3, o4, some (.int x5)] [.int s1, .int s0] h Q := by
  refine hs_iadd dX10_middleOf_92 ?_
  refine hs_istK dX10_middleOf_93 (by decide) (hk_nk1 rfl ho3) rfl ?_
  refine hs_iincK (v := 1) dX10_middleOf_95 rfl (by decide) (by decide) (hk_nk1 rfl hk_c1i) rfl ?_
  refine hs_goto dX10_middleOf_98 (tgt := 59) (by decide) ?_
  exact k
theorem b_X10_middleOf_101 {G : hk_G} {d cb sb : Nat} {h : hk_H} {Q : hk_O → hk_H → Prop} {x4 : Int32} {r0 : Nat} {fs1 : List Value} {v3 : Int32} {o1 : Option Value} {o2 : Option Value} {o3 : Option Value} {o5 : Option Value} (hg2 : h.2 r0 = some (.inr (10, fs1))) (hv4 : fs1[0]? = some (.int v3)) (kt : x4 < v3 → hk_S G m_X10_middleOf (d + 1) cb sb 112 [some (.ref r0), o1, o2, o3, some (.int x4), o5] [] h Q) (kf : ¬ x4 < v3 → hk_S G m_X10_middleOf (d + 1) cb sb 110 [some (.ref r0), o1, o2, o3, some (.int x4), o5] [] h Q) : hk_S G m_X10_middleOf (d + 1) cb sb 101 [some (.ref r0), o1, o2, o3, some (.int x4), o5] [] h Q := by
  refine hs_iload dX10_middleOf_101 rfl ?_
  refine hs_aload_n dX10_middleOf_103 rfl ?_
  refine hs_get dX10_middleOf_104 fl_X10_97_10 hg2 hv4 ?_
  exact hs_icmp_lt dX10_middleOf_107 (by decide) kt kf
theorem b_X10_middleOf_110 {G : hk_G} {d cb sb : Nat} {h : hk_H} {Q : hk_O → hk_H → Prop} {x3 : Int32} {o0 : Option Value} {o1 : Option Value} {o2 : Option Value} {o4 : Option Value} {o5 : Option Value} (hq : Q (.inl (some (.int x3))) h) : hk_S G m_X10_middleOf (d + 1) cb sb 110 [o0, o1, o2, some (.int x3), o4, o5] [] h Q := by
  refine hs_iload_n dX10_middleOf_110 rfl ?_
  exact hs_iret dX10_middleOf_111 rfl hq
theorem b_X10_middleOf_112 {G : hk_G} {d cb sb : Nat} {h : hk_H} {Q : hk_O → hk_H → Prop} {x3 : Int32} {o0 : Option Value} {o1 : Option Value} {o2 : Option Value} {o4 : Option Value} {o5 : Option Value} (k : hk_S G m_X10_middleOf (d + 1) cb sb 2 [o0, o1, o2, some (.int (x3 + 1)), o4, o5] [] h Q) (ho2 : hk_c1 o2 := by first | exact hk_c1i | exact hk_c1r | exact hk_c10 | exact hk_c1n) : hk_S G m_X10_middleOf (d + 1) cb sb 112 [o0, o1, o2, some (.int x3), o4, o5] [] h Q := by
  refine hs_iincK (v := 1) dX10_middleOf_112 rfl (by decide) (by decide) (hk_nk1 rfl ho2) rfl ?_
  refine hs_goto dX10_middleOf_115 (tgt := 2) (by decide) ?_
  exact k
theorem b_X10_middleOf_118 {G : hk_G} {d cb sb : Nat} {h : hk_H} {Q : hk_O → hk_H → Prop} {r0 : Nat} {fs1 : List Value} {v3 : Int32} {o1 : Option Value} {o2 : Option Value} {o3 : Option Value} {o4 : Option Value} {o5 : Option Value} (hg2 : h.2 r0 = some (.inr (10, fs1))) (hv4 : fs1[1]? = some (.int v3)) (hq : Q (.inl (some (.int (v3 - 1)))) h) : hk_S G m_X10_middleOf (d + 1) cb sb 118 [some (.ref r0), o1, o2, o3, o4, o5] [] h Q := by
  refine hs_aload_n dX10_middleOf_118 rfl ?_
  refine hs_get dX10_middleOf_119 fl_X10_101_10 hg2 hv4 ?_
  refine hs_iconst (v := 1) dX10_middleOf_122 (by decide) ?_
  refine hs_isub dX10_middleOf_123 ?_
  exact hs_iret dX10_middleOf_124 rfl hq
-- HonestHouseModel.ends(II)I
theorem b_X10_ends_0 {G : hk_G} {d cb sb : Nat} {h : hk_H} {Q : hk_O → hk_H → Prop} {r0 : Nat} {fs1 : List Value} {v3 : Nat} {x1 : Int32} {n5 : Nat} {f6 : Nat → Int32} {o2 : Option Value} (hg2 : h.2 r0 = some (.inr (10, fs1))) (hv4 : fs1[7]? = some (.ref v3)) (ha7 : h.2 v3 = some (.inl (0, n5, .inl f6))) (j8 : Nat) (hi9 : (x1 : Int32).toInt = (j8 : Int)) (hj10 : j8 < n5) (k2 : (f6 j8) = 2 → hk_S G m_X10_ends (d + 1) cb sb 32 [some (.ref r0), some (.int x1), o2] [] h Q) (k3 : (f6 j8) = 3 → hk_S G m_X10_ends (d + 1) cb sb 40 [some (.ref r0), some (.int x1), o2] [] h Q) (kd : ¬ (f6 j8) = 2 → ¬ (f6 j8) = 3 → hk_S G m_X10_ends (d + 1) cb sb 47 [some (.ref r0), some (.int x1), o2] [] h Q) : hk_S G m_X10_ends (d + 1) cb sb 0 [some (.ref r0), some (.int x1), o2] [] h Q := by
  refine hs_aload_n dX10_ends_0 rfl ?_
  refine hs_get dX10_ends_1 fl_X10_16_10 hg2 hv4 ?_
  refine hs_iload_n dX10_ends_4 rfl ?_
  refine hs_iald j8 dX10_ends_5 ha7 hi9 hj10 ?_
  by_cases c2 : (f6 j8) = 2
  · exact hs_lookup dX10_ends_6 (by decide) (off := 26) (by rw [c2]; rfl) (by decide) (k2 c2)
  by_cases c3 : (f6 j8) = 3
  · exact hs_lookup dX10_ends_6 (by decide) (off := 34) (by rw [c3]; rfl) (by decide) (k3 c3)
  exact hs_lookup dX10_ends_6 (by decide) (off := 41) (by refine (lv_osw c2 rfl).trans ?_; refine (lv_osw c3 rfl).trans ?_; rfl) (by decide) (kd c2 c3)
theorem b_X10_ends_32 {G : hk_G} {d cb sb : Nat} {h : hk_H} {Q : hk_O → hk_H → Prop} {r0 : Nat} {x1 : Int32} {x2 : Int32} {fs_ : List Value} (hrec : h.2 r0 = some (.inr (10, fs_))) (hc : hk_Ci G m_X10_greatest d 0 0 [.ref r0, .int x1, .int x2, .int ((-1))] h (fun z h' => hk_S G m_X10_ends (d + 1) cb sb 39 [some (.ref r0), some (.int x1), some (.int x2)] [.int z] h' Q)) : hk_S G m_X10_ends (d + 1) cb sb 32 [some (.ref r0), some (.int x1), some (.int x2)] [] h Q := by
  refine hs_aload_n dX10_ends_32 rfl ?_
  refine hs_iload_n dX10_ends_33 rfl ?_
  refine hs_iload_n dX10_ends_34 rfl ?_
  refine hs_iconst (v := (-1)) dX10_ends_35 (by decide) ?_
  exact hk_z0 (hs_vir (M' := m_X10_greatest) (vs := [.int x1, .int x2, .int ((-1))]) (c1 := 0) (s1 := 0) dX10_ends_36 wd_1261 vi_X10_greatest hrec rfl (Nat.le_of_ble_eq_true rfl) hc hq_i (hc_i (fun z h9 k9 => k9)))
theorem b_X10_ends_39 {G : hk_G} {d cb sb : Nat} {h : hk_H} {Q : hk_O → hk_H → Prop} {s0 : Int32} {o0 : Option Value} {o1 : Option Value} {o2 : Option Value} (hq : Q (.inl (some (.int s0))) h) : hk_S G m_X10_ends (d + 1) cb sb 39 [o0, o1, o2] [.int s0] h Q := by
  exact hs_iret dX10_ends_39 rfl hq
theorem b_X10_ends_40 {G : hk_G} {d cb sb : Nat} {h : hk_H} {Q : hk_O → hk_H → Prop} {r0 : Nat} {x1 : Int32} {x2 : Int32} {fs_ : List Value} (hrec : h.2 r0 = some (.inr (10, fs_))) (hc : hk_Ci G m_X10_middleOf d 0 0 [.ref r0, .int x1, .int x2] h (fun z h' => hk_S G m_X10_ends (d + 1) cb sb 46 [some (.ref r0), some (.int x1), some (.int x2)] [.int z] h' Q)) : hk_S G m_X10_ends (d + 1) cb sb 40 [some (.ref r0), some (.int x1), some (.int x2)] [] h Q := by
  refine hs_aload_n dX10_ends_40 rfl ?_
  refine hs_iload_n dX10_ends_41 rfl ?_
  refine hs_iload_n dX10_ends_42 rfl ?_
  exact hk_z0 (hs_vir (M' := m_X10_middleOf) (vs := [.int x1, .int x2]) (c1 := 0) (s1 := 0) dX10_ends_43 wd_1273 vi_X10_middleOf hrec rfl (Nat.le_of_ble_eq_true rfl) hc hq_i (hc_i (fun z h9 k9 => k9)))
theorem b_X10_ends_46 {G : hk_G} {d cb sb : Nat} {h : hk_H} {Q : hk_O → hk_H → Prop} {s0 : Int32} {o0 : Option Value} {o1 : Option Value} {o2 : Option Value} (hq : Q (.inl (some (.int s0))) h) : hk_S G m_X10_ends (d + 1) cb sb 46 [o0, o1, o2] [.int s0] h Q := by
  exact hs_iret dX10_ends_46 rfl hq
theorem b_X10_ends_47 {G : hk_G} {d cb sb : Nat} {h : hk_H} {Q : hk_O → hk_H → Prop} {r0 : Nat} {fs1 : List Value} {v3 : Nat} {x1 : Int32} {x2 : Int32} {n5 : Nat} {f6 : Nat → Int32} (hg2 : h.2 r0 = some (.inr (10, fs1))) (hv4 : fs1[8]? = some (.ref v3)) (ha7 : h.2 v3 = some (.inl (0, n5, .inl f6))) (j8 : Nat) (hi9 : ((1296 * x1) + x2 : Int32).toInt = (j8 : Int)) (hj10 : j8 < n5) (hq : Q (.inl (some (.int (f6 j8)))) h) : hk_S G m_X10_ends (d + 1) cb sb 47 [some (.ref r0), some (.int x1), some (.int x2)] [] h Q := by
  refine hs_aload_n dX10_ends_47 rfl ?_
  refine hs_get dX10_ends_48 fl_X10_19_10 hg2 hv4 ?_
  refine hs_sipush (v := 1296) dX10_ends_51 (by decide) ?_
  refine hs_iload_n dX10_ends_54 rfl ?_
  refine hs_imul dX10_ends_55 ?_
  refine hs_iload_n dX10_ends_56 rfl ?_
  refine hs_iadd dX10_ends_57 ?_
  refine hs_iald j8 dX10_ends_58 ha7 hi9 hj10 ?_
  exact hs_iret dX10_ends_59 rfl hq
-- HonestHouseModel.paysOf(III)I
theorem b_X10_paysOf_0 {G : hk_G} {d cb sb : Nat} {h : hk_H} {Q : hk_O → hk_H → Prop} {r0 : Nat} {fs1 : List Value} {v3 : Nat} {x1 : Int32} {n5 : Nat} {f6 : Nat → Int32} {o2 : Option Value} {o3 : Option Value} {o4 : Option Value} (hg2 : h.2 r0 = some (.inr (10, fs1))) (hv4 : fs1[7]? = some (.ref v3)) (ha7 : h.2 v3 = some (.inl (0, n5, .inl f6))) (j8 : Nat) (hi9 : (x1 : Int32).toInt = (j8 : Int)) (hj10 : j8 < n5) (kt : ¬ (f6 j8) = 1 → hk_S G m_X10_paysOf (d + 1) cb sb 27 [some (.ref r0), some (.int x1), o2, o3, o4] [] h Q) (kf : (f6 j8) = 1 → hk_S G m_X10_paysOf (d + 1) cb sb 10 [some (.ref r0), some (.int x1), o2, o3, o4] [] h Q) : hk_S G m_X10_paysOf (d + 1) cb sb 0 [some (.ref r0), some (.int x1), o2, o3, o4] [] h Q := by
  refine hs_aload_n dX10_paysOf_0 rfl ?_
  refine hs_get dX10_paysOf_1 fl_X10_16_10 hg2 hv4 ?_
  refine hs_iload_n dX10_paysOf_4 rfl ?_
  refine hs_iald j8 dX10_paysOf_5 ha7 hi9 hj10 ?_
  refine hs_iconst (v := 1) dX10_paysOf_6 (by decide) ?_
  exact hs_icmp_ne dX10_paysOf_7 (by decide) kt kf
theorem b_X10_paysOf_10 {G : hk_G} {d cb sb : Nat} {h : hk_H} {Q : hk_O → hk_H → Prop} {r0 : Nat} {fs1 : List Value} {v3 : Nat} {x1 : Int32} {x2 : Int32} {x3 : Int32} {n5 : Nat} {f6 : Nat → Int32} {o4 : Option Value} (hg2 : h.2 r0 = some (.inr (10, fs1))) (hv4 : fs1[9]? = some (.ref v3)) (ha7 : h.2 v3 = some (.inl (0, n5, .inl f6))) (j8 : Nat) (hi9 : ((4 * ((1296 * x1) + x2)) + x3 : Int32).toInt = (j8 : Int)) (hj10 : j8 < n5) (hq : Q (.inl (some (.int (f6 j8)))) h) : hk_S G m_X10_paysOf (d + 1) cb sb 10 [some (.ref r0), some (.int x1), some (.int x2), some (.int x3), o4] [] h Q := by
  refine hs_aload_n dX10_paysOf_10 rfl ?_
  refine hs_get dX10_paysOf_11 fl_X10_23_10 hg2 hv4 ?_
  refine hs_iconst (v := 4) dX10_paysOf_14 (by decide) ?_
  refine hs_sipush (v := 1296) dX10_paysOf_15 (by decide) ?_
  refine hs_iload_n dX10_paysOf_18 rfl ?_
  refine hs_imul dX10_paysOf_19 ?_
  refine hs_iload_n dX10_paysOf_20 rfl ?_
  refine hs_iadd dX10_paysOf_21 ?_
  refine hs_imul dX10_paysOf_22 ?_
  refine hs_iload_n dX10_paysOf_23 rfl ?_
  refine hs_iadd dX10_paysOf_24 ?_
  refine hs_iald j8 dX10_paysOf_25 ha7 hi9 hj10 ?_
  exact hs_iret dX10_paysOf_26 rfl hq
theorem b_X10_paysOf_27 {G : hk_G} {d cb sb : Nat} {h : hk_H} {Q : hk_O → hk_H → Prop} {r0 : Nat} {fs1 : List Value} {v3 : Nat} {x1 : Int32} {n5 : Nat} {f6 : Nat → Int32} {o2 : Option Value} {o3 : Option Value} {o4 : Option Value} (hg2 : h.2 r0 = some (.inr (10, fs1))) (hv4 : fs1[7]? = some (.ref v3)) (ha7 : h.2 v3 = some (.inl (0, n5, .inl f6))) (j8 : Nat) (hi9 : (x1 : Int32).toInt = (j8 : Int)) (hj10 : j8 < n5) (kt : ¬ (f6 j8) = 2 → hk_S G m_X10_paysOf (d + 1) cb sb 50 [some (.ref r0), some (.int x1), o2, o3, o4] [] h Q) (kf : (f6 j8) = 2 → hk_S G m_X10_paysOf (d + 1) cb sb 37 [some (.ref r0), some (.int x1), o2, o3, o4] [] h Q) : hk_S G m_X10_paysOf (d + 1) cb sb 27 [some (.ref r0), some (.int x1), o2, o3, o4] [] h Q := by
  refine hs_aload_n dX10_paysOf_27 rfl ?_
  refine hs_get dX10_paysOf_28 fl_X10_16_10 hg2 hv4 ?_
  refine hs_iload_n dX10_paysOf_31 rfl ?_
  refine hs_iald j8 dX10_paysOf_32 ha7 hi9 hj10 ?_
  refine hs_iconst (v := 2) dX10_paysOf_33 (by decide) ?_
  exact hs_icmp_ne dX10_paysOf_34 (by decide) kt kf
theorem b_X10_paysOf_37 {G : hk_G} {d cb sb : Nat} {h : hk_H} {Q : hk_O → hk_H → Prop} {r0 : Nat} {fs1 : List Value} {v3 : Nat} {x1 : Int32} {x3 : Int32} {n5 : Nat} {f6 : Nat → Int32} {o2 : Option Value} {o4 : Option Value} (hg2 : h.2 r0 = some (.inr (10, fs1))) (hv4 : fs1[11]? = some (.ref v3)) (ha7 : h.2 v3 = some (.inl (0, n5, .inl f6))) (j8 : Nat) (hi9 : ((4 * x1) + x3 : Int32).toInt = (j8 : Int)) (hj10 : j8 < n5) (kt : ¬ (f6 j8) = 0 → hk_S G m_X10_paysOf (d + 1) cb sb 52 [some (.ref r0), some (.int x1), o2, some (.int x3), o4] [] h Q) (kf : (f6 j8) = 0 → hk_S G m_X10_paysOf (d + 1) cb sb 50 [some (.ref r0), some (.int x1), o2, some (.int x3), o4] [] h Q) : hk_S G m_X10_paysOf (d + 1) cb sb 37 [some (.ref r0), some (.int x1), o2, some (.int x3), o4] [] h Q := by
  refine hs_aload_n dX10_paysOf_37 rfl ?_
  refine hs_get dX10_paysOf_38 fl_X10_29_10 hg2 hv4 ?_
  refine hs_iconst (v := 4) dX10_paysOf_41 (by decide) ?_
  refine hs_iload_n dX10_paysOf_42 rfl ?_
  refine hs_imul dX10_paysOf_43 ?_
  refine hs_iload_n dX10_paysOf_44 rfl ?_
  refine hs_iadd dX10_paysOf_45 ?_
  refine hs_iald j8 dX10_paysOf_46 ha7 hi9 hj10 ?_
  exact hs_if_ne dX10_paysOf_47 (by decide) kt kf
theorem b_X10_paysOf_50 {G : hk_G} {d cb sb : Nat} {h : hk_H} {Q : hk_O → hk_H → Prop} {o0 : Option Value} {o1 : Option Value} {o2 : Option Value} {o3 : Option Value} {o4 : Option Value} (hq : Q (.inl (some (.int 0))) h) : hk_S G m_X10_paysOf (d + 1) cb sb 50 [o0, o1, o2, o3, o4] [] h Q := by
  refine hs_iconst (v := 0) dX10_paysOf_50 (by decide) ?_
  exact hs_iret dX10_paysOf_51 rfl hq
theorem b_X10_paysOf_52 {G : hk_G} {d cb sb : Nat} {h : hk_H} {Q : hk_O → hk_H → Prop} {r0 : Nat} {x1 : Int32} {x2 : Int32} {x3 : Int32} {fs_ : List Value} {o4 : Option Value} (hrec : h.2 r0 = some (.inr (10, fs_))) (hc : hk_Ci G m_X10_greatest d 0 0 [.ref r0, .int x1, .int x2, .int x3] h (fun z h' => hk_S G m_X10_paysOf (d + 1) cb sb 62 [some (.ref r0), some (.int x1), some (.int x2), some (.int x3), o4] [.int z, .int x2, .int x1, .ref r0] h' Q)) : hk_S G m_X10_paysOf (d + 1) cb sb 52 [some (.ref r0), some (.int x1), some (.int x2), some (.int x3), o4] [] h Q := by
  refine hs_aload_n dX10_paysOf_52 rfl ?_
  refine hs_iload_n dX10_paysOf_53 rfl ?_
  refine hs_iload_n dX10_paysOf_54 rfl ?_
  refine hs_aload_n dX10_paysOf_55 rfl ?_
  refine hs_iload_n dX10_paysOf_56 rfl ?_
  refine hs_iload_n dX10_paysOf_57 rfl ?_
  refine hs_iload_n dX10_paysOf_58 rfl ?_
  exact hk_z0 (hs_vir (M' := m_X10_greatest) (vs := [.int x1, .int x2, .int x3]) (c1 := 0) (s1 := 0) dX10_paysOf_59 wd_1261 vi_X10_greatest hrec rfl (Nat.le_of_ble_eq_true rfl) hc hq_i (hc_i (fun z h9 k9 => k9)))
theorem b_X10_paysOf_62 {G : hk_G} {d cb sb : Nat} {h : hk_H} {Q : hk_O → hk_H → Prop} {s0 : Nat} {s1 : Int32} {s2 : Int32} {s3 : Int32} {x3 : Int32} {fs_ : List Value} {o0 : Option Value} {o1 : Option Value} {o2 : Option Value} {o4 : Option Value} (hrec : h.2 s0 = some (.inr (10, fs_))) (hc : hk_Ci G m_X10_sumOf d 0 0 [.ref s0, .int s1, .int s2, .int s3, .int x3] h (fun z h' => hk_S G m_X10_paysOf (d + 1) cb sb 66 [o0, o1, o2, some (.int x3), o4] [.int z] h' Q)) : hk_S G m_X10_paysOf (d + 1) cb sb 62 [o0, o1, o2, some (.int x3), o4] [.int s3, .int s2, .int s1, .ref s0] h Q := by
  refine hs_iload_n dX10_paysOf_62 rfl ?_
  exact hk_z0 (hs_vir (M' := m_X10_sumOf) (vs := [.int s1, .int s2, .int s3, .int x3]) (c1 := 0) (s1 := 0) dX10_paysOf_63 wd_1265 vi_X10_sumOf hrec rfl (Nat.le_of_ble_eq_true rfl) hc hq_i (hc_i (fun z h9 k9 => k9)))
theorem b_X10_paysOf_66 {G : hk_G} {d cb sb : Nat} {h : hk_H} {Q : hk_O → hk_H → Prop} {s0 : Int32} {r0 : Nat} {x1 : Int32} {x2 : Int32} {fs_ : List Value} {o3 : Option Value} {o4 : Option Value} (hrec : h.2 r0 = some (.inr (10, fs_))) (hc : hk_Ci G m_X10_greatest d 0 0 [.ref r0, .int x1, .int x2, .int ((-1))] h (fun z h' => hk_S G m_X10_paysOf (d + 1) cb sb 76 [some (.ref r0), some (.int x1), some (.int x2), o3, o4] [.int z, .int x2, .int x1, .ref r0, .int s0] h' Q)) : hk_S G m_X10_paysOf (d + 1) cb sb 66 [some (.ref r0), some (.int x1), some (.int x2), o3, o4] [.int s0] h Q := by
  refine hs_aload_n dX10_paysOf_66 rfl ?_
  refine hs_iload_n dX10_paysOf_67 rfl ?_
  refine hs_iload_n dX10_paysOf_68 rfl ?_
  refine hs_aload_n dX10_paysOf_69 rfl ?_
  refine hs_iload_n dX10_paysOf_70 rfl ?_
  refine hs_iload_n dX10_paysOf_71 rfl ?_
  refine hs_iconst (v := (-1)) dX10_paysOf_72 (by decide) ?_
  exact hk_z0 (hs_vir (M' := m_X10_greatest) (vs := [.int x1, .int x2, .int ((-1))]) (c1 := 0) (s1 := 0) dX10_paysOf_73 wd_1261 vi_X10_greatest hrec rfl (Nat.le_of_ble_eq_true rfl) hc hq_i (hc_i (fun z h9 k9 => k9)))
theorem b_X10_paysOf_76 {G : hk_G} {d cb sb : Nat} {h : hk_H} {Q : hk_O → hk_H → Prop} {s0 : Int32} {s1 : Nat} {s2 : Int32} {s3 : Int32} {s4 : Int32} {x3 : Int32} {fs_ : List Value} {o0 : Option Value} {o1 : Option Value} {o2 : Option Value} {o4 : Option Value} (hrec : h.2 s1 = some (.inr (10, fs_))) (hc : hk_Ci G m_X10_sumOf d 0 0 [.ref s1, .int s2, .int s3, .int s4, .int x3] h (fun z h' => hk_S G m_X10_paysOf (d + 1) cb sb 80 [o0, o1, o2, some (.int x3), o4] [.int z, .int s0] h' Q)) : hk_S G m_X10_paysOf (d + 1) cb sb 76 [o0, o1, o2, some (.int x3), o4] [.int s4, .int s3, .int s2, .ref s1, .int s0] h Q := by
  refine hs_iload_n dX10_paysOf_76 rfl ?_
  exact hk_z0 (hs_vir (M' := m_X10_sumOf) (vs := [.int s2, .int s3, .int s4, .int x3]) (c1 := 0) (s1 := 0) dX10_paysOf_77 wd_1265 vi_X10_sumOf hrec rfl (Nat.le_of_ble_eq_true rfl) hc hq_i (hc_i (fun z h9 k9 => k9)))
theorem b_X10_paysOf_80 {G : hk_G} {d cb sb : Nat} {h : hk_H} {Q : hk_O → hk_H → Prop} {s0 : Int32} {s1 : Int32} {r0 : Nat} {fs1 : List Value} {v3 : Nat} {x1 : Int32} {x3 : Int32} {n5 : Nat} {f6 : Nat → Int32} {o2 : Option Value} {o4 : Option Value} (hg2 : h.2 r0 = some (.inr (10, fs1))) (hv4 : fs1[11]? = some (.ref v3)) (ha7 : h.2 v3 = some (.inl (0, n5, .inl f6))) (j8 : Nat) (hi9 : ((4 * x1) + x3 : Int32).toInt = (j8 : Int)) (hj10 : j8 < n5) (hz11 : ¬ (f6 j8) = 0) (hq : Q (.inl (some (.int ((s0 - s1) / (f6 j8))))) h) : hk_S G m_X10_paysOf (d + 1) cb sb 80 [some (.ref r0), some (.int x1), o2, some (.int x3), o4] [.int s1, .int s0] h Q := by
  refine hs_isub dX10_paysOf_80 ?_
  refine hs_istK dX10_paysOf_81 (by decide) (hk_nk1 rfl hk_c1i) rfl ?_
  refine hs_iload dX10_paysOf_83 rfl ?_
  refine hs_aload_n dX10_paysOf_85 rfl ?_
  refine hs_get dX10_paysOf_86 fl_X10_29_10 hg2 hv4 ?_
  refine hs_iconst (v := 4) dX10_paysOf_89 (by decide) ?_
  refine hs_iload_n dX10_paysOf_90 rfl ?_
  refine hs_imul dX10_paysOf_91 ?_
  refine hs_iload_n dX10_paysOf_92 rfl ?_
  refine hs_iadd dX10_paysOf_93 ?_
  refine hs_iald j8 dX10_paysOf_94 ha7 hi9 hj10 ?_
  refine hs_idiv dX10_paysOf_95 hz11 ?_
  exact hs_iret dX10_paysOf_96 rfl hq
-- HonestHouseModel.end(II)I
theorem b_X10_end_0 {G : hk_G} {d cb sb : Nat} {h : hk_H} {Q : hk_O → hk_H → Prop} {r0 : Nat} {x1 : Int32} {x2 : Int32} {fs_ : List Value} (hrec : h.2 r0 = some (.inr (10, fs_))) (hc : hk_Ci G m_X10_isRow d 0 0 [.ref r0, .int x1, .int x2] h (fun z h' => hk_S G m_X10_end (d + 1) cb sb 6 [some (.ref r0), some (.int x1), some (.int x2)] [.int z] h' Q)) : hk_S G m_X10_end (d + 1) cb sb 0 [some (.ref r0), some (.int x1), some (.int x2)] [] h Q := by
  refine hs_aload_n dX10_end_0 rfl ?_
  refine hs_iload_n dX10_end_1 rfl ?_
  refine hs_iload_n dX10_end_2 rfl ?_
  exact hk_z0 (hs_vir (M' := m_X10_isRow) (vs := [.int x1, .int x2]) (c1 := 0) (s1 := 0) dX10_end_3 wd_1237 vi_X10_isRow hrec rfl (Nat.le_of_ble_eq_true rfl) hc hq_i (hc_i (fun z h9 k9 => k9)))
theorem b_X10_end_6 {G : hk_G} {d cb sb : Nat} {h : hk_H} {Q : hk_O → hk_H → Prop} {s0 : Int32} {o0 : Option Value} {o1 : Option Value} {o2 : Option Value} (kt : s0 = 0 → hk_S G m_X10_end (d + 1) cb sb 18 [o0, o1, o2] [] h Q) (kf : ¬ s0 = 0 → hk_S G m_X10_end (d + 1) cb sb 9 [o0, o1, o2] [] h Q) : hk_S G m_X10_end (d + 1) cb sb 6 [o0, o1, o2] [.int s0] h Q := by
  exact hs_if_eq dX10_end_6 (by decide) kt kf
theorem b_X10_end_9 {G : hk_G} {d cb sb : Nat} {h : hk_H} {Q : hk_O → hk_H → Prop} {r0 : Nat} {x1 : Int32} {x2 : Int32} {fs_ : List Value} (hrec : h.2 r0 = some (.inr (10, fs_))) (hc : hk_Ci G m_X10_ends d 0 0 [.ref r0, .int x1, .int x2] h (fun z h' => hk_S G m_X10_end (d + 1) cb sb 15 [some (.ref r0), some (.int x1), some (.int x2)] [.int z] h' Q)) : hk_S G m_X10_end (d + 1) cb sb 9 [some (.ref r0), some (.int x1), some (.int x2)] [] h Q := by
  refine hs_aload_n dX10_end_9 rfl ?_
  refine hs_iload_n dX10_end_10 rfl ?_
  refine hs_iload_n dX10_end_11 rfl ?_
  exact hk_z0 (hs_vir (M' := m_X10_ends) (vs := [.int x1, .int x2]) (c1 := 0) (s1 := 0) dX10_end_12 wd_1257 vi_X10_ends hrec rfl (Nat.le_of_ble_eq_true rfl) hc hq_i (hc_i (fun z h9 k9 => k9)))
theorem b_X10_end_15 {G : hk_G} {d cb sb : Nat} {h : hk_H} {Q : hk_O → hk_H → Prop} {s0 : Int32} {o0 : Option Value} {o1 : Option Value} {o2 : Option Value} (hq : Q (.inl (some (.int s0))) h) : hk_S G m_X10_end (d + 1) cb sb 15 [o0, o1, o2] [.int s0] h Q := by
  refine hs_goto dX10_end_15 (tgt := 19) (by decide) ?_
  exact hs_iret dX10_end_19 rfl hq
theorem b_X10_end_18 {G : hk_G} {d cb sb : Nat} {h : hk_H} {Q : hk_O → hk_H → Prop} {o0 : Option Value} {o1 : Option Value} {o2 : Option Value} (hq : Q (.inl (some (.int ((-1))))) h) : hk_S G m_X10_end (d + 1) cb sb 18 [o0, o1, o2] [] h Q := by
  refine hs_iconst (v := (-1)) dX10_end_18 (by decide) ?_
  exact hs_iret dX10_end_19 rfl hq
theorem b_X10_end_19 {G : hk_G} {d cb sb : Nat} {h : hk_H} {Q : hk_O → hk_H → Prop} {s0 : Int32} {o0 : Option Value} {o1 : Option Value} {o2 : Option Value} (hq : Q (.inl (some (.int s0))) h) : hk_S G m_X10_end (d + 1) cb sb 19 [o0, o1, o2] [.int s0] h Q := by
  exact hs_iret dX10_end_19 rfl hq
-- HonestHouseModel.pays(III)I
theorem b_X10_pays_0 {G : hk_G} {d cb sb : Nat} {h : hk_H} {Q : hk_O → hk_H → Prop} {r0 : Nat} {fs1 : List Value} {h_1 : hk_H} {x1 : Int32} {x2 : Int32} {fs_ : List Value} {o3 : Option Value} (hg2 : h.2 r0 = some (.inr (10, fs1))) (h4_r0 : 4 ≤ r0) (e_1 : (hk_set h r0 (.inr (10, fs1.set 13 (.int 0)))) = h_1) (hrec : h_1.2 r0 = some (.inr (10, fs_))) (hc : hk_Ci G m_X10_isRow d 0 0 [.ref r0, .int x1, .int x2] h_1 (fun z h' => hk_S G m_X10_pays (d + 1) cb sb 11 [some (.ref r0), some (.int x1), some (.int x2), o3] [.int z] h' Q)) (hl3 : 13 < fs1.length := by exact Nat.le_of_ble_eq_true rfl) : hk_S G m_X10_pays (d + 1) cb sb 0 [some (.ref r0), some (.int x1), some (.int x2), o3] [] h Q := by
  subst e_1
  refine hs_aload_n dX10_pays_0 rfl ?_
  refine hs_iconst (v := 0) dX10_pays_1 (by decide) ?_
  refine hs_put (t := .int) dX10_pays_2 fw_X10_107_10 hg2 h4_r0 hl3 rfl rfl ?_
  refine hs_aload_n dX10_pays_5 rfl ?_
  refine hs_iload_n dX10_pays_6 rfl ?_
  refine hs_iload_n dX10_pays_7 rfl ?_
  exact hk_z0 (hs_vir (M' := m_X10_isRow) (vs := [.int x1, .int x2]) (c1 := 0) (s1 := 0) dX10_pays_8 wd_1237 vi_X10_isRow hrec rfl (Nat.le_of_ble_eq_true rfl) hc hq_i (hc_i (fun z h9 k9 => k9)))
theorem b_X10_pays_11 {G : hk_G} {d cb sb : Nat} {h : hk_H} {Q : hk_O → hk_H → Prop} {s0 : Int32} {o0 : Option Value} {o1 : Option Value} {o2 : Option Value} {o3 : Option Value} (kt : s0 = 0 → hk_S G m_X10_pays (d + 1) cb sb 25 [o0, o1, o2, o3] [] h Q) (kf : ¬ s0 = 0 → hk_S G m_X10_pays (d + 1) cb sb 14 [o0, o1, o2, o3] [] h Q) : hk_S G m_X10_pays (d + 1) cb sb 11 [o0, o1, o2, o3] [.int s0] h Q := by
  exact hs_if_eq dX10_pays_11 (by decide) kt kf
theorem b_X10_pays_14 {G : hk_G} {d cb sb : Nat} {h : hk_H} {Q : hk_O → hk_H → Prop} {x3 : Int32} {r0 : Nat} {fs1 : List Value} {v3 : Int32} {o1 : Option Value} {o2 : Option Value} (hg2 : h.2 r0 = some (.inr (10, fs1))) (hv4 : fs1[0]? = some (.int v3)) (hc : hk_Ci G m_X10_isIn d 0 0 [.int x3, .int v3] h (fun z h' => hk_S G m_X10_pays (d + 1) cb sb 22 [some (.ref r0), o1, o2, some (.int x3)] [.int z] h' Q)) : hk_S G m_X10_pays (d + 1) cb sb 14 [some (.ref r0), o1, o2, some (.int x3)] [] h Q := by
  refine hs_iload_n dX10_pays_14 rfl ?_
  refine hs_aload_n dX10_pays_15 rfl ?_
  refine hs_get dX10_pays_16 fl_X10_97_10 hg2 hv4 ?_
  exact hk_z0 (hs_sta (M' := m_X10_isIn) (vs := [.int x3, .int v3]) (c1 := 0) (s1 := 0) dX10_pays_19 wd_1226 st_X10_isIn rfl (Nat.le_of_ble_eq_true rfl) hc hq_i (hc_i (fun z h9 k9 => k9)))
theorem b_X10_pays_22 {G : hk_G} {d cb sb : Nat} {h : hk_H} {Q : hk_O → hk_H → Prop} {s0 : Int32} {o0 : Option Value} {o1 : Option Value} {o2 : Option Value} {o3 : Option Value} (kt : ¬ s0 = 0 → hk_S G m_X10_pays (d + 1) cb sb 31 [o0, o1, o2, o3] [] h Q) (kf : s0 = 0 → hk_S G m_X10_pays (d + 1) cb sb 25 [o0, o1, o2, o3] [] h Q) : hk_S G m_X10_pays (d + 1) cb sb 22 [o0, o1, o2, o3] [.int s0] h Q := by
  exact hs_if_ne dX10_pays_22 (by decide) kt kf
theorem b_X10_pays_25 {G : hk_G} {d cb sb : Nat} {h : hk_H} {Q : hk_O → hk_H → Prop} {r0 : Nat} {fs_ : List Value} {o1 : Option Value} {o2 : Option Value} {o3 : Option Value} (hrec : h.2 r0 = some (.inr (10, fs_))) (hc : hk_Ci G m_X10_raises d 0 0 [.ref r0, .int 1] h (fun z h' => hk_S G m_X10_pays (d + 1) cb sb 30 [some (.ref r0), o1, o2, o3] [.int z] h' Q)) : hk_S G m_X10_pays (d + 1) cb sb 25 [some (.ref r0), o1, o2, o3] [] h Q := by
  refine hs_aload_n dX10_pays_25 rfl ?_
  refine hs_iconst (v := 1) dX10_pays_26 (by decide) ?_
  exact hk_z0 (hs_vir (M' := m_X10_raises) (vs := [.int 1]) (c1 := 0) (s1 := 0) dX10_pays_27 wd_1285 vi_X10_raises hrec rfl (Nat.le_of_ble_eq_true rfl) hc hq_i (hc_i (fun z h9 k9 => k9)))
theorem b_X10_pays_30 {G : hk_G} {d cb sb : Nat} {h : hk_H} {Q : hk_O → hk_H → Prop} {s0 : Int32} {o0 : Option Value} {o1 : Option Value} {o2 : Option Value} {o3 : Option Value} (hq : Q (.inl (some (.int s0))) h) : hk_S G m_X10_pays (d + 1) cb sb 30 [o0, o1, o2, o3] [.int s0] h Q := by
  exact hs_iret dX10_pays_30 rfl hq
theorem b_X10_pays_31 {G : hk_G} {d cb sb : Nat} {h : hk_H} {Q : hk_O → hk_H → Prop} {r0 : Nat} {x1 : Int32} {x2 : Int32} {x3 : Int32} {fs_ : List Value} (hrec : h.2 r0 = some (.inr (10, fs_))) (hc : hk_Ci G m_X10_paysOf d 0 0 [.ref r0, .int x1, .int x2, .int x3] h (fun z h' => hk_S G m_X10_pays (d + 1) cb sb 38 [some (.ref r0), some (.int x1), some (.int x2), some (.int x3)] [.int z] h' Q)) : hk_S G m_X10_pays (d + 1) cb sb 31 [some (.ref r0), some (.int x1), some (.int x2), some (.int x3)] [] h Q := by
  refine hs_aload_n dX10_pays_31 rfl ?_
  refine hs_iload_n dX10_pays_32 rfl ?_
  refine hs_iload_n dX10_pays_33 rfl ?_
  refine hs_iload_n dX10_pays_34 rfl ?_
  exact hk_z0 (hs_vir (M' := m_X10_paysOf) (vs := [.int x1, .int x2, .int x3]) (c1 := 0) (s1 := 0) dX10_pays_35 wd_1289 vi_X10_paysOf hrec rfl (Nat.le_of_ble_eq_true rfl) hc hq_i (hc_i (fun z h9 k9 => k9)))
theorem b_X10_pays_38 {G : hk_G} {d cb sb : Nat} {h : hk_H} {Q : hk_O → hk_H → Prop} {s0 : Int32} {o0 : Option Value} {o1 : Option Value} {o2 : Option Value} {o3 : Option Value} (hq : Q (.inl (some (.int s0))) h) : hk_S G m_X10_pays (d + 1) cb sb 38 [o0, o1, o2, o3] [.int s0] h Q := by
  exact hs_iret dX10_pays_38 rfl hq
-- HonestHouseModel.said(III)I
theorem b_X10_said_0 {G : hk_G} {d cb sb : Nat} {h : hk_H} {Q : hk_O → hk_H → Prop} {x1 : Int32} {r0 : Nat} {fs1 : List Value} {v3 : Int32} {o2 : Option Value} {o3 : Option Value} (hg2 : h.2 r0 = some (.inr (10, fs1))) (hv4 : fs1[4]? = some (.int v3)) (hc : hk_Ci G m_X10_isIn d 0 0 [.int x1, .int v3] h (fun z h' => hk_S G m_X10_said (d + 1) cb sb 8 [some (.ref r0), some (.int x1), o2, o3] [.int z] h' Q)) : hk_S G m_X10_said (d + 1) cb sb 0 [some (.ref r0), some (.int x1), o2, o3] [] h Q := by
  refine hs_iload_n dX10_said_0 rfl ?_
  refine hs_aload_n dX10_said_1 rfl ?_
  refine hs_get dX10_said_2 fl_X10_113_10 hg2 hv4 ?_
  exact hk_z0 (hs_sta (M' := m_X10_isIn) (vs := [.int x1, .int v3]) (c1 := 0) (s1 := 0) dX10_said_5 wd_1226 st_X10_isIn rfl (Nat.le_of_ble_eq_true rfl) hc hq_i (hc_i (fun z h9 k9 => k9)))
theorem b_X10_said_8 {G : hk_G} {d cb sb : Nat} {h : hk_H} {Q : hk_O → hk_H → Prop} {s0 : Int32} {o0 : Option Value} {o1 : Option Value} {o2 : Option Value} {o3 : Option Value} (kt : s0 = 0 → hk_S G m_X10_said (d + 1) cb sb 43 [o0, o1, o2, o3] [] h Q) (kf : ¬ s0 = 0 → hk_S G m_X10_said (d + 1) cb sb 11 [o0, o1, o2, o3] [] h Q) : hk_S G m_X10_said (d + 1) cb sb 8 [o0, o1, o2, o3] [.int s0] h Q := by
  exact hs_if_eq dX10_said_8 (by decide) kt kf
theorem b_X10_said_11 {G : hk_G} {d cb sb : Nat} {h : hk_H} {Q : hk_O → hk_H → Prop} {x2 : Int32} {r0 : Nat} {fs1 : List Value} {v3 : Int32} {o1 : Option Value} {o3 : Option Value} (hg2 : h.2 r0 = some (.inr (10, fs1))) (hv4 : fs1[0]? = some (.int v3)) (hc : hk_Ci G m_X10_isIn d 0 0 [.int x2, .int v3] h (fun z h' => hk_S G m_X10_said (d + 1) cb sb 19 [some (.ref r0), o1, some (.int x2), o3] [.int z] h' Q)) : hk_S G m_X10_said (d + 1) cb sb 11 [some (.ref r0), o1, some (.int x2), o3] [] h Q := by
  refine hs_iload_n dX10_said_11 rfl ?_
  refine hs_aload_n dX10_said_12 rfl ?_
  refine hs_get dX10_said_13 fl_X10_97_10 hg2 hv4 ?_
  exact hk_z0 (hs_sta (M' := m_X10_isIn) (vs := [.int x2, .int v3]) (c1 := 0) (s1 := 0) dX10_said_16 wd_1226 st_X10_isIn rfl (Nat.le_of_ble_eq_true rfl) hc hq_i (hc_i (fun z h9 k9 => k9)))
theorem b_X10_said_19 {G : hk_G} {d cb sb : Nat} {h : hk_H} {Q : hk_O → hk_H → Prop} {s0 : Int32} {o0 : Option Value} {o1 : Option Value} {o2 : Option Value} {o3 : Option Value} (kt : s0 = 0 → hk_S G m_X10_said (d + 1) cb sb 43 [o0, o1, o2, o3] [] h Q) (kf : ¬ s0 = 0 → hk_S G m_X10_said (d + 1) cb sb 22 [o0, o1, o2, o3] [] h Q) : hk_S G m_X10_said (d + 1) cb sb 19 [o0, o1, o2, o3] [.int s0] h Q := by
  exact hs_if_eq dX10_said_19 (by decide) kt kf
theorem b_X10_said_22 {G : hk_G} {d cb sb : Nat} {h : hk_H} {Q : hk_O → hk_H → Prop} {x3 : Int32} {r0 : Nat} {fs1 : List Value} {v3 : Int32} {o1 : Option Value} {o2 : Option Value} (hg2 : h.2 r0 = some (.inr (10, fs1))) (hv4 : fs1[2]? = some (.int v3)) (hc : hk_Ci G m_X10_isIn d 0 0 [.int x3, .int v3] h (fun z h' => hk_S G m_X10_said (d + 1) cb sb 30 [some (.ref r0), o1, o2, some (.int x3)] [.int z] h' Q)) : hk_S G m_X10_said (d + 1) cb sb 22 [some (.ref r0), o1, o2, some (.int x3)] [] h Q := by
  refine hs_iload_n dX10_said_22 rfl ?_
  refine hs_aload_n dX10_said_23 rfl ?_
  refine hs_get dX10_said_24 fl_X10_110_10 hg2 hv4 ?_
  exact hk_z0 (hs_sta (M' := m_X10_isIn) (vs := [.int x3, .int v3]) (c1 := 0) (s1 := 0) dX10_said_27 wd_1226 st_X10_isIn rfl (Nat.le_of_ble_eq_true rfl) hc hq_i (hc_i (fun z h9 k9 => k9)))
theorem b_X10_said_30 {G : hk_G} {d cb sb : Nat} {h : hk_H} {Q : hk_O → hk_H → Prop} {s0 : Int32} {o0 : Option Value} {o1 : Option Value} {o2 : Option Value} {o3 : Option Value} (kt : s0 = 0 → hk_S G m_X10_said (d + 1) cb sb 43 [o0, o1, o2, o3] [] h Q) (kf : ¬ s0 = 0 → hk_S G m_X10_said (d + 1) cb sb 33 [o0, o1, o2, o3] [] h Q) : hk_S G m_X10_said (d + 1) cb sb 30 [o0, o1, o2, o3] [.int s0] h Q := by
  exact hs_if_eq dX10_said_30 (by decide) kt kf
theorem b_X10_said_33 {G : hk_G} {d cb sb : Nat} {h : hk_H} {Q : hk_O → hk_H → Prop} {r0 : Nat} {x1 : Int32} {x2 : Int32} {x3 : Int32} {fs_ : List Value} (hrec : h.2 r0 = some (.inr (10, fs_))) (hc : hk_Ci G m_X10_saying d 0 0 [.ref r0, .int x1, .int x2, .int x3] h (fun z h' => hk_S G m_X10_said (d + 1) cb sb 40 [some (.ref r0), some (.int x1), some (.int x2), some (.int x3)] [.int z] h' Q)) : hk_S G m_X10_said (d + 1) cb sb 33 [some (.ref r0), some (.int x1), some (.int x2), some (.int x3)] [] h Q := by
  refine hs_aload_n dX10_said_33 rfl ?_
  refine hs_iload_n dX10_said_34 rfl ?_
  refine hs_iload_n dX10_said_35 rfl ?_
  refine hs_iload_n dX10_said_36 rfl ?_
  exact hk_z0 (hs_vir (M' := m_X10_saying) (vs := [.int x1, .int x2, .int x3]) (c1 := 0) (s1 := 0) dX10_said_37 wd_1297 vi_X10_saying hrec rfl (Nat.le_of_ble_eq_true rfl) hc hq_i (hc_i (fun z h9 k9 => k9)))
theorem b_X10_said_40 {G : hk_G} {d cb sb : Nat} {h : hk_H} {Q : hk_O → hk_H → Prop} {s0 : Int32} {o0 : Option Value} {o1 : Option Value} {o2 : Option Value} {o3 : Option Value} (hq : Q (.inl (some (.int s0))) h) : hk_S G m_X10_said (d + 1) cb sb 40 [o0, o1, o2, o3] [.int s0] h Q := by
  refine hs_goto dX10_said_40 (tgt := 44) (by decide) ?_
  exact hs_iret dX10_said_44 rfl hq
theorem b_X10_said_43 {G : hk_G} {d cb sb : Nat} {h : hk_H} {Q : hk_O → hk_H → Prop} {o0 : Option Value} {o1 : Option Value} {o2 : Option Value} {o3 : Option Value} (hq : Q (.inl (some (.int ((-1))))) h) : hk_S G m_X10_said (d + 1) cb sb 43 [o0, o1, o2, o3] [] h Q := by
  refine hs_iconst (v := (-1)) dX10_said_43 (by decide) ?_
  exact hs_iret dX10_said_44 rfl hq
theorem b_X10_said_44 {G : hk_G} {d cb sb : Nat} {h : hk_H} {Q : hk_O → hk_H → Prop} {s0 : Int32} {o0 : Option Value} {o1 : Option Value} {o2 : Option Value} {o3 : Option Value} (hq : Q (.inl (some (.int s0))) h) : hk_S G m_X10_said (d + 1) cb sb 44 [o0, o1, o2, o3] [.int s0] h Q := by
  exact hs_iret dX10_said_44 rfl hq
-- HonestHouseModel.worthOf(IIII)I
theorem b_X10_worthOf_0 {G : hk_G} {d cb sb : Nat} {h : hk_H} {Q : hk_O → hk_H → Prop} {r0 : Nat} {fs1 : List Value} {v3 : Nat} {x4 : Int32} {x1 : Int32} {x2 : Int32} {o3 : Option Value} (hg2 : h.2 r0 = some (.inr (10, fs1))) (hv4 : fs1[5]? = some (.ref v3)) (hc : hk_Ci G m_X10_ends d 0 0 [.ref r0, .int x1, .int x2] h (fun z h' => hk_S G m_X10_worthOf (d + 1) cb sb 14 [some (.ref r0), some (.int x1), some (.int x2), o3, some (.int x4)] [.int z, .int (5 * x4), .ref v3] h' Q)) : hk_S G m_X10_worthOf (d + 1) cb sb 0 [some (.ref r0), some (.int x1), some (.int x2), o3, some (.int x4)] [] h Q := by
  refine hs_aload_n dX10_worthOf_0 rfl ?_
  refine hs_get dX10_worthOf_1 fl_X10_9_10 hg2 hv4 ?_
  refine hs_iconst (v := 5) dX10_worthOf_4 (by decide) ?_
  refine hs_iload dX10_worthOf_5 rfl ?_
  refine hs_imul dX10_worthOf_7 ?_
  refine hs_aload_n dX10_worthOf_8 rfl ?_
  refine hs_iload_n dX10_worthOf_9 rfl ?_
  refine hs_iload_n dX10_worthOf_10 rfl ?_
  exact hk_z0 (hs_vir (M' := m_X10_ends) (vs := [.int x1, .int x2]) (c1 := 0) (s1 := 0) dX10_worthOf_11 wd_1257 vi_X10_ends hg2 rfl (Nat.le_of_ble_eq_true rfl) hc hq_i (hc_i (fun z h9 k9 => k9)))
theorem b_X10_worthOf_14 {G : hk_G} {d cb sb : Nat} {h : hk_H} {Q : hk_O → hk_H → Prop} {s0 : Nat} {s1 : Int32} {s2 : Int32} {n1 : Nat} {f2 : Nat → Int32} {r0 : Nat} {x1 : Int32} {x2 : Int32} {x3 : Int32} {fs_ : List Value} {o4 : Option Value} (ha3 : h.2 s0 = some (.inl (0, n1, .inl f2))) (j4 : Nat) (hi5 : (s1 + s2 : Int32).toInt = (j4 : Int)) (hj6 : j4 < n1) (hrec : h.2 r0 = some (.inr (10, fs_))) (hc : hk_Ci G m_X10_paysOf d 0 0 [.ref r0, .int x1, .int x2, .int x3] h (fun z h' => hk_S G m_X10_worthOf (d + 1) cb sb 23 [some (.ref r0), some (.int x1), some (.int x2), some (.int x3), o4] [.int z, .int (f2 j4)] h' Q)) : hk_S G m_X10_worthOf (d + 1) cb sb 14 [some (.ref r0), some (.int x1), some (.int x2), some (.int x3), o4] [.int s2, .int s1, .ref s0] h Q := by
  refine hs_iadd dX10_worthOf_14 ?_
  refine hs_iald j4 dX10_worthOf_15 ha3 hi5 hj6 ?_
  refine hs_aload_n dX10_worthOf_16 rfl ?_
  refine hs_iload_n dX10_worthOf_17 rfl ?_
  refine hs_iload_n dX10_worthOf_18 rfl ?_
  refine hs_iload_n dX10_worthOf_19 rfl ?_
  exact hk_z0 (hs_vir (M' := m_X10_paysOf) (vs := [.int x1, .int x2, .int x3]) (c1 := 0) (s1 := 0) dX10_worthOf_20 wd_1289 vi_X10_paysOf hrec rfl (Nat.le_of_ble_eq_true rfl) hc hq_i (hc_i (fun z h9 k9 => k9)))
theorem b_X10_worthOf_23 {G : hk_G} {d cb sb : Nat} {h : hk_H} {Q : hk_O → hk_H → Prop} {s0 : Int32} {s1 : Int32} {o0 : Option Value} {o1 : Option Value} {o2 : Option Value} {o3 : Option Value} {o4 : Option Value} (hq : Q (.inl (some (.int (s0 - s1)))) h) : hk_S G m_X10_worthOf (d + 1) cb sb 23 [o0, o1, o2, o3, o4] [.int s1, .int s0] h Q := by
  refine hs_isub dX10_worthOf_23 ?_
  exact hs_iret dX10_worthOf_24 rfl hq
-- HonestHouseModel.gainOf(IIII)I
theorem b_X10_gainOf_0 {G : hk_G} {d cb sb : Nat} {h : hk_H} {Q : hk_O → hk_H → Prop} {r0 : Nat} {x2 : Int32} {x3 : Int32} {fs_ : List Value} {o1 : Option Value} {o4 : Option Value} {o5 : Option Value} (hrec : h.2 r0 = some (.inr (10, fs_))) (hc : hk_Ci G m_X10_wishOf d 0 0 [.ref r0, .int x2, .int x3] h (fun z h' => hk_S G m_X10_gainOf (d + 1) cb sb 6 [some (.ref r0), o1, some (.int x2), some (.int x3), o4, o5] [.int z] h' Q)) : hk_S G m_X10_gainOf (d + 1) cb sb 0 [some (.ref r0), o1, some (.int x2), some (.int x3), o4, o5] [] h Q := by
  refine hs_aload_n dX10_gainOf_0 rfl ?_
  refine hs_iload_n dX10_gainOf_1 rfl ?_
  refine hs_iload_n dX10_gainOf_2 rfl ?_
  exact hk_z0 (hs_vir (M' := m_X10_wishOf) (vs := [.int x2, .int x3]) (c1 := 0) (s1 := 0) dX10_gainOf_3 wd_1269 vi_X10_wishOf hrec rfl (Nat.le_of_ble_eq_true rfl) hc hq_i (hc_i (fun z h9 k9 => k9)))
theorem b_X10_gainOf_6 {G : hk_G} {d cb sb : Nat} {h : hk_H} {Q : hk_O → hk_H → Prop} {s0 : Int32} {r0 : Nat} {x1 : Int32} {x4 : Int32} {x3 : Int32} {fs_ : List Value} {o2 : Option Value} {o5 : Option Value} (hrec : h.2 r0 = some (.inr (10, fs_))) (hc : hk_Ci G m_X10_worthOf d 0 0 [.ref r0, .int x1, .int x4, .int x3, .int s0] h (fun z h' => hk_S G m_X10_gainOf (d + 1) cb sb 18 [some (.ref r0), some (.int x1), o2, some (.int x3), some (.int x4), some (.int s0)] [.int z] h' Q)) : hk_S G m_X10_gainOf (d + 1) cb sb 6 [some (.ref r0), some (.int x1), o2, some (.int x3), some (.int x4), o5] [.int s0] h Q := by
  refine hs_istK dX10_gainOf_6 (by decide) (hk_nk1 rfl hk_c1i) rfl ?_
  refine hs_aload_n dX10_gainOf_8 rfl ?_
  refine hs_iload_n dX10_gainOf_9 rfl ?_
  refine hs_iload dX10_gainOf_10 rfl ?_
  refine hs_iload_n dX10_gainOf_12 rfl ?_
  refine hs_iload dX10_gainOf_13 rfl ?_
  exact hk_z0 (hs_vir (M' := m_X10_worthOf) (vs := [.int x1, .int x4, .int x3, .int s0]) (c1 := 0) (s1 := 0) dX10_gainOf_15 wd_1309 vi_X10_worthOf hrec rfl (Nat.le_of_ble_eq_true rfl) hc hq_i (hc_i (fun z h9 k9 => k9)))
theorem b_X10_gainOf_18 {G : hk_G} {d cb sb : Nat} {h : hk_H} {Q : hk_O → hk_H → Prop} {s0 : Int32} {r0 : Nat} {x1 : Int32} {x2 : Int32} {x3 : Int32} {x5 : Int32} {fs_ : List Value} {o4 : Option Value} (hrec : h.2 r0 = some (.inr (10, fs_))) (hc : hk_Ci G m_X10_worthOf d 0 0 [.ref r0, .int x1, .int x2, .int x3, .int x5] h (fun z h' => hk_S G m_X10_gainOf (d + 1) cb sb 27 [some (.ref r0), some (.int x1), some (.int x2), some (.int x3), o4, some (.int x5)] [.int z, .int s0] h' Q)) : hk_S G m_X10_gainOf (d + 1) cb sb 18 [some (.ref r0), some (.int x1), some (.int x2), some (.int x3), o4, some (.int x5)] [.int s0] h Q := by
  refine hs_aload_n dX10_gainOf_18 rfl ?_
  refine hs_iload_n dX10_gainOf_19 rfl ?_
  refine hs_iload_n dX10_gainOf_20 rfl ?_
  refine hs_iload_n dX10_gainOf_21 rfl ?_
  refine hs_iload dX10_gainOf_22 rfl ?_
  exact hk_z0 (hs_vir (M' := m_X10_worthOf) (vs := [.int x1, .int x2, .int x3, .int x5]) (c1 := 0) (s1 := 0) dX10_gainOf_24 wd_1309 vi_X10_worthOf hrec rfl (Nat.le_of_ble_eq_true rfl) hc hq_i (hc_i (fun z h9 k9 => k9)))
theorem b_X10_gainOf_27 {G : hk_G} {d cb sb : Nat} {h : hk_H} {Q : hk_O → hk_H → Prop} {s0 : Int32} {s1 : Int32} {o0 : Option Value} {o1 : Option Value} {o2 : Option Value} {o3 : Option Value} {o4 : Option Value} {o5 : Option Value} (hq : Q (.inl (some (.int (s0 - s1)))) h) : hk_S G m_X10_gainOf (d + 1) cb sb 27 [o0, o1, o2, o3, o4, o5] [.int s1, .int s0] h Q := by
  refine hs_isub dX10_gainOf_27 ?_
  exact hs_iret dX10_gainOf_28 rfl hq
-- HonestHouseModel.gain(IIII)I
theorem b_X10_gain_0 {G : hk_G} {d cb sb : Nat} {h : hk_H} {Q : hk_O → hk_H → Prop} {r0 : Nat} {fs1 : List Value} {h_1 : hk_H} {x1 : Int32} {x2 : Int32} {fs_ : List Value} {o3 : Option Value} {o4 : Option Value} (hg2 : h.2 r0 = some (.inr (10, fs1))) (h4_r0 : 4 ≤ r0) (e_1 : (hk_set h r0 (.inr (10, fs1.set 13 (.int 0)))) = h_1) (hrec : h_1.2 r0 = some (.inr (10, fs_))) (hc : hk_Ci G m_X10_isRow d 0 0 [.ref r0, .int x1, .int x2] h_1 (fun z h' => hk_S G m_X10_gain (d + 1) cb sb 11 [some (.ref r0), some (.int x1), some (.int x2), o3, o4] [.int z] h' Q)) (hl3 : 13 < fs1.length := by exact Nat.le_of_ble_eq_true rfl) : hk_S G m_X10_gain (d + 1) cb sb 0 [some (.ref r0), some (.int x1), some (.int x2), o3, o4] [] h Q := by
  subst e_1
  refine hs_aload_n dX10_gain_0 rfl ?_
  refine hs_iconst (v := 0) dX10_gain_1 (by decide) ?_
  refine hs_put (t := .int) dX10_gain_2 fw_X10_107_10 hg2 h4_r0 hl3 rfl rfl ?_
  refine hs_aload_n dX10_gain_5 rfl ?_
  refine hs_iload_n dX10_gain_6 rfl ?_
  refine hs_iload_n dX10_gain_7 rfl ?_
  exact hk_z0 (hs_vir (M' := m_X10_isRow) (vs := [.int x1, .int x2]) (c1 := 0) (s1 := 0) dX10_gain_8 wd_1237 vi_X10_isRow hrec rfl (Nat.le_of_ble_eq_true rfl) hc hq_i (hc_i (fun z h9 k9 => k9)))
theorem b_X10_gain_11 {G : hk_G} {d cb sb : Nat} {h : hk_H} {Q : hk_O → hk_H → Prop} {s0 : Int32} {o0 : Option Value} {o1 : Option Value} {o2 : Option Value} {o3 : Option Value} {o4 : Option Value} (kt : s0 = 0 → hk_S G m_X10_gain (d + 1) cb sb 37 [o0, o1, o2, o3, o4] [] h Q) (kf : ¬ s0 = 0 → hk_S G m_X10_gain (d + 1) cb sb 14 [o0, o1, o2, o3, o4] [] h Q) : hk_S G m_X10_gain (d + 1) cb sb 11 [o0, o1, o2, o3, o4] [.int s0] h Q := by
  exact hs_if_eq dX10_gain_11 (by decide) kt kf
theorem b_X10_gain_14 {G : hk_G} {d cb sb : Nat} {h : hk_H} {Q : hk_O → hk_H → Prop} {x3 : Int32} {r0 : Nat} {fs1 : List Value} {v3 : Int32} {o1 : Option Value} {o2 : Option Value} {o4 : Option Value} (hg2 : h.2 r0 = some (.inr (10, fs1))) (hv4 : fs1[0]? = some (.int v3)) (hc : hk_Ci G m_X10_isIn d 0 0 [.int x3, .int v3] h (fun z h' => hk_S G m_X10_gain (d + 1) cb sb 22 [some (.ref r0), o1, o2, some (.int x3), o4] [.int z] h' Q)) : hk_S G m_X10_gain (d + 1) cb sb 14 [some (.ref r0), o1, o2, some (.int x3), o4] [] h Q := by
  refine hs_iload_n dX10_gain_14 rfl ?_
  refine hs_aload_n dX10_gain_15 rfl ?_
  refine hs_get dX10_gain_16 fl_X10_97_10 hg2 hv4 ?_
  exact hk_z0 (hs_sta (M' := m_X10_isIn) (vs := [.int x3, .int v3]) (c1 := 0) (s1 := 0) dX10_gain_19 wd_1226 st_X10_isIn rfl (Nat.le_of_ble_eq_true rfl) hc hq_i (hc_i (fun z h9 k9 => k9)))
theorem b_X10_gain_22 {G : hk_G} {d cb sb : Nat} {h : hk_H} {Q : hk_O → hk_H → Prop} {s0 : Int32} {o0 : Option Value} {o1 : Option Value} {o2 : Option Value} {o3 : Option Value} {o4 : Option Value} (kt : s0 = 0 → hk_S G m_X10_gain (d + 1) cb sb 37 [o0, o1, o2, o3, o4] [] h Q) (kf : ¬ s0 = 0 → hk_S G m_X10_gain (d + 1) cb sb 25 [o0, o1, o2, o3, o4] [] h Q) : hk_S G m_X10_gain (d + 1) cb sb 22 [o0, o1, o2, o3, o4] [.int s0] h Q := by
  exact hs_if_eq dX10_gain_22 (by decide) kt kf
theorem b_X10_gain_25 {G : hk_G} {d cb sb : Nat} {h : hk_H} {Q : hk_O → hk_H → Prop} {x4 : Int32} {r0 : Nat} {fs1 : List Value} {v3 : Int32} {o1 : Option Value} {o2 : Option Value} {o3 : Option Value} (hg2 : h.2 r0 = some (.inr (10, fs1))) (hv4 : fs1[2]? = some (.int v3)) (hc : hk_Ci G m_X10_isIn d 0 0 [.int x4, .int v3] h (fun z h' => hk_S G m_X10_gain (d + 1) cb sb 34 [some (.ref r0), o1, o2, o3, some (.int x4)] [.int z] h' Q)) : hk_S G m_X10_gain (d + 1) cb sb 25 [some (.ref r0), o1, o2, o3, some (.int x4)] [] h Q := by
  refine hs_iload dX10_gain_25 rfl ?_
  refine hs_aload_n dX10_gain_27 rfl ?_
  refine hs_get dX10_gain_28 fl_X10_110_10 hg2 hv4 ?_
  exact hk_z0 (hs_sta (M' := m_X10_isIn) (vs := [.int x4, .int v3]) (c1 := 0) (s1 := 0) dX10_gain_31 wd_1226 st_X10_isIn rfl (Nat.le_of_ble_eq_true rfl) hc hq_i (hc_i (fun z h9 k9 => k9)))
theorem b_X10_gain_34 {G : hk_G} {d cb sb : Nat} {h : hk_H} {Q : hk_O → hk_H → Prop} {s0 : Int32} {o0 : Option Value} {o1 : Option Value} {o2 : Option Value} {o3 : Option Value} {o4 : Option Value} (kt : ¬ s0 = 0 → hk_S G m_X10_gain (d + 1) cb sb 43 [o0, o1, o2, o3, o4] [] h Q) (kf : s0 = 0 → hk_S G m_X10_gain (d + 1) cb sb 37 [o0, o1, o2, o3, o4] [] h Q) : hk_S G m_X10_gain (d + 1) cb sb 34 [o0, o1, o2, o3, o4] [.int s0] h Q := by
  exact hs_if_ne dX10_gain_34 (by decide) kt kf
theorem b_X10_gain_37 {G : hk_G} {d cb sb : Nat} {h : hk_H} {Q : hk_O → hk_H → Prop} {r0 : Nat} {fs_ : List Value} {o1 : Option Value} {o2 : Option Value} {o3 : Option Value} {o4 : Option Value} (hrec : h.2 r0 = some (.inr (10, fs_))) (hc : hk_Ci G m_X10_raises d 0 0 [.ref r0, .int 1] h (fun z h' => hk_S G m_X10_gain (d + 1) cb sb 42 [some (.ref r0), o1, o2, o3, o4] [.int z] h' Q)) : hk_S G m_X10_gain (d + 1) cb sb 37 [some (.ref r0), o1, o2, o3, o4] [] h Q := by
  refine hs_aload_n dX10_gain_37 rfl ?_
  refine hs_iconst (v := 1) dX10_gain_38 (by decide) ?_
  exact hk_z0 (hs_vir (M' := m_X10_raises) (vs := [.int 1]) (c1 := 0) (s1 := 0) dX10_gain_39 wd_1285 vi_X10_raises hrec rfl (Nat.le_of_ble_eq_true rfl) hc hq_i (hc_i (fun z h9 k9 => k9)))
theorem b_X10_gain_42 {G : hk_G} {d cb sb : Nat} {h : hk_H} {Q : hk_O → hk_H → Prop} {s0 : Int32} {o0 : Option Value} {o1 : Option Value} {o2 : Option Value} {o3 : Option Value} {o4 : Option Value} (hq : Q (.inl (some (.int s0))) h) : hk_S G m_X10_gain (d + 1) cb sb 42 [o0, o1, o2, o3, o4] [.int s0] h Q := by
  exact hs_iret dX10_gain_42 rfl hq
theorem b_X10_gain_43 {G : hk_G} {d cb sb : Nat} {h : hk_H} {Q : hk_O → hk_H → Prop} {r0 : Nat} {x1 : Int32} {x2 : Int32} {x3 : Int32} {x4 : Int32} {fs_ : List Value} (hrec : h.2 r0 = some (.inr (10, fs_))) (hc : hk_Ci G m_X10_saying d 0 0 [.ref r0, .int x2, .int x3, .int x4] h (fun z h' => hk_S G m_X10_gain (d + 1) cb sb 55 [some (.ref r0), some (.int x1), some (.int x2), some (.int x3), some (.int x4)] [.int z, .int x3, .int x2, .int x1, .ref r0] h' Q)) : hk_S G m_X10_gain (d + 1) cb sb 43 [some (.ref r0), some (.int x1), some (.int x2), some (.int x3), some (.int x4)] [] h Q := by
  refine hs_aload_n dX10_gain_43 rfl ?_
  refine hs_iload_n dX10_gain_44 rfl ?_
  refine hs_iload_n dX10_gain_45 rfl ?_
  refine hs_iload_n dX10_gain_46 rfl ?_
  refine hs_aload_n dX10_gain_47 rfl ?_
  refine hs_iload_n dX10_gain_48 rfl ?_
  refine hs_iload_n dX10_gain_49 rfl ?_
  refine hs_iload dX10_gain_50 rfl ?_
  exact hk_z0 (hs_vir (M' := m_X10_saying) (vs := [.int x2, .int x3, .int x4]) (c1 := 0) (s1 := 0) dX10_gain_52 wd_1297 vi_X10_saying hrec rfl (Nat.le_of_ble_eq_true rfl) hc hq_i (hc_i (fun z h9 k9 => k9)))
theorem b_X10_gain_55 {G : hk_G} {d cb sb : Nat} {h : hk_H} {Q : hk_O → hk_H → Prop} {s0 : Nat} {s1 : Int32} {s2 : Int32} {s3 : Int32} {s4 : Int32} {fs_ : List Value} {o0 : Option Value} {o1 : Option Value} {o2 : Option Value} {o3 : Option Value} {o4 : Option Value} (hrec : h.2 s0 = some (.inr (10, fs_))) (hc : hk_Ci G m_X10_gainOf d 0 0 [.ref s0, .int s1, .int s2, .int s3, .int s4] h (fun z h' => hk_S G m_X10_gain (d + 1) cb sb 58 [o0, o1, o2, o3, o4] [.int z] h' Q)) : hk_S G m_X10_gain (d + 1) cb sb 55 [o0, o1, o2, o3, o4] [.int s4, .int s3, .int s2, .int s1, .ref s0] h Q := by
  exact hk_z0 (hs_vir (M' := m_X10_gainOf) (vs := [.int s1, .int s2, .int s3, .int s4]) (c1 := 0) (s1 := 0) dX10_gain_55 wd_1305 vi_X10_gainOf hrec rfl (Nat.le_of_ble_eq_true rfl) hc hq_i (hc_i (fun z h9 k9 => k9)))
theorem b_X10_gain_58 {G : hk_G} {d cb sb : Nat} {h : hk_H} {Q : hk_O → hk_H → Prop} {s0 : Int32} {o0 : Option Value} {o1 : Option Value} {o2 : Option Value} {o3 : Option Value} {o4 : Option Value} (hq : Q (.inl (some (.int s0))) h) : hk_S G m_X10_gain (d + 1) cb sb 58 [o0, o1, o2, o3, o4] [.int s0] h Q := by
  exact hs_iret dX10_gain_58 rfl hq
-- HonestHouseModel.lie(II)I
theorem b_X10_lie_0 {G : hk_G} {d cb sb : Nat} {h : hk_H} {Q : hk_O → hk_H → Prop} {x1 : Int32} {r0 : Nat} {fs1 : List Value} {v3 : Int32} {o2 : Option Value} {o3 : Option Value} {o4 : Option Value} {o5 : Option Value} {o6 : Option Value} (hg2 : h.2 r0 = some (.inr (10, fs1))) (hv4 : fs1[3]? = some (.int v3)) (hc : hk_Ci G m_X10_isIn d 0 0 [.int x1, .int v3] h (fun z h' => hk_S G m_X10_lie (d + 1) cb sb 8 [some (.ref r0), some (.int x1), o2, o3, o4, o5, o6] [.int z] h' Q)) : hk_S G m_X10_lie (d + 1) cb sb 0 [some (.ref r0), some (.int x1), o2, o3, o4, o5, o6] [] h Q := by
  refine hs_iload_n dX10_lie_0 rfl ?_
  refine hs_aload_n dX10_lie_1 rfl ?_
  refine hs_get dX10_lie_2 fl_X10_116_10 hg2 hv4 ?_
  exact hk_z0 (hs_sta (M' := m_X10_isIn) (vs := [.int x1, .int v3]) (c1 := 0) (s1 := 0) dX10_lie_5 wd_1226 st_X10_isIn rfl (Nat.le_of_ble_eq_true rfl) hc hq_i (hc_i (fun z h9 k9 => k9)))
theorem b_X10_lie_8 {G : hk_G} {d cb sb : Nat} {h : hk_H} {Q : hk_O → hk_H → Prop} {s0 : Int32} {o0 : Option Value} {o1 : Option Value} {o2 : Option Value} {o3 : Option Value} {o4 : Option Value} {o5 : Option Value} {o6 : Option Value} (kt : s0 = 0 → hk_S G m_X10_lie (d + 1) cb sb 19 [o0, o1, o2, o3, o4, o5, o6] [] h Q) (kf : ¬ s0 = 0 → hk_S G m_X10_lie (d + 1) cb sb 11 [o0, o1, o2, o3, o4, o5, o6] [] h Q) : hk_S G m_X10_lie (d + 1) cb sb 8 [o0, o1, o2, o3, o4, o5, o6] [.int s0] h Q := by
  exact hs_if_eq dX10_lie_8 (by decide) kt kf
theorem b_X10_lie_11 {G : hk_G} {d cb sb : Nat} {h : hk_H} {Q : hk_O → hk_H → Prop} {x2 : Int32} {o0 : Option Value} {o1 : Option Value} {o3 : Option Value} {o4 : Option Value} {o5 : Option Value} {o6 : Option Value} (hc : hk_Ci G m_X10_isIn d 0 0 [.int x2, .int 4] h (fun z h' => hk_S G m_X10_lie (d + 1) cb sb 16 [o0, o1, some (.int x2), o3, o4, o5, o6] [.int z] h' Q)) : hk_S G m_X10_lie (d + 1) cb sb 11 [o0, o1, some (.int x2), o3, o4, o5, o6] [] h Q := by
  refine hs_iload_n dX10_lie_11 rfl ?_
  refine hs_iconst (v := 4) dX10_lie_12 (by decide) ?_
  exact hk_z0 (hs_sta (M' := m_X10_isIn) (vs := [.int x2, .int 4]) (c1 := 0) (s1 := 0) dX10_lie_13 wd_1226 st_X10_isIn rfl (Nat.le_of_ble_eq_true rfl) hc hq_i (hc_i (fun z h9 k9 => k9)))
theorem b_X10_lie_16 {G : hk_G} {d cb sb : Nat} {h : hk_H} {Q : hk_O → hk_H → Prop} {s0 : Int32} {o0 : Option Value} {o1 : Option Value} {o2 : Option Value} {o3 : Option Value} {o4 : Option Value} {o5 : Option Value} {o6 : Option Value} (kt : ¬ s0 = 0 → hk_S G m_X10_lie (d + 1) cb sb 21 [o0, o1, o2, o3, o4, o5, o6] [] h Q) (kf : s0 = 0 → hk_S G m_X10_lie (d + 1) cb sb 19 [o0, o1, o2, o3, o4, o5, o6] [] h Q) : hk_S G m_X10_lie (d + 1) cb sb 16 [o0, o1, o2, o3, o4, o5, o6] [.int s0] h Q := by
  exact hs_if_ne dX10_lie_16 (by decide) kt kf
theorem b_X10_lie_19 {G : hk_G} {d cb sb : Nat} {h : hk_H} {Q : hk_O → hk_H → Prop} {o0 : Option Value} {o1 : Option Value} {o2 : Option Value} {o3 : Option Value} {o4 : Option Value} {o5 : Option Value} {o6 : Option Value} (hq : Q (.inl (some (.int ((-1))))) h) : hk_S G m_X10_lie (d + 1) cb sb 19 [o0, o1, o2, o3, o4, o5, o6] [] h Q := by
  refine hs_iconst (v := (-1)) dX10_lie_19 (by decide) ?_
  exact hs_iret dX10_lie_20 rfl hq
theorem b_X10_lie_21 {G : hk_G} {d cb sb : Nat} {h : hk_H} {Q : hk_O → hk_H → Prop} {o0 : Option Value} {o1 : Option Value} {o2 : Option Value} {o3 : Option Value} {o4 : Option Value} {o5 : Option Value} {o6 : Option Value} (k : hk_S G m_X10_lie (d + 1) cb sb 23 [o0, o1, o2, some (.int 0), o4, o5, o6] [] h Q) (ho2 : hk_c1 o2 := by first | exact hk_c1i | exact hk_c1r | exact hk_c10 | exact hk_c1n) : hk_S G m_X10_lie (d + 1) cb sb 21 [o0, o1, o2, o3, o4, o5, o6] [] h Q := by
  refine hs_iconst (v := 0) dX10_lie_21 (by decide) ?_
  refine hs_istK_n dX10_lie_22 (by decide) (hk_nk1 rfl ho2) rfl ?_
  exact k
theorem b_X10_lie_23 {G : hk_G} {d cb sb : Nat} {h : hk_H} {Q : hk_O → hk_H → Prop} {x3 : Int32} {r0 : Nat} {fs1 : List Value} {v3 : Int32} {o1 : Option Value} {o2 : Option Value} {o4 : Option Value} {o5 : Option Value} {o6 : Option Value} (hg2 : h.2 r0 = some (.inr (10, fs1))) (hv4 : fs1[4]? = some (.int v3)) (kt : v3 ≤ x3 → hk_S G m_X10_lie (d + 1) cb sb 128 [some (.ref r0), o1, o2, some (.int x3), o4, o5, o6] [] h Q) (kf : ¬ v3 ≤ x3 → hk_S G m_X10_lie (d + 1) cb sb 31 [some (.ref r0), o1, o2, some (.int x3), o4, o5, o6] [] h Q) : hk_S G m_X10_lie (d + 1) cb sb 23 [some (.ref r0), o1, o2, some (.int x3), o4, o5, o6] [] h Q := by
  refine hs_iload_n dX10_lie_23 rfl ?_
  refine hs_aload_n dX10_lie_24 rfl ?_
  refine hs_get dX10_lie_25 fl_X10_113_10 hg2 hv4 ?_
  exact hs_icmp_ge dX10_lie_28 (by decide) kt kf
theorem b_X10_lie_31 {G : hk_G} {d cb sb : Nat} {h : hk_H} {Q : hk_O → hk_H → Prop} {o0 : Option Value} {o1 : Option Value} {o2 : Option Value} {o3 : Option Value} {o4 : Option Value} {o5 : Option Value} {o6 : Option Value} (k : hk_S G m_X10_lie (d + 1) cb sb 34 [o0, o1, o2, o3, some (.int 0), o5, o6] [] h Q) (ho3 : hk_c1 o3 := by first | exact hk_c1i | exact hk_c1r | exact hk_c10 | exact hk_c1n) : hk_S G m_X10_lie (d + 1) cb sb 31 [o0, o1, o2, o3, o4, o5, o6] [] h Q := by
  refine hs_iconst (v := 0) dX10_lie_31 (by decide) ?_
  refine hs_istK dX10_lie_32 (by decide) (hk_nk1 rfl ho3) rfl ?_
  exact k
theorem b_X10_lie_34 {G : hk_G} {d cb sb : Nat} {h : hk_H} {Q : hk_O → hk_H → Prop} {x4 : Int32} {r0 : Nat} {fs1 : List Value} {v3 : Int32} {o1 : Option Value} {o2 : Option Value} {o3 : Option Value} {o5 : Option Value} {o6 : Option Value} (hg2 : h.2 r0 = some (.inr (10, fs1))) (hv4 : fs1[0]? = some (.int v3)) (kt : v3 ≤ x4 → hk_S G m_X10_lie (d + 1) cb sb 122 [some (.ref r0), o1, o2, o3, some (.int x4), o5, o6] [] h Q) (kf : ¬ v3 ≤ x4 → hk_S G m_X10_lie (d + 1) cb sb 43 [some (.ref r0), o1, o2, o3, some (.int x4), o5, o6] [] h Q) : hk_S G m_X10_lie (d + 1) cb sb 34 [some (.ref r0), o1, o2, o3, some (.int x4), o5, o6] [] h Q := by
  refine hs_iload dX10_lie_34 rfl ?_
  refine hs_aload_n dX10_lie_36 rfl ?_
  refine hs_get dX10_lie_37 fl_X10_97_10 hg2 hv4 ?_
  exact hs_icmp_ge dX10_lie_40 (by decide) kt kf
theorem b_X10_lie_43 {G : hk_G} {d cb sb : Nat} {h : hk_H} {Q : hk_O → hk_H → Prop} {o0 : Option Value} {o1 : Option Value} {o2 : Option Value} {o3 : Option Value} {o4 : Option Value} {o5 : Option Value} {o6 : Option Value} (k : hk_S G m_X10_lie (d + 1) cb sb 46 [o0, o1, o2, o3, o4, some (.int 0), o6] [] h Q) (ho4 : hk_c1 o4 := by first | exact hk_c1i | exact hk_c1r | exact hk_c10 | exact hk_c1n) : hk_S G m_X10_lie (d + 1) cb sb 43 [o0, o1, o2, o3, o4, o5, o6] [] h Q := by
  refine hs_iconst (v := 0) dX10_lie_43 (by decide) ?_
  refine hs_istK dX10_lie_44 (by decide) (hk_nk1 rfl ho4) rfl ?_
  exact k
theorem b_X10_lie_46 {G : hk_G} {d cb sb : Nat} {h : hk_H} {Q : hk_O → hk_H → Prop} {x5 : Int32} {r0 : Nat} {fs1 : List Value} {v3 : Int32} {o1 : Option Value} {o2 : Option Value} {o3 : Option Value} {o4 : Option Value} {o6 : Option Value} (hg2 : h.2 r0 = some (.inr (10, fs1))) (hv4 : fs1[2]? = some (.int v3)) (kt : v3 ≤ x5 → hk_S G m_X10_lie (d + 1) cb sb 116 [some (.ref r0), o1, o2, o3, o4, some (.int x5), o6] [] h Q) (kf : ¬ v3 ≤ x5 → hk_S G m_X10_lie (d + 1) cb sb 55 [some (.ref r0), o1, o2, o3, o4, some (.int x5), o6] [] h Q) : hk_S G m_X10_lie (d + 1) cb sb 46 [some (.ref r0), o1, o2, o3, o4, some (.int x5), o6] [] h Q := by
  refine hs_iload dX10_lie_46 rfl ?_
  refine hs_aload_n dX10_lie_48 rfl ?_
  refine hs_get dX10_lie_49 fl_X10_110_10 hg2 hv4 ?_
  exact hs_icmp_ge dX10_lie_52 (by decide) kt kf
theorem b_X10_lie_55 {G : hk_G} {d cb sb : Nat} {h : hk_H} {Q : hk_O → hk_H → Prop} {r0 : Nat} {x1 : Int32} {x3 : Int32} {x4 : Int32} {x5 : Int32} {fs_ : List Value} {o2 : Option Value} {o6 : Option Value} (hrec : h.2 r0 = some (.inr (10, fs_))) (hc : hk_Ci G m_X10_saying d 0 0 [.ref r0, .int x3, .int x4, .int x5] h (fun z h' => hk_S G m_X10_lie (d + 1) cb sb 69 [some (.ref r0), some (.int x1), o2, some (.int x3), some (.int x4), some (.int x5), o6] [.int z, .int x4, .int x3, .int x1, .ref r0] h' Q)) : hk_S G m_X10_lie (d + 1) cb sb 55 [some (.ref r0), some (.int x1), o2, some (.int x3), some (.int x4), some (.int x5), o6] [] h Q := by
  refine hs_aload_n dX10_lie_55 rfl ?_
  refine hs_iload_n dX10_lie_56 rfl ?_
  refine hs_iload_n dX10_lie_57 rfl ?_
  refine hs_iload dX10_lie_58 rfl ?_
  refine hs_aload_n dX10_lie_60 rfl ?_
  refine hs_iload_n dX10_lie_61 rfl ?_
  refine hs_iload dX10_lie_62 rfl ?_
  refine hs_iload dX10_lie_64 rfl ?_
  exact hk_z0 (hs_vir (M' := m_X10_saying) (vs := [.int x3, .int x4, .int x5]) (c1 := 0) (s1 := 0) dX10_lie_66 wd_1297 vi_X10_saying hrec rfl (Nat.le_of_ble_eq_true rfl) hc hq_i (hc_i (fun z h9 k9 => k9)))
theorem b_X10_lie_69 {G : hk_G} {d cb sb : Nat} {h : hk_H} {Q : hk_O → hk_H → Prop} {s0 : Nat} {s1 : Int32} {s2 : Int32} {s3 : Int32} {s4 : Int32} {fs_ : List Value} {o0 : Option Value} {o1 : Option Value} {o2 : Option Value} {o3 : Option Value} {o4 : Option Value} {o5 : Option Value} {o6 : Option Value} (hrec : h.2 s0 = some (.inr (10, fs_))) (hc : hk_Ci G m_X10_gainOf d 0 0 [.ref s0, .int s1, .int s2, .int s3, .int s4] h (fun z h' => hk_S G m_X10_lie (d + 1) cb sb 72 [o0, o1, o2, o3, o4, o5, o6] [.int z] h' Q)) : hk_S G m_X10_lie (d + 1) cb sb 69 [o0, o1, o2, o3, o4, o5, o6] [.int s4, .int s3, .int s2, .int s1, .ref s0] h Q := by
  exact hk_z0 (hs_vir (M' := m_X10_gainOf) (vs := [.int s1, .int s2, .int s3, .int s4]) (c1 := 0) (s1 := 0) dX10_lie_69 wd_1305 vi_X10_gainOf hrec rfl (Nat.le_of_ble_eq_true rfl) hc hq_i (hc_i (fun z h9 k9 => k9)))
theorem b_X10_lie_72 {G : hk_G} {d cb sb : Nat} {h : hk_H} {Q : hk_O → hk_H → Prop} {s0 : Int32} {o0 : Option Value} {o1 : Option Value} {o2 : Option Value} {o3 : Option Value} {o4 : Option Value} {o5 : Option Value} {o6 : Option Value} (kt : s0 ≤ 0 → hk_S G m_X10_lie (d + 1) cb sb 110 [o0, o1, o2, o3, o4, o5, some (.int s0)] [] h Q) (kf : ¬ s0 ≤ 0 → hk_S G m_X10_lie (d + 1) cb sb 79 [o0, o1, o2, o3, o4, o5, some (.int s0)] [] h Q) (ho5 : hk_c1 o5 := by first | exact hk_c1i | exact hk_c1r | exact hk_c10 | exact hk_c1n) : hk_S G m_X10_lie (d + 1) cb sb 72 [o0, o1, o2, o3, o4, o5, o6] [.int s0] h Q := by
  refine hs_istK dX10_lie_72 (by decide) (hk_nk1 rfl ho5) rfl ?_
  refine hs_iload dX10_lie_74 rfl ?_
  exact hs_if_le dX10_lie_76 (by decide) kt kf
theorem b_X10_lie_79 {G : hk_G} {d cb sb : Nat} {h : hk_H} {Q : hk_O → hk_H → Prop} {x2 : Int32} {o0 : Option Value} {o1 : Option Value} {o3 : Option Value} {o4 : Option Value} {o5 : Option Value} {o6 : Option Value} (kt : ¬ x2 = 0 → hk_S G m_X10_lie (d + 1) cb sb 87 [o0, o1, some (.int x2), o3, o4, o5, o6] [] h Q) (kf : x2 = 0 → hk_S G m_X10_lie (d + 1) cb sb 83 [o0, o1, some (.int x2), o3, o4, o5, o6] [] h Q) : hk_S G m_X10_lie (d + 1) cb sb 79 [o0, o1, some (.int x2), o3, o4, o5, o6] [] h Q := by
  refine hs_iload_n dX10_lie_79 rfl ?_
  exact hs_if_ne dX10_lie_80 (by decide) kt kf
theorem b_X10_lie_83 {G : hk_G} {d cb sb : Nat} {h : hk_H} {Q : hk_O → hk_H → Prop} {x3 : Int32} {o0 : Option Value} {o1 : Option Value} {o2 : Option Value} {o4 : Option Value} {o5 : Option Value} {o6 : Option Value} (hq : Q (.inl (some (.int x3))) h) : hk_S G m_X10_lie (d + 1) cb sb 83 [o0, o1, o2, some (.int x3), o4, o5, o6] [] h Q := by
  refine hs_iload_n dX10_lie_83 rfl ?_
  refine hs_goto dX10_lie_84 (tgt := 109) (by decide) ?_
  exact hs_iret dX10_lie_109 rfl hq
theorem b_X10_lie_87 {G : hk_G} {d cb sb : Nat} {h : hk_H} {Q : hk_O → hk_H → Prop} {x2 : Int32} {o0 : Option Value} {o1 : Option Value} {o3 : Option Value} {o4 : Option Value} {o5 : Option Value} {o6 : Option Value} (kt : ¬ x2 = 1 → hk_S G m_X10_lie (d + 1) cb sb 97 [o0, o1, some (.int x2), o3, o4, o5, o6] [] h Q) (kf : x2 = 1 → hk_S G m_X10_lie (d + 1) cb sb 92 [o0, o1, some (.int x2), o3, o4, o5, o6] [] h Q) : hk_S G m_X10_lie (d + 1) cb sb 87 [o0, o1, some (.int x2), o3, o4, o5, o6] [] h Q := by
  refine hs_iload_n dX10_lie_87 rfl ?_
  refine hs_iconst (v := 1) dX10_lie_88 (by decide) ?_
  exact hs_icmp_ne dX10_lie_89 (by decide) kt kf
theorem b_X10_lie_92 {G : hk_G} {d cb sb : Nat} {h : hk_H} {Q : hk_O → hk_H → Prop} {x4 : Int32} {o0 : Option Value} {o1 : Option Value} {o2 : Option Value} {o3 : Option Value} {o5 : Option Value} {o6 : Option Value} (hq : Q (.inl (some (.int x4))) h) : hk_S G m_X10_lie (d + 1) cb sb 92 [o0, o1, o2, o3, some (.int x4), o5, o6] [] h Q := by
  refine hs_iload dX10_lie_92 rfl ?_
  refine hs_goto dX10_lie_94 (tgt := 109) (by decide) ?_
  exact hs_iret dX10_lie_109 rfl hq
theorem b_X10_lie_97 {G : hk_G} {d cb sb : Nat} {h : hk_H} {Q : hk_O → hk_H → Prop} {x2 : Int32} {o0 : Option Value} {o1 : Option Value} {o3 : Option Value} {o4 : Option Value} {o5 : Option Value} {o6 : Option Value} (kt : ¬ x2 = 2 → hk_S G m_X10_lie (d + 1) cb sb 107 [o0, o1, some (.int x2), o3, o4, o5, o6] [] h Q) (kf : x2 = 2 → hk_S G m_X10_lie (d + 1) cb sb 102 [o0, o1, some (.int x2), o3, o4, o5, o6] [] h Q) : hk_S G m_X10_lie (d + 1) cb sb 97 [o0, o1, some (.int x2), o3, o4, o5, o6] [] h Q := by
  refine hs_iload_n dX10_lie_97 rfl ?_
  refine hs_iconst (v := 2) dX10_lie_98 (by decide) ?_
  exact hs_icmp_ne dX10_lie_99 (by decide) kt kf
theorem b_X10_lie_102 {G : hk_G} {d cb sb : Nat} {h : hk_H} {Q : hk_O → hk_H → Prop} {x5 : Int32} {o0 : Option Value} {o1 : Option Value} {o2 : Option Value} {o3 : Option Value} {o4 : Option Value} {o6 : Option Value} (hq : Q (.inl (some (.int x5))) h) : hk_S G m_X10_lie (d + 1) cb sb 102 [o0, o1, o2, o3, o4, some (.int x5), o6] [] h Q := by
  refine hs_iload dX10_lie_102 rfl ?_
  refine hs_goto dX10_lie_104 (tgt := 109) (by decide) ?_
  exact hs_iret dX10_lie_109 rfl hq
theorem b_X10_lie_107 {G : hk_G} {d cb sb : Nat} {h : hk_H} {Q : hk_O → hk_H → Prop} {x6 : Int32} {o0 : Option Value} {o1 : Option Value} {o2 : Option Value} {o3 : Option Value} {o4 : Option Value} {o5 : Option Value} (hq : Q (.inl (some (.int x6))) h) : hk_S G m_X10_lie (d + 1) cb sb 107 [o0, o1, o2, o3, o4, o5, some (.int x6)] [] h Q := by
  refine hs_iload dX10_lie_107 rfl ?_
  exact hs_iret dX10_lie_109 rfl hq
theorem b_X10_lie_109 {G : hk_G} {d cb sb : Nat} {h : hk_H} {Q : hk_O → hk_H → Prop} {s0 : Int32} {o0 : Option Value} {o1 : Option Value} {o2 : Option Value} {o3 : Option Value} {o4 : Option Value} {o5 : Option Value} {o6 : Option Value} (hq : Q (.inl (some (.int s0))) h) : hk_S G m_X10_lie (d + 1) cb sb 109 [o0, o1, o2, o3, o4, o5, o6] [.int s0] h Q := by
  exact hs_iret dX10_lie_109 rfl hq
theorem b_X10_lie_110 {G : hk_G} {d cb sb : Nat} {h : hk_H} {Q : hk_O → hk_H → Prop} {x5 : Int32} {o0 : Option Value} {o1 : Option Value} {o2 : Option Value} {o3 : Option Value} {o4 : Option Value} {o6 : Option Value} (k : hk_S G m_X10_lie (d + 1) cb sb 46 [o0, o1, o2, o3, o4, some (.int (x5 + 1)), o6] [] h Q) (ho4 : hk_c1 o4 := by first | exact hk_c1i | exact hk_c1r | exact hk_c10 | exact hk_c1n) : hk_S G m_X10_lie (d + 1) cb sb 110 [o0, o1, o2, o3, o4, some (.int x5), o6] [] h Q := by
  refine hs_iincK (v := 1) dX10_lie_110 rfl (by decide) (by decide) (hk_nk1 rfl ho4) rfl ?_
  refine hs_goto dX10_lie_113 (tgt := 46) (by decide) ?_
  exact k
theorem b_X10_lie_116 {G : hk_G} {d cb sb : Nat} {h : hk_H} {Q : hk_O → hk_H → Prop} {x4 : Int32} {o0 : Option Value} {o1 : Option Value} {o2 : Option Value} {o3 : Option Value} {o5 : Option Value} {o6 : Option Value} (k : hk_S G m_X10_lie (d + 1) cb sb 34 [o0, o1, o2, o3, some (.int (x4 + 1)), o5, o6] [] h Q) (ho3 : hk_c1 o3 := by first | exact hk_c1i | exact hk_c1r | exact hk_c10 | exact hk_c1n) : hk_S G m_X10_lie (d + 1) cb sb 116 [o0, o1, o2, o3, some (.int x4), o5, o6] [] h Q := by
  refine hs_iincK (v := 1) dX10_lie_116 rfl (by decide) (by decide) (hk_nk1 rfl ho3) rfl ?_
  refine hs_goto dX10_lie_119 (tgt := 34) (by decide) ?_
  exact k
theorem b_X10_lie_122 {G : hk_G} {d cb sb : Nat} {h : hk_H} {Q : hk_O → hk_H → Prop} {x3 : Int32} {o0 : Option Value} {o1 : Option Value} {o2 : Option Value} {o4 : Option Value} {o5 : Option Value} {o6 : Option Value} (k : hk_S G m_X10_lie (d + 1) cb sb 23 [o0, o1, o2, some (.int (x3 + 1)), o4, o5, o6] [] h Q) (ho2 : hk_c1 o2 := by first | exact hk_c1i | exact hk_c1r | exact hk_c10 | exact hk_c1n) : hk_S G m_X10_lie (d + 1) cb sb 122 [o0, o1, o2, some (.int x3), o4, o5, o6] [] h Q := by
  refine hs_iincK (v := 1) dX10_lie_122 rfl (by decide) (by decide) (hk_nk1 rfl ho2) rfl ?_
  refine hs_goto dX10_lie_125 (tgt := 23) (by decide) ?_
  exact k
theorem b_X10_lie_128 {G : hk_G} {d cb sb : Nat} {h : hk_H} {Q : hk_O → hk_H → Prop} {o0 : Option Value} {o1 : Option Value} {o2 : Option Value} {o3 : Option Value} {o4 : Option Value} {o5 : Option Value} {o6 : Option Value} (hq : Q (.inl (some (.int ((-2))))) h) : hk_S G m_X10_lie (d + 1) cb sb 128 [o0, o1, o2, o3, o4, o5, o6] [] h Q := by
  refine hs_bipush (v := (-2)) dX10_lie_128 (by decide) ?_
  exact hs_iret dX10_lie_130 rfl hq
-- HonestHouseModel.lies(I)I
theorem b_X10_lies_0 {G : hk_G} {d cb sb : Nat} {h : hk_H} {Q : hk_O → hk_H → Prop} {x1 : Int32} {r0 : Nat} {fs1 : List Value} {v3 : Int32} {o2 : Option Value} {o3 : Option Value} {o4 : Option Value} {o5 : Option Value} (hg2 : h.2 r0 = some (.inr (10, fs1))) (hv4 : fs1[3]? = some (.int v3)) (hc : hk_Ci G m_X10_isIn d 0 0 [.int x1, .int v3] h (fun z h' => hk_S G m_X10_lies (d + 1) cb sb 8 [some (.ref r0), some (.int x1), o2, o3, o4, o5] [.int z] h' Q)) : hk_S G m_X10_lies (d + 1) cb sb 0 [some (.ref r0), some (.int x1), o2, o3, o4, o5] [] h Q := by
  refine hs_iload_n dX10_lies_0 rfl ?_
  refine hs_aload_n dX10_lies_1 rfl ?_
  refine hs_get dX10_lies_2 fl_X10_116_10 hg2 hv4 ?_
  exact hk_z0 (hs_sta (M' := m_X10_isIn) (vs := [.int x1, .int v3]) (c1 := 0) (s1 := 0) dX10_lies_5 wd_1226 st_X10_isIn rfl (Nat.le_of_ble_eq_true rfl) hc hq_i (hc_i (fun z h9 k9 => k9)))
theorem b_X10_lies_8 {G : hk_G} {d cb sb : Nat} {h : hk_H} {Q : hk_O → hk_H → Prop} {s0 : Int32} {o0 : Option Value} {o1 : Option Value} {o2 : Option Value} {o3 : Option Value} {o4 : Option Value} {o5 : Option Value} (kt : ¬ s0 = 0 → hk_S G m_X10_lies (d + 1) cb sb 13 [o0, o1, o2, o3, o4, o5] [] h Q) (kf : s0 = 0 → hk_S G m_X10_lies (d + 1) cb sb 11 [o0, o1, o2, o3, o4, o5] [] h Q) : hk_S G m_X10_lies (d + 1) cb sb 8 [o0, o1, o2, o3, o4, o5] [.int s0] h Q := by
  exact hs_if_ne dX10_lies_8 (by decide) kt kf
theorem b_X10_lies_11 {G : hk_G} {d cb sb : Nat} {h : hk_H} {Q : hk_O → hk_H → Prop} {o0 : Option Value} {o1 : Option Value} {o2 : Option Value} {o3 : Option Value} {o4 : Option Value} {o5 : Option Value} (hq : Q (.inl (some (.int ((-1))))) h) : hk_S G m_X10_lies (d + 1) cb sb 11 [o0, o1, o2, o3, o4, o5] [] h Q := by
  refine hs_iconst (v := (-1)) dX10_lies_11 (by decide) ?_
  exact hs_iret dX10_lies_12 rfl hq
theorem b_X10_lies_13 {G : hk_G} {d cb sb : Nat} {h : hk_H} {Q : hk_O → hk_H → Prop} {o0 : Option Value} {o1 : Option Value} {o2 : Option Value} {o3 : Option Value} {o4 : Option Value} {o5 : Option Value} (k : hk_S G m_X10_lies (d + 1) cb sb 17 [o0, o1, some (.int 0), some (.int 0), o4, o5] [] h Q) (ho1 : hk_c1 o1 := by first | exact hk_c1i | exact hk_c1r | exact hk_c10 | exact hk_c1n) : hk_S G m_X10_lies (d + 1) cb sb 13 [o0, o1, o2, o3, o4, o5] [] h Q := by
  refine hs_iconst (v := 0) dX10_lies_13 (by decide) ?_
  refine hs_istK_n dX10_lies_14 (by decide) (hk_nk1 rfl ho1) rfl ?_
  refine hs_iconst (v := 0) dX10_lies_15 (by decide) ?_
  refine hs_istK_n dX10_lies_16 (by decide) (hk_nk1 rfl hk_c1i) rfl ?_
  exact k
theorem b_X10_lies_17 {G : hk_G} {d cb sb : Nat} {h : hk_H} {Q : hk_O → hk_H → Prop} {x3 : Int32} {r0 : Nat} {fs1 : List Value} {v3 : Int32} {o1 : Option Value} {o2 : Option Value} {o4 : Option Value} {o5 : Option Value} (hg2 : h.2 r0 = some (.inr (10, fs1))) (hv4 : fs1[4]? = some (.int v3)) (kt : v3 ≤ x3 → hk_S G m_X10_lies (d + 1) cb sb 95 [some (.ref r0), o1, o2, some (.int x3), o4, o5] [] h Q) (kf : ¬ v3 ≤ x3 → hk_S G m_X10_lies (d + 1) cb sb 25 [some (.ref r0), o1, o2, some (.int x3), o4, o5] [] h Q) : hk_S G m_X10_lies (d + 1) cb sb 17 [some (.ref r0), o1, o2, some (.int x3), o4, o5] [] h Q := by
  refine hs_iload_n dX10_lies_17 rfl ?_
  refine hs_aload_n dX10_lies_18 rfl ?_
  refine hs_get dX10_lies_19 fl_X10_113_10 hg2 hv4 ?_
  exact hs_icmp_ge dX10_lies_22 (by decide) kt kf
theorem b_X10_lies_25 {G : hk_G} {d cb sb : Nat} {h : hk_H} {Q : hk_O → hk_H → Prop} {o0 : Option Value} {o1 : Option Value} {o2 : Option Value} {o3 : Option Value} {o4 : Option Value} {o5 : Option Value} (k : hk_S G m_X10_lies (d + 1) cb sb 28 [o0, o1, o2, o3, some (.int 0), o5] [] h Q) (ho3 : hk_c1 o3 := by first | exact hk_c1i | exact hk_c1r | exact hk_c10 | exact hk_c1n) : hk_S G m_X10_lies (d + 1) cb sb 25 [o0, o1, o2, o3, o4, o5] [] h Q := by
  refine hs_iconst (v := 0) dX10_lies_25 (by decide) ?_
  refine hs_istK dX10_lies_26 (by decide) (hk_nk1 rfl ho3) rfl ?_
  exact k
theorem b_X10_lies_28 {G : hk_G} {d cb sb : Nat} {h : hk_H} {Q : hk_O → hk_H → Prop} {x4 : Int32} {r0 : Nat} {fs1 : List Value} {v3 : Int32} {o1 : Option Value} {o2 : Option Value} {o3 : Option Value} {o5 : Option Value} (hg2 : h.2 r0 = some (.inr (10, fs1))) (hv4 : fs1[0]? = some (.int v3)) (kt : v3 ≤ x4 → hk_S G m_X10_lies (d + 1) cb sb 89 [some (.ref r0), o1, o2, o3, some (.int x4), o5] [] h Q) (kf : ¬ v3 ≤ x4 → hk_S G m_X10_lies (d + 1) cb sb 37 [some (.ref r0), o1, o2, o3, some (.int x4), o5] [] h Q) : hk_S G m_X10_lies (d + 1) cb sb 28 [some (.ref r0), o1, o2, o3, some (.int x4), o5] [] h Q := by
  refine hs_iload dX10_lies_28 rfl ?_
  refine hs_aload_n dX10_lies_30 rfl ?_
  refine hs_get dX10_lies_31 fl_X10_97_10 hg2 hv4 ?_
  exact hs_icmp_ge dX10_lies_34 (by decide) kt kf
theorem b_X10_lies_37 {G : hk_G} {d cb sb : Nat} {h : hk_H} {Q : hk_O → hk_H → Prop} {o0 : Option Value} {o1 : Option Value} {o2 : Option Value} {o3 : Option Value} {o4 : Option Value} {o5 : Option Value} (k : hk_S G m_X10_lies (d + 1) cb sb 40 [o0, o1, o2, o3, o4, some (.int 0)] [] h Q) (ho4 : hk_c1 o4 := by first | exact hk_c1i | exact hk_c1r | exact hk_c10 | exact hk_c1n) : hk_S G m_X10_lies (d + 1) cb sb 37 [o0, o1, o2, o3, o4, o5] [] h Q := by
  refine hs_iconst (v := 0) dX10_lies_37 (by decide) ?_
  refine hs_istK dX10_lies_38 (by decide) (hk_nk1 rfl ho4) rfl ?_
  exact k
theorem b_X10_lies_40 {G : hk_G} {d cb sb : Nat} {h : hk_H} {Q : hk_O → hk_H → Prop} {x5 : Int32} {r0 : Nat} {fs1 : List Value} {v3 : Int32} {o1 : Option Value} {o2 : Option Value} {o3 : Option Value} {o4 : Option Value} (hg2 : h.2 r0 = some (.inr (10, fs1))) (hv4 : fs1[2]? = some (.int v3)) (kt : v3 ≤ x5 → hk_S G m_X10_lies (d + 1) cb sb 83 [some (.ref r0), o1, o2, o3, o4, some (.int x5)] [] h Q) (kf : ¬ v3 ≤ x5 → hk_S G m_X10_lies (d + 1) cb sb 49 [some (.ref r0), o1, o2, o3, o4, some (.int x5)] [] h Q) : hk_S G m_X10_lies (d + 1) cb sb 40 [some (.ref r0), o1, o2, o3, o4, some (.int x5)] [] h Q := by
  refine hs_iload dX10_lies_40 rfl ?_
  refine hs_aload_n dX10_lies_42 rfl ?_
  refine hs_get dX10_lies_43 fl_X10_110_10 hg2 hv4 ?_
  exact hs_icmp_ge dX10_lies_46 (by decide) kt kf
theorem b_X10_lies_49 {G : hk_G} {d cb sb : Nat} {h : hk_H} {Q : hk_O → hk_H → Prop} {x2 : Int32} {r0 : Nat} {x1 : Int32} {x3 : Int32} {x4 : Int32} {x5 : Int32} {fs_ : List Value} (hrec : h.2 r0 = some (.inr (10, fs_))) (hc : hk_Ci G m_X10_saying d 0 0 [.ref r0, .int x3, .int x4, .int x5] h (fun z h' => hk_S G m_X10_lies (d + 1) cb sb 64 [some (.ref r0), some (.int x1), some (.int x2), some (.int x3), some (.int x4), some (.int x5)] [.int z, .int x4, .int x3, .int x1, .ref r0, .int x2] h' Q)) : hk_S G m_X10_lies (d + 1) cb sb 49 [some (.ref r0), some (.int x1), some (.int x2), some (.int x3), some (.int x4), some (.int x5)] [] h Q := by
  refine hs_iload_n dX10_lies_49 rfl ?_
  refine hs_aload_n dX10_lies_50 rfl ?_
  refine hs_iload_n dX10_lies_51 rfl ?_
  refine hs_iload_n dX10_lies_52 rfl ?_
  refine hs_iload dX10_lies_53 rfl ?_
  refine hs_aload_n dX10_lies_55 rfl ?_
  refine hs_iload_n dX10_lies_56 rfl ?_
  refine hs_iload dX10_lies_57 rfl ?_
  refine hs_iload dX10_lies_59 rfl ?_
  exact hk_z0 (hs_vir (M' := m_X10_saying) (vs := [.int x3, .int x4, .int x5]) (c1 := 0) (s1 := 0) dX10_lies_61 wd_1297 vi_X10_saying hrec rfl (Nat.le_of_ble_eq_true rfl) hc hq_i (hc_i (fun z h9 k9 => k9)))
theorem b_X10_lies_64 {G : hk_G} {d cb sb : Nat} {h : hk_H} {Q : hk_O → hk_H → Prop} {s0 : Int32} {s1 : Nat} {s2 : Int32} {s3 : Int32} {s4 : Int32} {s5 : Int32} {fs_ : List Value} {o0 : Option Value} {o1 : Option Value} {o2 : Option Value} {o3 : Option Value} {o4 : Option Value} {o5 : Option Value} (hrec : h.2 s1 = some (.inr (10, fs_))) (hc : hk_Ci G m_X10_gainOf d 0 0 [.ref s1, .int s2, .int s3, .int s4, .int s5] h (fun z h' => hk_S G m_X10_lies (d + 1) cb sb 67 [o0, o1, o2, o3, o4, o5] [.int z, .int s0] h' Q)) : hk_S G m_X10_lies (d + 1) cb sb 64 [o0, o1, o2, o3, o4, o5] [.int s5, .int s4, .int s3, .int s2, .ref s1, .int s0] h Q := by
  exact hk_z0 (hs_vir (M' := m_X10_gainOf) (vs := [.int s2, .int s3, .int s4, .int s5]) (c1 := 0) (s1 := 0) dX10_lies_64 wd_1305 vi_X10_gainOf hrec rfl (Nat.le_of_ble_eq_true rfl) hc hq_i (hc_i (fun z h9 k9 => k9)))
theorem b_X10_lies_67 {G : hk_G} {d cb sb : Nat} {h : hk_H} {Q : hk_O → hk_H → Prop} {s0 : Int32} {s1 : Int32} {o0 : Option Value} {o1 : Option Value} {o2 : Option Value} {o3 : Option Value} {o4 : Option Value} {o5 : Option Value} (kt : s1 ≤ 0 → hk_S G m_X10_lies (d + 1) cb sb 74 [o0, o1, o2, o3, o4, o5] [.int s0] h Q) (kf : ¬ s1 ≤ 0 → hk_S G m_X10_lies (d + 1) cb sb 70 [o0, o1, o2, o3, o4, o5] [.int s0] h Q) : hk_S G m_X10_lies (d + 1) cb sb 67 [o0, o1, o2, o3, o4, o5] [.int s1, .int s0] h Q := by
  exact hs_if_le dX10_lies_67 (by decide) kt kf
theorem b_X10_lies_70 {G : hk_G} {d cb sb : Nat} {h : hk_H} {Q : hk_O → hk_H → Prop} {s0 : Int32} {x5 : Int32} {o0 : Option Value} {o1 : Option Value} {o2 : Option Value} {o3 : Option Value} {o4 : Option Value} (k : hk_S G m_X10_lies (d + 1) cb sb 40 [o0, o1, some (.int (s0 + 1)), o3, o4, some (.int (x5 + 1))] [] h Q) (ho1 : hk_c1 o1 := by first | exact hk_c1i | exact hk_c1r | exact hk_c10 | exact hk_c1n) (ho4 : hk_c1 o4 := by first | exact hk_c1i | exact hk_c1r | exact hk_c10 | exact hk_c1n) : hk_S G m_X10_lies (d + 1) cb sb 70 [o0, o1, o2, o3, o4, some (.int x5)] [.int s0] h Q := by
  refine hs_iconst (v := 1) dX10_lies_70 (by decide) ?_
  refine hs_goto dX10_lies_71 (tgt := 75) (by decide) ?_
  refine hs_iadd dX10_lies_75 ?_
  refine hs_istK_n dX10_lies_76 (by decide) (hk_nk1 rfl ho1) rfl ?_
  refine hs_iincK (v := 1) dX10_lies_77 rfl (by decide) (by decide) (hk_nk1 rfl ho4) rfl ?_
  refine hs_goto dX10_lies_80 (tgt := 40) (by decide) ?_
  exact k
theorem b_X10_lies_74 {G : hk_G} {d cb sb : Nat} {h : hk_H} {Q : hk_O → hk_H → Prop} {s0 : Int32} {x5 : Int32} {o0 : Option Value} {o1 : Option Value} {o2 : Option Value} {o3 : Option Value} {o4 : Option Value} (k : hk_S G m_X10_lies (d + 1) cb sb 40 [o0, o1, some (.int (s0 + 0)), o3, o4, some (.int (x5 + 1))] [] h Q) (ho1 : hk_c1 o1 := by first | exact hk_c1i | exact hk_c1r | exact hk_c10 | exact hk_c1n) (ho4 : hk_c1 o4 := by first | exact hk_c1i | exact hk_c1r | exact hk_c10 | exact hk_c1n) : hk_S G m_X10_lies (d + 1) cb sb 74 [o0, o1, o2, o3, o4, some (.int x5)] [.int s0] h Q := by
  refine hs_iconst (v := 0) dX10_lies_74 (by decide) ?_
  refine hs_iadd dX10_lies_75 ?_
  refine hs_istK_n dX10_lies_76 (by decide) (hk_nk1 rfl ho1) rfl ?_
  refine hs_iincK (v := 1) dX10_lies_77 rfl (by decide) (by decide) (hk_nk1 rfl ho4) rfl ?_
  refine hs_goto dX10_lies_80 (tgt := 40) (by decide) ?_
  exact k
theorem b_X10_lies_75 {G : hk_G} {d cb sb : Nat} {h : hk_H} {Q : hk_O → hk_H → Prop} {s0 : Int32} {s1 : Int32} {x5 : Int32} {o0 : Option Value} {o1 : Option Value} {o2 : Option Value} {o3 : Option Value} {o4 : Option Value} (k : hk_S G m_X10_lies (d + 1) cb sb 40 [o0, o1, some (.int (s0 + s1)), o3, o4, some (.int (x5 + 1))] [] h Q) (ho1 : hk_c1 o1 := by first | exact hk_c1i | exact hk_c1r | exact hk_c10 | exact hk_c1n) (ho4 : hk_c1 o4 := by first | exact hk_c1i | exact hk_c1r | exact hk_c10 | exact hk_c1n) : hk_S G m_X10_lies (d + 1) cb sb 75 [o0, o1, o2, o3, o4, some (.int x5)] [.int s1, .int s0] h Q := by
  refine hs_iadd dX10_lies_75 ?_
  refine hs_istK_n dX10_lies_76 (by decide) (hk_nk1 rfl ho1) rfl ?_
  refine hs_iincK (v := 1) dX10_lies_77 rfl (by decide) (by decide) (hk_nk1 rfl ho4) rfl ?_
  refine hs_goto dX10_lies_80 (tgt := 40) (by decide) ?_
  exact k
theorem b_X10_lies_83 {G : hk_G} {d cb sb : Nat} {h : hk_H} {Q : hk_O → hk_H → Prop} {x4 : Int32} {o0 : Option Value} {o1 : Option Value} {o2 : Option Value} {o3 : Option Value} {o5 : Option Value} (k : hk_S G m_X10_lies (d + 1) cb sb 28 [o0, o1, o2, o3, some (.int (x4 + 1)), o5] [] h Q) (ho3 : hk_c1 o3 := by first | exact hk_c1i | exact hk_c1r | exact hk_c10 | exact hk_c1n) : hk_S G m_X10_lies (d + 1) cb sb 83 [o0, o1, o2, o3, some (.int x4), o5] [] h Q := by
  refine hs_iincK (v := 1) dX10_lies_83 rfl (by decide) (by decide) (hk_nk1 rfl ho3) rfl ?_
  refine hs_goto dX10_lies_86 (tgt := 28) (by decide) ?_
  exact k
theorem b_X10_lies_89 {G : hk_G} {d cb sb : Nat} {h : hk_H} {Q : hk_O → hk_H → Prop} {x3 : Int32} {o0 : Option Value} {o1 : Option Value} {o2 : Option Value} {o4 : Option Value} {o5 : Option Value} (k : hk_S G m_X10_lies (d + 1) cb sb 17 [o0, o1, o2, some (.int (x3 + 1)), o4, o5] [] h Q) (ho2 : hk_c1 o2 := by first | exact hk_c1i | exact hk_c1r | exact hk_c10 | exact hk_c1n) : hk_S G m_X10_lies (d + 1) cb sb 89 [o0, o1, o2, some (.int x3), o4, o5] [] h Q := by
  refine hs_iincK (v := 1) dX10_lies_89 rfl (by decide) (by decide) (hk_nk1 rfl ho2) rfl ?_
  refine hs_goto dX10_lies_92 (tgt := 17) (by decide) ?_
  exact k
theorem b_X10_lies_95 {G : hk_G} {d cb sb : Nat} {h : hk_H} {Q : hk_O → hk_H → Prop} {x2 : Int32} {o0 : Option Value} {o1 : Option Value} {o3 : Option Value} {o4 : Option Value} {o5 : Option Value} (hq : Q (.inl (some (.int x2))) h) : hk_S G m_X10_lies (d + 1) cb sb 95 [o0, o1, some (.int x2), o3, o4, o5] [] h Q := by
  refine hs_iload_n dX10_lies_95 rfl ?_
  exact hs_iret dX10_lies_96 rfl hq
-- HonestHouseModel.reckon(I)V
theorem b_X10_reckon_0 {G : hk_G} {d cb sb : Nat} {h : hk_H} {Q : hk_O → hk_H → Prop} {o0 : Option Value} {o1 : Option Value} {o2 : Option Value} {o3 : Option Value} (k : hk_S G m_X10_reckon (d + 1) cb sb 2 [o0, o1, some (.int 0), o3] [] h Q) (ho1 : hk_c1 o1 := by first | exact hk_c1i | exact hk_c1r | exact hk_c10 | exact hk_c1n) : hk_S G m_X10_reckon (d + 1) cb sb 0 [o0, o1, o2, o3] [] h Q := by
  refine hs_iconst (v := 0) dX10_reckon_0 (by decide) ?_
  refine hs_istK_n dX10_reckon_1 (by decide) (hk_nk1 rfl ho1) rfl ?_
  exact k
theorem b_X10_reckon_2 {G : hk_G} {d cb sb : Nat} {h : hk_H} {Q : hk_O → hk_H → Prop} {x2 : Int32} {r0 : Nat} {fs1 : List Value} {v3 : Int32} {o1 : Option Value} {o3 : Option Value} (hg2 : h.2 r0 = some (.inr (10, fs1))) (hv4 : fs1[4]? = some (.int v3)) (kt : v3 ≤ x2 → hk_S G m_X10_reckon (d + 1) cb sb 61 [some (.ref r0), o1, some (.int x2), o3] [] h Q) (kf : ¬ v3 ≤ x2 → hk_S G m_X10_reckon (d + 1) cb sb 10 [some (.ref r0), o1, some (.int x2), o3] [] h Q) : hk_S G m_X10_reckon (d + 1) cb sb 2 [some (.ref r0), o1, some (.int x2), o3] [] h Q := by
  refine hs_iload_n dX10_reckon_2 rfl ?_
  refine hs_aload_n dX10_reckon_3 rfl ?_
  refine hs_get dX10_reckon_4 fl_X10_113_10 hg2 hv4 ?_
  exact hs_icmp_ge dX10_reckon_7 (by decide) kt kf
theorem b_X10_reckon_10 {G : hk_G} {d cb sb : Nat} {h : hk_H} {Q : hk_O → hk_H → Prop} {r0 : Nat} {fs1 : List Value} {v3 : Nat} {x2 : Int32} {x1 : Int32} {o3 : Option Value} (hg2 : h.2 r0 = some (.inr (10, fs1))) (hv4 : fs1[14]? = some (.ref v3)) (hc : hk_Ci G m_X10_ends d 0 0 [.ref r0, .int x1, .int x2] h (fun z h' => hk_S G m_X10_reckon (d + 1) cb sb 21 [some (.ref r0), some (.int x1), some (.int x2), o3] [.int z, .int x2, .ref v3] h' Q)) : hk_S G m_X10_reckon (d + 1) cb sb 10 [some (.ref r0), some (.int x1), some (.int x2), o3] [] h Q := by
  refine hs_aload_n dX10_reckon_10 rfl ?_
  refine hs_get dX10_reckon_11 fl_X10_35_10 hg2 hv4 ?_
  refine hs_iload_n dX10_reckon_14 rfl ?_
  refine hs_aload_n dX10_reckon_15 rfl ?_
  refine hs_iload_n dX10_reckon_16 rfl ?_
  refine hs_iload_n dX10_reckon_17 rfl ?_
  exact hk_z0 (hs_vir (M' := m_X10_ends) (vs := [.int x1, .int x2]) (c1 := 0) (s1 := 0) dX10_reckon_18 wd_1257 vi_X10_ends hg2 rfl (Nat.le_of_ble_eq_true rfl) hc hq_i (hc_i (fun z h9 k9 => k9)))
theorem b_X10_reckon_21 {G : hk_G} {d cb sb : Nat} {h : hk_H} {Q : hk_O → hk_H → Prop} {s0 : Nat} {s1 : Int32} {s2 : Int32} {n1 : Nat} {f2 : Nat → Int32} {h_1 : hk_H} {o0 : Option Value} {o1 : Option Value} {o2 : Option Value} {o3 : Option Value} (ha3 : h.2 s0 = some (.inl (0, n1, .inl f2))) (h4_s0 : 4 ≤ s0) (j4 : Nat) (hi5 : (s1 : Int32).toInt = (j4 : Int)) (hj6 : j4 < n1) (e_1 : (hk_set h s0 (.inl (0, n1, .inl (upd f2 j4 s2)))) = h_1) (k : hk_S G m_X10_reckon (d + 1) cb sb 24 [o0, o1, o2, some (.int 0)] [] h_1 Q) (ho2 : hk_c1 o2 := by first | exact hk_c1i | exact hk_c1r | exact hk_c10 | exact hk_c1n) : hk_S G m_X10_reckon (d + 1) cb sb 21 [o0, o1, o2, o3] [.int s2, .int s1, .ref s0] h Q := by
  subst e_1
  refine hs_iast j4 dX10_reckon_21 ha3 h4_s0 hi5 hj6 ?_
  refine hs_iconst (v := 0) dX10_reckon_22 (by decide) ?_
  refine hs_istK_n dX10_reckon_23 (by decide) (hk_nk1 rfl ho2) rfl ?_
  exact k
theorem b_X10_reckon_24 {G : hk_G} {d cb sb : Nat} {h : hk_H} {Q : hk_O → hk_H → Prop} {x3 : Int32} {r0 : Nat} {fs1 : List Value} {v3 : Int32} {o1 : Option Value} {o2 : Option Value} (hg2 : h.2 r0 = some (.inr (10, fs1))) (hv4 : fs1[0]? = some (.int v3)) (kt : v3 ≤ x3 → hk_S G m_X10_reckon (d + 1) cb sb 55 [some (.ref r0), o1, o2, some (.int x3)] [] h Q) (kf : ¬ v3 ≤ x3 → hk_S G m_X10_reckon (d + 1) cb sb 32 [some (.ref r0), o1, o2, some (.int x3)] [] h Q) : hk_S G m_X10_reckon (d + 1) cb sb 24 [some (.ref r0), o1, o2, some (.int x3)] [] h Q := by
  refine hs_iload_n dX10_reckon_24 rfl ?_
  refine hs_aload_n dX10_reckon_25 rfl ?_
  refine hs_get dX10_reckon_26 fl_X10_97_10 hg2 hv4 ?_
  exact hs_icmp_ge dX10_reckon_29 (by decide) kt kf
theorem b_X10_reckon_32 {G : hk_G} {d cb sb : Nat} {h : hk_H} {Q : hk_O → hk_H → Prop} {r0 : Nat} {fs1 : List Value} {v3 : Nat} {x2 : Int32} {x3 : Int32} {x1 : Int32} (hg2 : h.2 r0 = some (.inr (10, fs1))) (hv4 : fs1[15]? = some (.ref v3)) (hc : hk_Ci G m_X10_paysOf d 0 0 [.ref r0, .int x1, .int x2, .int x3] h (fun z h' => hk_S G m_X10_reckon (d + 1) cb sb 48 [some (.ref r0), some (.int x1), some (.int x2), some (.int x3)] [.int z, .int ((4 * x2) + x3), .ref v3] h' Q)) : hk_S G m_X10_reckon (d + 1) cb sb 32 [some (.ref r0), some (.int x1), some (.int x2), some (.int x3)] [] h Q := by
  refine hs_aload_n dX10_reckon_32 rfl ?_
  refine hs_get dX10_reckon_33 fl_X10_38_10 hg2 hv4 ?_
  refine hs_iconst (v := 4) dX10_reckon_36 (by decide) ?_
  refine hs_iload_n dX10_reckon_37 rfl ?_
  refine hs_imul dX10_reckon_38 ?_
  refine hs_iload_n dX10_reckon_39 rfl ?_
  refine hs_iadd dX10_reckon_40 ?_
  refine hs_aload_n dX10_reckon_41 rfl ?_
  refine hs_iload_n dX10_reckon_42 rfl ?_
  refine hs_iload_n dX10_reckon_43 rfl ?_
  refine hs_iload_n dX10_reckon_44 rfl ?_
  exact hk_z0 (hs_vir (M' := m_X10_paysOf) (vs := [.int x1, .int x2, .int x3]) (c1 := 0) (s1 := 0) dX10_reckon_45 wd_1289 vi_X10_paysOf hg2 rfl (Nat.le_of_ble_eq_true rfl) hc hq_i (hc_i (fun z h9 k9 => k9)))
theorem b_X10_reckon_48 {G : hk_G} {d cb sb : Nat} {h : hk_H} {Q : hk_O → hk_H → Prop} {s0 : Nat} {s1 : Int32} {s2 : Int32} {n1 : Nat} {f2 : Nat → Int32} {h_1 : hk_H} {x3 : Int32} {o0 : Option Value} {o1 : Option Value} {o2 : Option Value} (ha3 : h.2 s0 = some (.inl (0, n1, .inl f2))) (h4_s0 : 4 ≤ s0) (j4 : Nat) (hi5 : (s1 : Int32).toInt = (j4 : Int)) (hj6 : j4 < n1) (e_1 : (hk_set h s0 (.inl (0, n1, .inl (upd f2 j4 s2)))) = h_1) (k : hk_S G m_X10_reckon (d + 1) cb sb 24 [o0, o1, o2, some (.int (x3 + 1))] [] h_1 Q) (ho2 : hk_c1 o2 := by first | exact hk_c1i | exact hk_c1r | exact hk_c10 | exact hk_c1n) : hk_S G m_X10_reckon (d + 1) cb sb 48 [o0, o1, o2, some (.int x3)] [.int s2, .int s1, .ref s0] h Q := by
  subst e_1
  refine hs_iast j4 dX10_reckon_48 ha3 h4_s0 hi5 hj6 ?_
  refine hs_iincK (v := 1) dX10_reckon_49 rfl (by decide) (by decide) (hk_nk1 rfl ho2) rfl ?_
  refine hs_goto dX10_reckon_52 (tgt := 24) (by decide) ?_
  exact k
theorem b_X10_reckon_55 {G : hk_G} {d cb sb : Nat} {h : hk_H} {Q : hk_O → hk_H → Prop} {x2 : Int32} {o0 : Option Value} {o1 : Option Value} {o3 : Option Value} (k : hk_S G m_X10_reckon (d + 1) cb sb 2 [o0, o1, some (.int (x2 + 1)), o3] [] h Q) (ho1 : hk_c1 o1 := by first | exact hk_c1i | exact hk_c1r | exact hk_c10 | exact hk_c1n) : hk_S G m_X10_reckon (d + 1) cb sb 55 [o0, o1, some (.int x2), o3] [] h Q := by
  refine hs_iincK (v := 1) dX10_reckon_55 rfl (by decide) (by decide) (hk_nk1 rfl ho1) rfl ?_
  refine hs_goto dX10_reckon_58 (tgt := 2) (by decide) ?_
  exact k
theorem b_X10_reckon_61 {G : hk_G} {d cb sb : Nat} {h : hk_H} {Q : hk_O → hk_H → Prop} {o0 : Option Value} {o1 : Option Value} {o2 : Option Value} {o3 : Option Value} (hq : Q (.inl none) h) : hk_S G m_X10_reckon (d + 1) cb sb 61 [o0, o1, o2, o3] [] h Q := by
  exact hs_vret dX10_reckon_61 rfl hq
-- HonestHouseModel.gains(III)Z
theorem b_X10_gains_0 {G : hk_G} {d cb sb : Nat} {h : hk_H} {Q : hk_O → hk_H → Prop} {o0 : Option Value} {o1 : Option Value} {o2 : Option Value} {o3 : Option Value} {o4 : Option Value} {o5 : Option Value} {o6 : Option Value} (k : hk_S G m_X10_gains (d + 1) cb sb 6 [o0, o1, o2, o3, some (.int 1), some (.int 0), o6] [] h Q) (ho3 : hk_c1 o3 := by first | exact hk_c1i | exact hk_c1r | exact hk_c10 | exact hk_c1n) : hk_S G m_X10_gains (d + 1) cb sb 0 [o0, o1, o2, o3, o4, o5, o6] [] h Q := by
  refine hs_iconst (v := 1) dX10_gains_0 (by decide) ?_
  refine hs_istK dX10_gains_1 (by decide) (hk_nk1 rfl ho3) rfl ?_
  refine hs_iconst (v := 0) dX10_gains_3 (by decide) ?_
  refine hs_istK dX10_gains_4 (by decide) (hk_nk1 rfl hk_c1i) rfl ?_
  exact k
theorem b_X10_gains_6 {G : hk_G} {d cb sb : Nat} {h : hk_H} {Q : hk_O → hk_H → Prop} {x5 : Int32} {r0 : Nat} {fs1 : List Value} {v3 : Int32} {o1 : Option Value} {o2 : Option Value} {o3 : Option Value} {o4 : Option Value} {o6 : Option Value} (hg2 : h.2 r0 = some (.inr (10, fs1))) (hv4 : fs1[0]? = some (.int v3)) (kt : v3 ≤ x5 → hk_S G m_X10_gains (d + 1) cb sb 135 [some (.ref r0), o1, o2, o3, o4, some (.int x5), o6] [] h Q) (kf : ¬ v3 ≤ x5 → hk_S G m_X10_gains (d + 1) cb sb 15 [some (.ref r0), o1, o2, o3, o4, some (.int x5), o6] [] h Q) : hk_S G m_X10_gains (d + 1) cb sb 6 [some (.ref r0), o1, o2, o3, o4, some (.int x5), o6] [] h Q := by
  refine hs_iload dX10_gains_6 rfl ?_
  refine hs_aload_n dX10_gains_8 rfl ?_
  refine hs_get dX10_gains_9 fl_X10_97_10 hg2 hv4 ?_
  exact hs_icmp_ge dX10_gains_12 (by decide) kt kf
theorem b_X10_gains_15 {G : hk_G} {d cb sb : Nat} {h : hk_H} {Q : hk_O → hk_H → Prop} {x4 : Int32} {o0 : Option Value} {o1 : Option Value} {o2 : Option Value} {o3 : Option Value} {o5 : Option Value} {o6 : Option Value} (kt : x4 = 0 → hk_S G m_X10_gains (d + 1) cb sb 135 [o0, o1, o2, o3, some (.int x4), o5, o6] [] h Q) (kf : ¬ x4 = 0 → hk_S G m_X10_gains (d + 1) cb sb 20 [o0, o1, o2, o3, some (.int x4), o5, o6] [] h Q) : hk_S G m_X10_gains (d + 1) cb sb 15 [o0, o1, o2, o3, some (.int x4), o5, o6] [] h Q := by
  refine hs_iload dX10_gains_15 rfl ?_
  exact hs_if_eq dX10_gains_17 (by decide) kt kf
theorem b_X10_gains_20 {G : hk_G} {d cb sb : Nat} {h : hk_H} {Q : hk_O → hk_H → Prop} {x1 : Int32} {x5 : Int32} {o0 : Option Value} {o2 : Option Value} {o3 : Option Value} {o4 : Option Value} {o6 : Option Value} (kt : ¬ ((x1 >>> (x5 &&& 31)) &&& 1) = 0 → hk_S G m_X10_gains (d + 1) cb sb 56 [o0, some (.int x1), o2, o3, o4, some (.int x5), o6] [] h Q) (kf : ((x1 >>> (x5 &&& 31)) &&& 1) = 0 → hk_S G m_X10_gains (d + 1) cb sb 29 [o0, some (.int x1), o2, o3, o4, some (.int x5), o6] [] h Q) : hk_S G m_X10_gains (d + 1) cb sb 20 [o0, some (.int x1), o2, o3, o4, some (.int x5), o6] [] h Q := by
  refine hs_iload_n dX10_gains_20 rfl ?_
  refine hs_iload dX10_gains_21 rfl ?_
  refine hs_ishr dX10_gains_23 ?_
  refine hs_iconst (v := 1) dX10_gains_24 (by decide) ?_
  refine hs_iand dX10_gains_25 ?_
  exact hs_if_ne dX10_gains_26 (by decide) kt kf
theorem b_X10_gains_29 {G : hk_G} {d cb sb : Nat} {h : hk_H} {Q : hk_O → hk_H → Prop} {r0 : Nat} {x2 : Int32} {x5 : Int32} {fs_ : List Value} {o1 : Option Value} {o3 : Option Value} {o4 : Option Value} {o6 : Option Value} (hrec : h.2 r0 = some (.inr (10, fs_))) (hc : hk_Ci G m_X10_wishOf d 0 0 [.ref r0, .int x2, .int x5] h (fun z h' => hk_S G m_X10_gains (d + 1) cb sb 36 [some (.ref r0), o1, some (.int x2), o3, o4, some (.int x5), o6] [.int z] h' Q)) : hk_S G m_X10_gains (d + 1) cb sb 29 [some (.ref r0), o1, some (.int x2), o3, o4, some (.int x5), o6] [] h Q := by
  refine hs_aload_n dX10_gains_29 rfl ?_
  refine hs_iload_n dX10_gains_30 rfl ?_
  refine hs_iload dX10_gains_31 rfl ?_
  exact hk_z0 (hs_vir (M' := m_X10_wishOf) (vs := [.int x2, .int x5]) (c1 := 0) (s1 := 0) dX10_gains_33 wd_1269 vi_X10_wishOf hrec rfl (Nat.le_of_ble_eq_true rfl) hc hq_i (hc_i (fun z h9 k9 => k9)))
theorem b_X10_gains_36 {G : hk_G} {d cb sb : Nat} {h : hk_H} {Q : hk_O → hk_H → Prop} {s0 : Int32} {r0 : Nat} {x3 : Int32} {x5 : Int32} {fs_ : List Value} {o1 : Option Value} {o2 : Option Value} {o4 : Option Value} {o6 : Option Value} (hrec : h.2 r0 = some (.inr (10, fs_))) (hc : hk_Ci G m_X10_wishOf d 0 0 [.ref r0, .int x3, .int x5] h (fun z h' => hk_S G m_X10_gains (d + 1) cb sb 43 [some (.ref r0), o1, o2, some (.int x3), o4, some (.int x5), o6] [.int z, .int s0] h' Q)) : hk_S G m_X10_gains (d + 1) cb sb 36 [some (.ref r0), o1, o2, some (.int x3), o4, some (.int x5), o6] [.int s0] h Q := by
  refine hs_aload_n dX10_gains_36 rfl ?_
  refine hs_iload_n dX10_gains_37 rfl ?_
  refine hs_iload dX10_gains_38 rfl ?_
  exact hk_z0 (hs_vir (M' := m_X10_wishOf) (vs := [.int x3, .int x5]) (c1 := 0) (s1 := 0) dX10_gains_40 wd_1269 vi_X10_wishOf hrec rfl (Nat.le_of_ble_eq_true rfl) hc hq_i (hc_i (fun z h9 k9 => k9)))
theorem b_X10_gains_43 {G : hk_G} {d cb sb : Nat} {h : hk_H} {Q : hk_O → hk_H → Prop} {s0 : Int32} {s1 : Int32} {o0 : Option Value} {o1 : Option Value} {o2 : Option Value} {o3 : Option Value} {o4 : Option Value} {o5 : Option Value} {o6 : Option Value} (kt : ¬ s0 = s1 → hk_S G m_X10_gains (d + 1) cb sb 50 [o0, o1, o2, o3, o4, o5, o6] [] h Q) (kf : s0 = s1 → hk_S G m_X10_gains (d + 1) cb sb 46 [o0, o1, o2, o3, o4, o5, o6] [] h Q) : hk_S G m_X10_gains (d + 1) cb sb 43 [o0, o1, o2, o3, o4, o5, o6] [.int s1, .int s0] h Q := by
  exact hs_icmp_ne dX10_gains_43 (by decide) kt kf
theorem b_X10_gains_46 {G : hk_G} {d cb sb : Nat} {h : hk_H} {Q : hk_O → hk_H → Prop} {x5 : Int32} {o0 : Option Value} {o1 : Option Value} {o2 : Option Value} {o3 : Option Value} {o4 : Option Value} {o6 : Option Value} (k : hk_S G m_X10_gains (d + 1) cb sb 6 [o0, o1, o2, o3, some (.int 1), some (.int (x5 + 1)), o6] [] h Q) (ho3 : hk_c1 o3 := by first | exact hk_c1i | exact hk_c1r | exact hk_c10 | exact hk_c1n) : hk_S G m_X10_gains (d + 1) cb sb 46 [o0, o1, o2, o3, o4, some (.int x5), o6] [] h Q := by
  refine hs_iconst (v := 1) dX10_gains_46 (by decide) ?_
  refine hs_goto dX10_gains_47 (tgt := 51) (by decide) ?_
  refine hs_istK dX10_gains_51 (by decide) (hk_nk1 rfl ho3) rfl ?_
  refine hs_goto dX10_gains_53 (tgt := 129) (by decide) ?_
  refine hs_iincK (v := 1) dX10_gains_129 rfl (by decide) (by decide) (hk_nk1 rfl hk_c1i) rfl ?_
  refine hs_goto dX10_gains_132 (tgt := 6) (by decide) ?_
  exact k
theorem b_X10_gains_50 {G : hk_G} {d cb sb : Nat} {h : hk_H} {Q : hk_O → hk_H → Prop} {x5 : Int32} {o0 : Option Value} {o1 : Option Value} {o2 : Option Value} {o3 : Option Value} {o4 : Option Value} {o6 : Option Value} (k : hk_S G m_X10_gains (d + 1) cb sb 6 [o0, o1, o2, o3, some (.int 0), some (.int (x5 + 1)), o6] [] h Q) (ho3 : hk_c1 o3 := by first | exact hk_c1i | exact hk_c1r | exact hk_c10 | exact hk_c1n) : hk_S G m_X10_gains (d + 1) cb sb 50 [o0, o1, o2, o3, o4, some (.int x5), o6] [] h Q := by
  refine hs_iconst (v := 0) dX10_gains_50 (by decide) ?_
  refine hs_istK dX10_gains_51 (by decide) (hk_nk1 rfl ho3) rfl ?_
  refine hs_goto dX10_gains_53 (tgt := 129) (by decide) ?_
  refine hs_iincK (v := 1) dX10_gains_129 rfl (by decide) (by decide) (hk_nk1 rfl hk_c1i) rfl ?_
  refine hs_goto dX10_gains_132 (tgt := 6) (by decide) ?_
  exact k
theorem b_X10_gains_51 {G : hk_G} {d cb sb : Nat} {h : hk_H} {Q : hk_O → hk_H → Prop} {s0 : Int32} {x5 : Int32} {o0 : Option Value} {o1 : Option Value} {o2 : Option Value} {o3 : Option Value} {o4 : Option Value} {o6 : Option Value} (k : hk_S G m_X10_gains (d + 1) cb sb 6 [o0, o1, o2, o3, some (.int s0), some (.int (x5 + 1)), o6] [] h Q) (ho3 : hk_c1 o3 := by first | exact hk_c1i | exact hk_c1r | exact hk_c10 | exact hk_c1n) : hk_S G m_X10_gains (d + 1) cb sb 51 [o0, o1, o2, o3, o4, some (.int x5), o6] [.int s0] h Q := by
  refine hs_istK dX10_gains_51 (by decide) (hk_nk1 rfl ho3) rfl ?_
  refine hs_goto dX10_gains_53 (tgt := 129) (by decide) ?_
  refine hs_iincK (v := 1) dX10_gains_129 rfl (by decide) (by decide) (hk_nk1 rfl hk_c1i) rfl ?_
  refine hs_goto dX10_gains_132 (tgt := 6) (by decide) ?_
  exact k
theorem b_X10_gains_56 {G : hk_G} {d cb sb : Nat} {h : hk_H} {Q : hk_O → hk_H → Prop} {r0 : Nat} {x2 : Int32} {x5 : Int32} {fs_ : List Value} {o1 : Option Value} {o3 : Option Value} {o4 : Option Value} {o6 : Option Value} (hrec : h.2 r0 = some (.inr (10, fs_))) (hc : hk_Ci G m_X10_wishOf d 0 0 [.ref r0, .int x2, .int x5] h (fun z h' => hk_S G m_X10_gains (d + 1) cb sb 64 [some (.ref r0), o1, some (.int x2), o3, o4, some (.int x5), o6] [.int z, .int 5] h' Q)) : hk_S G m_X10_gains (d + 1) cb sb 56 [some (.ref r0), o1, some (.int x2), o3, o4, some (.int x5), o6] [] h Q := by
  refine hs_iconst (v := 5) dX10_gains_56 (by decide) ?_
  refine hs_aload_n dX10_gains_57 rfl ?_
  refine hs_iload_n dX10_gains_58 rfl ?_
  refine hs_iload dX10_gains_59 rfl ?_
  exact hk_z0 (hs_vir (M' := m_X10_wishOf) (vs := [.int x2, .int x5]) (c1 := 0) (s1 := 0) dX10_gains_61 wd_1269 vi_X10_wishOf hrec rfl (Nat.le_of_ble_eq_true rfl) hc hq_i (hc_i (fun z h9 k9 => k9)))
theorem b_X10_gains_64 {G : hk_G} {d cb sb : Nat} {h : hk_H} {Q : hk_O → hk_H → Prop} {s0 : Int32} {s1 : Int32} {r0 : Nat} {fs1 : List Value} {v3 : Nat} {v5 : Nat} {x3 : Int32} {n7 : Nat} {f8 : Nat → Int32} {n13 : Nat} {f14 : Nat → Int32} {v19 : Nat} {x5 : Int32} {n21 : Nat} {f22 : Nat → Int32} {x2 : Int32} {o1 : Option Value} {o4 : Option Value} {o6 : Option Value} (hg2 : h.2 r0 = some (.inr (10, fs1))) (hv4 : fs1[5]? = some (.ref v3)) (hv6 : fs1[14]? = some (.ref v5)) (ha9 : h.2 v5 = some (.inl (0, n7, .inl f8))) (j10 : Nat) (hi11 : (x3 : Int32).toInt = (j10 : Int)) (hj12 : j10 < n7) (ha15 : h.2 v3 = some (.inl (0, n13, .inl f14))) (j16 : Nat) (hi17 : ((s0 * s1) + (f8 j10) : Int32).toInt = (j16 : Int)) (hj18 : j16 < n13) (hv20 : fs1[15]? = some (.ref v19)) (ha23 : h.2 v19 = some (.inl (0, n21, .inl f22))) (j24 : Nat) (hi25 : ((4 * x3) + x5 : Int32).toInt = (j24 : Int)) (hj26 : j24 < n21) (j27 : Nat) (hi28 : (x2 : Int32).toInt = (j27 : Int)) (hj29 : j27 < n7) (j30 : Nat) (hi31 : ((s0 * s1) + (f8 j27) : Int32).toInt = (j30 : Int)) (hj32 : j30 < n13) (j33 : Nat) (hi34 : ((4 * x2) + x5 : Int32).toInt = (j33 : Int)) (hj35 : j33 < n21) (kt : ((f14 j16) - (f22 j24)) ≤ ((f14 j30) - (f22 j33)) → hk_S G m_X10_gains (d + 1) cb sb 126 [some (.ref r0), o1, some (.int x2), some (.int x3), o4, some (.int x5), some (.int (s0 * s1))] [] h Q) (kf : ¬ ((f14 j16) - (f22 j24)) ≤ ((f14 j30) - (f22 j33)) → hk_S G m_X10_gains (d + 1) cb sb 122 [some (.ref r0), o1, some (.int x2), some (.int x3), o4, some (.int x5), some (.int (s0 * s1))] [] h Q) : hk_S G m_X10_gains (d + 1) cb sb 64 [some (.ref r0), o1, some (.int x2), some (.int x3), o4, some (.int x5), o6] [.int s1, .int s0] h Q := by
  refine hs_imul dX10_gains_64 ?_
  refine hs_istK dX10_gains_65 (by decide) (hk_nk1 rfl hk_c1i) rfl ?_
  refine hs_aload_n dX10_gains_67 rfl ?_
  refine hs_get dX10_gains_68 fl_X10_9_10 hg2 hv4 ?_
  refine hs_iload dX10_gains_71 rfl ?_
  refine hs_aload_n dX10_gains_73 rfl ?_
  refine hs_get dX10_gains_74 fl_X10_35_10 hg2 hv6 ?_
  refine hs_iload_n dX10_gains_77 rfl ?_
  refine hs_iald j10 dX10_gains_78 ha9 hi11 hj12 ?_
  refine hs_iadd dX10_gains_79 ?_
  refine hs_iald j16 dX10_gains_80 ha15 hi17 hj18 ?_
  refine hs_aload_n dX10_gains_81 rfl ?_
  refine hs_get dX10_gains_82 fl_X10_38_10 hg2 hv20 ?_
  refine hs_iconst (v := 4) dX10_gains_85 (by decide) ?_
  refine hs_iload_n dX10_gains_86 rfl ?_
  refine hs_imul dX10_gains_87 ?_
  refine hs_iload dX10_gains_88 rfl ?_
  refine hs_iadd dX10_gains_90 ?_
  refine hs_iald j24 dX10_gains_91 ha23 hi25 hj26 ?_
  refine hs_isub dX10_gains_92 ?_
  refine hs_aload_n dX10_gains_93 rfl ?_
  refine hs_get dX10_gains_94 fl_X10_9_10 hg2 hv4 ?_
  refine hs_iload dX10_gains_97 rfl ?_
  refine hs_aload_n dX10_gains_99 rfl ?_
  refine hs_get dX10_gains_100 fl_X10_35_10 hg2 hv6 ?_
  refine hs_iload_n dX10_gains_103 rfl ?_
  refine hs_iald j27 dX10_gains_104 ha9 hi28 hj29 ?_
  refine hs_iadd dX10_gains_105 ?_
  refine hs_iald j30 dX10_gains_106 ha15 hi31 hj32 ?_
  refine hs_aload_n dX10_gains_107 rfl ?_
  refine hs_get dX10_gains_108 fl_X10_38_10 hg2 hv20 ?_
  refine hs_iconst (v := 4) dX10_gains_111 (by decide) ?_
  refine hs_iload_n dX10_gains_112 rfl ?_
  refine hs_imul dX10_gains_113 ?_
  refine hs_iload dX10_gains_114 rfl ?_
  refine hs_iadd dX10_gains_116 ?_
  refine hs_iald j33 dX10_gains_117 ha23 hi34 hj35 ?_
  refine hs_isub dX10_gains_118 ?_
  exact hs_icmp_le dX10_gains_119 (by decide) kt kf
theorem b_X10_gains_122 {G : hk_G} {d cb sb : Nat} {h : hk_H} {Q : hk_O → hk_H → Prop} {x5 : Int32} {o0 : Option Value} {o1 : Option Value} {o2 : Option Value} {o3 : Option Value} {o4 : Option Value} {o6 : Option Value} (k : hk_S G m_X10_gains (d + 1) cb sb 6 [o0, o1, o2, o3, some (.int 1), some (.int (x5 + 1)), o6] [] h Q) (ho3 : hk_c1 o3 := by first | exact hk_c1i | exact hk_c1r | exact hk_c10 | exact hk_c1n) : hk_S G m_X10_gains (d + 1) cb sb 122 [o0, o1, o2, o3, o4, some (.int x5), o6] [] h Q := by
  refine hs_iconst (v := 1) dX10_gains_122 (by decide) ?_
  refine hs_goto dX10_gains_123 (tgt := 127) (by decide) ?_
  refine hs_istK dX10_gains_127 (by decide) (hk_nk1 rfl ho3) rfl ?_
  refine hs_iincK (v := 1) dX10_gains_129 rfl (by decide) (by decide) (hk_nk1 rfl hk_c1i) rfl ?_
  refine hs_goto dX10_gains_132 (tgt := 6) (by decide) ?_
  exact k
theorem b_X10_gains_126 {G : hk_G} {d cb sb : Nat} {h : hk_H} {Q : hk_O → hk_H → Prop} {x5 : Int32} {o0 : Option Value} {o1 : Option Value} {o2 : Option Value} {o3 : Option Value} {o4 : Option Value} {o6 : Option Value} (k : hk_S G m_X10_gains (d + 1) cb sb 6 [o0, o1, o2, o3, some (.int 0), some (.int (x5 + 1)), o6] [] h Q) (ho3 : hk_c1 o3 := by first | exact hk_c1i | exact hk_c1r | exact hk_c10 | exact hk_c1n) : hk_S G m_X10_gains (d + 1) cb sb 126 [o0, o1, o2, o3, o4, some (.int x5), o6] [] h Q := by
  refine hs_iconst (v := 0) dX10_gains_126 (by decide) ?_
  refine hs_istK dX10_gains_127 (by decide) (hk_nk1 rfl ho3) rfl ?_
  refine hs_iincK (v := 1) dX10_gains_129 rfl (by decide) (by decide) (hk_nk1 rfl hk_c1i) rfl ?_
  refine hs_goto dX10_gains_132 (tgt := 6) (by decide) ?_
  exact k
theorem b_X10_gains_127 {G : hk_G} {d cb sb : Nat} {h : hk_H} {Q : hk_O → hk_H → Prop} {s0 : Int32} {x5 : Int32} {o0 : Option Value} {o1 : Option Value} {o2 : Option Value} {o3 : Option Value} {o4 : Option Value} {o6 : Option Value} (k : hk_S G m_X10_gains (d + 1) cb sb 6 [o0, o1, o2, o3, some (.int s0), some (.int (x5 + 1)), o6] [] h Q) (ho3 : hk_c1 o3 := by first | exact hk_c1i | exact hk_c1r | exact hk_c10 | exact hk_c1n) : hk_S G m_X10_gains (d + 1) cb sb 127 [o0, o1, o2, o3, o4, some (.int x5), o6] [.int s0] h Q := by
  refine hs_istK dX10_gains_127 (by decide) (hk_nk1 rfl ho3) rfl ?_
  refine hs_iincK (v := 1) dX10_gains_129 rfl (by decide) (by decide) (hk_nk1 rfl hk_c1i) rfl ?_
  refine hs_goto dX10_gains_132 (tgt := 6) (by decide) ?_
  exact k
theorem b_X10_gains_129 {G : hk_G} {d cb sb : Nat} {h : hk_H} {Q : hk_O → hk_H → Prop} {x5 : Int32} {o0 : Option Value} {o1 : Option Value} {o2 : Option Value} {o3 : Option Value} {o4 : Option Value} {o6 : Option Value} (k : hk_S G m_X10_gains (d + 1) cb sb 6 [o0, o1, o2, o3, o4, some (.int (x5 + 1)), o6] [] h Q) (ho4 : hk_c1 o4 := by first | exact hk_c1i | exact hk_c1r | exact hk_c10 | exact hk_c1n) : hk_S G m_X10_gains (d + 1) cb sb 129 [o0, o1, o2, o3, o4, some (.int x5), o6] [] h Q := by
  refine hs_iincK (v := 1) dX10_gains_129 rfl (by decide) (by decide) (hk_nk1 rfl ho4) rfl ?_
  refine hs_goto dX10_gains_132 (tgt := 6) (by decide) ?_
  exact k
theorem b_X10_gains_135 {G : hk_G} {d cb sb : Nat} {h : hk_H} {Q : hk_O → hk_H → Prop} {x4 : Int32} {o0 : Option Value} {o1 : Option Value} {o2 : Option Value} {o3 : Option Value} {o5 : Option Value} {o6 : Option Value} (hq : Q (.inl (some (.int x4))) h) (hb : x4 = 0 ∨ x4 = 1) : hk_S G m_X10_gains (d + 1) cb sb 135 [o0, o1, o2, o3, some (.int x4), o5, o6] [] h Q := by
  refine hs_iload dX10_gains_135 rfl ?_
  exact hs_zret dX10_gains_137 rfl hb hq
-- HonestHouseModel.heap(IIZ)I
theorem b_X10_heap_0 {G : hk_G} {d cb sb : Nat} {h : hk_H} {Q : hk_O → hk_H → Prop} {x1 : Int32} {r0 : Nat} {fs1 : List Value} {v3 : Int32} {o2 : Option Value} {o3 : Option Value} {o4 : Option Value} {o5 : Option Value} (hg2 : h.2 r0 = some (.inr (10, fs1))) (hv4 : fs1[3]? = some (.int v3)) (hc : hk_Ci G m_X10_isIn d 0 0 [.int x1, .int v3] h (fun z h' => hk_S G m_X10_heap (d + 1) cb sb 8 [some (.ref r0), some (.int x1), o2, o3, o4, o5] [.int z] h' Q)) : hk_S G m_X10_heap (d + 1) cb sb 0 [some (.ref r0), some (.int x1), o2, o3, o4, o5] [] h Q := by
  refine hs_iload_n dX10_heap_0 rfl ?_
  refine hs_aload_n dX10_heap_1 rfl ?_
  refine hs_get dX10_heap_2 fl_X10_116_10 hg2 hv4 ?_
  exact hk_z0 (hs_sta (M' := m_X10_isIn) (vs := [.int x1, .int v3]) (c1 := 0) (s1 := 0) dX10_heap_5 wd_1226 st_X10_isIn rfl (Nat.le_of_ble_eq_true rfl) hc hq_i (hc_i (fun z h9 k9 => k9)))
theorem b_X10_heap_8 {G : hk_G} {d cb sb : Nat} {h : hk_H} {Q : hk_O → hk_H → Prop} {s0 : Int32} {o0 : Option Value} {o1 : Option Value} {o2 : Option Value} {o3 : Option Value} {o4 : Option Value} {o5 : Option Value} (kt : s0 = 0 → hk_S G m_X10_heap (d + 1) cb sb 26 [o0, o1, o2, o3, o4, o5] [] h Q) (kf : ¬ s0 = 0 → hk_S G m_X10_heap (d + 1) cb sb 11 [o0, o1, o2, o3, o4, o5] [] h Q) : hk_S G m_X10_heap (d + 1) cb sb 8 [o0, o1, o2, o3, o4, o5] [.int s0] h Q := by
  exact hs_if_eq dX10_heap_8 (by decide) kt kf
theorem b_X10_heap_11 {G : hk_G} {d cb sb : Nat} {h : hk_H} {Q : hk_O → hk_H → Prop} {x2 : Int32} {o0 : Option Value} {o1 : Option Value} {o3 : Option Value} {o4 : Option Value} {o5 : Option Value} (kt : x2 < 1 → hk_S G m_X10_heap (d + 1) cb sb 26 [o0, o1, some (.int x2), o3, o4, o5] [] h Q) (kf : ¬ x2 < 1 → hk_S G m_X10_heap (d + 1) cb sb 16 [o0, o1, some (.int x2), o3, o4, o5] [] h Q) : hk_S G m_X10_heap (d + 1) cb sb 11 [o0, o1, some (.int x2), o3, o4, o5] [] h Q := by
  refine hs_iload_n dX10_heap_11 rfl ?_
  refine hs_iconst (v := 1) dX10_heap_12 (by decide) ?_
  exact hs_icmp_lt dX10_heap_13 (by decide) kt kf
theorem b_X10_heap_16 {G : hk_G} {d cb sb : Nat} {h : hk_H} {Q : hk_O → hk_H → Prop} {x2 : Int32} {r0 : Nat} {fs1 : List Value} {v3 : Int32} {o1 : Option Value} {o3 : Option Value} {o4 : Option Value} {o5 : Option Value} (hg2 : h.2 r0 = some (.inr (10, fs1))) (hv4 : fs1[0]? = some (.int v3)) (kt : x2 < (1 <<< (v3 &&& 31)) → hk_S G m_X10_heap (d + 1) cb sb 28 [some (.ref r0), o1, some (.int x2), o3, o4, o5] [] h Q) (kf : ¬ x2 < (1 <<< (v3 &&& 31)) → hk_S G m_X10_heap (d + 1) cb sb 26 [some (.ref r0), o1, some (.int x2), o3, o4, o5] [] h Q) : hk_S G m_X10_heap (d + 1) cb sb 16 [some (.ref r0), o1, some (.int x2), o3, o4, o5] [] h Q := by
  refine hs_iload_n dX10_heap_16 rfl ?_
  refine hs_iconst (v := 1) dX10_heap_17 (by decide) ?_
  refine hs_aload_n dX10_heap_18 rfl ?_
  refine hs_get dX10_heap_19 fl_X10_97_10 hg2 hv4 ?_
  refine hs_ishl dX10_heap_22 ?_
  exact hs_icmp_lt dX10_heap_23 (by decide) kt kf
theorem b_X10_heap_26 {G : hk_G} {d cb sb : Nat} {h : hk_H} {Q : hk_O → hk_H → Prop} {o0 : Option Value} {o1 : Option Value} {o2 : Option Value} {o3 : Option Value} {o4 : Option Value} {o5 : Option Value} (hq : Q (.inl (some (.int ((-1))))) h) : hk_S G m_X10_heap (d + 1) cb sb 26 [o0, o1, o2, o3, o4, o5] [] h Q := by
  refine hs_iconst (v := (-1)) dX10_heap_26 (by decide) ?_
  exact hs_iret dX10_heap_27 rfl hq
theorem b_X10_heap_28 {G : hk_G} {d cb sb : Nat} {h : hk_H} {Q : hk_O → hk_H → Prop} {r0 : Nat} {x1 : Int32} {fs_ : List Value} {o2 : Option Value} {o3 : Option Value} {o4 : Option Value} {o5 : Option Value} (hrec : h.2 r0 = some (.inr (10, fs_))) (hc : hk_Cv G m_X10_reckon d 0 0 [.ref r0, .int x1] h (fun h' => hk_S G m_X10_heap (d + 1) cb sb 33 [some (.ref r0), some (.int x1), o2, o3, o4, o5] [] h' Q)) : hk_S G m_X10_heap (d + 1) cb sb 28 [some (.ref r0), some (.int x1), o2, o3, o4, o5] [] h Q := by
  refine hs_aload_n dX10_heap_28 rfl ?_
  refine hs_iload_n dX10_heap_29 rfl ?_
  exact hk_z0 (hs_vir (M' := m_X10_reckon) (vs := [.int x1]) (c1 := 0) (s1 := 0) dX10_heap_30 wd_1325 vi_X10_reckon hrec rfl (Nat.le_of_ble_eq_true rfl) hc hq_v (hc_v (fun h9 k9 => k9)))
theorem b_X10_heap_33 {G : hk_G} {d cb sb : Nat} {h : hk_H} {Q : hk_O → hk_H → Prop} {o0 : Option Value} {o1 : Option Value} {o2 : Option Value} {o3 : Option Value} {o4 : Option Value} {o5 : Option Value} (k : hk_S G m_X10_heap (d + 1) cb sb 36 [o0, o1, o2, o3, some (.int 0), o5] [] h Q) (ho3 : hk_c1 o3 := by first | exact hk_c1i | exact hk_c1r | exact hk_c10 | exact hk_c1n) : hk_S G m_X10_heap (d + 1) cb sb 33 [o0, o1, o2, o3, o4, o5] [] h Q := by
  refine hs_iconst (v := 0) dX10_heap_33 (by decide) ?_
  refine hs_istK dX10_heap_34 (by decide) (hk_nk1 rfl ho3) rfl ?_
  exact k
theorem b_X10_heap_36 {G : hk_G} {d cb sb : Nat} {h : hk_H} {Q : hk_O → hk_H → Prop} {x4 : Int32} {r0 : Nat} {fs1 : List Value} {v3 : Int32} {o1 : Option Value} {o2 : Option Value} {o3 : Option Value} {o5 : Option Value} (hg2 : h.2 r0 = some (.inr (10, fs1))) (hv4 : fs1[4]? = some (.int v3)) (kt : v3 ≤ x4 → hk_S G m_X10_heap (d + 1) cb sb 93 [some (.ref r0), o1, o2, o3, some (.int x4), o5] [] h Q) (kf : ¬ v3 ≤ x4 → hk_S G m_X10_heap (d + 1) cb sb 45 [some (.ref r0), o1, o2, o3, some (.int x4), o5] [] h Q) : hk_S G m_X10_heap (d + 1) cb sb 36 [some (.ref r0), o1, o2, o3, some (.int x4), o5] [] h Q := by
  refine hs_iload dX10_heap_36 rfl ?_
  refine hs_aload_n dX10_heap_38 rfl ?_
  refine hs_get dX10_heap_39 fl_X10_113_10 hg2 hv4 ?_
  exact hs_icmp_ge dX10_heap_42 (by decide) kt kf
theorem b_X10_heap_45 {G : hk_G} {d cb sb : Nat} {h : hk_H} {Q : hk_O → hk_H → Prop} {o0 : Option Value} {o1 : Option Value} {o2 : Option Value} {o3 : Option Value} {o4 : Option Value} {o5 : Option Value} (k : hk_S G m_X10_heap (d + 1) cb sb 48 [o0, o1, o2, o3, o4, some (.int 0)] [] h Q) (ho4 : hk_c1 o4 := by first | exact hk_c1i | exact hk_c1r | exact hk_c10 | exact hk_c1n) : hk_S G m_X10_heap (d + 1) cb sb 45 [o0, o1, o2, o3, o4, o5] [] h Q := by
  refine hs_iconst (v := 0) dX10_heap_45 (by decide) ?_
  refine hs_istK dX10_heap_46 (by decide) (hk_nk1 rfl ho4) rfl ?_
  exact k
theorem b_X10_heap_48 {G : hk_G} {d cb sb : Nat} {h : hk_H} {Q : hk_O → hk_H → Prop} {x5 : Int32} {r0 : Nat} {fs1 : List Value} {v3 : Int32} {o1 : Option Value} {o2 : Option Value} {o3 : Option Value} {o4 : Option Value} (hg2 : h.2 r0 = some (.inr (10, fs1))) (hv4 : fs1[4]? = some (.int v3)) (kt : v3 ≤ x5 → hk_S G m_X10_heap (d + 1) cb sb 87 [some (.ref r0), o1, o2, o3, o4, some (.int x5)] [] h Q) (kf : ¬ v3 ≤ x5 → hk_S G m_X10_heap (d + 1) cb sb 57 [some (.ref r0), o1, o2, o3, o4, some (.int x5)] [] h Q) : hk_S G m_X10_heap (d + 1) cb sb 48 [some (.ref r0), o1, o2, o3, o4, some (.int x5)] [] h Q := by
  refine hs_iload dX10_heap_48 rfl ?_
  refine hs_aload_n dX10_heap_50 rfl ?_
  refine hs_get dX10_heap_51 fl_X10_113_10 hg2 hv4 ?_
  exact hs_icmp_ge dX10_heap_54 (by decide) kt kf
theorem b_X10_heap_57 {G : hk_G} {d cb sb : Nat} {h : hk_H} {Q : hk_O → hk_H → Prop} {r0 : Nat} {x2 : Int32} {x4 : Int32} {x5 : Int32} {fs_ : List Value} {o1 : Option Value} {o3 : Option Value} (hrec : h.2 r0 = some (.inr (10, fs_))) (hc : hk_Ci G m_X10_gains d 0 0 [.ref r0, .int x2, .int x4, .int x5] h (fun z h' => hk_S G m_X10_heap (d + 1) cb sb 66 [some (.ref r0), o1, some (.int x2), o3, some (.int x4), some (.int x5)] [.int z] h' Q)) : hk_S G m_X10_heap (d + 1) cb sb 57 [some (.ref r0), o1, some (.int x2), o3, some (.int x4), some (.int x5)] [] h Q := by
  refine hs_aload_n dX10_heap_57 rfl ?_
  refine hs_iload_n dX10_heap_58 rfl ?_
  refine hs_iload dX10_heap_59 rfl ?_
  refine hs_iload dX10_heap_61 rfl ?_
  exact hk_z0 (hs_vir (M' := m_X10_gains) (vs := [.int x2, .int x4, .int x5]) (c1 := 0) (s1 := 0) dX10_heap_63 wd_1329 vi_X10_gains hrec rfl (Nat.le_of_ble_eq_true rfl) hc hq_i (hc_i (fun z h9 k9 => k9)))
theorem b_X10_heap_66 {G : hk_G} {d cb sb : Nat} {h : hk_H} {Q : hk_O → hk_H → Prop} {s0 : Int32} {o0 : Option Value} {o1 : Option Value} {o2 : Option Value} {o3 : Option Value} {o4 : Option Value} {o5 : Option Value} (kt : s0 = 0 → hk_S G m_X10_heap (d + 1) cb sb 81 [o0, o1, o2, o3, o4, o5] [] h Q) (kf : ¬ s0 = 0 → hk_S G m_X10_heap (d + 1) cb sb 69 [o0, o1, o2, o3, o4, o5] [] h Q) : hk_S G m_X10_heap (d + 1) cb sb 66 [o0, o1, o2, o3, o4, o5] [.int s0] h Q := by
  exact hs_if_eq dX10_heap_66 (by decide) kt kf
theorem b_X10_heap_69 {G : hk_G} {d cb sb : Nat} {h : hk_H} {Q : hk_O → hk_H → Prop} {x3 : Int32} {o0 : Option Value} {o1 : Option Value} {o2 : Option Value} {o4 : Option Value} {o5 : Option Value} (kt : x3 = 0 → hk_S G m_X10_heap (d + 1) cb sb 78 [o0, o1, o2, some (.int x3), o4, o5] [] h Q) (kf : ¬ x3 = 0 → hk_S G m_X10_heap (d + 1) cb sb 73 [o0, o1, o2, some (.int x3), o4, o5] [] h Q) : hk_S G m_X10_heap (d + 1) cb sb 69 [o0, o1, o2, some (.int x3), o4, o5] [] h Q := by
  refine hs_iload_n dX10_heap_69 rfl ?_
  exact hs_if_eq dX10_heap_70 (by decide) kt kf
theorem b_X10_heap_73 {G : hk_G} {d cb sb : Nat} {h : hk_H} {Q : hk_O → hk_H → Prop} {x5 : Int32} {o0 : Option Value} {o1 : Option Value} {o2 : Option Value} {o3 : Option Value} {o4 : Option Value} (hq : Q (.inl (some (.int x5))) h) : hk_S G m_X10_heap (d + 1) cb sb 73 [o0, o1, o2, o3, o4, some (.int x5)] [] h Q := by
  refine hs_iload dX10_heap_73 rfl ?_
  refine hs_goto dX10_heap_75 (tgt := 80) (by decide) ?_
  exact hs_iret dX10_heap_80 rfl hq
theorem b_X10_heap_78 {G : hk_G} {d cb sb : Nat} {h : hk_H} {Q : hk_O → hk_H → Prop} {x4 : Int32} {o0 : Option Value} {o1 : Option Value} {o2 : Option Value} {o3 : Option Value} {o5 : Option Value} (hq : Q (.inl (some (.int x4))) h) : hk_S G m_X10_heap (d + 1) cb sb 78 [o0, o1, o2, o3, some (.int x4), o5] [] h Q := by
  refine hs_iload dX10_heap_78 rfl ?_
  exact hs_iret dX10_heap_80 rfl hq
theorem b_X10_heap_80 {G : hk_G} {d cb sb : Nat} {h : hk_H} {Q : hk_O → hk_H → Prop} {s0 : Int32} {o0 : Option Value} {o1 : Option Value} {o2 : Option Value} {o3 : Option Value} {o4 : Option Value} {o5 : Option Value} (hq : Q (.inl (some (.int s0))) h) : hk_S G m_X10_heap (d + 1) cb sb 80 [o0, o1, o2, o3, o4, o5] [.int s0] h Q := by
  exact hs_iret dX10_heap_80 rfl hq
theorem b_X10_heap_81 {G : hk_G} {d cb sb : Nat} {h : hk_H} {Q : hk_O → hk_H → Prop} {x5 : Int32} {o0 : Option Value} {o1 : Option Value} {o2 : Option Value} {o3 : Option Value} {o4 : Option Value} (k : hk_S G m_X10_heap (d + 1) cb sb 48 [o0, o1, o2, o3, o4, some (.int (x5 + 1))] [] h Q) (ho4 : hk_c1 o4 := by first | exact hk_c1i | exact hk_c1r | exact hk_c10 | exact hk_c1n) : hk_S G m_X10_heap (d + 1) cb sb 81 [o0, o1, o2, o3, o4, some (.int x5)] [] h Q := by
  refine hs_iincK (v := 1) dX10_heap_81 rfl (by decide) (by decide) (hk_nk1 rfl ho4) rfl ?_
  refine hs_goto dX10_heap_84 (tgt := 48) (by decide) ?_
  exact k
theorem b_X10_heap_87 {G : hk_G} {d cb sb : Nat} {h : hk_H} {Q : hk_O → hk_H → Prop} {x4 : Int32} {o0 : Option Value} {o1 : Option Value} {o2 : Option Value} {o3 : Option Value} {o5 : Option Value} (k : hk_S G m_X10_heap (d + 1) cb sb 36 [o0, o1, o2, o3, some (.int (x4 + 1)), o5] [] h Q) (ho3 : hk_c1 o3 := by first | exact hk_c1i | exact hk_c1r | exact hk_c10 | exact hk_c1n) : hk_S G m_X10_heap (d + 1) cb sb 87 [o0, o1, o2, o3, some (.int x4), o5] [] h Q := by
  refine hs_iincK (v := 1) dX10_heap_87 rfl (by decide) (by decide) (hk_nk1 rfl ho3) rfl ?_
  refine hs_goto dX10_heap_90 (tgt := 36) (by decide) ?_
  exact k
theorem b_X10_heap_93 {G : hk_G} {d cb sb : Nat} {h : hk_H} {Q : hk_O → hk_H → Prop} {o0 : Option Value} {o1 : Option Value} {o2 : Option Value} {o3 : Option Value} {o4 : Option Value} {o5 : Option Value} (hq : Q (.inl (some (.int ((-2))))) h) : hk_S G m_X10_heap (d + 1) cb sb 93 [o0, o1, o2, o3, o4, o5] [] h Q := by
  refine hs_bipush (v := (-2)) dX10_heap_93 (by decide) ?_
  exact hs_iret dX10_heap_95 rfl hq
-- HonestHouseModel.onto(I)I
theorem b_X10_onto_0 {G : hk_G} {d cb sb : Nat} {h : hk_H} {Q : hk_O → hk_H → Prop} {x1 : Int32} {r0 : Nat} {fs1 : List Value} {v3 : Int32} {o2 : Option Value} {o3 : Option Value} {o4 : Option Value} (hg2 : h.2 r0 = some (.inr (10, fs1))) (hv4 : fs1[3]? = some (.int v3)) (hc : hk_Ci G m_X10_isIn d 0 0 [.int x1, .int v3] h (fun z h' => hk_S G m_X10_onto (d + 1) cb sb 8 [some (.ref r0), some (.int x1), o2, o3, o4] [.int z] h' Q)) : hk_S G m_X10_onto (d + 1) cb sb 0 [some (.ref r0), some (.int x1), o2, o3, o4] [] h Q := by
  refine hs_iload_n dX10_onto_0 rfl ?_
  refine hs_aload_n dX10_onto_1 rfl ?_
  refine hs_get dX10_onto_2 fl_X10_116_10 hg2 hv4 ?_
  exact hk_z0 (hs_sta (M' := m_X10_isIn) (vs := [.int x1, .int v3]) (c1 := 0) (s1 := 0) dX10_onto_5 wd_1226 st_X10_isIn rfl (Nat.le_of_ble_eq_true rfl) hc hq_i (hc_i (fun z h9 k9 => k9)))
theorem b_X10_onto_8 {G : hk_G} {d cb sb : Nat} {h : hk_H} {Q : hk_O → hk_H → Prop} {s0 : Int32} {o0 : Option Value} {o1 : Option Value} {o2 : Option Value} {o3 : Option Value} {o4 : Option Value} (kt : ¬ s0 = 0 → hk_S G m_X10_onto (d + 1) cb sb 13 [o0, o1, o2, o3, o4] [] h Q) (kf : s0 = 0 → hk_S G m_X10_onto (d + 1) cb sb 11 [o0, o1, o2, o3, o4] [] h Q) : hk_S G m_X10_onto (d + 1) cb sb 8 [o0, o1, o2, o3, o4] [.int s0] h Q := by
  exact hs_if_ne dX10_onto_8 (by decide) kt kf
theorem b_X10_onto_11 {G : hk_G} {d cb sb : Nat} {h : hk_H} {Q : hk_O → hk_H → Prop} {o0 : Option Value} {o1 : Option Value} {o2 : Option Value} {o3 : Option Value} {o4 : Option Value} (hq : Q (.inl (some (.int ((-1))))) h) : hk_S G m_X10_onto (d + 1) cb sb 11 [o0, o1, o2, o3, o4] [] h Q := by
  refine hs_iconst (v := (-1)) dX10_onto_11 (by decide) ?_
  exact hs_iret dX10_onto_12 rfl hq
theorem b_X10_onto_13 {G : hk_G} {d cb sb : Nat} {h : hk_H} {Q : hk_O → hk_H → Prop} {o0 : Option Value} {o1 : Option Value} {o2 : Option Value} {o3 : Option Value} {o4 : Option Value} (k : hk_S G m_X10_onto (d + 1) cb sb 17 [o0, o1, some (.int 0), some (.int 0), o4] [] h Q) (ho1 : hk_c1 o1 := by first | exact hk_c1i | exact hk_c1r | exact hk_c10 | exact hk_c1n) : hk_S G m_X10_onto (d + 1) cb sb 13 [o0, o1, o2, o3, o4] [] h Q := by
  refine hs_iconst (v := 0) dX10_onto_13 (by decide) ?_
  refine hs_istK_n dX10_onto_14 (by decide) (hk_nk1 rfl ho1) rfl ?_
  refine hs_iconst (v := 0) dX10_onto_15 (by decide) ?_
  refine hs_istK_n dX10_onto_16 (by decide) (hk_nk1 rfl hk_c1i) rfl ?_
  exact k
theorem b_X10_onto_17 {G : hk_G} {d cb sb : Nat} {h : hk_H} {Q : hk_O → hk_H → Prop} {x3 : Int32} {r0 : Nat} {fs1 : List Value} {v3 : Int32} {o1 : Option Value} {o2 : Option Value} {o4 : Option Value} (hg2 : h.2 r0 = some (.inr (10, fs1))) (hv4 : fs1[4]? = some (.int v3)) (kt : v3 ≤ x3 → hk_S G m_X10_onto (d + 1) cb sb 42 [some (.ref r0), o1, o2, some (.int x3), o4] [] h Q) (kf : ¬ v3 ≤ x3 → hk_S G m_X10_onto (d + 1) cb sb 25 [some (.ref r0), o1, o2, some (.int x3), o4] [] h Q) : hk_S G m_X10_onto (d + 1) cb sb 17 [some (.ref r0), o1, o2, some (.int x3), o4] [] h Q := by
  refine hs_iload_n dX10_onto_17 rfl ?_
  refine hs_aload_n dX10_onto_18 rfl ?_
  refine hs_get dX10_onto_19 fl_X10_113_10 hg2 hv4 ?_
  exact hs_icmp_ge dX10_onto_22 (by decide) kt kf
theorem b_X10_onto_25 {G : hk_G} {d cb sb : Nat} {h : hk_H} {Q : hk_O → hk_H → Prop} {x2 : Int32} {r0 : Nat} {x1 : Int32} {x3 : Int32} {fs_ : List Value} {o4 : Option Value} (hrec : h.2 r0 = some (.inr (10, fs_))) (hc : hk_Ci G m_X10_ends d 0 0 [.ref r0, .int x1, .int x3] h (fun z h' => hk_S G m_X10_onto (d + 1) cb sb 33 [some (.ref r0), some (.int x1), some (.int x2), some (.int x3), o4] [.int z, .int 1, .int x2] h' Q)) : hk_S G m_X10_onto (d + 1) cb sb 25 [some (.ref r0), some (.int x1), some (.int x2), some (.int x3), o4] [] h Q := by
  refine hs_iload_n dX10_onto_25 rfl ?_
  refine hs_iconst (v := 1) dX10_onto_26 (by decide) ?_
  refine hs_aload_n dX10_onto_27 rfl ?_
  refine hs_iload_n dX10_onto_28 rfl ?_
  refine hs_iload_n dX10_onto_29 rfl ?_
  exact hk_z0 (hs_vir (M' := m_X10_ends) (vs := [.int x1, .int x3]) (c1 := 0) (s1 := 0) dX10_onto_30 wd_1257 vi_X10_ends hrec rfl (Nat.le_of_ble_eq_true rfl) hc hq_i (hc_i (fun z h9 k9 => k9)))
theorem b_X10_onto_33 {G : hk_G} {d cb sb : Nat} {h : hk_H} {Q : hk_O → hk_H → Prop} {s0 : Int32} {s1 : Int32} {s2 : Int32} {x3 : Int32} {o0 : Option Value} {o1 : Option Value} {o2 : Option Value} {o4 : Option Value} (k : hk_S G m_X10_onto (d + 1) cb sb 17 [o0, o1, some (.int (s0 ||| (s1 <<< (s2 &&& 31)))), some (.int (x3 + 1)), o4] [] h Q) (ho1 : hk_c1 o1 := by first | exact hk_c1i | exact hk_c1r | exact hk_c10 | exact hk_c1n) : hk_S G m_X10_onto (d + 1) cb sb 33 [o0, o1, o2, some (.int x3), o4] [.int s2, .int s1, .int s0] h Q := by
  refine hs_ishl dX10_onto_33 ?_
  refine hs_ior dX10_onto_34 ?_
  refine hs_istK_n dX10_onto_35 (by decide) (hk_nk1 rfl ho1) rfl ?_
  refine hs_iincK (v := 1) dX10_onto_36 rfl (by decide) (by decide) (hk_nk1 rfl hk_c1i) rfl ?_
  refine hs_goto dX10_onto_39 (tgt := 17) (by decide) ?_
  exact k
theorem b_X10_onto_42 {G : hk_G} {d cb sb : Nat} {h : hk_H} {Q : hk_O → hk_H → Prop} {o0 : Option Value} {o1 : Option Value} {o2 : Option Value} {o3 : Option Value} {o4 : Option Value} (k : hk_S G m_X10_onto (d + 1) cb sb 47 [o0, o1, o2, some (.int 0), some (.int 0)] [] h Q) (ho2 : hk_c1 o2 := by first | exact hk_c1i | exact hk_c1r | exact hk_c10 | exact hk_c1n) : hk_S G m_X10_onto (d + 1) cb sb 42 [o0, o1, o2, o3, o4] [] h Q := by
  refine hs_iconst (v := 0) dX10_onto_42 (by decide) ?_
  refine hs_istK_n dX10_onto_43 (by decide) (hk_nk1 rfl ho2) rfl ?_
  refine hs_iconst (v := 0) dX10_onto_44 (by decide) ?_
  refine hs_istK dX10_onto_45 (by decide) (hk_nk1 rfl hk_c1i) rfl ?_
  exact k
theorem b_X10_onto_47 {G : hk_G} {d cb sb : Nat} {h : hk_H} {Q : hk_O → hk_H → Prop} {x4 : Int32} {r0 : Nat} {fs1 : List Value} {v3 : Int32} {o1 : Option Value} {o2 : Option Value} {o3 : Option Value} (hg2 : h.2 r0 = some (.inr (10, fs1))) (hv4 : fs1[1]? = some (.int v3)) (kt : v3 ≤ x4 → hk_S G m_X10_onto (d + 1) cb sb 71 [some (.ref r0), o1, o2, o3, some (.int x4)] [] h Q) (kf : ¬ v3 ≤ x4 → hk_S G m_X10_onto (d + 1) cb sb 56 [some (.ref r0), o1, o2, o3, some (.int x4)] [] h Q) : hk_S G m_X10_onto (d + 1) cb sb 47 [some (.ref r0), o1, o2, o3, some (.int x4)] [] h Q := by
  refine hs_iload dX10_onto_47 rfl ?_
  refine hs_aload_n dX10_onto_49 rfl ?_
  refine hs_get dX10_onto_50 fl_X10_101_10 hg2 hv4 ?_
  exact hs_icmp_ge dX10_onto_53 (by decide) kt kf
theorem b_X10_onto_56 {G : hk_G} {d cb sb : Nat} {h : hk_H} {Q : hk_O → hk_H → Prop} {x3 : Int32} {x2 : Int32} {x4 : Int32} {o0 : Option Value} {o1 : Option Value} (k : hk_S G m_X10_onto (d + 1) cb sb 47 [o0, o1, some (.int x2), some (.int (x3 + ((x2 >>> (x4 &&& 31)) &&& 1))), some (.int (x4 + 1))] [] h Q) : hk_S G m_X10_onto (d + 1) cb sb 56 [o0, o1, some (.int x2), some (.int x3), some (.int x4)] [] h Q := by
  refine hs_iload_n dX10_onto_56 rfl ?_
  refine hs_iload_n dX10_onto_57 rfl ?_
  refine hs_iload dX10_onto_58 rfl ?_
  refine hs_ishr dX10_onto_60 ?_
  refine hs_iconst (v := 1) dX10_onto_61 (by decide) ?_
  refine hs_iand dX10_onto_62 ?_
  refine hs_iadd dX10_onto_63 ?_
  refine hs_istK_n dX10_onto_64 (by decide) (hk_nk1 rfl hk_c1i) rfl ?_
  refine hs_iincK (v := 1) dX10_onto_65 rfl (by decide) (by decide) (hk_nk1 rfl hk_c1i) rfl ?_
  refine hs_goto dX10_onto_68 (tgt := 47) (by decide) ?_
  exact k
theorem b_X10_onto_71 {G : hk_G} {d cb sb : Nat} {h : hk_H} {Q : hk_O → hk_H → Prop} {x3 : Int32} {o0 : Option Value} {o1 : Option Value} {o2 : Option Value} {o4 : Option Value} (hq : Q (.inl (some (.int x3))) h) : hk_S G m_X10_onto (d + 1) cb sb 71 [o0, o1, o2, some (.int x3), o4] [] h Q := by
  refine hs_iload_n dX10_onto_71 rfl ?_
  exact hs_iret dX10_onto_72 rfl hq
-- HonestHouseModel.dictator(I)I
theorem b_X10_dictator_0 {G : hk_G} {d cb sb : Nat} {h : hk_H} {Q : hk_O → hk_H → Prop} {x1 : Int32} {r0 : Nat} {fs1 : List Value} {v3 : Int32} {o2 : Option Value} {o3 : Option Value} {o4 : Option Value} (hg2 : h.2 r0 = some (.inr (10, fs1))) (hv4 : fs1[3]? = some (.int v3)) (hc : hk_Ci G m_X10_isIn d 0 0 [.int x1, .int v3] h (fun z h' => hk_S G m_X10_dictator (d + 1) cb sb 8 [some (.ref r0), some (.int x1), o2, o3, o4] [.int z] h' Q)) : hk_S G m_X10_dictator (d + 1) cb sb 0 [some (.ref r0), some (.int x1), o2, o3, o4] [] h Q := by
  refine hs_iload_n dX10_dictator_0 rfl ?_
  refine hs_aload_n dX10_dictator_1 rfl ?_
  refine hs_get dX10_dictator_2 fl_X10_116_10 hg2 hv4 ?_
  exact hk_z0 (hs_sta (M' := m_X10_isIn) (vs := [.int x1, .int v3]) (c1 := 0) (s1 := 0) dX10_dictator_5 wd_1226 st_X10_isIn rfl (Nat.le_of_ble_eq_true rfl) hc hq_i (hc_i (fun z h9 k9 => k9)))
theorem b_X10_dictator_8 {G : hk_G} {d cb sb : Nat} {h : hk_H} {Q : hk_O → hk_H → Prop} {s0 : Int32} {o0 : Option Value} {o1 : Option Value} {o2 : Option Value} {o3 : Option Value} {o4 : Option Value} (kt : ¬ s0 = 0 → hk_S G m_X10_dictator (d + 1) cb sb 13 [o0, o1, o2, o3, o4] [] h Q) (kf : s0 = 0 → hk_S G m_X10_dictator (d + 1) cb sb 11 [o0, o1, o2, o3, o4] [] h Q) : hk_S G m_X10_dictator (d + 1) cb sb 8 [o0, o1, o2, o3, o4] [.int s0] h Q := by
  exact hs_if_ne dX10_dictator_8 (by decide) kt kf
theorem b_X10_dictator_11 {G : hk_G} {d cb sb : Nat} {h : hk_H} {Q : hk_O → hk_H → Prop} {o0 : Option Value} {o1 : Option Value} {o2 : Option Value} {o3 : Option Value} {o4 : Option Value} (hq : Q (.inl (some (.int ((-1))))) h) : hk_S G m_X10_dictator (d + 1) cb sb 11 [o0, o1, o2, o3, o4] [] h Q := by
  refine hs_iconst (v := (-1)) dX10_dictator_11 (by decide) ?_
  exact hs_iret dX10_dictator_12 rfl hq
theorem b_X10_dictator_13 {G : hk_G} {d cb sb : Nat} {h : hk_H} {Q : hk_O → hk_H → Prop} {o0 : Option Value} {o1 : Option Value} {o2 : Option Value} {o3 : Option Value} {o4 : Option Value} (k : hk_S G m_X10_dictator (d + 1) cb sb 15 [o0, o1, some (.int 0), o3, o4] [] h Q) (ho1 : hk_c1 o1 := by first | exact hk_c1i | exact hk_c1r | exact hk_c10 | exact hk_c1n) : hk_S G m_X10_dictator (d + 1) cb sb 13 [o0, o1, o2, o3, o4] [] h Q := by
  refine hs_iconst (v := 0) dX10_dictator_13 (by decide) ?_
  refine hs_istK_n dX10_dictator_14 (by decide) (hk_nk1 rfl ho1) rfl ?_
  exact k
theorem b_X10_dictator_15 {G : hk_G} {d cb sb : Nat} {h : hk_H} {Q : hk_O → hk_H → Prop} {x2 : Int32} {r0 : Nat} {fs1 : List Value} {v3 : Int32} {o1 : Option Value} {o3 : Option Value} {o4 : Option Value} (hg2 : h.2 r0 = some (.inr (10, fs1))) (hv4 : fs1[0]? = some (.int v3)) (kt : v3 ≤ x2 → hk_S G m_X10_dictator (d + 1) cb sb 86 [some (.ref r0), o1, some (.int x2), o3, o4] [] h Q) (kf : ¬ v3 ≤ x2 → hk_S G m_X10_dictator (d + 1) cb sb 23 [some (.ref r0), o1, some (.int x2), o3, o4] [] h Q) : hk_S G m_X10_dictator (d + 1) cb sb 15 [some (.ref r0), o1, some (.int x2), o3, o4] [] h Q := by
  refine hs_iload_n dX10_dictator_15 rfl ?_
  refine hs_aload_n dX10_dictator_16 rfl ?_
  refine hs_get dX10_dictator_17 fl_X10_97_10 hg2 hv4 ?_
  exact hs_icmp_ge dX10_dictator_20 (by decide) kt kf
theorem b_X10_dictator_23 {G : hk_G} {d cb sb : Nat} {h : hk_H} {Q : hk_O → hk_H → Prop} {o0 : Option Value} {o1 : Option Value} {o2 : Option Value} {o3 : Option Value} {o4 : Option Value} (k : hk_S G m_X10_dictator (d + 1) cb sb 28 [o0, o1, o2, some (.int 1), some (.int 0)] [] h Q) (ho2 : hk_c1 o2 := by first | exact hk_c1i | exact hk_c1r | exact hk_c10 | exact hk_c1n) : hk_S G m_X10_dictator (d + 1) cb sb 23 [o0, o1, o2, o3, o4] [] h Q := by
  refine hs_iconst (v := 1) dX10_dictator_23 (by decide) ?_
  refine hs_istK_n dX10_dictator_24 (by decide) (hk_nk1 rfl ho2) rfl ?_
  refine hs_iconst (v := 0) dX10_dictator_25 (by decide) ?_
  refine hs_istK dX10_dictator_26 (by decide) (hk_nk1 rfl hk_c1i) rfl ?_
  exact k
theorem b_X10_dictator_28 {G : hk_G} {d cb sb : Nat} {h : hk_H} {Q : hk_O → hk_H → Prop} {x4 : Int32} {r0 : Nat} {fs1 : List Value} {v3 : Int32} {o1 : Option Value} {o2 : Option Value} {o3 : Option Value} (hg2 : h.2 r0 = some (.inr (10, fs1))) (hv4 : fs1[4]? = some (.int v3)) (kt : v3 ≤ x4 → hk_S G m_X10_dictator (d + 1) cb sb 74 [some (.ref r0), o1, o2, o3, some (.int x4)] [] h Q) (kf : ¬ v3 ≤ x4 → hk_S G m_X10_dictator (d + 1) cb sb 37 [some (.ref r0), o1, o2, o3, some (.int x4)] [] h Q) : hk_S G m_X10_dictator (d + 1) cb sb 28 [some (.ref r0), o1, o2, o3, some (.int x4)] [] h Q := by
  refine hs_iload dX10_dictator_28 rfl ?_
  refine hs_aload_n dX10_dictator_30 rfl ?_
  refine hs_get dX10_dictator_31 fl_X10_113_10 hg2 hv4 ?_
  exact hs_icmp_ge dX10_dictator_34 (by decide) kt kf
theorem b_X10_dictator_37 {G : hk_G} {d cb sb : Nat} {h : hk_H} {Q : hk_O → hk_H → Prop} {x3 : Int32} {o0 : Option Value} {o1 : Option Value} {o2 : Option Value} {o4 : Option Value} (kt : x3 = 0 → hk_S G m_X10_dictator (d + 1) cb sb 74 [o0, o1, o2, some (.int x3), o4] [] h Q) (kf : ¬ x3 = 0 → hk_S G m_X10_dictator (d + 1) cb sb 41 [o0, o1, o2, some (.int x3), o4] [] h Q) : hk_S G m_X10_dictator (d + 1) cb sb 37 [o0, o1, o2, some (.int x3), o4] [] h Q := by
  refine hs_iload_n dX10_dictator_37 rfl ?_
  exact hs_if_eq dX10_dictator_38 (by decide) kt kf
theorem b_X10_dictator_41 {G : hk_G} {d cb sb : Nat} {h : hk_H} {Q : hk_O → hk_H → Prop} {r0 : Nat} {x1 : Int32} {x4 : Int32} {fs_ : List Value} {o2 : Option Value} {o3 : Option Value} (hrec : h.2 r0 = some (.inr (10, fs_))) (hc : hk_Ci G m_X10_ends d 0 0 [.ref r0, .int x1, .int x4] h (fun z h' => hk_S G m_X10_dictator (d + 1) cb sb 48 [some (.ref r0), some (.int x1), o2, o3, some (.int x4)] [.int z] h' Q)) : hk_S G m_X10_dictator (d + 1) cb sb 41 [some (.ref r0), some (.int x1), o2, o3, some (.int x4)] [] h Q := by
  refine hs_aload_n dX10_dictator_41 rfl ?_
  refine hs_iload_n dX10_dictator_42 rfl ?_
  refine hs_iload dX10_dictator_43 rfl ?_
  exact hk_z0 (hs_vir (M' := m_X10_ends) (vs := [.int x1, .int x4]) (c1 := 0) (s1 := 0) dX10_dictator_45 wd_1257 vi_X10_ends hrec rfl (Nat.le_of_ble_eq_true rfl) hc hq_i (hc_i (fun z h9 k9 => k9)))
theorem b_X10_dictator_48 {G : hk_G} {d cb sb : Nat} {h : hk_H} {Q : hk_O → hk_H → Prop} {s0 : Int32} {r0 : Nat} {x4 : Int32} {x2 : Int32} {fs_ : List Value} {o1 : Option Value} {o3 : Option Value} (hrec : h.2 r0 = some (.inr (10, fs_))) (hc : hk_Ci G m_X10_wishOf d 0 0 [.ref r0, .int x4, .int x2] h (fun z h' => hk_S G m_X10_dictator (d + 1) cb sb 56 [some (.ref r0), o1, some (.int x2), o3, some (.int x4)] [.int z, .ref r0, .int s0] h' Q)) : hk_S G m_X10_dictator (d + 1) cb sb 48 [some (.ref r0), o1, some (.int x2), o3, some (.int x4)] [.int s0] h Q := by
  refine hs_aload_n dX10_dictator_48 rfl ?_
  refine hs_aload_n dX10_dictator_49 rfl ?_
  refine hs_iload dX10_dictator_50 rfl ?_
  refine hs_iload_n dX10_dictator_52 rfl ?_
  exact hk_z0 (hs_vir (M' := m_X10_wishOf) (vs := [.int x4, .int x2]) (c1 := 0) (s1 := 0) dX10_dictator_53 wd_1269 vi_X10_wishOf hrec rfl (Nat.le_of_ble_eq_true rfl) hc hq_i (hc_i (fun z h9 k9 => k9)))
theorem b_X10_dictator_56 {G : hk_G} {d cb sb : Nat} {h : hk_H} {Q : hk_O → hk_H → Prop} {s0 : Int32} {s1 : Nat} {s2 : Int32} {fs_ : List Value} {o0 : Option Value} {o1 : Option Value} {o2 : Option Value} {o3 : Option Value} {o4 : Option Value} (hrec : h.2 s1 = some (.inr (10, fs_))) (hc : hk_Ci G m_X10_top d 0 0 [.ref s1, .int s2] h (fun z h' => hk_S G m_X10_dictator (d + 1) cb sb 59 [o0, o1, o2, o3, o4] [.int z, .int s0] h' Q)) : hk_S G m_X10_dictator (d + 1) cb sb 56 [o0, o1, o2, o3, o4] [.int s2, .ref s1, .int s0] h Q := by
  exact hk_z0 (hs_vir (M' := m_X10_top) (vs := [.int s2]) (c1 := 0) (s1 := 0) dX10_dictator_56 wd_1277 vi_X10_top hrec rfl (Nat.le_of_ble_eq_true rfl) hc hq_i (hc_i (fun z h9 k9 => k9)))
theorem b_X10_dictator_59 {G : hk_G} {d cb sb : Nat} {h : hk_H} {Q : hk_O → hk_H → Prop} {s0 : Int32} {s1 : Int32} {o0 : Option Value} {o1 : Option Value} {o2 : Option Value} {o3 : Option Value} {o4 : Option Value} (kt : ¬ s0 = s1 → hk_S G m_X10_dictator (d + 1) cb sb 66 [o0, o1, o2, o3, o4] [] h Q) (kf : s0 = s1 → hk_S G m_X10_dictator (d + 1) cb sb 62 [o0, o1, o2, o3, o4] [] h Q) : hk_S G m_X10_dictator (d + 1) cb sb 59 [o0, o1, o2, o3, o4] [.int s1, .int s0] h Q := by
  exact hs_icmp_ne dX10_dictator_59 (by decide) kt kf
theorem b_X10_dictator_62 {G : hk_G} {d cb sb : Nat} {h : hk_H} {Q : hk_O → hk_H → Prop} {x4 : Int32} {o0 : Option Value} {o1 : Option Value} {o2 : Option Value} {o3 : Option Value} (k : hk_S G m_X10_dictator (d + 1) cb sb 28 [o0, o1, o2, some (.int 1), some (.int (x4 + 1))] [] h Q) (ho2 : hk_c1 o2 := by first | exact hk_c1i | exact hk_c1r | exact hk_c10 | exact hk_c1n) : hk_S G m_X10_dictator (d + 1) cb sb 62 [o0, o1, o2, o3, some (.int x4)] [] h Q := by
  refine hs_iconst (v := 1) dX10_dictator_62 (by decide) ?_
  refine hs_goto dX10_dictator_63 (tgt := 67) (by decide) ?_
  refine hs_istK_n dX10_dictator_67 (by decide) (hk_nk1 rfl ho2) rfl ?_
  refine hs_iincK (v := 1) dX10_dictator_68 rfl (by decide) (by decide) (hk_nk1 rfl hk_c1i) rfl ?_
  refine hs_goto dX10_dictator_71 (tgt := 28) (by decide) ?_
  exact k
theorem b_X10_dictator_66 {G : hk_G} {d cb sb : Nat} {h : hk_H} {Q : hk_O → hk_H → Prop} {x4 : Int32} {o0 : Option Value} {o1 : Option Value} {o2 : Option Value} {o3 : Option Value} (k : hk_S G m_X10_dictator (d + 1) cb sb 28 [o0, o1, o2, some (.int 0), some (.int (x4 + 1))] [] h Q) (ho2 : hk_c1 o2 := by first | exact hk_c1i | exact hk_c1r | exact hk_c10 | exact hk_c1n) : hk_S G m_X10_dictator (d + 1) cb sb 66 [o0, o1, o2, o3, some (.int x4)] [] h Q := by
  refine hs_iconst (v := 0) dX10_dictator_66 (by decide) ?_
  refine hs_istK_n dX10_dictator_67 (by decide) (hk_nk1 rfl ho2) rfl ?_
  refine hs_iincK (v := 1) dX10_dictator_68 rfl (by decide) (by decide) (hk_nk1 rfl hk_c1i) rfl ?_
  refine hs_goto dX10_dictator_71 (tgt := 28) (by decide) ?_
  exact k
theorem b_X10_dictator_67 {G : hk_G} {d cb sb : Nat} {h : hk_H} {Q : hk_O → hk_H → Prop} {s0 : Int32} {x4 : Int32} {o0 : Option Value} {o1 : Option Value} {o2 : Option Value} {o3 : Option Value} (k : hk_S G m_X10_dictator (d + 1) cb sb 28 [o0, o1, o2, some (.int s0), some (.int (x4 + 1))] [] h Q) (ho2 : hk_c1 o2 := by first | exact hk_c1i | exact hk_c1r | exact hk_c10 | exact hk_c1n) : hk_S G m_X10_dictator (d + 1) cb sb 67 [o0, o1, o2, o3, some (.int x4)] [.int s0] h Q := by
  refine hs_istK_n dX10_dictator_67 (by decide) (hk_nk1 rfl ho2) rfl ?_
  refine hs_iincK (v := 1) dX10_dictator_68 rfl (by decide) (by decide) (hk_nk1 rfl hk_c1i) rfl ?_
  refine hs_goto dX10_dictator_71 (tgt := 28) (by decide) ?_
  exact k
theorem b_X10_dictator_74 {G : hk_G} {d cb sb : Nat} {h : hk_H} {Q : hk_O → hk_H → Prop} {x3 : Int32} {o0 : Option Value} {o1 : Option Value} {o2 : Option Value} {o4 : Option Value} (kt : x3 = 0 → hk_S G m_X10_dictator (d + 1) cb sb 80 [o0, o1, o2, some (.int x3), o4] [] h Q) (kf : ¬ x3 = 0 → hk_S G m_X10_dictator (d + 1) cb sb 78 [o0, o1, o2, some (.int x3), o4] [] h Q) : hk_S G m_X10_dictator (d + 1) cb sb 74 [o0, o1, o2, some (.int x3), o4] [] h Q := by
  refine hs_iload_n dX10_dictator_74 rfl ?_
  exact hs_if_eq dX10_dictator_75 (by decide) kt kf
theorem b_X10_dictator_78 {G : hk_G} {d cb sb : Nat} {h : hk_H} {Q : hk_O → hk_H → Prop} {x2 : Int32} {o0 : Option Value} {o1 : Option Value} {o3 : Option Value} {o4 : Option Value} (hq : Q (.inl (some (.int x2))) h) : hk_S G m_X10_dictator (d + 1) cb sb 78 [o0, o1, some (.int x2), o3, o4] [] h Q := by
  refine hs_iload_n dX10_dictator_78 rfl ?_
  exact hs_iret dX10_dictator_79 rfl hq
theorem b_X10_dictator_80 {G : hk_G} {d cb sb : Nat} {h : hk_H} {Q : hk_O → hk_H → Prop} {x2 : Int32} {o0 : Option Value} {o1 : Option Value} {o3 : Option Value} {o4 : Option Value} (k : hk_S G m_X10_dictator (d + 1) cb sb 15 [o0, o1, some (.int (x2 + 1)), o3, o4] [] h Q) (ho1 : hk_c1 o1 := by first | exact hk_c1i | exact hk_c1r | exact hk_c10 | exact hk_c1n) : hk_S G m_X10_dictator (d + 1) cb sb 80 [o0, o1, some (.int x2), o3, o4] [] h Q := by
  refine hs_iincK (v := 1) dX10_dictator_80 rfl (by decide) (by decide) (hk_nk1 rfl ho1) rfl ?_
  refine hs_goto dX10_dictator_83 (tgt := 15) (by decide) ?_
  exact k
theorem b_X10_dictator_86 {G : hk_G} {d cb sb : Nat} {h : hk_H} {Q : hk_O → hk_H → Prop} {o0 : Option Value} {o1 : Option Value} {o2 : Option Value} {o3 : Option Value} {o4 : Option Value} (hq : Q (.inl (some (.int ((-2))))) h) : hk_S G m_X10_dictator (d + 1) cb sb 86 [o0, o1, o2, o3, o4] [] h Q := by
  refine hs_bipush (v := (-2)) dX10_dictator_86 (by decide) ?_
  exact hs_iret dX10_dictator_88 rfl hq
-- HonestHouseModel.budget(IZ)J
theorem b_X10_budget_0 {G : hk_G} {d cb sb : Nat} {h : hk_H} {Q : hk_O → hk_H → Prop} {r0 : Nat} {fs1 : List Value} {h_1 : hk_H} {x1 : Int32} {fs4 : List Value} {v6 : Int32} {o2 : Option Value} {o3 : Option Value} {o4 : Option Value} {o5 : Option Value} {o6 : Option Value} {o7 : Option Value} {o8 : Option Value} (hg2 : h.2 r0 = some (.inr (10, fs1))) (h4_r0 : 4 ≤ r0) (e_1 : (hk_set h r0 (.inr (10, fs1.set 13 (.int 0)))) = h_1) (hg5 : h_1.2 r0 = some (.inr (10, fs4))) (hv7 : fs4[3]? = some (.int v6)) (hc : hk_Ci G m_X10_isIn d 0 0 [.int x1, .int v6] h_1 (fun z h' => hk_S G m_X10_budget (d + 1) cb sb 13 [some (.ref r0), some (.int x1), o2, o3, o4, o5, o6, o7, o8] [.int z] h' Q)) (hl3 : 13 < fs1.length := by exact Nat.le_of_ble_eq_true rfl) : hk_S G m_X10_budget (d + 1) cb sb 0 [some (.ref r0), some (.int x1), o2, o3, o4, o5, o6, o7, o8] [] h Q := by
  subst e_1
  refine hs_aload_n dX10_budget_0 rfl ?_
  refine hs_iconst (v := 0) dX10_budget_1 (by decide) ?_
  refine hs_put (t := .int) dX10_budget_2 fw_X10_107_10 hg2 h4_r0 hl3 rfl rfl ?_
  refine hs_iload_n dX10_budget_5 rfl ?_
  refine hs_aload_n dX10_budget_6 rfl ?_
  refine hs_get dX10_budget_7 fl_X10_116_10 hg5 hv7 ?_
  exact hk_z0 (hs_sta (M' := m_X10_isIn) (vs := [.int x1, .int v6]) (c1 := 0) (s1 := 0) dX10_budget_10 wd_1226 st_X10_isIn rfl (Nat.le_of_ble_eq_true rfl) hc hq_i (hc_i (fun z h9 k9 => k9)))
theorem b_X10_budget_13 {G : hk_G} {d cb sb : Nat} {h : hk_H} {Q : hk_O → hk_H → Prop} {s0 : Int32} {o0 : Option Value} {o1 : Option Value} {o2 : Option Value} {o3 : Option Value} {o4 : Option Value} {o5 : Option Value} {o6 : Option Value} {o7 : Option Value} {o8 : Option Value} (kt : ¬ s0 = 0 → hk_S G m_X10_budget (d + 1) cb sb 23 [o0, o1, o2, o3, o4, o5, o6, o7, o8] [] h Q) (kf : s0 = 0 → hk_S G m_X10_budget (d + 1) cb sb 16 [o0, o1, o2, o3, o4, o5, o6, o7, o8] [] h Q) : hk_S G m_X10_budget (d + 1) cb sb 13 [o0, o1, o2, o3, o4, o5, o6, o7, o8] [.int s0] h Q := by
  exact hs_if_ne dX10_budget_13 (by decide) kt kf
theorem b_X10_budget_16 {G : hk_G} {d cb sb : Nat} {h : hk_H} {Q : hk_O → hk_H → Prop} {r0 : Nat} {fs_ : List Value} {o1 : Option Value} {o2 : Option Value} {o3 : Option Value} {o4 : Option Value} {o5 : Option Value} {o6 : Option Value} {o7 : Option Value} {o8 : Option Value} (hrec : h.2 r0 = some (.inr (10, fs_))) (hc : hk_Ci G m_X10_raises d 0 0 [.ref r0, .int 1] h (fun z h' => hk_S G m_X10_budget (d + 1) cb sb 21 [some (.ref r0), o1, o2, o3, o4, o5, o6, o7, o8] [.int z] h' Q)) : hk_S G m_X10_budget (d + 1) cb sb 16 [some (.ref r0), o1, o2, o3, o4, o5, o6, o7, o8] [] h Q := by
  refine hs_aload_n dX10_budget_16 rfl ?_
  refine hs_iconst (v := 1) dX10_budget_17 (by decide) ?_
  exact hk_z0 (hs_vir (M' := m_X10_raises) (vs := [.int 1]) (c1 := 0) (s1 := 0) dX10_budget_18 wd_1285 vi_X10_raises hrec rfl (Nat.le_of_ble_eq_true rfl) hc hq_i (hc_i (fun z h9 k9 => k9)))
theorem b_X10_budget_21 {G : hk_G} {d cb sb : Nat} {h : hk_H} {Q : hk_O → hk_H → Prop} {s0 : Int32} {o0 : Option Value} {o1 : Option Value} {o2 : Option Value} {o3 : Option Value} {o4 : Option Value} {o5 : Option Value} {o6 : Option Value} {o7 : Option Value} {o8 : Option Value} (hq : Q (.inl (some (.long s0.toInt64))) h) : hk_S G m_X10_budget (d + 1) cb sb 21 [o0, o1, o2, o3, o4, o5, o6, o7, o8] [.int s0] h Q := by
  refine hs_i2l dX10_budget_21 ?_
  exact hs_lret dX10_budget_22 rfl hq
theorem b_X10_budget_23 {G : hk_G} {d cb sb : Nat} {h : hk_H} {Q : hk_O → hk_H → Prop} {o0 : Option Value} {o1 : Option Value} {o2 : Option Value} {o3 : Option Value} {o4 : Option Value} {o5 : Option Value} {o6 : Option Value} {o7 : Option Value} {o8 : Option Value} (k : hk_S G m_X10_budget (d + 1) cb sb 28 [o0, o1, o2, some (.long 0), none, some (.int 0), o6, o7, o8] [] h Q) (ho2 : hk_c1 o2 := by first | exact hk_c1i | exact hk_c1r | exact hk_c10 | exact hk_c1n) : hk_S G m_X10_budget (d + 1) cb sb 23 [o0, o1, o2, o3, o4, o5, o6, o7, o8] [] h Q := by
  refine hs_lconst (v := 0) dX10_budget_23 (by decide) ?_
  refine hs_lstK_n dX10_budget_24 (by decide) (hk_nk1 rfl ho2) rfl ?_
  refine hs_iconst (v := 0) dX10_budget_25 (by decide) ?_
  refine hs_istK dX10_budget_26 (by decide) (hk_nk1 rfl hk_c10) rfl ?_
  exact k
theorem b_X10_budget_28 {G : hk_G} {d cb sb : Nat} {h : hk_H} {Q : hk_O → hk_H → Prop} {x5 : Int32} {r0 : Nat} {fs1 : List Value} {v3 : Int32} {o1 : Option Value} {o2 : Option Value} {o3 : Option Value} {o4 : Option Value} {o6 : Option Value} {o7 : Option Value} {o8 : Option Value} (hg2 : h.2 r0 = some (.inr (10, fs1))) (hv4 : fs1[4]? = some (.int v3)) (kt : v3 ≤ x5 → hk_S G m_X10_budget (d + 1) cb sb 112 [some (.ref r0), o1, o2, o3, o4, some (.int x5), o6, o7, o8] [] h Q) (kf : ¬ v3 ≤ x5 → hk_S G m_X10_budget (d + 1) cb sb 37 [some (.ref r0), o1, o2, o3, o4, some (.int x5), o6, o7, o8] [] h Q) : hk_S G m_X10_budget (d + 1) cb sb 28 [some (.ref r0), o1, o2, o3, o4, some (.int x5), o6, o7, o8] [] h Q := by
  refine hs_iload dX10_budget_28 rfl ?_
  refine hs_aload_n dX10_budget_30 rfl ?_
  refine hs_get dX10_budget_31 fl_X10_113_10 hg2 hv4 ?_
  exact hs_icmp_ge dX10_budget_34 (by decide) kt kf
theorem b_X10_budget_37 {G : hk_G} {d cb sb : Nat} {h : hk_H} {Q : hk_O → hk_H → Prop} {o0 : Option Value} {o1 : Option Value} {o2 : Option Value} {o3 : Option Value} {o4 : Option Value} {o5 : Option Value} {o6 : Option Value} {o7 : Option Value} {o8 : Option Value} (k : hk_S G m_X10_budget (d + 1) cb sb 43 [o0, o1, o2, o3, o4, o5, some (.long 0), none, some (.int 0)] [] h Q) (ho5 : hk_c1 o5 := by first | exact hk_c1i | exact hk_c1r | exact hk_c10 | exact hk_c1n) : hk_S G m_X10_budget (d + 1) cb sb 37 [o0, o1, o2, o3, o4, o5, o6, o7, o8] [] h Q := by
  refine hs_lconst (v := 0) dX10_budget_37 (by decide) ?_
  refine hs_lstK dX10_budget_38 (by decide) (hk_nk1 rfl ho5) rfl ?_
  refine hs_iconst (v := 0) dX10_budget_40 (by decide) ?_
  refine hs_istK dX10_budget_41 (by decide) (hk_nk1 rfl hk_c10) rfl ?_
  exact k
theorem b_X10_budget_43 {G : hk_G} {d cb sb : Nat} {h : hk_H} {Q : hk_O → hk_H → Prop} {x8 : Int32} {r0 : Nat} {fs1 : List Value} {v3 : Int32} {o1 : Option Value} {o2 : Option Value} {o3 : Option Value} {o4 : Option Value} {o5 : Option Value} {o6 : Option Value} {o7 : Option Value} (hg2 : h.2 r0 = some (.inr (10, fs1))) (hv4 : fs1[0]? = some (.int v3)) (kt : v3 ≤ x8 → hk_S G m_X10_budget (d + 1) cb sb 73 [some (.ref r0), o1, o2, o3, o4, o5, o6, o7, some (.int x8)] [] h Q) (kf : ¬ v3 ≤ x8 → hk_S G m_X10_budget (d + 1) cb sb 52 [some (.ref r0), o1, o2, o3, o4, o5, o6, o7, some (.int x8)] [] h Q) : hk_S G m_X10_budget (d + 1) cb sb 43 [some (.ref r0), o1, o2, o3, o4, o5, o6, o7, some (.int x8)] [] h Q := by
  refine hs_iload dX10_budget_43 rfl ?_
  refine hs_aload_n dX10_budget_45 rfl ?_
  refine hs_get dX10_budget_46 fl_X10_97_10 hg2 hv4 ?_
  exact hs_icmp_ge dX10_budget_49 (by decide) kt kf
theorem b_X10_budget_52 {G : hk_G} {d cb sb : Nat} {h : hk_H} {Q : hk_O → hk_H → Prop} {l6 : Int64} {r0 : Nat} {x1 : Int32} {x5 : Int32} {x8 : Int32} {fs_ : List Value} {o2 : Option Value} {o3 : Option Value} {o4 : Option Value} {o7 : Option Value} (hrec : h.2 r0 = some (.inr (10, fs_))) (hc : hk_Ci G m_X10_paysOf d 0 0 [.ref r0, .int x1, .int x5, .int x8] h (fun z h' => hk_S G m_X10_budget (d + 1) cb sb 63 [some (.ref r0), some (.int x1), o2, o3, o4, some (.int x5), some (.long l6), o7, some (.int x8)] [.int z, .long l6] h' Q)) : hk_S G m_X10_budget (d + 1) cb sb 52 [some (.ref r0), some (.int x1), o2, o3, o4, some (.int x5), some (.long l6), o7, some (.int x8)] [] h Q := by
  refine hs_lload dX10_budget_52 rfl ?_
  refine hs_aload_n dX10_budget_54 rfl ?_
  refine hs_iload_n dX10_budget_55 rfl ?_
  refine hs_iload dX10_budget_56 rfl ?_
  refine hs_iload dX10_budget_58 rfl ?_
  exact hk_z0 (hs_vir (M' := m_X10_paysOf) (vs := [.int x1, .int x5, .int x8]) (c1 := 0) (s1 := 0) dX10_budget_60 wd_1289 vi_X10_paysOf hrec rfl (Nat.le_of_ble_eq_true rfl) hc hq_i (hc_i (fun z h9 k9 => k9)))
theorem b_X10_budget_63 {G : hk_G} {d cb sb : Nat} {h : hk_H} {Q : hk_O → hk_H → Prop} {s0 : Int64} {s1 : Int32} {x8 : Int32} {o0 : Option Value} {o1 : Option Value} {o2 : Option Value} {o3 : Option Value} {o4 : Option Value} {o5 : Option Value} {o6 : Option Value} {o7 : Option Value} (k : hk_S G m_X10_budget (d + 1) cb sb 43 [o0, o1, o2, o3, o4, o5, some (.long (s0 + s1.toInt64)), none, some (.int (x8 + 1))] [] h Q) (ho5 : hk_c1 o5 := by first | exact hk_c1i | exact hk_c1r | exact hk_c10 | exact hk_c1n) : hk_S G m_X10_budget (d + 1) cb sb 63 [o0, o1, o2, o3, o4, o5, o6, o7, some (.int x8)] [.int s1, .long s0] h Q := by
  refine hs_i2l dX10_budget_63 ?_
  refine hs_ladd dX10_budget_64 ?_
  refine hs_lstK dX10_budget_65 (by decide) (hk_nk1 rfl ho5) rfl ?_
  refine hs_iincK (v := 1) dX10_budget_67 rfl (by decide) (by decide) (hk_nk1 rfl hk_c10) rfl ?_
  refine hs_goto dX10_budget_70 (tgt := 43) (by decide) ?_
  exact k
theorem b_X10_budget_73 {G : hk_G} {d cb sb : Nat} {h : hk_H} {Q : hk_O → hk_H → Prop} {x5 : Int32} {o0 : Option Value} {o1 : Option Value} {o2 : Option Value} {o3 : Option Value} {o4 : Option Value} {o6 : Option Value} {o7 : Option Value} {o8 : Option Value} (kt : x5 = 0 → hk_S G m_X10_budget (d + 1) cb sb 99 [o0, o1, o2, o3, o4, some (.int x5), o6, o7, o8] [] h Q) (kf : ¬ x5 = 0 → hk_S G m_X10_budget (d + 1) cb sb 78 [o0, o1, o2, o3, o4, some (.int x5), o6, o7, o8] [] h Q) : hk_S G m_X10_budget (d + 1) cb sb 73 [o0, o1, o2, o3, o4, some (.int x5), o6, o7, o8] [] h Q := by
  refine hs_iload dX10_budget_73 rfl ?_
  exact hs_if_eq dX10_budget_75 (by decide) kt kf
theorem b_X10_budget_78 {G : hk_G} {d cb sb : Nat} {h : hk_H} {Q : hk_O → hk_H → Prop} {x2 : Int32} {o0 : Option Value} {o1 : Option Value} {o3 : Option Value} {o4 : Option Value} {o5 : Option Value} {o6 : Option Value} {o7 : Option Value} {o8 : Option Value} (kt : x2 = 0 → hk_S G m_X10_budget (d + 1) cb sb 92 [o0, o1, some (.int x2), o3, o4, o5, o6, o7, o8] [] h Q) (kf : ¬ x2 = 0 → hk_S G m_X10_budget (d + 1) cb sb 82 [o0, o1, some (.int x2), o3, o4, o5, o6, o7, o8] [] h Q) : hk_S G m_X10_budget (d + 1) cb sb 78 [o0, o1, some (.int x2), o3, o4, o5, o6, o7, o8] [] h Q := by
  refine hs_iload_n dX10_budget_78 rfl ?_
  exact hs_if_eq dX10_budget_79 (by decide) kt kf
theorem b_X10_budget_82 {G : hk_G} {d cb sb : Nat} {h : hk_H} {Q : hk_O → hk_H → Prop} {l6 : Int64} {l3 : Int64} {o0 : Option Value} {o1 : Option Value} {o2 : Option Value} {o4 : Option Value} {o5 : Option Value} {o7 : Option Value} {o8 : Option Value} (kt : (lg_cmp l6 l3) ≤ 0 → hk_S G m_X10_budget (d + 1) cb sb 104 [o0, o1, o2, some (.long l3), o4, o5, some (.long l6), o7, o8] [] h Q) (kf : ¬ (lg_cmp l6 l3) ≤ 0 → hk_S G m_X10_budget (d + 1) cb sb 89 [o0, o1, o2, some (.long l3), o4, o5, some (.long l6), o7, o8] [] h Q) : hk_S G m_X10_budget (d + 1) cb sb 82 [o0, o1, o2, some (.long l3), o4, o5, some (.long l6), o7, o8] [] h Q := by
  refine hs_lload dX10_budget_82 rfl ?_
  refine hs_lload_n dX10_budget_84 rfl ?_
  refine hs_lcmp dX10_budget_85 ?_
  exact hs_if_le dX10_budget_86 (by decide) kt kf
theorem b_X10_budget_89 {G : hk_G} {d cb sb : Nat} {h : hk_H} {Q : hk_O → hk_H → Prop} {l6 : Int64} {x5 : Int32} {o0 : Option Value} {o1 : Option Value} {o2 : Option Value} {o3 : Option Value} {o4 : Option Value} {o7 : Option Value} {o8 : Option Value} (k : hk_S G m_X10_budget (d + 1) cb sb 28 [o0, o1, o2, some (.long l6), none, some (.int (x5 + 1)), some (.long l6), o7, o8] [] h Q) (ho2 : hk_c1 o2 := by first | exact hk_c1i | exact hk_c1r | exact hk_c10 | exact hk_c1n) : hk_S G m_X10_budget (d + 1) cb sb 89 [o0, o1, o2, o3, o4, some (.int x5), some (.long l6), o7, o8] [] h Q := by
  refine hs_goto dX10_budget_89 (tgt := 99) (by decide) ?_
  refine hs_lload dX10_budget_99 rfl ?_
  refine hs_goto dX10_budget_101 (tgt := 105) (by decide) ?_
  refine hs_lstK_n dX10_budget_105 (by decide) (hk_nk1 rfl ho2) rfl ?_
  refine hs_iincK (v := 1) dX10_budget_106 rfl (by decide) (by decide) (hk_nk1 rfl hk_c10) rfl ?_
  refine hs_goto dX10_budget_109 (tgt := 28) (by decide) ?_
  exact k
theorem b_X10_budget_92 {G : hk_G} {d cb sb : Nat} {h : hk_H} {Q : hk_O → hk_H → Prop} {l6 : Int64} {l3 : Int64} {o0 : Option Value} {o1 : Option Value} {o2 : Option Value} {o4 : Option Value} {o5 : Option Value} {o7 : Option Value} {o8 : Option Value} (kt : 0 ≤ (lg_cmp l6 l3) → hk_S G m_X10_budget (d + 1) cb sb 104 [o0, o1, o2, some (.long l3), o4, o5, some (.long l6), o7, o8] [] h Q) (kf : ¬ 0 ≤ (lg_cmp l6 l3) → hk_S G m_X10_budget (d + 1) cb sb 99 [o0, o1, o2, some (.long l3), o4, o5, some (.long l6), o7, o8] [] h Q) : hk_S G m_X10_budget (d + 1) cb sb 92 [o0, o1, o2, some (.long l3), o4, o5, some (.long l6), o7, o8] [] h Q := by
  refine hs_lload dX10_budget_92 rfl ?_
  refine hs_lload_n dX10_budget_94 rfl ?_
  refine hs_lcmp dX10_budget_95 ?_
  exact hs_if_ge dX10_budget_96 (by decide) kt kf
theorem b_X10_budget_99 {G : hk_G} {d cb sb : Nat} {h : hk_H} {Q : hk_O → hk_H → Prop} {l6 : Int64} {x5 : Int32} {o0 : Option Value} {o1 : Option Value} {o2 : Option Value} {o3 : Option Value} {o4 : Option Value} {o7 : Option Value} {o8 : Option Value} (k : hk_S G m_X10_budget (d + 1) cb sb 28 [o0, o1, o2, some (.long l6), none, some (.int (x5 + 1)), some (.long l6), o7, o8] [] h Q) (ho2 : hk_c1 o2 := by first | exact hk_c1i | exact hk_c1r | exact hk_c10 | exact hk_c1n) : hk_S G m_X10_budget (d + 1) cb sb 99 [o0, o1, o2, o3, o4, some (.int x5), some (.long l6), o7, o8] [] h Q := by
  refine hs_lload dX10_budget_99 rfl ?_
  refine hs_goto dX10_budget_101 (tgt := 105) (by decide) ?_
  refine hs_lstK_n dX10_budget_105 (by decide) (hk_nk1 rfl ho2) rfl ?_
  refine hs_iincK (v := 1) dX10_budget_106 rfl (by decide) (by decide) (hk_nk1 rfl hk_c10) rfl ?_
  refine hs_goto dX10_budget_109 (tgt := 28) (by decide) ?_
  exact k
theorem b_X10_budget_104 {G : hk_G} {d cb sb : Nat} {h : hk_H} {Q : hk_O → hk_H → Prop} {l3 : Int64} {x5 : Int32} {o0 : Option Value} {o1 : Option Value} {o2 : Option Value} {o4 : Option Value} {o6 : Option Value} {o7 : Option Value} {o8 : Option Value} (k : hk_S G m_X10_budget (d + 1) cb sb 28 [o0, o1, o2, some (.long l3), none, some (.int (x5 + 1)), o6, o7, o8] [] h Q) (ho2 : hk_c1 o2 := by first | exact hk_c1i | exact hk_c1r | exact hk_c10 | exact hk_c1n) : hk_S G m_X10_budget (d + 1) cb sb 104 [o0, o1, o2, some (.long l3), o4, some (.int x5), o6, o7, o8] [] h Q := by
  refine hs_lload_n dX10_budget_104 rfl ?_
  refine hs_lstK_n dX10_budget_105 (by decide) (hk_nk1 rfl ho2) rfl ?_
  refine hs_iincK (v := 1) dX10_budget_106 rfl (by decide) (by decide) (hk_nk1 rfl hk_c10) rfl ?_
  refine hs_goto dX10_budget_109 (tgt := 28) (by decide) ?_
  exact k
theorem b_X10_budget_105 {G : hk_G} {d cb sb : Nat} {h : hk_H} {Q : hk_O → hk_H → Prop} {s0 : Int64} {x5 : Int32} {o0 : Option Value} {o1 : Option Value} {o2 : Option Value} {o3 : Option Value} {o4 : Option Value} {o6 : Option Value} {o7 : Option Value} {o8 : Option Value} (k : hk_S G m_X10_budget (d + 1) cb sb 28 [o0, o1, o2, some (.long s0), none, some (.int (x5 + 1)), o6, o7, o8] [] h Q) (ho2 : hk_c1 o2 := by first | exact hk_c1i | exact hk_c1r | exact hk_c10 | exact hk_c1n) : hk_S G m_X10_budget (d + 1) cb sb 105 [o0, o1, o2, o3, o4, some (.int x5), o6, o7, o8] [.long s0] h Q := by
  refine hs_lstK_n dX10_budget_105 (by decide) (hk_nk1 rfl ho2) rfl ?_
  refine hs_iincK (v := 1) dX10_budget_106 rfl (by decide) (by decide) (hk_nk1 rfl hk_c10) rfl ?_
  refine hs_goto dX10_budget_109 (tgt := 28) (by decide) ?_
  exact k
theorem b_X10_budget_112 {G : hk_G} {d cb sb : Nat} {h : hk_H} {Q : hk_O → hk_H → Prop} {l3 : Int64} {o0 : Option Value} {o1 : Option Value} {o2 : Option Value} {o4 : Option Value} {o5 : Option Value} {o6 : Option Value} {o7 : Option Value} {o8 : Option Value} (hq : Q (.inl (some (.long l3))) h) : hk_S G m_X10_budget (d + 1) cb sb 112 [o0, o1, o2, some (.long l3), o4, o5, o6, o7, o8] [] h Q := by
  refine hs_lload_n dX10_budget_112 rfl ?_
  exact hs_lret dX10_budget_113 rfl hq
-- HonestHouseModel.welfare(I)J
theorem b_X10_welfare_0 {G : hk_G} {d cb sb : Nat} {h : hk_H} {Q : hk_O → hk_H → Prop} {r0 : Nat} {fs1 : List Value} {h_1 : hk_H} {x1 : Int32} {fs4 : List Value} {v6 : Int32} {o2 : Option Value} {o3 : Option Value} {o4 : Option Value} {o5 : Option Value} {o6 : Option Value} (hg2 : h.2 r0 = some (.inr (10, fs1))) (h4_r0 : 4 ≤ r0) (e_1 : (hk_set h r0 (.inr (10, fs1.set 13 (.int 0)))) = h_1) (hg5 : h_1.2 r0 = some (.inr (10, fs4))) (hv7 : fs4[3]? = some (.int v6)) (hc : hk_Ci G m_X10_isIn d 0 0 [.int x1, .int v6] h_1 (fun z h' => hk_S G m_X10_welfare (d + 1) cb sb 13 [some (.ref r0), some (.int x1), o2, o3, o4, o5, o6] [.int z] h' Q)) (hl3 : 13 < fs1.length := by exact Nat.le_of_ble_eq_true rfl) : hk_S G m_X10_welfare (d + 1) cb sb 0 [some (.ref r0), some (.int x1), o2, o3, o4, o5, o6] [] h Q := by
  subst e_1
  refine hs_aload_n dX10_welfare_0 rfl ?_
  refine hs_iconst (v := 0) dX10_welfare_1 (by decide) ?_
  refine hs_put (t := .int) dX10_welfare_2 fw_X10_107_10 hg2 h4_r0 hl3 rfl rfl ?_
  refine hs_iload_n dX10_welfare_5 rfl ?_
  refine hs_aload_n dX10_welfare_6 rfl ?_
  refine hs_get dX10_welfare_7 fl_X10_116_10 hg5 hv7 ?_
  exact hk_z0 (hs_sta (M' := m_X10_isIn) (vs := [.int x1, .int v6]) (c1 := 0) (s1 := 0) dX10_welfare_10 wd_1226 st_X10_isIn rfl (Nat.le_of_ble_eq_true rfl) hc hq_i (hc_i (fun z h9 k9 => k9)))
theorem b_X10_welfare_13 {G : hk_G} {d cb sb : Nat} {h : hk_H} {Q : hk_O → hk_H → Prop} {s0 : Int32} {o0 : Option Value} {o1 : Option Value} {o2 : Option Value} {o3 : Option Value} {o4 : Option Value} {o5 : Option Value} {o6 : Option Value} (kt : ¬ s0 = 0 → hk_S G m_X10_welfare (d + 1) cb sb 23 [o0, o1, o2, o3, o4, o5, o6] [] h Q) (kf : s0 = 0 → hk_S G m_X10_welfare (d + 1) cb sb 16 [o0, o1, o2, o3, o4, o5, o6] [] h Q) : hk_S G m_X10_welfare (d + 1) cb sb 13 [o0, o1, o2, o3, o4, o5, o6] [.int s0] h Q := by
  exact hs_if_ne dX10_welfare_13 (by decide) kt kf
theorem b_X10_welfare_16 {G : hk_G} {d cb sb : Nat} {h : hk_H} {Q : hk_O → hk_H → Prop} {r0 : Nat} {fs_ : List Value} {o1 : Option Value} {o2 : Option Value} {o3 : Option Value} {o4 : Option Value} {o5 : Option Value} {o6 : Option Value} (hrec : h.2 r0 = some (.inr (10, fs_))) (hc : hk_Ci G m_X10_raises d 0 0 [.ref r0, .int 1] h (fun z h' => hk_S G m_X10_welfare (d + 1) cb sb 21 [some (.ref r0), o1, o2, o3, o4, o5, o6] [.int z] h' Q)) : hk_S G m_X10_welfare (d + 1) cb sb 16 [some (.ref r0), o1, o2, o3, o4, o5, o6] [] h Q := by
  refine hs_aload_n dX10_welfare_16 rfl ?_
  refine hs_iconst (v := 1) dX10_welfare_17 (by decide) ?_
  exact hk_z0 (hs_vir (M' := m_X10_raises) (vs := [.int 1]) (c1 := 0) (s1 := 0) dX10_welfare_18 wd_1285 vi_X10_raises hrec rfl (Nat.le_of_ble_eq_true rfl) hc hq_i (hc_i (fun z h9 k9 => k9)))
theorem b_X10_welfare_21 {G : hk_G} {d cb sb : Nat} {h : hk_H} {Q : hk_O → hk_H → Prop} {s0 : Int32} {o0 : Option Value} {o1 : Option Value} {o2 : Option Value} {o3 : Option Value} {o4 : Option Value} {o5 : Option Value} {o6 : Option Value} (hq : Q (.inl (some (.long s0.toInt64))) h) : hk_S G m_X10_welfare (d + 1) cb sb 21 [o0, o1, o2, o3, o4, o5, o6] [.int s0] h Q := by
  refine hs_i2l dX10_welfare_21 ?_
  exact hs_lret dX10_welfare_22 rfl hq
theorem b_X10_welfare_23 {G : hk_G} {d cb sb : Nat} {h : hk_H} {Q : hk_O → hk_H → Prop} {o0 : Option Value} {o1 : Option Value} {o2 : Option Value} {o3 : Option Value} {o4 : Option Value} {o5 : Option Value} {o6 : Option Value} (k : hk_S G m_X10_welfare (d + 1) cb sb 28 [o0, o1, some (.long 0), none, some (.int 0), o5, o6] [] h Q) (ho1 : hk_c1 o1 := by first | exact hk_c1i | exact hk_c1r | exact hk_c10 | exact hk_c1n) : hk_S G m_X10_welfare (d + 1) cb sb 23 [o0, o1, o2, o3, o4, o5, o6] [] h Q := by
  refine hs_lconst (v := 0) dX10_welfare_23 (by decide) ?_
  refine hs_lstK_n dX10_welfare_24 (by decide) (hk_nk1 rfl ho1) rfl ?_
  refine hs_iconst (v := 0) dX10_welfare_25 (by decide) ?_
  refine hs_istK dX10_welfare_26 (by decide) (hk_nk1 rfl hk_c10) rfl ?_
  exact k
theorem b_X10_welfare_28 {G : hk_G} {d cb sb : Nat} {h : hk_H} {Q : hk_O → hk_H → Prop} {x4 : Int32} {r0 : Nat} {fs1 : List Value} {v3 : Int32} {o1 : Option Value} {o2 : Option Value} {o3 : Option Value} {o5 : Option Value} {o6 : Option Value} (hg2 : h.2 r0 = some (.inr (10, fs1))) (hv4 : fs1[4]? = some (.int v3)) (kt : v3 ≤ x4 → hk_S G m_X10_welfare (d + 1) cb sb 92 [some (.ref r0), o1, o2, o3, some (.int x4), o5, o6] [] h Q) (kf : ¬ v3 ≤ x4 → hk_S G m_X10_welfare (d + 1) cb sb 37 [some (.ref r0), o1, o2, o3, some (.int x4), o5, o6] [] h Q) : hk_S G m_X10_welfare (d + 1) cb sb 28 [some (.ref r0), o1, o2, o3, some (.int x4), o5, o6] [] h Q := by
  refine hs_iload dX10_welfare_28 rfl ?_
  refine hs_aload_n dX10_welfare_30 rfl ?_
  refine hs_get dX10_welfare_31 fl_X10_113_10 hg2 hv4 ?_
  exact hs_icmp_ge dX10_welfare_34 (by decide) kt kf
theorem b_X10_welfare_37 {G : hk_G} {d cb sb : Nat} {h : hk_H} {Q : hk_O → hk_H → Prop} {r0 : Nat} {x1 : Int32} {x4 : Int32} {fs_ : List Value} {o2 : Option Value} {o3 : Option Value} {o5 : Option Value} {o6 : Option Value} (hrec : h.2 r0 = some (.inr (10, fs_))) (hc : hk_Ci G m_X10_ends d 0 0 [.ref r0, .int x1, .int x4] h (fun z h' => hk_S G m_X10_welfare (d + 1) cb sb 44 [some (.ref r0), some (.int x1), o2, o3, some (.int x4), o5, o6] [.int z] h' Q)) : hk_S G m_X10_welfare (d + 1) cb sb 37 [some (.ref r0), some (.int x1), o2, o3, some (.int x4), o5, o6] [] h Q := by
  refine hs_aload_n dX10_welfare_37 rfl ?_
  refine hs_iload_n dX10_welfare_38 rfl ?_
  refine hs_iload dX10_welfare_39 rfl ?_
  exact hk_z0 (hs_vir (M' := m_X10_ends) (vs := [.int x1, .int x4]) (c1 := 0) (s1 := 0) dX10_welfare_41 wd_1257 vi_X10_ends hrec rfl (Nat.le_of_ble_eq_true rfl) hc hq_i (hc_i (fun z h9 k9 => k9)))
theorem b_X10_welfare_44 {G : hk_G} {d cb sb : Nat} {h : hk_H} {Q : hk_O → hk_H → Prop} {s0 : Int32} {o0 : Option Value} {o1 : Option Value} {o2 : Option Value} {o3 : Option Value} {o4 : Option Value} {o5 : Option Value} {o6 : Option Value} (k : hk_S G m_X10_welfare (d + 1) cb sb 49 [o0, o1, o2, o3, o4, some (.int s0), some (.int 0)] [] h Q) (ho4 : hk_c1 o4 := by first | exact hk_c1i | exact hk_c1r | exact hk_c10 | exact hk_c1n) : hk_S G m_X10_welfare (d + 1) cb sb 44 [o0, o1, o2, o3, o4, o5, o6] [.int s0] h Q := by
  refine hs_istK dX10_welfare_44 (by decide) (hk_nk1 rfl ho4) rfl ?_
  refine hs_iconst (v := 0) dX10_welfare_46 (by decide) ?_
  refine hs_istK dX10_welfare_47 (by decide) (hk_nk1 rfl hk_c1i) rfl ?_
  exact k
theorem b_X10_welfare_49 {G : hk_G} {d cb sb : Nat} {h : hk_H} {Q : hk_O → hk_H → Prop} {x6 : Int32} {r0 : Nat} {fs1 : List Value} {v3 : Int32} {o1 : Option Value} {o2 : Option Value} {o3 : Option Value} {o4 : Option Value} {o5 : Option Value} (hg2 : h.2 r0 = some (.inr (10, fs1))) (hv4 : fs1[0]? = some (.int v3)) (kt : v3 ≤ x6 → hk_S G m_X10_welfare (d + 1) cb sb 86 [some (.ref r0), o1, o2, o3, o4, o5, some (.int x6)] [] h Q) (kf : ¬ v3 ≤ x6 → hk_S G m_X10_welfare (d + 1) cb sb 58 [some (.ref r0), o1, o2, o3, o4, o5, some (.int x6)] [] h Q) : hk_S G m_X10_welfare (d + 1) cb sb 49 [some (.ref r0), o1, o2, o3, o4, o5, some (.int x6)] [] h Q := by
  refine hs_iload dX10_welfare_49 rfl ?_
  refine hs_aload_n dX10_welfare_51 rfl ?_
  refine hs_get dX10_welfare_52 fl_X10_97_10 hg2 hv4 ?_
  exact hs_icmp_ge dX10_welfare_55 (by decide) kt kf
theorem b_X10_welfare_58 {G : hk_G} {d cb sb : Nat} {h : hk_H} {Q : hk_O → hk_H → Prop} {l2 : Int64} {r0 : Nat} {fs1 : List Value} {v3 : Nat} {x4 : Int32} {x6 : Int32} {o1 : Option Value} {o3 : Option Value} {o5 : Option Value} (hg2 : h.2 r0 = some (.inr (10, fs1))) (hv4 : fs1[5]? = some (.ref v3)) (hc : hk_Ci G m_X10_wishOf d 0 0 [.ref r0, .int x4, .int x6] h (fun z h' => hk_S G m_X10_welfare (d + 1) cb sb 72 [some (.ref r0), o1, some (.long l2), o3, some (.int x4), o5, some (.int x6)] [.int z, .int 5, .ref v3, .long l2] h' Q)) : hk_S G m_X10_welfare (d + 1) cb sb 58 [some (.ref r0), o1, some (.long l2), o3, some (.int x4), o5, some (.int x6)] [] h Q := by
  refine hs_lload_n dX10_welfare_58 rfl ?_
  refine hs_aload_n dX10_welfare_59 rfl ?_
  refine hs_get dX10_welfare_60 fl_X10_9_10 hg2 hv4 ?_
  refine hs_iconst (v := 5) dX10_welfare_63 (by decide) ?_
  refine hs_aload_n dX10_welfare_64 rfl ?_
  refine hs_iload dX10_welfare_65 rfl ?_
  refine hs_iload dX10_welfare_67 rfl ?_
  exact hk_z0 (hs_vir (M' := m_X10_wishOf) (vs := [.int x4, .int x6]) (c1 := 0) (s1 := 0) dX10_welfare_69 wd_1269 vi_X10_wishOf hg2 rfl (Nat.le_of_ble_eq_true rfl) hc hq_i (hc_i (fun z h9 k9 => k9)))
theorem b_X10_welfare_72 {G : hk_G} {d cb sb : Nat} {h : hk_H} {Q : hk_O → hk_H → Prop} {s0 : Int64} {s1 : Nat} {s2 : Int32} {s3 : Int32} {x5 : Int32} {n1 : Nat} {f2 : Nat → Int32} {x6 : Int32} {o0 : Option Value} {o1 : Option Value} {o2 : Option Value} {o3 : Option Value} {o4 : Option Value} (ha3 : h.2 s1 = some (.inl (0, n1, .inl f2))) (j4 : Nat) (hi5 : ((s2 * s3) + x5 : Int32).toInt = (j4 : Int)) (hj6 : j4 < n1) (k : hk_S G m_X10_welfare (d + 1) cb sb 49 [o0, o1, some (.long (s0 + ((f2 j4).toInt64))), none, o4, some (.int x5), some (.int (x6 + 1))] [] h Q) (ho1 : hk_c1 o1 := by first | exact hk_c1i | exact hk_c1r | exact hk_c10 | exact hk_c1n) : hk_S G m_X10_welfare (d + 1) cb sb 72 [o0, o1, o2, o3, o4, some (.int x5), some (.int x6)] [.int s3, .int s2, .ref s1, .long s0] h Q := by
  refine hs_imul dX10_welfare_72 ?_
  refine hs_iload dX10_welfare_73 rfl ?_
  refine hs_iadd dX10_welfare_75 ?_
  refine hs_iald j4 dX10_welfare_76 ha3 hi5 hj6 ?_
  refine hs_i2l dX10_welfare_77 ?_
  refine hs_ladd dX10_welfare_78 ?_
  refine hs_lstK_n dX10_welfare_79 (by decide) (hk_nk1 rfl ho1) rfl ?_
  refine hs_iincK (v := 1) dX10_welfare_80 rfl (by decide) (by decide) (hk_nk1 rfl hk_c1i) rfl ?_
  refine hs_goto dX10_welfare_83 (tgt := 49) (by decide) ?_
  exact k
theorem b_X10_welfare_86 {G : hk_G} {d cb sb : Nat} {h : hk_H} {Q : hk_O → hk_H → Prop} {x4 : Int32} {o0 : Option Value} {o1 : Option Value} {o2 : Option Value} {o3 : Option Value} {o5 : Option Value} {o6 : Option Value} (k : hk_S G m_X10_welfare (d + 1) cb sb 28 [o0, o1, o2, o3, some (.int (x4 + 1)), o5, o6] [] h Q) (ho3 : hk_c1 o3 := by first | exact hk_c1i | exact hk_c1r | exact hk_c10 | exact hk_c1n) : hk_S G m_X10_welfare (d + 1) cb sb 86 [o0, o1, o2, o3, some (.int x4), o5, o6] [] h Q := by
  refine hs_iincK (v := 1) dX10_welfare_86 rfl (by decide) (by decide) (hk_nk1 rfl ho3) rfl ?_
  refine hs_goto dX10_welfare_89 (tgt := 28) (by decide) ?_
  exact k
theorem b_X10_welfare_92 {G : hk_G} {d cb sb : Nat} {h : hk_H} {Q : hk_O → hk_H → Prop} {l2 : Int64} {o0 : Option Value} {o1 : Option Value} {o3 : Option Value} {o4 : Option Value} {o5 : Option Value} {o6 : Option Value} (hq : Q (.inl (some (.long l2))) h) : hk_S G m_X10_welfare (d + 1) cb sb 92 [o0, o1, some (.long l2), o3, o4, o5, o6] [] h Q := by
  refine hs_lload_n dX10_welfare_92 rfl ?_
  exact hs_lret dX10_welfare_93 rfl hq
-- HonestHouseModel.measure(III)V
theorem b_X10_measure_0 {G : hk_G} {d cb sb : Nat} {h : hk_H} {Q : hk_O → hk_H → Prop} {o0 : Option Value} {o1 : Option Value} {o2 : Option Value} {o3 : Option Value} {o4 : Option Value} {o5 : Option Value} {o6 : Option Value} (k : hk_S G m_X10_measure (d + 1) cb sb 3 [o0, o1, o2, o3, some (.int 0), o5, o6] [] h Q) (ho3 : hk_c1 o3 := by first | exact hk_c1i | exact hk_c1r | exact hk_c10 | exact hk_c1n) : hk_S G m_X10_measure (d + 1) cb sb 0 [o0, o1, o2, o3, o4, o5, o6] [] h Q := by
  refine hs_iconst (v := 0) dX10_measure_0 (by decide) ?_
  refine hs_istK dX10_measure_1 (by decide) (hk_nk1 rfl ho3) rfl ?_
  exact k
theorem b_X10_measure_3 {G : hk_G} {d cb sb : Nat} {h : hk_H} {Q : hk_O → hk_H → Prop} {x4 : Int32} {r0 : Nat} {fs1 : List Value} {v3 : Int32} {o1 : Option Value} {o2 : Option Value} {o3 : Option Value} {o5 : Option Value} {o6 : Option Value} (hg2 : h.2 r0 = some (.inr (10, fs1))) (hv4 : fs1[1]? = some (.int v3)) (kt : v3 ≤ x4 → hk_S G m_X10_measure (d + 1) cb sb 26 [some (.ref r0), o1, o2, o3, some (.int x4), o5, o6] [] h Q) (kf : ¬ v3 ≤ x4 → hk_S G m_X10_measure (d + 1) cb sb 12 [some (.ref r0), o1, o2, o3, some (.int x4), o5, o6] [] h Q) : hk_S G m_X10_measure (d + 1) cb sb 3 [some (.ref r0), o1, o2, o3, some (.int x4), o5, o6] [] h Q := by
  refine hs_iload dX10_measure_3 rfl ?_
  refine hs_aload_n dX10_measure_5 rfl ?_
  refine hs_get dX10_measure_6 fl_X10_101_10 hg2 hv4 ?_
  exact hs_icmp_ge dX10_measure_9 (by decide) kt kf
theorem b_X10_measure_12 {G : hk_G} {d cb sb : Nat} {h : hk_H} {Q : hk_O → hk_H → Prop} {r0 : Nat} {fs1 : List Value} {v3 : Nat} {x4 : Int32} {n5 : Nat} {f6 : Nat → Int32} {h_1 : hk_H} {o1 : Option Value} {o2 : Option Value} {o3 : Option Value} {o5 : Option Value} {o6 : Option Value} (hg2 : h.2 r0 = some (.inr (10, fs1))) (hv4 : fs1[16]? = some (.ref v3)) (ha7 : h.2 v3 = some (.inl (2, n5, .inl f6))) (h4_v3 : 4 ≤ v3) (j8 : Nat) (hi9 : (x4 : Int32).toInt = (j8 : Int)) (hj10 : j8 < n5) (e_1 : (hk_set h v3 (.inl (2, n5, .inl (upd f6 j8 0)))) = h_1) (k : hk_S G m_X10_measure (d + 1) cb sb 3 [some (.ref r0), o1, o2, o3, some (.int (x4 + 1)), o5, o6] [] h_1 Q) (ho3 : hk_c1 o3 := by first | exact hk_c1i | exact hk_c1r | exact hk_c10 | exact hk_c1n) : hk_S G m_X10_measure (d + 1) cb sb 12 [some (.ref r0), o1, o2, o3, some (.int x4), o5, o6] [] h Q := by
  subst e_1
  refine hs_aload_n dX10_measure_12 rfl ?_
  refine hs_get dX10_measure_13 fl_X10_41_10 hg2 hv4 ?_
  refine hs_iload dX10_measure_16 rfl ?_
  refine hs_iconst (v := 0) dX10_measure_18 (by decide) ?_
  refine hs_zast j8 dX10_measure_19 ha7 h4_v3 hi9 hj10 (by decide) ?_
  refine hs_iincK (v := 1) dX10_measure_20 rfl (by decide) (by decide) (hk_nk1 rfl ho3) rfl ?_
  refine hs_goto dX10_measure_23 (tgt := 3) (by decide) ?_
  exact k
theorem b_X10_measure_26 {G : hk_G} {d cb sb : Nat} {h : hk_H} {Q : hk_O → hk_H → Prop} {o0 : Option Value} {o1 : Option Value} {o2 : Option Value} {o3 : Option Value} {o4 : Option Value} {o5 : Option Value} {o6 : Option Value} (k : hk_S G m_X10_measure (d + 1) cb sb 29 [o0, o1, o2, o3, some (.int 0), o5, o6] [] h Q) (ho3 : hk_c1 o3 := by first | exact hk_c1i | exact hk_c1r | exact hk_c10 | exact hk_c1n) : hk_S G m_X10_measure (d + 1) cb sb 26 [o0, o1, o2, o3, o4, o5, o6] [] h Q := by
  refine hs_iconst (v := 0) dX10_measure_26 (by decide) ?_
  refine hs_istK dX10_measure_27 (by decide) (hk_nk1 rfl ho3) rfl ?_
  exact k
theorem b_X10_measure_29 {G : hk_G} {d cb sb : Nat} {h : hk_H} {Q : hk_O → hk_H → Prop} {x4 : Int32} {o0 : Option Value} {o1 : Option Value} {o2 : Option Value} {o3 : Option Value} {o5 : Option Value} {o6 : Option Value} (kt : 25 ≤ x4 → hk_S G m_X10_measure (d + 1) cb sb 51 [o0, o1, o2, o3, some (.int x4), o5, o6] [] h Q) (kf : ¬ 25 ≤ x4 → hk_S G m_X10_measure (d + 1) cb sb 36 [o0, o1, o2, o3, some (.int x4), o5, o6] [] h Q) : hk_S G m_X10_measure (d + 1) cb sb 29 [o0, o1, o2, o3, some (.int x4), o5, o6] [] h Q := by
  refine hs_iload dX10_measure_29 rfl ?_
  refine hs_bipush (v := 25) dX10_measure_31 (by decide) ?_
  exact hs_icmp_ge dX10_measure_33 (by decide) kt kf
theorem b_X10_measure_36 {G : hk_G} {d cb sb : Nat} {h : hk_H} {Q : hk_O → hk_H → Prop} {r0 : Nat} {fs1 : List Value} {v3 : Nat} {x4 : Int32} {n5 : Nat} {f6 : Nat → Int32} {h_1 : hk_H} {o1 : Option Value} {o2 : Option Value} {o3 : Option Value} {o5 : Option Value} {o6 : Option Value} (hg2 : h.2 r0 = some (.inr (10, fs1))) (hv4 : fs1[17]? = some (.ref v3)) (ha7 : h.2 v3 = some (.inl (0, n5, .inl f6))) (h4_v3 : 4 ≤ v3) (j8 : Nat) (hi9 : (x4 : Int32).toInt = (j8 : Int)) (hj10 : j8 < n5) (e_1 : (hk_set h v3 (.inl (0, n5, .inl (upd f6 j8 1000000)))) = h_1) (k : hk_S G m_X10_measure (d + 1) cb sb 29 [some (.ref r0), o1, o2, o3, some (.int (x4 + 1)), o5, o6] [] h_1 Q) (ho3 : hk_c1 o3 := by first | exact hk_c1i | exact hk_c1r | exact hk_c10 | exact hk_c1n) : hk_S G m_X10_measure (d + 1) cb sb 36 [some (.ref r0), o1, o2, o3, some (.int x4), o5, o6] [] h Q := by
  subst e_1
  refine hs_aload_n dX10_measure_36 rfl ?_
  refine hs_get dX10_measure_37 fl_X10_45_10 hg2 hv4 ?_
  refine hs_iload dX10_measure_40 rfl ?_
  refine hs_ldc (v := 1000000) dX10_measure_42 wd_1357 ?_
  refine hs_iast j8 dX10_measure_44 ha7 h4_v3 hi9 hj10 ?_
  refine hs_iincK (v := 1) dX10_measure_45 rfl (by decide) (by decide) (hk_nk1 rfl ho3) rfl ?_
  refine hs_goto dX10_measure_48 (tgt := 29) (by decide) ?_
  exact k
theorem b_X10_measure_51 {G : hk_G} {d cb sb : Nat} {h : hk_H} {Q : hk_O → hk_H → Prop} {o0 : Option Value} {o1 : Option Value} {o2 : Option Value} {o3 : Option Value} {o4 : Option Value} {o5 : Option Value} {o6 : Option Value} (k : hk_S G m_X10_measure (d + 1) cb sb 54 [o0, o1, o2, o3, some (.int 0), o5, o6] [] h Q) (ho3 : hk_c1 o3 := by first | exact hk_c1i | exact hk_c1r | exact hk_c10 | exact hk_c1n) : hk_S G m_X10_measure (d + 1) cb sb 51 [o0, o1, o2, o3, o4, o5, o6] [] h Q := by
  refine hs_iconst (v := 0) dX10_measure_51 (by decide) ?_
  refine hs_istK dX10_measure_52 (by decide) (hk_nk1 rfl ho3) rfl ?_
  exact k
theorem b_X10_measure_54 {G : hk_G} {d cb sb : Nat} {h : hk_H} {Q : hk_O → hk_H → Prop} {x4 : Int32} {r0 : Nat} {fs1 : List Value} {v3 : Int32} {o1 : Option Value} {o2 : Option Value} {o3 : Option Value} {o5 : Option Value} {o6 : Option Value} (hg2 : h.2 r0 = some (.inr (10, fs1))) (hv4 : fs1[2]? = some (.int v3)) (kt : v3 ≤ x4 → hk_S G m_X10_measure (d + 1) cb sb 162 [some (.ref r0), o1, o2, o3, some (.int x4), o5, o6] [] h Q) (kf : ¬ v3 ≤ x4 → hk_S G m_X10_measure (d + 1) cb sb 63 [some (.ref r0), o1, o2, o3, some (.int x4), o5, o6] [] h Q) : hk_S G m_X10_measure (d + 1) cb sb 54 [some (.ref r0), o1, o2, o3, some (.int x4), o5, o6] [] h Q := by
  refine hs_iload dX10_measure_54 rfl ?_
  refine hs_aload_n dX10_measure_56 rfl ?_
  refine hs_get dX10_measure_57 fl_X10_110_10 hg2 hv4 ?_
  exact hs_icmp_ge dX10_measure_60 (by decide) kt kf
theorem b_X10_measure_63 {G : hk_G} {d cb sb : Nat} {h : hk_H} {Q : hk_O → hk_H → Prop} {r0 : Nat} {x1 : Int32} {x2 : Int32} {x3 : Int32} {x4 : Int32} {fs_ : List Value} {o5 : Option Value} {o6 : Option Value} (hrec : h.2 r0 = some (.inr (10, fs_))) (hc : hk_Ci G m_X10_saying d 0 0 [.ref r0, .int x2, .int x3, .int x4] h (fun z h' => hk_S G m_X10_measure (d + 1) cb sb 73 [some (.ref r0), some (.int x1), some (.int x2), some (.int x3), some (.int x4), o5, o6] [.int z, .int x1, .ref r0] h' Q)) : hk_S G m_X10_measure (d + 1) cb sb 63 [some (.ref r0), some (.int x1), some (.int x2), some (.int x3), some (.int x4), o5, o6] [] h Q := by
  refine hs_aload_n dX10_measure_63 rfl ?_
  refine hs_iload_n dX10_measure_64 rfl ?_
  refine hs_aload_n dX10_measure_65 rfl ?_
  refine hs_iload_n dX10_measure_66 rfl ?_
  refine hs_iload_n dX10_measure_67 rfl ?_
  refine hs_iload dX10_measure_68 rfl ?_
  exact hk_z0 (hs_vir (M' := m_X10_saying) (vs := [.int x2, .int x3, .int x4]) (c1 := 0) (s1 := 0) dX10_measure_70 wd_1297 vi_X10_saying hrec rfl (Nat.le_of_ble_eq_true rfl) hc hq_i (hc_i (fun z h9 k9 => k9)))
theorem b_X10_measure_73 {G : hk_G} {d cb sb : Nat} {h : hk_H} {Q : hk_O → hk_H → Prop} {s0 : Nat} {s1 : Int32} {s2 : Int32} {fs_ : List Value} {o0 : Option Value} {o1 : Option Value} {o2 : Option Value} {o3 : Option Value} {o4 : Option Value} {o5 : Option Value} {o6 : Option Value} (hrec : h.2 s0 = some (.inr (10, fs_))) (hc : hk_Ci G m_X10_ends d 0 0 [.ref s0, .int s1, .int s2] h (fun z h' => hk_S G m_X10_measure (d + 1) cb sb 76 [o0, o1, o2, o3, o4, o5, o6] [.int z] h' Q)) : hk_S G m_X10_measure (d + 1) cb sb 73 [o0, o1, o2, o3, o4, o5, o6] [.int s2, .int s1, .ref s0] h Q := by
  exact hk_z0 (hs_vir (M' := m_X10_ends) (vs := [.int s1, .int s2]) (c1 := 0) (s1 := 0) dX10_measure_73 wd_1257 vi_X10_ends hrec rfl (Nat.le_of_ble_eq_true rfl) hc hq_i (hc_i (fun z h9 k9 => k9)))
theorem b_X10_measure_76 {G : hk_G} {d cb sb : Nat} {h : hk_H} {Q : hk_O → hk_H → Prop} {s0 : Int32} {r0 : Nat} {fs1 : List Value} {v3 : Nat} {n5 : Nat} {f6 : Nat → Int32} {h_1 : hk_H} {o1 : Option Value} {o2 : Option Value} {o3 : Option Value} {o4 : Option Value} {o5 : Option Value} {o6 : Option Value} (hg2 : h.2 r0 = some (.inr (10, fs1))) (hv4 : fs1[16]? = some (.ref v3)) (ha7 : h.2 v3 = some (.inl (2, n5, .inl f6))) (h4_v3 : 4 ≤ v3) (j8 : Nat) (hi9 : (s0 : Int32).toInt = (j8 : Int)) (hj10 : j8 < n5) (e_1 : (hk_set h v3 (.inl (2, n5, .inl (upd f6 j8 1)))) = h_1) (k : hk_S G m_X10_measure (d + 1) cb sb 89 [some (.ref r0), o1, o2, o3, o4, some (.int s0), some (.int 0)] [] h_1 Q) (ho4 : hk_c1 o4 := by first | exact hk_c1i | exact hk_c1r | exact hk_c10 | exact hk_c1n) : hk_S G m_X10_measure (d + 1) cb sb 76 [some (.ref r0), o1, o2, o3, o4, o5, o6] [.int s0] h Q := by
  subst e_1
  refine hs_istK dX10_measure_76 (by decide) (hk_nk1 rfl ho4) rfl ?_
  refine hs_aload_n dX10_measure_78 rfl ?_
  refine hs_get dX10_measure_79 fl_X10_41_10 hg2 hv4 ?_
  refine hs_iload dX10_measure_82 rfl ?_
  refine hs_iconst (v := 1) dX10_measure_84 (by decide) ?_
  refine hs_zast j8 dX10_measure_85 ha7 h4_v3 hi9 hj10 (by decide) ?_
  refine hs_iconst (v := 0) dX10_measure_86 (by decide) ?_
  refine hs_istK dX10_measure_87 (by decide) (hk_nk1 rfl hk_c1i) rfl ?_
  exact k
theorem b_X10_measure_89 {G : hk_G} {d cb sb : Nat} {h : hk_H} {Q : hk_O → hk_H → Prop} {x6 : Int32} {r0 : Nat} {fs1 : List Value} {v3 : Int32} {o1 : Option Value} {o2 : Option Value} {o3 : Option Value} {o4 : Option Value} {o5 : Option Value} (hg2 : h.2 r0 = some (.inr (10, fs1))) (hv4 : fs1[1]? = some (.int v3)) (kt : v3 ≤ x6 → hk_S G m_X10_measure (d + 1) cb sb 156 [some (.ref r0), o1, o2, o3, o4, o5, some (.int x6)] [] h Q) (kf : ¬ v3 ≤ x6 → hk_S G m_X10_measure (d + 1) cb sb 98 [some (.ref r0), o1, o2, o3, o4, o5, some (.int x6)] [] h Q) : hk_S G m_X10_measure (d + 1) cb sb 89 [some (.ref r0), o1, o2, o3, o4, o5, some (.int x6)] [] h Q := by
  refine hs_iload dX10_measure_89 rfl ?_
  refine hs_aload_n dX10_measure_91 rfl ?_
  refine hs_get dX10_measure_92 fl_X10_101_10 hg2 hv4 ?_
  exact hs_icmp_ge dX10_measure_95 (by decide) kt kf
theorem b_X10_measure_98 {G : hk_G} {d cb sb : Nat} {h : hk_H} {Q : hk_O → hk_H → Prop} {r0 : Nat} {fs1 : List Value} {v3 : Nat} {x6 : Int32} {x5 : Int32} {n5 : Nat} {f6 : Nat → Int32} {v11 : Nat} {x4 : Int32} {n13 : Nat} {f14 : Nat → Int32} {o1 : Option Value} {o2 : Option Value} {o3 : Option Value} (hg2 : h.2 r0 = some (.inr (10, fs1))) (hv4 : fs1[17]? = some (.ref v3)) (ha7 : h.2 v3 = some (.inl (0, n5, .inl f6))) (j8 : Nat) (hi9 : ((5 * x6) + x5 : Int32).toInt = (j8 : Int)) (hj10 : j8 < n5) (hv12 : fs1[5]? = some (.ref v11)) (ha15 : h.2 v11 = some (.inl (0, n13, .inl f14))) (j16 : Nat) (hi17 : ((5 * x4) + x5 : Int32).toInt = (j16 : Int)) (hj18 : j16 < n13) (j19 : Nat) (hi20 : ((5 * x4) + x6 : Int32).toInt = (j19 : Int)) (hj21 : j19 < n13) (hc : hk_Ci G m_J9_min_7cf53 d 0 0 [.int (f6 j8), .int ((f14 j16) - (f14 j19))] h (fun z h' => hk_S G m_X10_measure (d + 1) cb sb 149 [some (.ref r0), o1, o2, o3, some (.int x4), some (.int x5), some (.int x6)] [.int z, .int ((5 * x6) + x5), .ref v3] h' Q)) : hk_S G m_X10_measure (d + 1) cb sb 98 [some (.ref r0), o1, o2, o3, some (.int x4), some (.int x5), some (.int x6)] [] h Q := by
  refine hs_aload_n dX10_measure_98 rfl ?_
  refine hs_get dX10_measure_99 fl_X10_45_10 hg2 hv4 ?_
  refine hs_iconst (v := 5) dX10_measure_102 (by decide) ?_
  refine hs_iload dX10_measure_103 rfl ?_
  refine hs_imul dX10_measure_105 ?_
  refine hs_iload dX10_measure_106 rfl ?_
  refine hs_iadd dX10_measure_108 ?_
  refine hs_aload_n dX10_measure_109 rfl ?_
  refine hs_get dX10_measure_110 fl_X10_45_10 hg2 hv4 ?_
  refine hs_iconst (v := 5) dX10_measure_113 (by decide) ?_
  refine hs_iload dX10_measure_114 rfl ?_
  refine hs_imul dX10_measure_116 ?_
  refine hs_iload dX10_measure_117 rfl ?_
  refine hs_iadd dX10_measure_119 ?_
  refine hs_iald j8 dX10_measure_120 ha7 hi9 hj10 ?_
  refine hs_aload_n dX10_measure_121 rfl ?_
  refine hs_get dX10_measure_122 fl_X10_9_10 hg2 hv12 ?_
  refine hs_iconst (v := 5) dX10_measure_125 (by decide) ?_
  refine hs_iload dX10_measure_126 rfl ?_
  refine hs_imul dX10_measure_128 ?_
  refine hs_iload dX10_measure_129 rfl ?_
  refine hs_iadd dX10_measure_131 ?_
  refine hs_iald j16 dX10_measure_132 ha15 hi17 hj18 ?_
  refine hs_aload_n dX10_measure_133 rfl ?_
  refine hs_get dX10_measure_134 fl_X10_9_10 hg2 hv12 ?_
  refine hs_iconst (v := 5) dX10_measure_137 (by decide) ?_
  refine hs_iload dX10_measure_138 rfl ?_
  refine hs_imul dX10_measure_140 ?_
  refine hs_iload dX10_measure_141 rfl ?_
  refine hs_iadd dX10_measure_143 ?_
  refine hs_iald j19 dX10_measure_144 ha15 hi20 hj21 ?_
  refine hs_isub dX10_measure_145 ?_
  exact hk_z0 (hs_sta (M' := m_J9_min_7cf53) (vs := [.int (f6 j8), .int ((f14 j16) - (f14 j19))]) (c1 := 0) (s1 := 0) dX10_measure_146 wd_1358 st_J9_min_7cf53 rfl (Nat.le_of_ble_eq_true rfl) hc hq_i (hc_i (fun z h9 k9 => k9)))
theorem b_X10_measure_149 {G : hk_G} {d cb sb : Nat} {h : hk_H} {Q : hk_O → hk_H → Prop} {s0 : Nat} {s1 : Int32} {s2 : Int32} {n1 : Nat} {f2 : Nat → Int32} {h_1 : hk_H} {x6 : Int32} {o0 : Option Value} {o1 : Option Value} {o2 : Option Value} {o3 : Option Value} {o4 : Option Value} {o5 : Option Value} (ha3 : h.2 s0 = some (.inl (0, n1, .inl f2))) (h4_s0 : 4 ≤ s0) (j4 : Nat) (hi5 : (s1 : Int32).toInt = (j4 : Int)) (hj6 : j4 < n1) (e_1 : (hk_set h s0 (.inl (0, n1, .inl (upd f2 j4 s2)))) = h_1) (k : hk_S G m_X10_measure (d + 1) cb sb 89 [o0, o1, o2, o3, o4, o5, some (.int (x6 + 1))] [] h_1 Q) (ho5 : hk_c1 o5 := by first | exact hk_c1i | exact hk_c1r | exact hk_c10 | exact hk_c1n) : hk_S G m_X10_measure (d + 1) cb sb 149 [o0, o1, o2, o3, o4, o5, some (.int x6)] [.int s2, .int s1, .ref s0] h Q := by
  subst e_1
  refine hs_iast j4 dX10_measure_149 ha3 h4_s0 hi5 hj6 ?_
  refine hs_iincK (v := 1) dX10_measure_150 rfl (by decide) (by decide) (hk_nk1 rfl ho5) rfl ?_
  refine hs_goto dX10_measure_153 (tgt := 89) (by decide) ?_
  exact k
theorem b_X10_measure_156 {G : hk_G} {d cb sb : Nat} {h : hk_H} {Q : hk_O → hk_H → Prop} {x4 : Int32} {o0 : Option Value} {o1 : Option Value} {o2 : Option Value} {o3 : Option Value} {o5 : Option Value} {o6 : Option Value} (k : hk_S G m_X10_measure (d + 1) cb sb 54 [o0, o1, o2, o3, some (.int (x4 + 1)), o5, o6] [] h Q) (ho3 : hk_c1 o3 := by first | exact hk_c1i | exact hk_c1r | exact hk_c10 | exact hk_c1n) : hk_S G m_X10_measure (d + 1) cb sb 156 [o0, o1, o2, o3, some (.int x4), o5, o6] [] h Q := by
  refine hs_iincK (v := 1) dX10_measure_156 rfl (by decide) (by decide) (hk_nk1 rfl ho3) rfl ?_
  refine hs_goto dX10_measure_159 (tgt := 54) (by decide) ?_
  exact k
theorem b_X10_measure_162 {G : hk_G} {d cb sb : Nat} {h : hk_H} {Q : hk_O → hk_H → Prop} {o0 : Option Value} {o1 : Option Value} {o2 : Option Value} {o3 : Option Value} {o4 : Option Value} {o5 : Option Value} {o6 : Option Value} (hq : Q (.inl none) h) : hk_S G m_X10_measure (d + 1) cb sb 162 [o0, o1, o2, o3, o4, o5, o6] [] h Q := by
  exact hs_vret dX10_measure_162 rfl hq
-- HonestHouseModel.leastRound(IIII)I
theorem b_X10_leastRound_0 {G : hk_G} {d cb sb : Nat} {h : hk_H} {Q : hk_O → hk_H → Prop} {x1 : Int32} {o0 : Option Value} {o2 : Option Value} {o3 : Option Value} {o4 : Option Value} {o5 : Option Value} {o6 : Option Value} (k : hk_S G m_X10_leastRound (d + 1) cb sb 7 [o0, some (.int x1), o2, o3, o4, some (.int 1000000), some (.int x1)] [] h Q) (ho4 : hk_c1 o4 := by first | exact hk_c1i | exact hk_c1r | exact hk_c10 | exact hk_c1n) : hk_S G m_X10_leastRound (d + 1) cb sb 0 [o0, some (.int x1), o2, o3, o4, o5, o6] [] h Q := by
  refine hs_ldc (v := 1000000) dX10_leastRound_0 wd_1357 ?_
  refine hs_istK dX10_leastRound_2 (by decide) (hk_nk1 rfl ho4) rfl ?_
  refine hs_iload_n dX10_leastRound_4 rfl ?_
  refine hs_istK dX10_leastRound_5 (by decide) (hk_nk1 rfl hk_c1i) rfl ?_
  exact k
theorem b_X10_leastRound_7 {G : hk_G} {d cb sb : Nat} {h : hk_H} {Q : hk_O → hk_H → Prop} {x6 : Int32} {r0 : Nat} {fs1 : List Value} {v3 : Int32} {o1 : Option Value} {o2 : Option Value} {o3 : Option Value} {o4 : Option Value} {o5 : Option Value} (hg2 : h.2 r0 = some (.inr (10, fs1))) (hv4 : fs1[1]? = some (.int v3)) (kt : v3 ≤ x6 → hk_S G m_X10_leastRound (d + 1) cb sb 112 [some (.ref r0), o1, o2, o3, o4, o5, some (.int x6)] [] h Q) (kf : ¬ v3 ≤ x6 → hk_S G m_X10_leastRound (d + 1) cb sb 16 [some (.ref r0), o1, o2, o3, o4, o5, some (.int x6)] [] h Q) : hk_S G m_X10_leastRound (d + 1) cb sb 7 [some (.ref r0), o1, o2, o3, o4, o5, some (.int x6)] [] h Q := by
  refine hs_iload dX10_leastRound_7 rfl ?_
  refine hs_aload_n dX10_leastRound_9 rfl ?_
  refine hs_get dX10_leastRound_10 fl_X10_101_10 hg2 hv4 ?_
  exact hs_icmp_ge dX10_leastRound_13 (by decide) kt kf
theorem b_X10_leastRound_16 {G : hk_G} {d cb sb : Nat} {h : hk_H} {Q : hk_O → hk_H → Prop} {r0 : Nat} {fs1 : List Value} {v3 : Nat} {x6 : Int32} {n5 : Nat} {f6 : Nat → Int32} {o1 : Option Value} {o2 : Option Value} {o3 : Option Value} {o4 : Option Value} {o5 : Option Value} (hg2 : h.2 r0 = some (.inr (10, fs1))) (hv4 : fs1[16]? = some (.ref v3)) (ha7 : h.2 v3 = some (.inl (2, n5, .inl f6))) (j8 : Nat) (hi9 : (x6 : Int32).toInt = (j8 : Int)) (hj10 : j8 < n5) (kt : ¬ (f6 j8) = 0 → hk_S G m_X10_leastRound (d + 1) cb sb 29 [some (.ref r0), o1, o2, o3, o4, o5, some (.int x6)] [] h Q) (kf : (f6 j8) = 0 → hk_S G m_X10_leastRound (d + 1) cb sb 26 [some (.ref r0), o1, o2, o3, o4, o5, some (.int x6)] [] h Q) : hk_S G m_X10_leastRound (d + 1) cb sb 16 [some (.ref r0), o1, o2, o3, o4, o5, some (.int x6)] [] h Q := by
  refine hs_aload_n dX10_leastRound_16 rfl ?_
  refine hs_get dX10_leastRound_17 fl_X10_41_10 hg2 hv4 ?_
  refine hs_iload dX10_leastRound_20 rfl ?_
  refine hs_zald j8 dX10_leastRound_22 ha7 hi9 hj10 ?_
  exact hs_if_ne dX10_leastRound_23 (by decide) kt kf
theorem b_X10_leastRound_26 {G : hk_G} {d cb sb : Nat} {h : hk_H} {Q : hk_O → hk_H → Prop} {x6 : Int32} {o0 : Option Value} {o1 : Option Value} {o2 : Option Value} {o3 : Option Value} {o4 : Option Value} {o5 : Option Value} (k : hk_S G m_X10_leastRound (d + 1) cb sb 7 [o0, o1, o2, o3, o4, o5, some (.int (x6 + 1))] [] h Q) (ho5 : hk_c1 o5 := by first | exact hk_c1i | exact hk_c1r | exact hk_c10 | exact hk_c1n) : hk_S G m_X10_leastRound (d + 1) cb sb 26 [o0, o1, o2, o3, o4, o5, some (.int x6)] [] h Q := by
  refine hs_goto dX10_leastRound_26 (tgt := 106) (by decide) ?_
  refine hs_iincK (v := 1) dX10_leastRound_106 rfl (by decide) (by decide) (hk_nk1 rfl ho5) rfl ?_
  refine hs_goto dX10_leastRound_109 (tgt := 7) (by decide) ?_
  exact k
theorem b_X10_leastRound_29 {G : hk_G} {d cb sb : Nat} {h : hk_H} {Q : hk_O → hk_H → Prop} {x6 : Int32} {x1 : Int32} {o0 : Option Value} {o2 : Option Value} {o3 : Option Value} {o4 : Option Value} {o5 : Option Value} (kt : ¬ x6 = x1 → hk_S G m_X10_leastRound (d + 1) cb sb 63 [o0, some (.int x1), o2, o3, o4, o5, some (.int x6)] [] h Q) (kf : x6 = x1 → hk_S G m_X10_leastRound (d + 1) cb sb 35 [o0, some (.int x1), o2, o3, o4, o5, some (.int x6)] [] h Q) : hk_S G m_X10_leastRound (d + 1) cb sb 29 [o0, some (.int x1), o2, o3, o4, o5, some (.int x6)] [] h Q := by
  refine hs_iload dX10_leastRound_29 rfl ?_
  refine hs_iload_n dX10_leastRound_31 rfl ?_
  exact hs_icmp_ne dX10_leastRound_32 (by decide) kt kf
theorem b_X10_leastRound_35 {G : hk_G} {d cb sb : Nat} {h : hk_H} {Q : hk_O → hk_H → Prop} {x2 : Int32} {x1 : Int32} {o0 : Option Value} {o3 : Option Value} {o4 : Option Value} {o5 : Option Value} {o6 : Option Value} (kt : x2 = x1 → hk_S G m_X10_leastRound (d + 1) cb sb 106 [o0, some (.int x1), some (.int x2), o3, o4, o5, o6] [] h Q) (kf : ¬ x2 = x1 → hk_S G m_X10_leastRound (d + 1) cb sb 40 [o0, some (.int x1), some (.int x2), o3, o4, o5, o6] [] h Q) : hk_S G m_X10_leastRound (d + 1) cb sb 35 [o0, some (.int x1), some (.int x2), o3, o4, o5, o6] [] h Q := by
  refine hs_iload_n dX10_leastRound_35 rfl ?_
  refine hs_iload_n dX10_leastRound_36 rfl ?_
  exact hs_icmp_eq dX10_leastRound_37 (by decide) kt kf
theorem b_X10_leastRound_40 {G : hk_G} {d cb sb : Nat} {h : hk_H} {Q : hk_O → hk_H → Prop} {x5 : Int32} {x4 : Int32} {r0 : Nat} {fs1 : List Value} {v3 : Nat} {x2 : Int32} {x1 : Int32} {n5 : Nat} {f6 : Nat → Int32} {o3 : Option Value} {o6 : Option Value} (hg2 : h.2 r0 = some (.inr (10, fs1))) (hv4 : fs1[17]? = some (.ref v3)) (ha7 : h.2 v3 = some (.inl (0, n5, .inl f6))) (j8 : Nat) (hi9 : ((5 * x2) + x1 : Int32).toInt = (j8 : Int)) (hj10 : j8 < n5) (hc : hk_Ci G m_J9_min_7cf53 d 0 0 [.int x5, .int (x4 + (f6 j8))] h (fun z h' => hk_S G m_X10_leastRound (d + 1) cb sb 58 [some (.ref r0), some (.int x1), some (.int x2), o3, some (.int x4), some (.int x5), o6] [.int z] h' Q)) : hk_S G m_X10_leastRound (d + 1) cb sb 40 [some (.ref r0), some (.int x1), some (.int x2), o3, some (.int x4), some (.int x5), o6] [] h Q := by
  refine hs_iload dX10_leastRound_40 rfl ?_
  refine hs_iload dX10_leastRound_42 rfl ?_
  refine hs_aload_n dX10_leastRound_44 rfl ?_
  refine hs_get dX10_leastRound_45 fl_X10_45_10 hg2 hv4 ?_
  refine hs_iconst (v := 5) dX10_leastRound_48 (by decide) ?_
  refine hs_iload_n dX10_leastRound_49 rfl ?_
  refine hs_imul dX10_leastRound_50 ?_
  refine hs_iload_n dX10_leastRound_51 rfl ?_
  refine hs_iadd dX10_leastRound_52 ?_
  refine hs_iald j8 dX10_leastRound_53 ha7 hi9 hj10 ?_
  refine hs_iadd dX10_leastRound_54 ?_
  exact hk_z0 (hs_sta (M' := m_J9_min_7cf53) (vs := [.int x5, .int (x4 + (f6 j8))]) (c1 := 0) (s1 := 0) dX10_leastRound_55 wd_1358 st_J9_min_7cf53 rfl (Nat.le_of_ble_eq_true rfl) hc hq_i (hc_i (fun z h9 k9 => k9)))
theorem b_X10_leastRound_58 {G : hk_G} {d cb sb : Nat} {h : hk_H} {Q : hk_O → hk_H → Prop} {s0 : Int32} {x6 : Int32} {o0 : Option Value} {o1 : Option Value} {o2 : Option Value} {o3 : Option Value} {o4 : Option Value} {o5 : Option Value} (k : hk_S G m_X10_leastRound (d + 1) cb sb 7 [o0, o1, o2, o3, o4, some (.int s0), some (.int (x6 + 1))] [] h Q) (ho4 : hk_c1 o4 := by first | exact hk_c1i | exact hk_c1r | exact hk_c10 | exact hk_c1n) : hk_S G m_X10_leastRound (d + 1) cb sb 58 [o0, o1, o2, o3, o4, o5, some (.int x6)] [.int s0] h Q := by
  refine hs_istK dX10_leastRound_58 (by decide) (hk_nk1 rfl ho4) rfl ?_
  refine hs_goto dX10_leastRound_60 (tgt := 106) (by decide) ?_
  refine hs_iincK (v := 1) dX10_leastRound_106 rfl (by decide) (by decide) (hk_nk1 rfl hk_c1i) rfl ?_
  refine hs_goto dX10_leastRound_109 (tgt := 7) (by decide) ?_
  exact k
theorem b_X10_leastRound_63 {G : hk_G} {d cb sb : Nat} {h : hk_H} {Q : hk_O → hk_H → Prop} {x3 : Int32} {x6 : Int32} {o0 : Option Value} {o1 : Option Value} {o2 : Option Value} {o4 : Option Value} {o5 : Option Value} (kt : ¬ ((x3 >>> (x6 &&& 31)) &&& 1) = 0 → hk_S G m_X10_leastRound (d + 1) cb sb 106 [o0, o1, o2, some (.int x3), o4, o5, some (.int x6)] [] h Q) (kf : ((x3 >>> (x6 &&& 31)) &&& 1) = 0 → hk_S G m_X10_leastRound (d + 1) cb sb 72 [o0, o1, o2, some (.int x3), o4, o5, some (.int x6)] [] h Q) : hk_S G m_X10_leastRound (d + 1) cb sb 63 [o0, o1, o2, some (.int x3), o4, o5, some (.int x6)] [] h Q := by
  refine hs_iload_n dX10_leastRound_63 rfl ?_
  refine hs_iload dX10_leastRound_64 rfl ?_
  refine hs_ishr dX10_leastRound_66 ?_
  refine hs_iconst (v := 1) dX10_leastRound_67 (by decide) ?_
  refine hs_iand dX10_leastRound_68 ?_
  exact hs_if_ne dX10_leastRound_69 (by decide) kt kf
theorem b_X10_leastRound_72 {G : hk_G} {d cb sb : Nat} {h : hk_H} {Q : hk_O → hk_H → Prop} {x5 : Int32} {r0 : Nat} {x1 : Int32} {x6 : Int32} {x3 : Int32} {x4 : Int32} {fs1 : List Value} {v3 : Nat} {x2 : Int32} {n5 : Nat} {f6 : Nat → Int32} (hg2 : h.2 r0 = some (.inr (10, fs1))) (hv4 : fs1[17]? = some (.ref v3)) (ha7 : h.2 v3 = some (.inl (0, n5, .inl f6))) (j8 : Nat) (hi9 : ((5 * x2) + x6 : Int32).toInt = (j8 : Int)) (hj10 : j8 < n5) (hc : hk_Ci G m_X10_leastRound d 0 0 [.ref r0, .int x1, .int x6, .int (x3 ||| (1 <<< (x6 &&& 31))), .int (x4 + (f6 j8))] h (fun z h' => hk_S G m_X10_leastRound (d + 1) cb sb 101 [some (.ref r0), some (.int x1), some (.int x2), some (.int x3), some (.int x4), some (.int x5), some (.int x6)] [.int z, .int x5] h' Q)) : hk_S G m_X10_leastRound (d + 1) cb sb 72 [some (.ref r0), some (.int x1), some (.int x2), some (.int x3), some (.int x4), some (.int x5), some (.int x6)] [] h Q := by
  refine hs_iload dX10_leastRound_72 rfl ?_
  refine hs_aload_n dX10_leastRound_74 rfl ?_
  refine hs_iload_n dX10_leastRound_75 rfl ?_
  refine hs_iload dX10_leastRound_76 rfl ?_
  refine hs_iload_n dX10_leastRound_78 rfl ?_
  refine hs_iconst (v := 1) dX10_leastRound_79 (by decide) ?_
  refine hs_iload dX10_leastRound_80 rfl ?_
  refine hs_ishl dX10_leastRound_82 ?_
  refine hs_ior dX10_leastRound_83 ?_
  refine hs_iload dX10_leastRound_84 rfl ?_
  refine hs_aload_n dX10_leastRound_86 rfl ?_
  refine hs_get dX10_leastRound_87 fl_X10_45_10 hg2 hv4 ?_
  refine hs_iconst (v := 5) dX10_leastRound_90 (by decide) ?_
  refine hs_iload_n dX10_leastRound_91 rfl ?_
  refine hs_imul dX10_leastRound_92 ?_
  refine hs_iload dX10_leastRound_93 rfl ?_
  refine hs_iadd dX10_leastRound_95 ?_
  refine hs_iald j8 dX10_leastRound_96 ha7 hi9 hj10 ?_
  refine hs_iadd dX10_leastRound_97 ?_
  exact hk_z0 (hs_vir (M' := m_X10_leastRound) (vs := [.int x1, .int x6, .int (x3 ||| (1 <<< (x6 &&& 31))), .int (x4 + (f6 j8))]) (c1 := 0) (s1 := 0) dX10_leastRound_98 wd_1367 vi_X10_leastRound hg2 rfl (Nat.le_of_ble_eq_true rfl) hc hq_i (hc_i (fun z h9 k9 => k9)))
theorem b_X10_leastRound_101 {G : hk_G} {d cb sb : Nat} {h : hk_H} {Q : hk_O → hk_H → Prop} {s0 : Int32} {s1 : Int32} {o0 : Option Value} {o1 : Option Value} {o2 : Option Value} {o3 : Option Value} {o4 : Option Value} {o5 : Option Value} {o6 : Option Value} (hc : hk_Ci G m_J9_min_7cf53 d 0 0 [.int s0, .int s1] h (fun z h' => hk_S G m_X10_leastRound (d + 1) cb sb 104 [o0, o1, o2, o3, o4, o5, o6] [.int z] h' Q)) : hk_S G m_X10_leastRound (d + 1) cb sb 101 [o0, o1, o2, o3, o4, o5, o6] [.int s1, .int s0] h Q := by
  exact hk_z0 (hs_sta (M' := m_J9_min_7cf53) (vs := [.int s0, .int s1]) (c1 := 0) (s1 := 0) dX10_leastRound_101 wd_1358 st_J9_min_7cf53 rfl (Nat.le_of_ble_eq_true rfl) hc hq_i (hc_i (fun z h9 k9 => k9)))
theorem b_X10_leastRound_104 {G : hk_G} {d cb sb : Nat} {h : hk_H} {Q : hk_O → hk_H → Prop} {s0 : Int32} {x6 : Int32} {o0 : Option Value} {o1 : Option Value} {o2 : Option Value} {o3 : Option Value} {o4 : Option Value} {o5 : Option Value} (k : hk_S G m_X10_leastRound (d + 1) cb sb 7 [o0, o1, o2, o3, o4, some (.int s0), some (.int (x6 + 1))] [] h Q) (ho4 : hk_c1 o4 := by first | exact hk_c1i | exact hk_c1r | exact hk_c10 | exact hk_c1n) : hk_S G m_X10_leastRound (d + 1) cb sb 104 [o0, o1, o2, o3, o4, o5, some (.int x6)] [.int s0] h Q := by
  refine hs_istK dX10_leastRound_104 (by decide) (hk_nk1 rfl ho4) rfl ?_
  refine hs_iincK (v := 1) dX10_leastRound_106 rfl (by decide) (by decide) (hk_nk1 rfl hk_c1i) rfl ?_
  refine hs_goto dX10_leastRound_109 (tgt := 7) (by decide) ?_
  exact k
theorem b_X10_leastRound_106 {G : hk_G} {d cb sb : Nat} {h : hk_H} {Q : hk_O → hk_H → Prop} {x6 : Int32} {o0 : Option Value} {o1 : Option Value} {o2 : Option Value} {o3 : Option Value} {o4 : Option Value} {o5 : Option Value} (k : hk_S G m_X10_leastRound (d + 1) cb sb 7 [o0, o1, o2, o3, o4, o5, some (.int (x6 + 1))] [] h Q) (ho5 : hk_c1 o5 := by first | exact hk_c1i | exact hk_c1r | exact hk_c10 | exact hk_c1n) : hk_S G m_X10_leastRound (d + 1) cb sb 106 [o0, o1, o2, o3, o4, o5, some (.int x6)] [] h Q := by
  refine hs_iincK (v := 1) dX10_leastRound_106 rfl (by decide) (by decide) (hk_nk1 rfl ho5) rfl ?_
  refine hs_goto dX10_leastRound_109 (tgt := 7) (by decide) ?_
  exact k
theorem b_X10_leastRound_112 {G : hk_G} {d cb sb : Nat} {h : hk_H} {Q : hk_O → hk_H → Prop} {x5 : Int32} {o0 : Option Value} {o1 : Option Value} {o2 : Option Value} {o3 : Option Value} {o4 : Option Value} {o6 : Option Value} (hq : Q (.inl (some (.int x5))) h) : hk_S G m_X10_leastRound (d + 1) cb sb 112 [o0, o1, o2, o3, o4, some (.int x5), o6] [] h Q := by
  refine hs_iload dX10_leastRound_112 rfl ?_
  exact hs_iret dX10_leastRound_114 rfl hq
-- HonestHouseModel.least()I
theorem b_X10_least_0 {G : hk_G} {d cb sb : Nat} {h : hk_H} {Q : hk_O → hk_H → Prop} {o0 : Option Value} {o1 : Option Value} {o2 : Option Value} (k : hk_S G m_X10_least (d + 1) cb sb 5 [o0, some (.int 1000000), some (.int 0)] [] h Q) (ho0 : hk_c1 o0 := by first | exact hk_c1i | exact hk_c1r | exact hk_c10 | exact hk_c1n) : hk_S G m_X10_least (d + 1) cb sb 0 [o0, o1, o2] [] h Q := by
  refine hs_ldc (v := 1000000) dX10_least_0 wd_1357 ?_
  refine hs_istK_n dX10_least_2 (by decide) (hk_nk1 rfl ho0) rfl ?_
  refine hs_iconst (v := 0) dX10_least_3 (by decide) ?_
  refine hs_istK_n dX10_least_4 (by decide) (hk_nk1 rfl hk_c1i) rfl ?_
  exact k
theorem b_X10_least_5 {G : hk_G} {d cb sb : Nat} {h : hk_H} {Q : hk_O → hk_H → Prop} {x2 : Int32} {r0 : Nat} {fs1 : List Value} {v3 : Int32} {o1 : Option Value} (hg2 : h.2 r0 = some (.inr (10, fs1))) (hv4 : fs1[1]? = some (.int v3)) (kt : v3 ≤ x2 → hk_S G m_X10_least (d + 1) cb sb 43 [some (.ref r0), o1, some (.int x2)] [] h Q) (kf : ¬ v3 ≤ x2 → hk_S G m_X10_least (d + 1) cb sb 13 [some (.ref r0), o1, some (.int x2)] [] h Q) : hk_S G m_X10_least (d + 1) cb sb 5 [some (.ref r0), o1, some (.int x2)] [] h Q := by
  refine hs_iload_n dX10_least_5 rfl ?_
  refine hs_aload_n dX10_least_6 rfl ?_
  refine hs_get dX10_least_7 fl_X10_101_10 hg2 hv4 ?_
  exact hs_icmp_ge dX10_least_10 (by decide) kt kf
theorem b_X10_least_13 {G : hk_G} {d cb sb : Nat} {h : hk_H} {Q : hk_O → hk_H → Prop} {r0 : Nat} {fs1 : List Value} {v3 : Nat} {x2 : Int32} {n5 : Nat} {f6 : Nat → Int32} {o1 : Option Value} (hg2 : h.2 r0 = some (.inr (10, fs1))) (hv4 : fs1[16]? = some (.ref v3)) (ha7 : h.2 v3 = some (.inl (2, n5, .inl f6))) (j8 : Nat) (hi9 : (x2 : Int32).toInt = (j8 : Int)) (hj10 : j8 < n5) (kt : (f6 j8) = 0 → hk_S G m_X10_least (d + 1) cb sb 37 [some (.ref r0), o1, some (.int x2)] [] h Q) (kf : ¬ (f6 j8) = 0 → hk_S G m_X10_least (d + 1) cb sb 22 [some (.ref r0), o1, some (.int x2)] [] h Q) : hk_S G m_X10_least (d + 1) cb sb 13 [some (.ref r0), o1, some (.int x2)] [] h Q := by
  refine hs_aload_n dX10_least_13 rfl ?_
  refine hs_get dX10_least_14 fl_X10_41_10 hg2 hv4 ?_
  refine hs_iload_n dX10_least_17 rfl ?_
  refine hs_zald j8 dX10_least_18 ha7 hi9 hj10 ?_
  exact hs_if_eq dX10_least_19 (by decide) kt kf
theorem b_X10_least_22 {G : hk_G} {d cb sb : Nat} {h : hk_H} {Q : hk_O → hk_H → Prop} {x1 : Int32} {r0 : Nat} {x2 : Int32} {fs_ : List Value} (hrec : h.2 r0 = some (.inr (10, fs_))) (hc : hk_Ci G m_X10_leastRound d 0 0 [.ref r0, .int x2, .int x2, .int (1 <<< (x2 &&& 31)), .int 0] h (fun z h' => hk_S G m_X10_least (d + 1) cb sb 33 [some (.ref r0), some (.int x1), some (.int x2)] [.int z, .int x1] h' Q)) : hk_S G m_X10_least (d + 1) cb sb 22 [some (.ref r0), some (.int x1), some (.int x2)] [] h Q := by
  refine hs_iload_n dX10_least_22 rfl ?_
  refine hs_aload_n dX10_least_23 rfl ?_
  refine hs_iload_n dX10_least_24 rfl ?_
  refine hs_iload_n dX10_least_25 rfl ?_
  refine hs_iconst (v := 1) dX10_least_26 (by decide) ?_
  refine hs_iload_n dX10_least_27 rfl ?_
  refine hs_ishl dX10_least_28 ?_
  refine hs_iconst (v := 0) dX10_least_29 (by decide) ?_
  exact hk_z0 (hs_vir (M' := m_X10_leastRound) (vs := [.int x2, .int x2, .int (1 <<< (x2 &&& 31)), .int 0]) (c1 := 0) (s1 := 0) dX10_least_30 wd_1367 vi_X10_leastRound hrec rfl (Nat.le_of_ble_eq_true rfl) hc hq_i (hc_i (fun z h9 k9 => k9)))
theorem b_X10_least_33 {G : hk_G} {d cb sb : Nat} {h : hk_H} {Q : hk_O → hk_H → Prop} {s0 : Int32} {s1 : Int32} {o0 : Option Value} {o1 : Option Value} {o2 : Option Value} (hc : hk_Ci G m_J9_min_7cf53 d 0 0 [.int s0, .int s1] h (fun z h' => hk_S G m_X10_least (d + 1) cb sb 36 [o0, o1, o2] [.int z] h' Q)) : hk_S G m_X10_least (d + 1) cb sb 33 [o0, o1, o2] [.int s1, .int s0] h Q := by
  exact hk_z0 (hs_sta (M' := m_J9_min_7cf53) (vs := [.int s0, .int s1]) (c1 := 0) (s1 := 0) dX10_least_33 wd_1358 st_J9_min_7cf53 rfl (Nat.le_of_ble_eq_true rfl) hc hq_i (hc_i (fun z h9 k9 => k9)))
theorem b_X10_least_36 {G : hk_G} {d cb sb : Nat} {h : hk_H} {Q : hk_O → hk_H → Prop} {s0 : Int32} {x2 : Int32} {o0 : Option Value} {o1 : Option Value} (k : hk_S G m_X10_least (d + 1) cb sb 5 [o0, some (.int s0), some (.int (x2 + 1))] [] h Q) (ho0 : hk_c1 o0 := by first | exact hk_c1i | exact hk_c1r | exact hk_c10 | exact hk_c1n) : hk_S G m_X10_least (d + 1) cb sb 36 [o0, o1, some (.int x2)] [.int s0] h Q := by
  refine hs_istK_n dX10_least_36 (by decide) (hk_nk1 rfl ho0) rfl ?_
  refine hs_iincK (v := 1) dX10_least_37 rfl (by decide) (by decide) (hk_nk1 rfl hk_c1i) rfl ?_
  refine hs_goto dX10_least_40 (tgt := 5) (by decide) ?_
  exact k
theorem b_X10_least_37 {G : hk_G} {d cb sb : Nat} {h : hk_H} {Q : hk_O → hk_H → Prop} {x2 : Int32} {o0 : Option Value} {o1 : Option Value} (k : hk_S G m_X10_least (d + 1) cb sb 5 [o0, o1, some (.int (x2 + 1))] [] h Q) (ho1 : hk_c1 o1 := by first | exact hk_c1i | exact hk_c1r | exact hk_c10 | exact hk_c1n) : hk_S G m_X10_least (d + 1) cb sb 37 [o0, o1, some (.int x2)] [] h Q := by
  refine hs_iincK (v := 1) dX10_least_37 rfl (by decide) (by decide) (hk_nk1 rfl ho1) rfl ?_
  refine hs_goto dX10_least_40 (tgt := 5) (by decide) ?_
  exact k
theorem b_X10_least_43 {G : hk_G} {d cb sb : Nat} {h : hk_H} {Q : hk_O → hk_H → Prop} {x1 : Int32} {o0 : Option Value} {o2 : Option Value} (hq : Q (.inl (some (.int x1))) h) : hk_S G m_X10_least (d + 1) cb sb 43 [o0, some (.int x1), o2] [] h Q := by
  refine hs_iload_n dX10_least_43 rfl ?_
  exact hs_iret dX10_least_44 rfl hq
-- HonestHouseModel.span(IIIII)I
theorem b_X10_span_0 {G : hk_G} {d cb sb : Nat} {h : hk_H} {Q : hk_O → hk_H → Prop} {r0 : Nat} {fs1 : List Value} {h_1 : hk_H} {x1 : Int32} {x2 : Int32} {fs_ : List Value} {o3 : Option Value} {o4 : Option Value} {o5 : Option Value} (hg2 : h.2 r0 = some (.inr (10, fs1))) (h4_r0 : 4 ≤ r0) (e_1 : (hk_set h r0 (.inr (10, fs1.set 13 (.int 0)))) = h_1) (hrec : h_1.2 r0 = some (.inr (10, fs_))) (hc : hk_Ci G m_X10_isRow d 0 0 [.ref r0, .int x1, .int x2] h_1 (fun z h' => hk_S G m_X10_span (d + 1) cb sb 11 [some (.ref r0), some (.int x1), some (.int x2), o3, o4, o5] [.int z] h' Q)) (hl3 : 13 < fs1.length := by exact Nat.le_of_ble_eq_true rfl) : hk_S G m_X10_span (d + 1) cb sb 0 [some (.ref r0), some (.int x1), some (.int x2), o3, o4, o5] [] h Q := by
  subst e_1
  refine hs_aload_n dX10_span_0 rfl ?_
  refine hs_iconst (v := 0) dX10_span_1 (by decide) ?_
  refine hs_put (t := .int) dX10_span_2 fw_X10_107_10 hg2 h4_r0 hl3 rfl rfl ?_
  refine hs_aload_n dX10_span_5 rfl ?_
  refine hs_iload_n dX10_span_6 rfl ?_
  refine hs_iload_n dX10_span_7 rfl ?_
  exact hk_z0 (hs_vir (M' := m_X10_isRow) (vs := [.int x1, .int x2]) (c1 := 0) (s1 := 0) dX10_span_8 wd_1237 vi_X10_isRow hrec rfl (Nat.le_of_ble_eq_true rfl) hc hq_i (hc_i (fun z h9 k9 => k9)))
theorem b_X10_span_11 {G : hk_G} {d cb sb : Nat} {h : hk_H} {Q : hk_O → hk_H → Prop} {s0 : Int32} {o0 : Option Value} {o1 : Option Value} {o2 : Option Value} {o3 : Option Value} {o4 : Option Value} {o5 : Option Value} (kt : s0 = 0 → hk_S G m_X10_span (d + 1) cb sb 49 [o0, o1, o2, o3, o4, o5] [] h Q) (kf : ¬ s0 = 0 → hk_S G m_X10_span (d + 1) cb sb 14 [o0, o1, o2, o3, o4, o5] [] h Q) : hk_S G m_X10_span (d + 1) cb sb 11 [o0, o1, o2, o3, o4, o5] [.int s0] h Q := by
  exact hs_if_eq dX10_span_11 (by decide) kt kf
theorem b_X10_span_14 {G : hk_G} {d cb sb : Nat} {h : hk_H} {Q : hk_O → hk_H → Prop} {x3 : Int32} {r0 : Nat} {fs1 : List Value} {v3 : Int32} {o1 : Option Value} {o2 : Option Value} {o4 : Option Value} {o5 : Option Value} (hg2 : h.2 r0 = some (.inr (10, fs1))) (hv4 : fs1[0]? = some (.int v3)) (hc : hk_Ci G m_X10_isIn d 0 0 [.int x3, .int v3] h (fun z h' => hk_S G m_X10_span (d + 1) cb sb 22 [some (.ref r0), o1, o2, some (.int x3), o4, o5] [.int z] h' Q)) : hk_S G m_X10_span (d + 1) cb sb 14 [some (.ref r0), o1, o2, some (.int x3), o4, o5] [] h Q := by
  refine hs_iload_n dX10_span_14 rfl ?_
  refine hs_aload_n dX10_span_15 rfl ?_
  refine hs_get dX10_span_16 fl_X10_97_10 hg2 hv4 ?_
  exact hk_z0 (hs_sta (M' := m_X10_isIn) (vs := [.int x3, .int v3]) (c1 := 0) (s1 := 0) dX10_span_19 wd_1226 st_X10_isIn rfl (Nat.le_of_ble_eq_true rfl) hc hq_i (hc_i (fun z h9 k9 => k9)))
theorem b_X10_span_22 {G : hk_G} {d cb sb : Nat} {h : hk_H} {Q : hk_O → hk_H → Prop} {s0 : Int32} {o0 : Option Value} {o1 : Option Value} {o2 : Option Value} {o3 : Option Value} {o4 : Option Value} {o5 : Option Value} (kt : s0 = 0 → hk_S G m_X10_span (d + 1) cb sb 49 [o0, o1, o2, o3, o4, o5] [] h Q) (kf : ¬ s0 = 0 → hk_S G m_X10_span (d + 1) cb sb 25 [o0, o1, o2, o3, o4, o5] [] h Q) : hk_S G m_X10_span (d + 1) cb sb 22 [o0, o1, o2, o3, o4, o5] [.int s0] h Q := by
  exact hs_if_eq dX10_span_22 (by decide) kt kf
theorem b_X10_span_25 {G : hk_G} {d cb sb : Nat} {h : hk_H} {Q : hk_O → hk_H → Prop} {x4 : Int32} {r0 : Nat} {fs1 : List Value} {v3 : Int32} {o1 : Option Value} {o2 : Option Value} {o3 : Option Value} {o5 : Option Value} (hg2 : h.2 r0 = some (.inr (10, fs1))) (hv4 : fs1[1]? = some (.int v3)) (hc : hk_Ci G m_X10_isIn d 0 0 [.int x4, .int v3] h (fun z h' => hk_S G m_X10_span (d + 1) cb sb 34 [some (.ref r0), o1, o2, o3, some (.int x4), o5] [.int z] h' Q)) : hk_S G m_X10_span (d + 1) cb sb 25 [some (.ref r0), o1, o2, o3, some (.int x4), o5] [] h Q := by
  refine hs_iload dX10_span_25 rfl ?_
  refine hs_aload_n dX10_span_27 rfl ?_
  refine hs_get dX10_span_28 fl_X10_101_10 hg2 hv4 ?_
  exact hk_z0 (hs_sta (M' := m_X10_isIn) (vs := [.int x4, .int v3]) (c1 := 0) (s1 := 0) dX10_span_31 wd_1226 st_X10_isIn rfl (Nat.le_of_ble_eq_true rfl) hc hq_i (hc_i (fun z h9 k9 => k9)))
theorem b_X10_span_34 {G : hk_G} {d cb sb : Nat} {h : hk_H} {Q : hk_O → hk_H → Prop} {s0 : Int32} {o0 : Option Value} {o1 : Option Value} {o2 : Option Value} {o3 : Option Value} {o4 : Option Value} {o5 : Option Value} (kt : s0 = 0 → hk_S G m_X10_span (d + 1) cb sb 49 [o0, o1, o2, o3, o4, o5] [] h Q) (kf : ¬ s0 = 0 → hk_S G m_X10_span (d + 1) cb sb 37 [o0, o1, o2, o3, o4, o5] [] h Q) : hk_S G m_X10_span (d + 1) cb sb 34 [o0, o1, o2, o3, o4, o5] [.int s0] h Q := by
  exact hs_if_eq dX10_span_34 (by decide) kt kf
theorem b_X10_span_37 {G : hk_G} {d cb sb : Nat} {h : hk_H} {Q : hk_O → hk_H → Prop} {x5 : Int32} {r0 : Nat} {fs1 : List Value} {v3 : Int32} {o1 : Option Value} {o2 : Option Value} {o3 : Option Value} {o4 : Option Value} (hg2 : h.2 r0 = some (.inr (10, fs1))) (hv4 : fs1[1]? = some (.int v3)) (hc : hk_Ci G m_X10_isIn d 0 0 [.int x5, .int v3] h (fun z h' => hk_S G m_X10_span (d + 1) cb sb 46 [some (.ref r0), o1, o2, o3, o4, some (.int x5)] [.int z] h' Q)) : hk_S G m_X10_span (d + 1) cb sb 37 [some (.ref r0), o1, o2, o3, o4, some (.int x5)] [] h Q := by
  refine hs_iload dX10_span_37 rfl ?_
  refine hs_aload_n dX10_span_39 rfl ?_
  refine hs_get dX10_span_40 fl_X10_101_10 hg2 hv4 ?_
  exact hk_z0 (hs_sta (M' := m_X10_isIn) (vs := [.int x5, .int v3]) (c1 := 0) (s1 := 0) dX10_span_43 wd_1226 st_X10_isIn rfl (Nat.le_of_ble_eq_true rfl) hc hq_i (hc_i (fun z h9 k9 => k9)))
theorem b_X10_span_46 {G : hk_G} {d cb sb : Nat} {h : hk_H} {Q : hk_O → hk_H → Prop} {s0 : Int32} {o0 : Option Value} {o1 : Option Value} {o2 : Option Value} {o3 : Option Value} {o4 : Option Value} {o5 : Option Value} (kt : ¬ s0 = 0 → hk_S G m_X10_span (d + 1) cb sb 55 [o0, o1, o2, o3, o4, o5] [] h Q) (kf : s0 = 0 → hk_S G m_X10_span (d + 1) cb sb 49 [o0, o1, o2, o3, o4, o5] [] h Q) : hk_S G m_X10_span (d + 1) cb sb 46 [o0, o1, o2, o3, o4, o5] [.int s0] h Q := by
  exact hs_if_ne dX10_span_46 (by decide) kt kf
theorem b_X10_span_49 {G : hk_G} {d cb sb : Nat} {h : hk_H} {Q : hk_O → hk_H → Prop} {r0 : Nat} {fs_ : List Value} {o1 : Option Value} {o2 : Option Value} {o3 : Option Value} {o4 : Option Value} {o5 : Option Value} (hrec : h.2 r0 = some (.inr (10, fs_))) (hc : hk_Ci G m_X10_raises d 0 0 [.ref r0, .int 1] h (fun z h' => hk_S G m_X10_span (d + 1) cb sb 54 [some (.ref r0), o1, o2, o3, o4, o5] [.int z] h' Q)) : hk_S G m_X10_span (d + 1) cb sb 49 [some (.ref r0), o1, o2, o3, o4, o5] [] h Q := by
  refine hs_aload_n dX10_span_49 rfl ?_
  refine hs_iconst (v := 1) dX10_span_50 (by decide) ?_
  exact hk_z0 (hs_vir (M' := m_X10_raises) (vs := [.int 1]) (c1 := 0) (s1 := 0) dX10_span_51 wd_1285 vi_X10_raises hrec rfl (Nat.le_of_ble_eq_true rfl) hc hq_i (hc_i (fun z h9 k9 => k9)))
theorem b_X10_span_54 {G : hk_G} {d cb sb : Nat} {h : hk_H} {Q : hk_O → hk_H → Prop} {s0 : Int32} {o0 : Option Value} {o1 : Option Value} {o2 : Option Value} {o3 : Option Value} {o4 : Option Value} {o5 : Option Value} (hq : Q (.inl (some (.int s0))) h) : hk_S G m_X10_span (d + 1) cb sb 54 [o0, o1, o2, o3, o4, o5] [.int s0] h Q := by
  exact hs_iret dX10_span_54 rfl hq
theorem b_X10_span_55 {G : hk_G} {d cb sb : Nat} {h : hk_H} {Q : hk_O → hk_H → Prop} {r0 : Nat} {x1 : Int32} {x2 : Int32} {x3 : Int32} {fs_ : List Value} {o4 : Option Value} {o5 : Option Value} (hrec : h.2 r0 = some (.inr (10, fs_))) (hc : hk_Cv G m_X10_measure d 0 0 [.ref r0, .int x1, .int x2, .int x3] h (fun h' => hk_S G m_X10_span (d + 1) cb sb 62 [some (.ref r0), some (.int x1), some (.int x2), some (.int x3), o4, o5] [] h' Q)) : hk_S G m_X10_span (d + 1) cb sb 55 [some (.ref r0), some (.int x1), some (.int x2), some (.int x3), o4, o5] [] h Q := by
  refine hs_aload_n dX10_span_55 rfl ?_
  refine hs_iload_n dX10_span_56 rfl ?_
  refine hs_iload_n dX10_span_57 rfl ?_
  refine hs_iload_n dX10_span_58 rfl ?_
  exact hk_z0 (hs_vir (M' := m_X10_measure) (vs := [.int x1, .int x2, .int x3]) (c1 := 0) (s1 := 0) dX10_span_59 wd_1353 vi_X10_measure hrec rfl (Nat.le_of_ble_eq_true rfl) hc hq_v (hc_v (fun h9 k9 => k9)))
theorem b_X10_span_62 {G : hk_G} {d cb sb : Nat} {h : hk_H} {Q : hk_O → hk_H → Prop} {r0 : Nat} {fs1 : List Value} {v3 : Nat} {x4 : Int32} {n5 : Nat} {f6 : Nat → Int32} {o1 : Option Value} {o2 : Option Value} {o3 : Option Value} {o5 : Option Value} (hg2 : h.2 r0 = some (.inr (10, fs1))) (hv4 : fs1[16]? = some (.ref v3)) (ha7 : h.2 v3 = some (.inl (2, n5, .inl f6))) (j8 : Nat) (hi9 : (x4 : Int32).toInt = (j8 : Int)) (hj10 : j8 < n5) (kt : (f6 j8) = 0 → hk_S G m_X10_span (d + 1) cb sb 82 [some (.ref r0), o1, o2, o3, some (.int x4), o5] [] h Q) (kf : ¬ (f6 j8) = 0 → hk_S G m_X10_span (d + 1) cb sb 72 [some (.ref r0), o1, o2, o3, some (.int x4), o5] [] h Q) : hk_S G m_X10_span (d + 1) cb sb 62 [some (.ref r0), o1, o2, o3, some (.int x4), o5] [] h Q := by
  refine hs_aload_n dX10_span_62 rfl ?_
  refine hs_get dX10_span_63 fl_X10_41_10 hg2 hv4 ?_
  refine hs_iload dX10_span_66 rfl ?_
  refine hs_zald j8 dX10_span_68 ha7 hi9 hj10 ?_
  exact hs_if_eq dX10_span_69 (by decide) kt kf
theorem b_X10_span_72 {G : hk_G} {d cb sb : Nat} {h : hk_H} {Q : hk_O → hk_H → Prop} {r0 : Nat} {fs1 : List Value} {v3 : Nat} {x5 : Int32} {n5 : Nat} {f6 : Nat → Int32} {o1 : Option Value} {o2 : Option Value} {o3 : Option Value} {o4 : Option Value} (hg2 : h.2 r0 = some (.inr (10, fs1))) (hv4 : fs1[16]? = some (.ref v3)) (ha7 : h.2 v3 = some (.inl (2, n5, .inl f6))) (j8 : Nat) (hi9 : (x5 : Int32).toInt = (j8 : Int)) (hj10 : j8 < n5) (kt : ¬ (f6 j8) = 0 → hk_S G m_X10_span (d + 1) cb sb 88 [some (.ref r0), o1, o2, o3, o4, some (.int x5)] [] h Q) (kf : (f6 j8) = 0 → hk_S G m_X10_span (d + 1) cb sb 82 [some (.ref r0), o1, o2, o3, o4, some (.int x5)] [] h Q) : hk_S G m_X10_span (d + 1) cb sb 72 [some (.ref r0), o1, o2, o3, o4, some (.int x5)] [] h Q := by
  refine hs_aload_n dX10_span_72 rfl ?_
  refine hs_get dX10_span_73 fl_X10_41_10 hg2 hv4 ?_
  refine hs_iload dX10_span_76 rfl ?_
  refine hs_zald j8 dX10_span_78 ha7 hi9 hj10 ?_
  exact hs_if_ne dX10_span_79 (by decide) kt kf
theorem b_X10_span_82 {G : hk_G} {d cb sb : Nat} {h : hk_H} {Q : hk_O → hk_H → Prop} {r0 : Nat} {fs_ : List Value} {o1 : Option Value} {o2 : Option Value} {o3 : Option Value} {o4 : Option Value} {o5 : Option Value} (hrec : h.2 r0 = some (.inr (10, fs_))) (hc : hk_Ci G m_X10_raises d 0 0 [.ref r0, .int 2] h (fun z h' => hk_S G m_X10_span (d + 1) cb sb 87 [some (.ref r0), o1, o2, o3, o4, o5] [.int z] h' Q)) : hk_S G m_X10_span (d + 1) cb sb 82 [some (.ref r0), o1, o2, o3, o4, o5] [] h Q := by
  refine hs_aload_n dX10_span_82 rfl ?_
  refine hs_iconst (v := 2) dX10_span_83 (by decide) ?_
  exact hk_z0 (hs_vir (M' := m_X10_raises) (vs := [.int 2]) (c1 := 0) (s1 := 0) dX10_span_84 wd_1285 vi_X10_raises hrec rfl (Nat.le_of_ble_eq_true rfl) hc hq_i (hc_i (fun z h9 k9 => k9)))
theorem b_X10_span_87 {G : hk_G} {d cb sb : Nat} {h : hk_H} {Q : hk_O → hk_H → Prop} {s0 : Int32} {o0 : Option Value} {o1 : Option Value} {o2 : Option Value} {o3 : Option Value} {o4 : Option Value} {o5 : Option Value} (hq : Q (.inl (some (.int s0))) h) : hk_S G m_X10_span (d + 1) cb sb 87 [o0, o1, o2, o3, o4, o5] [.int s0] h Q := by
  exact hs_iret dX10_span_87 rfl hq
theorem b_X10_span_88 {G : hk_G} {d cb sb : Nat} {h : hk_H} {Q : hk_O → hk_H → Prop} {r0 : Nat} {fs1 : List Value} {v3 : Nat} {x4 : Int32} {x5 : Int32} {n5 : Nat} {f6 : Nat → Int32} {o1 : Option Value} {o2 : Option Value} {o3 : Option Value} (hg2 : h.2 r0 = some (.inr (10, fs1))) (hv4 : fs1[17]? = some (.ref v3)) (ha7 : h.2 v3 = some (.inl (0, n5, .inl f6))) (j8 : Nat) (hi9 : ((5 * x4) + x5 : Int32).toInt = (j8 : Int)) (hj10 : j8 < n5) (hq : Q (.inl (some (.int (f6 j8)))) h) : hk_S G m_X10_span (d + 1) cb sb 88 [some (.ref r0), o1, o2, o3, some (.int x4), some (.int x5)] [] h Q := by
  refine hs_aload_n dX10_span_88 rfl ?_
  refine hs_get dX10_span_89 fl_X10_45_10 hg2 hv4 ?_
  refine hs_iconst (v := 5) dX10_span_92 (by decide) ?_
  refine hs_iload dX10_span_93 rfl ?_
  refine hs_imul dX10_span_95 ?_
  refine hs_iload dX10_span_96 rfl ?_
  refine hs_iadd dX10_span_98 ?_
  refine hs_iald j8 dX10_span_99 ha7 hi9 hj10 ?_
  exact hs_iret dX10_span_100 rfl hq
-- HonestHouseModel.round(II)I
theorem b_X10_round_0 {G : hk_G} {d cb sb : Nat} {h : hk_H} {Q : hk_O → hk_H → Prop} {x1 : Int32} {r0 : Nat} {fs1 : List Value} {v3 : Int32} {o2 : Option Value} {o3 : Option Value} {o4 : Option Value} {o5 : Option Value} (hg2 : h.2 r0 = some (.inr (10, fs1))) (hv4 : fs1[3]? = some (.int v3)) (hc : hk_Ci G m_X10_isIn d 0 0 [.int x1, .int v3] h (fun z h' => hk_S G m_X10_round (d + 1) cb sb 8 [some (.ref r0), some (.int x1), o2, o3, o4, o5] [.int z] h' Q)) : hk_S G m_X10_round (d + 1) cb sb 0 [some (.ref r0), some (.int x1), o2, o3, o4, o5] [] h Q := by
  refine hs_iload_n dX10_round_0 rfl ?_
  refine hs_aload_n dX10_round_1 rfl ?_
  refine hs_get dX10_round_2 fl_X10_116_10 hg2 hv4 ?_
  exact hk_z0 (hs_sta (M' := m_X10_isIn) (vs := [.int x1, .int v3]) (c1 := 0) (s1 := 0) dX10_round_5 wd_1226 st_X10_isIn rfl (Nat.le_of_ble_eq_true rfl) hc hq_i (hc_i (fun z h9 k9 => k9)))
theorem b_X10_round_8 {G : hk_G} {d cb sb : Nat} {h : hk_H} {Q : hk_O → hk_H → Prop} {s0 : Int32} {o0 : Option Value} {o1 : Option Value} {o2 : Option Value} {o3 : Option Value} {o4 : Option Value} {o5 : Option Value} (kt : s0 = 0 → hk_S G m_X10_round (d + 1) cb sb 19 [o0, o1, o2, o3, o4, o5] [] h Q) (kf : ¬ s0 = 0 → hk_S G m_X10_round (d + 1) cb sb 11 [o0, o1, o2, o3, o4, o5] [] h Q) : hk_S G m_X10_round (d + 1) cb sb 8 [o0, o1, o2, o3, o4, o5] [.int s0] h Q := by
  exact hs_if_eq dX10_round_8 (by decide) kt kf
theorem b_X10_round_11 {G : hk_G} {d cb sb : Nat} {h : hk_H} {Q : hk_O → hk_H → Prop} {x2 : Int32} {o0 : Option Value} {o1 : Option Value} {o3 : Option Value} {o4 : Option Value} {o5 : Option Value} (hc : hk_Ci G m_X10_isIn d 0 0 [.int x2, .int 3] h (fun z h' => hk_S G m_X10_round (d + 1) cb sb 16 [o0, o1, some (.int x2), o3, o4, o5] [.int z] h' Q)) : hk_S G m_X10_round (d + 1) cb sb 11 [o0, o1, some (.int x2), o3, o4, o5] [] h Q := by
  refine hs_iload_n dX10_round_11 rfl ?_
  refine hs_iconst (v := 3) dX10_round_12 (by decide) ?_
  exact hk_z0 (hs_sta (M' := m_X10_isIn) (vs := [.int x2, .int 3]) (c1 := 0) (s1 := 0) dX10_round_13 wd_1226 st_X10_isIn rfl (Nat.le_of_ble_eq_true rfl) hc hq_i (hc_i (fun z h9 k9 => k9)))
theorem b_X10_round_16 {G : hk_G} {d cb sb : Nat} {h : hk_H} {Q : hk_O → hk_H → Prop} {s0 : Int32} {o0 : Option Value} {o1 : Option Value} {o2 : Option Value} {o3 : Option Value} {o4 : Option Value} {o5 : Option Value} (kt : ¬ s0 = 0 → hk_S G m_X10_round (d + 1) cb sb 21 [o0, o1, o2, o3, o4, o5] [] h Q) (kf : s0 = 0 → hk_S G m_X10_round (d + 1) cb sb 19 [o0, o1, o2, o3, o4, o5] [] h Q) : hk_S G m_X10_round (d + 1) cb sb 16 [o0, o1, o2, o3, o4, o5] [.int s0] h Q := by
  exact hs_if_ne dX10_round_16 (by decide) kt kf
theorem b_X10_round_19 {G : hk_G} {d cb sb : Nat} {h : hk_H} {Q : hk_O → hk_H → Prop} {o0 : Option Value} {o1 : Option Value} {o2 : Option Value} {o3 : Option Value} {o4 : Option Value} {o5 : Option Value} (hq : Q (.inl (some (.int ((-1))))) h) : hk_S G m_X10_round (d + 1) cb sb 19 [o0, o1, o2, o3, o4, o5] [] h Q := by
  refine hs_iconst (v := (-1)) dX10_round_19 (by decide) ?_
  exact hs_iret dX10_round_20 rfl hq
theorem b_X10_round_21 {G : hk_G} {d cb sb : Nat} {h : hk_H} {Q : hk_O → hk_H → Prop} {o0 : Option Value} {o1 : Option Value} {o2 : Option Value} {o3 : Option Value} {o4 : Option Value} {o5 : Option Value} (k : hk_S G m_X10_round (d + 1) cb sb 23 [o0, o1, o2, some (.int 0), o4, o5] [] h Q) (ho2 : hk_c1 o2 := by first | exact hk_c1i | exact hk_c1r | exact hk_c10 | exact hk_c1n) : hk_S G m_X10_round (d + 1) cb sb 21 [o0, o1, o2, o3, o4, o5] [] h Q := by
  refine hs_iconst (v := 0) dX10_round_21 (by decide) ?_
  refine hs_istK_n dX10_round_22 (by decide) (hk_nk1 rfl ho2) rfl ?_
  exact k
theorem b_X10_round_23 {G : hk_G} {d cb sb : Nat} {h : hk_H} {Q : hk_O → hk_H → Prop} {x3 : Int32} {r0 : Nat} {fs1 : List Value} {v3 : Int32} {o1 : Option Value} {o2 : Option Value} {o4 : Option Value} {o5 : Option Value} (hg2 : h.2 r0 = some (.inr (10, fs1))) (hv4 : fs1[0]? = some (.int v3)) (kt : v3 ≤ x3 → hk_S G m_X10_round (d + 1) cb sb 109 [some (.ref r0), o1, o2, some (.int x3), o4, o5] [] h Q) (kf : ¬ v3 ≤ x3 → hk_S G m_X10_round (d + 1) cb sb 31 [some (.ref r0), o1, o2, some (.int x3), o4, o5] [] h Q) : hk_S G m_X10_round (d + 1) cb sb 23 [some (.ref r0), o1, o2, some (.int x3), o4, o5] [] h Q := by
  refine hs_iload_n dX10_round_23 rfl ?_
  refine hs_aload_n dX10_round_24 rfl ?_
  refine hs_get dX10_round_25 fl_X10_97_10 hg2 hv4 ?_
  exact hs_icmp_ge dX10_round_28 (by decide) kt kf
theorem b_X10_round_31 {G : hk_G} {d cb sb : Nat} {h : hk_H} {Q : hk_O → hk_H → Prop} {o0 : Option Value} {o1 : Option Value} {o2 : Option Value} {o3 : Option Value} {o4 : Option Value} {o5 : Option Value} (k : hk_S G m_X10_round (d + 1) cb sb 34 [o0, o1, o2, o3, some (.int 0), o5] [] h Q) (ho3 : hk_c1 o3 := by first | exact hk_c1i | exact hk_c1r | exact hk_c10 | exact hk_c1n) : hk_S G m_X10_round (d + 1) cb sb 31 [o0, o1, o2, o3, o4, o5] [] h Q := by
  refine hs_iconst (v := 0) dX10_round_31 (by decide) ?_
  refine hs_istK dX10_round_32 (by decide) (hk_nk1 rfl ho3) rfl ?_
  exact k
theorem b_X10_round_34 {G : hk_G} {d cb sb : Nat} {h : hk_H} {Q : hk_O → hk_H → Prop} {x4 : Int32} {r0 : Nat} {fs1 : List Value} {v3 : Int32} {o1 : Option Value} {o2 : Option Value} {o3 : Option Value} {o5 : Option Value} (hg2 : h.2 r0 = some (.inr (10, fs1))) (hv4 : fs1[4]? = some (.int v3)) (kt : v3 ≤ x4 → hk_S G m_X10_round (d + 1) cb sb 103 [some (.ref r0), o1, o2, o3, some (.int x4), o5] [] h Q) (kf : ¬ v3 ≤ x4 → hk_S G m_X10_round (d + 1) cb sb 43 [some (.ref r0), o1, o2, o3, some (.int x4), o5] [] h Q) : hk_S G m_X10_round (d + 1) cb sb 34 [some (.ref r0), o1, o2, o3, some (.int x4), o5] [] h Q := by
  refine hs_iload dX10_round_34 rfl ?_
  refine hs_aload_n dX10_round_36 rfl ?_
  refine hs_get dX10_round_37 fl_X10_113_10 hg2 hv4 ?_
  exact hs_icmp_ge dX10_round_40 (by decide) kt kf
theorem b_X10_round_43 {G : hk_G} {d cb sb : Nat} {h : hk_H} {Q : hk_O → hk_H → Prop} {r0 : Nat} {x4 : Int32} {x3 : Int32} {fs_ : List Value} {o1 : Option Value} {o2 : Option Value} {o5 : Option Value} (hrec : h.2 r0 = some (.inr (10, fs_))) (hc : hk_Ci G m_X10_wishOf d 0 0 [.ref r0, .int x4, .int x3] h (fun z h' => hk_S G m_X10_round (d + 1) cb sb 50 [some (.ref r0), o1, o2, some (.int x3), some (.int x4), o5] [.int z] h' Q)) : hk_S G m_X10_round (d + 1) cb sb 43 [some (.ref r0), o1, o2, some (.int x3), some (.int x4), o5] [] h Q := by
  refine hs_aload_n dX10_round_43 rfl ?_
  refine hs_iload dX10_round_44 rfl ?_
  refine hs_iload_n dX10_round_46 rfl ?_
  exact hk_z0 (hs_vir (M' := m_X10_wishOf) (vs := [.int x4, .int x3]) (c1 := 0) (s1 := 0) dX10_round_47 wd_1269 vi_X10_wishOf hrec rfl (Nat.le_of_ble_eq_true rfl) hc hq_i (hc_i (fun z h9 k9 => k9)))
theorem b_X10_round_50 {G : hk_G} {d cb sb : Nat} {h : hk_H} {Q : hk_O → hk_H → Prop} {s0 : Int32} {o0 : Option Value} {o1 : Option Value} {o2 : Option Value} {o3 : Option Value} {o4 : Option Value} {o5 : Option Value} (kt : s0 = 0 → hk_S G m_X10_round (d + 1) cb sb 56 [o0, o1, o2, o3, o4, o5] [] h Q) (kf : ¬ s0 = 0 → hk_S G m_X10_round (d + 1) cb sb 53 [o0, o1, o2, o3, o4, o5] [] h Q) : hk_S G m_X10_round (d + 1) cb sb 50 [o0, o1, o2, o3, o4, o5] [.int s0] h Q := by
  exact hs_if_eq dX10_round_50 (by decide) kt kf
theorem b_X10_round_53 {G : hk_G} {d cb sb : Nat} {h : hk_H} {Q : hk_O → hk_H → Prop} {x4 : Int32} {o0 : Option Value} {o1 : Option Value} {o2 : Option Value} {o3 : Option Value} {o5 : Option Value} (k : hk_S G m_X10_round (d + 1) cb sb 34 [o0, o1, o2, o3, some (.int (x4 + 1)), o5] [] h Q) (ho3 : hk_c1 o3 := by first | exact hk_c1i | exact hk_c1r | exact hk_c10 | exact hk_c1n) : hk_S G m_X10_round (d + 1) cb sb 53 [o0, o1, o2, o3, some (.int x4), o5] [] h Q := by
  refine hs_goto dX10_round_53 (tgt := 97) (by decide) ?_
  refine hs_iincK (v := 1) dX10_round_97 rfl (by decide) (by decide) (hk_nk1 rfl ho3) rfl ?_
  refine hs_goto dX10_round_100 (tgt := 34) (by decide) ?_
  exact k
theorem b_X10_round_56 {G : hk_G} {d cb sb : Nat} {h : hk_H} {Q : hk_O → hk_H → Prop} {r0 : Nat} {x1 : Int32} {x4 : Int32} {x3 : Int32} {fs_ : List Value} {o2 : Option Value} {o5 : Option Value} (hrec : h.2 r0 = some (.inr (10, fs_))) (hc : hk_Cv G m_X10_measure d 0 0 [.ref r0, .int x1, .int x4, .int x3] h (fun h' => hk_S G m_X10_round (d + 1) cb sb 64 [some (.ref r0), some (.int x1), o2, some (.int x3), some (.int x4), o5] [] h' Q)) : hk_S G m_X10_round (d + 1) cb sb 56 [some (.ref r0), some (.int x1), o2, some (.int x3), some (.int x4), o5] [] h Q := by
  refine hs_aload_n dX10_round_56 rfl ?_
  refine hs_iload_n dX10_round_57 rfl ?_
  refine hs_iload dX10_round_58 rfl ?_
  refine hs_iload_n dX10_round_60 rfl ?_
  exact hk_z0 (hs_vir (M' := m_X10_measure) (vs := [.int x1, .int x4, .int x3]) (c1 := 0) (s1 := 0) dX10_round_61 wd_1353 vi_X10_measure hrec rfl (Nat.le_of_ble_eq_true rfl) hc hq_v (hc_v (fun h9 k9 => k9)))
theorem b_X10_round_64 {G : hk_G} {d cb sb : Nat} {h : hk_H} {Q : hk_O → hk_H → Prop} {r0 : Nat} {fs_ : List Value} {o1 : Option Value} {o2 : Option Value} {o3 : Option Value} {o4 : Option Value} {o5 : Option Value} (hrec : h.2 r0 = some (.inr (10, fs_))) (hc : hk_Ci G m_X10_least d 0 0 [.ref r0] h (fun z h' => hk_S G m_X10_round (d + 1) cb sb 68 [some (.ref r0), o1, o2, o3, o4, o5] [.int z] h' Q)) : hk_S G m_X10_round (d + 1) cb sb 64 [some (.ref r0), o1, o2, o3, o4, o5] [] h Q := by
  refine hs_aload_n dX10_round_64 rfl ?_
  exact hk_z0 (hs_vir (M' := m_X10_least) (vs := []) (c1 := 0) (s1 := 0) dX10_round_65 wd_1363 vi_X10_least hrec rfl (Nat.le_of_ble_eq_true rfl) hc hq_i (hc_i (fun z h9 k9 => k9)))
theorem b_X10_round_68 {G : hk_G} {d cb sb : Nat} {h : hk_H} {Q : hk_O → hk_H → Prop} {s0 : Int32} {o0 : Option Value} {o1 : Option Value} {o2 : Option Value} {o3 : Option Value} {o4 : Option Value} {o5 : Option Value} (kt : 0 ≤ s0 → hk_S G m_X10_round (d + 1) cb sb 97 [o0, o1, o2, o3, o4, some (.int s0)] [] h Q) (kf : ¬ 0 ≤ s0 → hk_S G m_X10_round (d + 1) cb sb 75 [o0, o1, o2, o3, o4, some (.int s0)] [] h Q) (ho4 : hk_c1 o4 := by first | exact hk_c1i | exact hk_c1r | exact hk_c10 | exact hk_c1n) : hk_S G m_X10_round (d + 1) cb sb 68 [o0, o1, o2, o3, o4, o5] [.int s0] h Q := by
  refine hs_istK dX10_round_68 (by decide) (hk_nk1 rfl ho4) rfl ?_
  refine hs_iload dX10_round_70 rfl ?_
  exact hs_if_ge dX10_round_72 (by decide) kt kf
theorem b_X10_round_75 {G : hk_G} {d cb sb : Nat} {h : hk_H} {Q : hk_O → hk_H → Prop} {x2 : Int32} {o0 : Option Value} {o1 : Option Value} {o3 : Option Value} {o4 : Option Value} {o5 : Option Value} (kt : ¬ x2 = 0 → hk_S G m_X10_round (d + 1) cb sb 83 [o0, o1, some (.int x2), o3, o4, o5] [] h Q) (kf : x2 = 0 → hk_S G m_X10_round (d + 1) cb sb 79 [o0, o1, some (.int x2), o3, o4, o5] [] h Q) : hk_S G m_X10_round (d + 1) cb sb 75 [o0, o1, some (.int x2), o3, o4, o5] [] h Q := by
  refine hs_iload_n dX10_round_75 rfl ?_
  exact hs_if_ne dX10_round_76 (by decide) kt kf
theorem b_X10_round_79 {G : hk_G} {d cb sb : Nat} {h : hk_H} {Q : hk_O → hk_H → Prop} {x3 : Int32} {o0 : Option Value} {o1 : Option Value} {o2 : Option Value} {o4 : Option Value} {o5 : Option Value} (hq : Q (.inl (some (.int x3))) h) : hk_S G m_X10_round (d + 1) cb sb 79 [o0, o1, o2, some (.int x3), o4, o5] [] h Q := by
  refine hs_iload_n dX10_round_79 rfl ?_
  refine hs_goto dX10_round_80 (tgt := 96) (by decide) ?_
  exact hs_iret dX10_round_96 rfl hq
theorem b_X10_round_83 {G : hk_G} {d cb sb : Nat} {h : hk_H} {Q : hk_O → hk_H → Prop} {x2 : Int32} {o0 : Option Value} {o1 : Option Value} {o3 : Option Value} {o4 : Option Value} {o5 : Option Value} (kt : ¬ x2 = 1 → hk_S G m_X10_round (d + 1) cb sb 93 [o0, o1, some (.int x2), o3, o4, o5] [] h Q) (kf : x2 = 1 → hk_S G m_X10_round (d + 1) cb sb 88 [o0, o1, some (.int x2), o3, o4, o5] [] h Q) : hk_S G m_X10_round (d + 1) cb sb 83 [o0, o1, some (.int x2), o3, o4, o5] [] h Q := by
  refine hs_iload_n dX10_round_83 rfl ?_
  refine hs_iconst (v := 1) dX10_round_84 (by decide) ?_
  exact hs_icmp_ne dX10_round_85 (by decide) kt kf
theorem b_X10_round_88 {G : hk_G} {d cb sb : Nat} {h : hk_H} {Q : hk_O → hk_H → Prop} {x4 : Int32} {o0 : Option Value} {o1 : Option Value} {o2 : Option Value} {o3 : Option Value} {o5 : Option Value} (hq : Q (.inl (some (.int x4))) h) : hk_S G m_X10_round (d + 1) cb sb 88 [o0, o1, o2, o3, some (.int x4), o5] [] h Q := by
  refine hs_iload dX10_round_88 rfl ?_
  refine hs_goto dX10_round_90 (tgt := 96) (by decide) ?_
  exact hs_iret dX10_round_96 rfl hq
theorem b_X10_round_93 {G : hk_G} {d cb sb : Nat} {h : hk_H} {Q : hk_O → hk_H → Prop} {x5 : Int32} {o0 : Option Value} {o1 : Option Value} {o2 : Option Value} {o3 : Option Value} {o4 : Option Value} (hq : Q (.inl (some (.int (-x5)))) h) : hk_S G m_X10_round (d + 1) cb sb 93 [o0, o1, o2, o3, o4, some (.int x5)] [] h Q := by
  refine hs_iload dX10_round_93 rfl ?_
  refine hs_ineg dX10_round_95 ?_
  exact hs_iret dX10_round_96 rfl hq
theorem b_X10_round_96 {G : hk_G} {d cb sb : Nat} {h : hk_H} {Q : hk_O → hk_H → Prop} {s0 : Int32} {o0 : Option Value} {o1 : Option Value} {o2 : Option Value} {o3 : Option Value} {o4 : Option Value} {o5 : Option Value} (hq : Q (.inl (some (.int s0))) h) : hk_S G m_X10_round (d + 1) cb sb 96 [o0, o1, o2, o3, o4, o5] [.int s0] h Q := by
  exact hs_iret dX10_round_96 rfl hq
theorem b_X10_round_97 {G : hk_G} {d cb sb : Nat} {h : hk_H} {Q : hk_O → hk_H → Prop} {x4 : Int32} {o0 : Option Value} {o1 : Option Value} {o2 : Option Value} {o3 : Option Value} {o5 : Option Value} (k : hk_S G m_X10_round (d + 1) cb sb 34 [o0, o1, o2, o3, some (.int (x4 + 1)), o5] [] h Q) (ho3 : hk_c1 o3 := by first | exact hk_c1i | exact hk_c1r | exact hk_c10 | exact hk_c1n) : hk_S G m_X10_round (d + 1) cb sb 97 [o0, o1, o2, o3, some (.int x4), o5] [] h Q := by
  refine hs_iincK (v := 1) dX10_round_97 rfl (by decide) (by decide) (hk_nk1 rfl ho3) rfl ?_
  refine hs_goto dX10_round_100 (tgt := 34) (by decide) ?_
  exact k
theorem b_X10_round_103 {G : hk_G} {d cb sb : Nat} {h : hk_H} {Q : hk_O → hk_H → Prop} {x3 : Int32} {o0 : Option Value} {o1 : Option Value} {o2 : Option Value} {o4 : Option Value} {o5 : Option Value} (k : hk_S G m_X10_round (d + 1) cb sb 23 [o0, o1, o2, some (.int (x3 + 1)), o4, o5] [] h Q) (ho2 : hk_c1 o2 := by first | exact hk_c1i | exact hk_c1r | exact hk_c10 | exact hk_c1n) : hk_S G m_X10_round (d + 1) cb sb 103 [o0, o1, o2, some (.int x3), o4, o5] [] h Q := by
  refine hs_iincK (v := 1) dX10_round_103 rfl (by decide) (by decide) (hk_nk1 rfl ho2) rfl ?_
  refine hs_goto dX10_round_106 (tgt := 23) (by decide) ?_
  exact k
theorem b_X10_round_109 {G : hk_G} {d cb sb : Nat} {h : hk_H} {Q : hk_O → hk_H → Prop} {o0 : Option Value} {o1 : Option Value} {o2 : Option Value} {o3 : Option Value} {o4 : Option Value} {o5 : Option Value} (hq : Q (.inl (some (.int ((-2))))) h) : hk_S G m_X10_round (d + 1) cb sb 109 [o0, o1, o2, o3, o4, o5] [] h Q := by
  refine hs_bipush (v := (-2)) dX10_round_109 (by decide) ?_
  exact hs_iret dX10_round_111 rfl hq
-- HonestHouseModel.priceAll()V
theorem b_X10_priceAll_0 {G : hk_G} {d cb sb : Nat} {h : hk_H} {Q : hk_O → hk_H → Prop} {o0 : Option Value} {o1 : Option Value} {o2 : Option Value} {o3 : Option Value} {o4 : Option Value} (k : hk_S G m_X10_priceAll (d + 1) cb sb 2 [o0, some (.int 0), o2, o3, o4] [] h Q) (ho0 : hk_c1 o0 := by first | exact hk_c1i | exact hk_c1r | exact hk_c10 | exact hk_c1n) : hk_S G m_X10_priceAll (d + 1) cb sb 0 [o0, o1, o2, o3, o4] [] h Q := by
  refine hs_iconst (v := 0) dX10_priceAll_0 (by decide) ?_
  refine hs_istK_n dX10_priceAll_1 (by decide) (hk_nk1 rfl ho0) rfl ?_
  exact k
theorem b_X10_priceAll_2 {G : hk_G} {d cb sb : Nat} {h : hk_H} {Q : hk_O → hk_H → Prop} {r0 : Nat} {fs1 : List Value} {v3 : Nat} {x1 : Int32} {n5 : Nat} {f6 : Nat → Int32} {o2 : Option Value} {o3 : Option Value} {o4 : Option Value} (hg2 : h.2 r0 = some (.inr (10, fs1))) (hv4 : fs1[16]? = some (.ref v3)) (ha7 : h.2 v3 = some (.inl (2, n5, .inl f6))) (j8 : Nat) (hi9 : (x1 : Int32).toInt = (j8 : Int)) (hj10 : j8 < n5) (kt : ¬ (f6 j8) = 0 → hk_S G m_X10_priceAll (d + 1) cb sb 17 [some (.ref r0), some (.int x1), o2, o3, o4] [] h Q) (kf : (f6 j8) = 0 → hk_S G m_X10_priceAll (d + 1) cb sb 11 [some (.ref r0), some (.int x1), o2, o3, o4] [] h Q) : hk_S G m_X10_priceAll (d + 1) cb sb 2 [some (.ref r0), some (.int x1), o2, o3, o4] [] h Q := by
  refine hs_aload_n dX10_priceAll_2 rfl ?_
  refine hs_get dX10_priceAll_3 fl_X10_41_10 hg2 hv4 ?_
  refine hs_iload_n dX10_priceAll_6 rfl ?_
  refine hs_zald j8 dX10_priceAll_7 ha7 hi9 hj10 ?_
  exact hs_if_ne dX10_priceAll_8 (by decide) kt kf
theorem b_X10_priceAll_11 {G : hk_G} {d cb sb : Nat} {h : hk_H} {Q : hk_O → hk_H → Prop} {x1 : Int32} {o0 : Option Value} {o2 : Option Value} {o3 : Option Value} {o4 : Option Value} (k : hk_S G m_X10_priceAll (d + 1) cb sb 2 [o0, some (.int (x1 + 1)), o2, o3, o4] [] h Q) (ho0 : hk_c1 o0 := by first | exact hk_c1i | exact hk_c1r | exact hk_c10 | exact hk_c1n) : hk_S G m_X10_priceAll (d + 1) cb sb 11 [o0, some (.int x1), o2, o3, o4] [] h Q := by
  refine hs_iincK (v := 1) dX10_priceAll_11 rfl (by decide) (by decide) (hk_nk1 rfl ho0) rfl ?_
  refine hs_goto dX10_priceAll_14 (tgt := 2) (by decide) ?_
  exact k
theorem b_X10_priceAll_17 {G : hk_G} {d cb sb : Nat} {h : hk_H} {Q : hk_O → hk_H → Prop} {o0 : Option Value} {o1 : Option Value} {o2 : Option Value} {o3 : Option Value} {o4 : Option Value} (k : hk_S G m_X10_priceAll (d + 1) cb sb 19 [o0, o1, some (.int 0), o3, o4] [] h Q) (ho1 : hk_c1 o1 := by first | exact hk_c1i | exact hk_c1r | exact hk_c10 | exact hk_c1n) : hk_S G m_X10_priceAll (d + 1) cb sb 17 [o0, o1, o2, o3, o4] [] h Q := by
  refine hs_iconst (v := 0) dX10_priceAll_17 (by decide) ?_
  refine hs_istK_n dX10_priceAll_18 (by decide) (hk_nk1 rfl ho1) rfl ?_
  exact k
theorem b_X10_priceAll_19 {G : hk_G} {d cb sb : Nat} {h : hk_H} {Q : hk_O → hk_H → Prop} {x2 : Int32} {r0 : Nat} {fs1 : List Value} {v3 : Int32} {o1 : Option Value} {o3 : Option Value} {o4 : Option Value} (hg2 : h.2 r0 = some (.inr (10, fs1))) (hv4 : fs1[1]? = some (.int v3)) (kt : v3 ≤ x2 → hk_S G m_X10_priceAll (d + 1) cb sb 50 [some (.ref r0), o1, some (.int x2), o3, o4] [] h Q) (kf : ¬ v3 ≤ x2 → hk_S G m_X10_priceAll (d + 1) cb sb 27 [some (.ref r0), o1, some (.int x2), o3, o4] [] h Q) : hk_S G m_X10_priceAll (d + 1) cb sb 19 [some (.ref r0), o1, some (.int x2), o3, o4] [] h Q := by
  refine hs_iload_n dX10_priceAll_19 rfl ?_
  refine hs_aload_n dX10_priceAll_20 rfl ?_
  refine hs_get dX10_priceAll_21 fl_X10_101_10 hg2 hv4 ?_
  exact hs_icmp_ge dX10_priceAll_24 (by decide) kt kf
theorem b_X10_priceAll_27 {G : hk_G} {d cb sb : Nat} {h : hk_H} {Q : hk_O → hk_H → Prop} {r0 : Nat} {fs1 : List Value} {v3 : Nat} {x2 : Int32} {x1 : Int32} {o3 : Option Value} {o4 : Option Value} (hg2 : h.2 r0 = some (.inr (10, fs1))) (hv4 : fs1[18]? = some (.ref v3)) (kt : ¬ x2 = x1 → hk_S G m_X10_priceAll (d + 1) cb sb 41 [some (.ref r0), some (.int x1), some (.int x2), o3, o4] [.int x2, .ref v3] h Q) (kf : x2 = x1 → hk_S G m_X10_priceAll (d + 1) cb sb 37 [some (.ref r0), some (.int x1), some (.int x2), o3, o4] [.int x2, .ref v3] h Q) : hk_S G m_X10_priceAll (d + 1) cb sb 27 [some (.ref r0), some (.int x1), some (.int x2), o3, o4] [] h Q := by
  refine hs_aload_n dX10_priceAll_27 rfl ?_
  refine hs_get dX10_priceAll_28 fl_X10_48_10 hg2 hv4 ?_
  refine hs_iload_n dX10_priceAll_31 rfl ?_
  refine hs_iload_n dX10_priceAll_32 rfl ?_
  refine hs_iload_n dX10_priceAll_33 rfl ?_
  exact hs_icmp_ne dX10_priceAll_34 (by decide) kt kf
theorem b_X10_priceAll_37 {G : hk_G} {d cb sb : Nat} {h : hk_H} {Q : hk_O → hk_H → Prop} {s0 : Nat} {s1 : Int32} {n1 : Nat} {f2 : Nat → Int32} {h_1 : hk_H} {x2 : Int32} {o0 : Option Value} {o1 : Option Value} {o3 : Option Value} {o4 : Option Value} (ha3 : h.2 s0 = some (.inl (0, n1, .inl f2))) (h4_s0 : 4 ≤ s0) (j4 : Nat) (hi5 : (s1 : Int32).toInt = (j4 : Int)) (hj6 : j4 < n1) (e_1 : (hk_set h s0 (.inl (0, n1, .inl (upd f2 j4 0)))) = h_1) (k : hk_S G m_X10_priceAll (d + 1) cb sb 19 [o0, o1, some (.int (x2 + 1)), o3, o4] [] h_1 Q) (ho1 : hk_c1 o1 := by first | exact hk_c1i | exact hk_c1r | exact hk_c10 | exact hk_c1n) : hk_S G m_X10_priceAll (d + 1) cb sb 37 [o0, o1, some (.int x2), o3, o4] [.int s1, .ref s0] h Q := by
  subst e_1
  refine hs_iconst (v := 0) dX10_priceAll_37 (by decide) ?_
  refine hs_goto dX10_priceAll_38 (tgt := 43) (by decide) ?_
  refine hs_iast j4 dX10_priceAll_43 ha3 h4_s0 hi5 hj6 ?_
  refine hs_iincK (v := 1) dX10_priceAll_44 rfl (by decide) (by decide) (hk_nk1 rfl ho1) rfl ?_
  refine hs_goto dX10_priceAll_47 (tgt := 19) (by decide) ?_
  exact k
theorem b_X10_priceAll_41 {G : hk_G} {d cb sb : Nat} {h : hk_H} {Q : hk_O → hk_H → Prop} {s0 : Nat} {s1 : Int32} {n1 : Nat} {f2 : Nat → Int32} {h_1 : hk_H} {x2 : Int32} {o0 : Option Value} {o1 : Option Value} {o3 : Option Value} {o4 : Option Value} (ha3 : h.2 s0 = some (.inl (0, n1, .inl f2))) (h4_s0 : 4 ≤ s0) (j4 : Nat) (hi5 : (s1 : Int32).toInt = (j4 : Int)) (hj6 : j4 < n1) (e_1 : (hk_set h s0 (.inl (0, n1, .inl (upd f2 j4 1000000)))) = h_1) (k : hk_S G m_X10_priceAll (d + 1) cb sb 19 [o0, o1, some (.int (x2 + 1)), o3, o4] [] h_1 Q) (ho1 : hk_c1 o1 := by first | exact hk_c1i | exact hk_c1r | exact hk_c10 | exact hk_c1n) : hk_S G m_X10_priceAll (d + 1) cb sb 41 [o0, o1, some (.int x2), o3, o4] [.int s1, .ref s0] h Q := by
  subst e_1
  refine hs_ldc (v := 1000000) dX10_priceAll_41 wd_1357 ?_
  refine hs_iast j4 dX10_priceAll_43 ha3 h4_s0 hi5 hj6 ?_
  refine hs_iincK (v := 1) dX10_priceAll_44 rfl (by decide) (by decide) (hk_nk1 rfl ho1) rfl ?_
  refine hs_goto dX10_priceAll_47 (tgt := 19) (by decide) ?_
  exact k
theorem b_X10_priceAll_43 {G : hk_G} {d cb sb : Nat} {h : hk_H} {Q : hk_O → hk_H → Prop} {s0 : Nat} {s1 : Int32} {s2 : Int32} {n1 : Nat} {f2 : Nat → Int32} {h_1 : hk_H} {x2 : Int32} {o0 : Option Value} {o1 : Option Value} {o3 : Option Value} {o4 : Option Value} (ha3 : h.2 s0 = some (.inl (0, n1, .inl f2))) (h4_s0 : 4 ≤ s0) (j4 : Nat) (hi5 : (s1 : Int32).toInt = (j4 : Int)) (hj6 : j4 < n1) (e_1 : (hk_set h s0 (.inl (0, n1, .inl (upd f2 j4 s2)))) = h_1) (k : hk_S G m_X10_priceAll (d + 1) cb sb 19 [o0, o1, some (.int (x2 + 1)), o3, o4] [] h_1 Q) (ho1 : hk_c1 o1 := by first | exact hk_c1i | exact hk_c1r | exact hk_c10 | exact hk_c1n) : hk_S G m_X10_priceAll (d + 1) cb sb 43 [o0, o1, some (.int x2), o3, o4] [.int s2, .int s1, .ref s0] h Q := by
  subst e_1
  refine hs_iast j4 dX10_priceAll_43 ha3 h4_s0 hi5 hj6 ?_
  refine hs_iincK (v := 1) dX10_priceAll_44 rfl (by decide) (by decide) (hk_nk1 rfl ho1) rfl ?_
  refine hs_goto dX10_priceAll_47 (tgt := 19) (by decide) ?_
  exact k
theorem b_X10_priceAll_50 {G : hk_G} {d cb sb : Nat} {h : hk_H} {Q : hk_O → hk_H → Prop} {o0 : Option Value} {o1 : Option Value} {o2 : Option Value} {o3 : Option Value} {o4 : Option Value} (k : hk_S G m_X10_priceAll (d + 1) cb sb 52 [o0, o1, some (.int 0), o3, o4] [] h Q) (ho1 : hk_c1 o1 := by first | exact hk_c1i | exact hk_c1r | exact hk_c10 | exact hk_c1n) : hk_S G m_X10_priceAll (d + 1) cb sb 50 [o0, o1, o2, o3, o4] [] h Q := by
  refine hs_iconst (v := 0) dX10_priceAll_50 (by decide) ?_
  refine hs_istK_n dX10_priceAll_51 (by decide) (hk_nk1 rfl ho1) rfl ?_
  exact k
theorem b_X10_priceAll_52 {G : hk_G} {d cb sb : Nat} {h : hk_H} {Q : hk_O → hk_H → Prop} {x2 : Int32} {r0 : Nat} {fs1 : List Value} {v3 : Int32} {o1 : Option Value} {o3 : Option Value} {o4 : Option Value} (hg2 : h.2 r0 = some (.inr (10, fs1))) (hv4 : fs1[1]? = some (.int v3)) (kt : v3 ≤ x2 → hk_S G m_X10_priceAll (d + 1) cb sb 165 [some (.ref r0), o1, some (.int x2), o3, o4] [] h Q) (kf : ¬ v3 ≤ x2 → hk_S G m_X10_priceAll (d + 1) cb sb 60 [some (.ref r0), o1, some (.int x2), o3, o4] [] h Q) : hk_S G m_X10_priceAll (d + 1) cb sb 52 [some (.ref r0), o1, some (.int x2), o3, o4] [] h Q := by
  refine hs_iload_n dX10_priceAll_52 rfl ?_
  refine hs_aload_n dX10_priceAll_53 rfl ?_
  refine hs_get dX10_priceAll_54 fl_X10_101_10 hg2 hv4 ?_
  exact hs_icmp_ge dX10_priceAll_57 (by decide) kt kf
theorem b_X10_priceAll_60 {G : hk_G} {d cb sb : Nat} {h : hk_H} {Q : hk_O → hk_H → Prop} {o0 : Option Value} {o1 : Option Value} {o2 : Option Value} {o3 : Option Value} {o4 : Option Value} (k : hk_S G m_X10_priceAll (d + 1) cb sb 62 [o0, o1, o2, some (.int 0), o4] [] h Q) (ho2 : hk_c1 o2 := by first | exact hk_c1i | exact hk_c1r | exact hk_c10 | exact hk_c1n) : hk_S G m_X10_priceAll (d + 1) cb sb 60 [o0, o1, o2, o3, o4] [] h Q := by
  refine hs_iconst (v := 0) dX10_priceAll_60 (by decide) ?_
  refine hs_istK_n dX10_priceAll_61 (by decide) (hk_nk1 rfl ho2) rfl ?_
  exact k
theorem b_X10_priceAll_62 {G : hk_G} {d cb sb : Nat} {h : hk_H} {Q : hk_O → hk_H → Prop} {x3 : Int32} {r0 : Nat} {fs1 : List Value} {v3 : Int32} {o1 : Option Value} {o2 : Option Value} {o4 : Option Value} (hg2 : h.2 r0 = some (.inr (10, fs1))) (hv4 : fs1[1]? = some (.int v3)) (kt : v3 ≤ x3 → hk_S G m_X10_priceAll (d + 1) cb sb 159 [some (.ref r0), o1, o2, some (.int x3), o4] [] h Q) (kf : ¬ v3 ≤ x3 → hk_S G m_X10_priceAll (d + 1) cb sb 70 [some (.ref r0), o1, o2, some (.int x3), o4] [] h Q) : hk_S G m_X10_priceAll (d + 1) cb sb 62 [some (.ref r0), o1, o2, some (.int x3), o4] [] h Q := by
  refine hs_iload_n dX10_priceAll_62 rfl ?_
  refine hs_aload_n dX10_priceAll_63 rfl ?_
  refine hs_get dX10_priceAll_64 fl_X10_101_10 hg2 hv4 ?_
  exact hs_icmp_ge dX10_priceAll_67 (by decide) kt kf
theorem b_X10_priceAll_70 {G : hk_G} {d cb sb : Nat} {h : hk_H} {Q : hk_O → hk_H → Prop} {o0 : Option Value} {o1 : Option Value} {o2 : Option Value} {o3 : Option Value} {o4 : Option Value} (k : hk_S G m_X10_priceAll (d + 1) cb sb 73 [o0, o1, o2, o3, some (.int 0)] [] h Q) (ho3 : hk_c1 o3 := by first | exact hk_c1i | exact hk_c1r | exact hk_c10 | exact hk_c1n) : hk_S G m_X10_priceAll (d + 1) cb sb 70 [o0, o1, o2, o3, o4] [] h Q := by
  refine hs_iconst (v := 0) dX10_priceAll_70 (by decide) ?_
  refine hs_istK dX10_priceAll_71 (by decide) (hk_nk1 rfl ho3) rfl ?_
  exact k
theorem b_X10_priceAll_73 {G : hk_G} {d cb sb : Nat} {h : hk_H} {Q : hk_O → hk_H → Prop} {x4 : Int32} {r0 : Nat} {fs1 : List Value} {v3 : Int32} {o1 : Option Value} {o2 : Option Value} {o3 : Option Value} (hg2 : h.2 r0 = some (.inr (10, fs1))) (hv4 : fs1[1]? = some (.int v3)) (kt : v3 ≤ x4 → hk_S G m_X10_priceAll (d + 1) cb sb 153 [some (.ref r0), o1, o2, o3, some (.int x4)] [] h Q) (kf : ¬ v3 ≤ x4 → hk_S G m_X10_priceAll (d + 1) cb sb 82 [some (.ref r0), o1, o2, o3, some (.int x4)] [] h Q) : hk_S G m_X10_priceAll (d + 1) cb sb 73 [some (.ref r0), o1, o2, o3, some (.int x4)] [] h Q := by
  refine hs_iload dX10_priceAll_73 rfl ?_
  refine hs_aload_n dX10_priceAll_75 rfl ?_
  refine hs_get dX10_priceAll_76 fl_X10_101_10 hg2 hv4 ?_
  exact hs_icmp_ge dX10_priceAll_79 (by decide) kt kf
theorem b_X10_priceAll_82 {G : hk_G} {d cb sb : Nat} {h : hk_H} {Q : hk_O → hk_H → Prop} {r0 : Nat} {fs1 : List Value} {v3 : Nat} {x3 : Int32} {n5 : Nat} {f6 : Nat → Int32} {o1 : Option Value} {o2 : Option Value} {o4 : Option Value} (hg2 : h.2 r0 = some (.inr (10, fs1))) (hv4 : fs1[16]? = some (.ref v3)) (ha7 : h.2 v3 = some (.inl (2, n5, .inl f6))) (j8 : Nat) (hi9 : (x3 : Int32).toInt = (j8 : Int)) (hj10 : j8 < n5) (kt : (f6 j8) = 0 → hk_S G m_X10_priceAll (d + 1) cb sb 147 [some (.ref r0), o1, o2, some (.int x3), o4] [] h Q) (kf : ¬ (f6 j8) = 0 → hk_S G m_X10_priceAll (d + 1) cb sb 91 [some (.ref r0), o1, o2, some (.int x3), o4] [] h Q) : hk_S G m_X10_priceAll (d + 1) cb sb 82 [some (.ref r0), o1, o2, some (.int x3), o4] [] h Q := by
  refine hs_aload_n dX10_priceAll_82 rfl ?_
  refine hs_get dX10_priceAll_83 fl_X10_41_10 hg2 hv4 ?_
  refine hs_iload_n dX10_priceAll_86 rfl ?_
  refine hs_zald j8 dX10_priceAll_87 ha7 hi9 hj10 ?_
  exact hs_if_eq dX10_priceAll_88 (by decide) kt kf
theorem b_X10_priceAll_91 {G : hk_G} {d cb sb : Nat} {h : hk_H} {Q : hk_O → hk_H → Prop} {r0 : Nat} {fs1 : List Value} {v3 : Nat} {x4 : Int32} {n5 : Nat} {f6 : Nat → Int32} {o1 : Option Value} {o2 : Option Value} {o3 : Option Value} (hg2 : h.2 r0 = some (.inr (10, fs1))) (hv4 : fs1[16]? = some (.ref v3)) (ha7 : h.2 v3 = some (.inl (2, n5, .inl f6))) (j8 : Nat) (hi9 : (x4 : Int32).toInt = (j8 : Int)) (hj10 : j8 < n5) (kt : (f6 j8) = 0 → hk_S G m_X10_priceAll (d + 1) cb sb 147 [some (.ref r0), o1, o2, o3, some (.int x4)] [] h Q) (kf : ¬ (f6 j8) = 0 → hk_S G m_X10_priceAll (d + 1) cb sb 101 [some (.ref r0), o1, o2, o3, some (.int x4)] [] h Q) : hk_S G m_X10_priceAll (d + 1) cb sb 91 [some (.ref r0), o1, o2, o3, some (.int x4)] [] h Q := by
  refine hs_aload_n dX10_priceAll_91 rfl ?_
  refine hs_get dX10_priceAll_92 fl_X10_41_10 hg2 hv4 ?_
  refine hs_iload dX10_priceAll_95 rfl ?_
  refine hs_zald j8 dX10_priceAll_97 ha7 hi9 hj10 ?_
  exact hs_if_eq dX10_priceAll_98 (by decide) kt kf
theorem b_X10_priceAll_101 {G : hk_G} {d cb sb : Nat} {h : hk_H} {Q : hk_O → hk_H → Prop} {r0 : Nat} {fs1 : List Value} {v3 : Nat} {x3 : Int32} {n5 : Nat} {f6 : Nat → Int32} {o1 : Option Value} {o2 : Option Value} {o4 : Option Value} (hg2 : h.2 r0 = some (.inr (10, fs1))) (hv4 : fs1[18]? = some (.ref v3)) (ha7 : h.2 v3 = some (.inl (0, n5, .inl f6))) (j8 : Nat) (hi9 : (x3 : Int32).toInt = (j8 : Int)) (hj10 : j8 < n5) (kt : 1000000 ≤ (f6 j8) → hk_S G m_X10_priceAll (d + 1) cb sb 147 [some (.ref r0), o1, o2, some (.int x3), o4] [] h Q) (kf : ¬ 1000000 ≤ (f6 j8) → hk_S G m_X10_priceAll (d + 1) cb sb 112 [some (.ref r0), o1, o2, some (.int x3), o4] [] h Q) : hk_S G m_X10_priceAll (d + 1) cb sb 101 [some (.ref r0), o1, o2, some (.int x3), o4] [] h Q := by
  refine hs_aload_n dX10_priceAll_101 rfl ?_
  refine hs_get dX10_priceAll_102 fl_X10_48_10 hg2 hv4 ?_
  refine hs_iload_n dX10_priceAll_105 rfl ?_
  refine hs_iald j8 dX10_priceAll_106 ha7 hi9 hj10 ?_
  refine hs_ldc (v := 1000000) dX10_priceAll_107 wd_1357 ?_
  exact hs_icmp_ge dX10_priceAll_109 (by decide) kt kf
theorem b_X10_priceAll_112 {G : hk_G} {d cb sb : Nat} {h : hk_H} {Q : hk_O → hk_H → Prop} {r0 : Nat} {fs1 : List Value} {v3 : Nat} {x4 : Int32} {n5 : Nat} {f6 : Nat → Int32} {x3 : Int32} {v14 : Nat} {n16 : Nat} {f17 : Nat → Int32} {o1 : Option Value} {o2 : Option Value} (hg2 : h.2 r0 = some (.inr (10, fs1))) (hv4 : fs1[18]? = some (.ref v3)) (ha7 : h.2 v3 = some (.inl (0, n5, .inl f6))) (j8 : Nat) (hi9 : (x4 : Int32).toInt = (j8 : Int)) (hj10 : j8 < n5) (j11 : Nat) (hi12 : (x3 : Int32).toInt = (j11 : Int)) (hj13 : j11 < n5) (hv15 : fs1[17]? = some (.ref v14)) (ha18 : h.2 v14 = some (.inl (0, n16, .inl f17))) (j19 : Nat) (hi20 : ((5 * x3) + x4 : Int32).toInt = (j19 : Int)) (hj21 : j19 < n16) (hc : hk_Ci G m_J9_min_7cf53 d 0 0 [.int (f6 j8), .int ((f6 j11) + (f17 j19))] h (fun z h' => hk_S G m_X10_priceAll (d + 1) cb sb 146 [some (.ref r0), o1, o2, some (.int x3), some (.int x4)] [.int z, .int x4, .ref v3] h' Q)) : hk_S G m_X10_priceAll (d + 1) cb sb 112 [some (.ref r0), o1, o2, some (.int x3), some (.int x4)] [] h Q := by
  refine hs_aload_n dX10_priceAll_112 rfl ?_
  refine hs_get dX10_priceAll_113 fl_X10_48_10 hg2 hv4 ?_
  refine hs_iload dX10_priceAll_116 rfl ?_
  refine hs_aload_n dX10_priceAll_118 rfl ?_
  refine hs_get dX10_priceAll_119 fl_X10_48_10 hg2 hv4 ?_
  refine hs_iload dX10_priceAll_122 rfl ?_
  refine hs_iald j8 dX10_priceAll_124 ha7 hi9 hj10 ?_
  refine hs_aload_n dX10_priceAll_125 rfl ?_
  refine hs_get dX10_priceAll_126 fl_X10_48_10 hg2 hv4 ?_
  refine hs_iload_n dX10_priceAll_129 rfl ?_
  refine hs_iald j11 dX10_priceAll_130 ha7 hi12 hj13 ?_
  refine hs_aload_n dX10_priceAll_131 rfl ?_
  refine hs_get dX10_priceAll_132 fl_X10_45_10 hg2 hv15 ?_
  refine hs_iconst (v := 5) dX10_priceAll_135 (by decide) ?_
  refine hs_iload_n dX10_priceAll_136 rfl ?_
  refine hs_imul dX10_priceAll_137 ?_
  refine hs_iload dX10_priceAll_138 rfl ?_
  refine hs_iadd dX10_priceAll_140 ?_
  refine hs_iald j19 dX10_priceAll_141 ha18 hi20 hj21 ?_
  refine hs_iadd dX10_priceAll_142 ?_
  exact hk_z0 (hs_sta (M' := m_J9_min_7cf53) (vs := [.int (f6 j8), .int ((f6 j11) + (f17 j19))]) (c1 := 0) (s1 := 0) dX10_priceAll_143 wd_1358 st_J9_min_7cf53 rfl (Nat.le_of_ble_eq_true rfl) hc hq_i (hc_i (fun z h9 k9 => k9)))
theorem b_X10_priceAll_146 {G : hk_G} {d cb sb : Nat} {h : hk_H} {Q : hk_O → hk_H → Prop} {s0 : Nat} {s1 : Int32} {s2 : Int32} {n1 : Nat} {f2 : Nat → Int32} {h_1 : hk_H} {x4 : Int32} {o0 : Option Value} {o1 : Option Value} {o2 : Option Value} {o3 : Option Value} (ha3 : h.2 s0 = some (.inl (0, n1, .inl f2))) (h4_s0 : 4 ≤ s0) (j4 : Nat) (hi5 : (s1 : Int32).toInt = (j4 : Int)) (hj6 : j4 < n1) (e_1 : (hk_set h s0 (.inl (0, n1, .inl (upd f2 j4 s2)))) = h_1) (k : hk_S G m_X10_priceAll (d + 1) cb sb 73 [o0, o1, o2, o3, some (.int (x4 + 1))] [] h_1 Q) (ho3 : hk_c1 o3 := by first | exact hk_c1i | exact hk_c1r | exact hk_c10 | exact hk_c1n) : hk_S G m_X10_priceAll (d + 1) cb sb 146 [o0, o1, o2, o3, some (.int x4)] [.int s2, .int s1, .ref s0] h Q := by
  subst e_1
  refine hs_iast j4 dX10_priceAll_146 ha3 h4_s0 hi5 hj6 ?_
  refine hs_iincK (v := 1) dX10_priceAll_147 rfl (by decide) (by decide) (hk_nk1 rfl ho3) rfl ?_
  refine hs_goto dX10_priceAll_150 (tgt := 73) (by decide) ?_
  exact k
theorem b_X10_priceAll_147 {G : hk_G} {d cb sb : Nat} {h : hk_H} {Q : hk_O → hk_H → Prop} {x4 : Int32} {o0 : Option Value} {o1 : Option Value} {o2 : Option Value} {o3 : Option Value} (k : hk_S G m_X10_priceAll (d + 1) cb sb 73 [o0, o1, o2, o3, some (.int (x4 + 1))] [] h Q) (ho3 : hk_c1 o3 := by first | exact hk_c1i | exact hk_c1r | exact hk_c10 | exact hk_c1n) : hk_S G m_X10_priceAll (d + 1) cb sb 147 [o0, o1, o2, o3, some (.int x4)] [] h Q := by
  refine hs_iincK (v := 1) dX10_priceAll_147 rfl (by decide) (by decide) (hk_nk1 rfl ho3) rfl ?_
  refine hs_goto dX10_priceAll_150 (tgt := 73) (by decide) ?_
  exact k
theorem b_X10_priceAll_153 {G : hk_G} {d cb sb : Nat} {h : hk_H} {Q : hk_O → hk_H → Prop} {x3 : Int32} {o0 : Option Value} {o1 : Option Value} {o2 : Option Value} {o4 : Option Value} (k : hk_S G m_X10_priceAll (d + 1) cb sb 62 [o0, o1, o2, some (.int (x3 + 1)), o4] [] h Q) (ho2 : hk_c1 o2 := by first | exact hk_c1i | exact hk_c1r | exact hk_c10 | exact hk_c1n) : hk_S G m_X10_priceAll (d + 1) cb sb 153 [o0, o1, o2, some (.int x3), o4] [] h Q := by
  refine hs_iincK (v := 1) dX10_priceAll_153 rfl (by decide) (by decide) (hk_nk1 rfl ho2) rfl ?_
  refine hs_goto dX10_priceAll_156 (tgt := 62) (by decide) ?_
  exact k
theorem b_X10_priceAll_159 {G : hk_G} {d cb sb : Nat} {h : hk_H} {Q : hk_O → hk_H → Prop} {x2 : Int32} {o0 : Option Value} {o1 : Option Value} {o3 : Option Value} {o4 : Option Value} (k : hk_S G m_X10_priceAll (d + 1) cb sb 52 [o0, o1, some (.int (x2 + 1)), o3, o4] [] h Q) (ho1 : hk_c1 o1 := by first | exact hk_c1i | exact hk_c1r | exact hk_c10 | exact hk_c1n) : hk_S G m_X10_priceAll (d + 1) cb sb 159 [o0, o1, some (.int x2), o3, o4] [] h Q := by
  refine hs_iincK (v := 1) dX10_priceAll_159 rfl (by decide) (by decide) (hk_nk1 rfl ho1) rfl ?_
  refine hs_goto dX10_priceAll_162 (tgt := 52) (by decide) ?_
  exact k
theorem b_X10_priceAll_165 {G : hk_G} {d cb sb : Nat} {h : hk_H} {Q : hk_O → hk_H → Prop} {o0 : Option Value} {o1 : Option Value} {o2 : Option Value} {o3 : Option Value} {o4 : Option Value} (hq : Q (.inl none) h) : hk_S G m_X10_priceAll (d + 1) cb sb 165 [o0, o1, o2, o3, o4] [] h Q := by
  exact hs_vret dX10_priceAll_165 rfl hq
-- HonestHouseModel.price(IIII)I
theorem b_X10_price_0 {G : hk_G} {d cb sb : Nat} {h : hk_H} {Q : hk_O → hk_H → Prop} {r0 : Nat} {fs1 : List Value} {h_1 : hk_H} {x1 : Int32} {x2 : Int32} {fs_ : List Value} {o3 : Option Value} {o4 : Option Value} (hg2 : h.2 r0 = some (.inr (10, fs1))) (h4_r0 : 4 ≤ r0) (e_1 : (hk_set h r0 (.inr (10, fs1.set 13 (.int 0)))) = h_1) (hrec : h_1.2 r0 = some (.inr (10, fs_))) (hc : hk_Ci G m_X10_isRow d 0 0 [.ref r0, .int x1, .int x2] h_1 (fun z h' => hk_S G m_X10_price (d + 1) cb sb 11 [some (.ref r0), some (.int x1), some (.int x2), o3, o4] [.int z] h' Q)) (hl3 : 13 < fs1.length := by exact Nat.le_of_ble_eq_true rfl) : hk_S G m_X10_price (d + 1) cb sb 0 [some (.ref r0), some (.int x1), some (.int x2), o3, o4] [] h Q := by
  subst e_1
  refine hs_aload_n dX10_price_0 rfl ?_
  refine hs_iconst (v := 0) dX10_price_1 (by decide) ?_
  refine hs_put (t := .int) dX10_price_2 fw_X10_107_10 hg2 h4_r0 hl3 rfl rfl ?_
  refine hs_aload_n dX10_price_5 rfl ?_
  refine hs_iload_n dX10_price_6 rfl ?_
  refine hs_iload_n dX10_price_7 rfl ?_
  exact hk_z0 (hs_vir (M' := m_X10_isRow) (vs := [.int x1, .int x2]) (c1 := 0) (s1 := 0) dX10_price_8 wd_1237 vi_X10_isRow hrec rfl (Nat.le_of_ble_eq_true rfl) hc hq_i (hc_i (fun z h9 k9 => k9)))
theorem b_X10_price_11 {G : hk_G} {d cb sb : Nat} {h : hk_H} {Q : hk_O → hk_H → Prop} {s0 : Int32} {o0 : Option Value} {o1 : Option Value} {o2 : Option Value} {o3 : Option Value} {o4 : Option Value} (kt : s0 = 0 → hk_S G m_X10_price (d + 1) cb sb 37 [o0, o1, o2, o3, o4] [] h Q) (kf : ¬ s0 = 0 → hk_S G m_X10_price (d + 1) cb sb 14 [o0, o1, o2, o3, o4] [] h Q) : hk_S G m_X10_price (d + 1) cb sb 11 [o0, o1, o2, o3, o4] [.int s0] h Q := by
  exact hs_if_eq dX10_price_11 (by decide) kt kf
theorem b_X10_price_14 {G : hk_G} {d cb sb : Nat} {h : hk_H} {Q : hk_O → hk_H → Prop} {x3 : Int32} {r0 : Nat} {fs1 : List Value} {v3 : Int32} {o1 : Option Value} {o2 : Option Value} {o4 : Option Value} (hg2 : h.2 r0 = some (.inr (10, fs1))) (hv4 : fs1[0]? = some (.int v3)) (hc : hk_Ci G m_X10_isIn d 0 0 [.int x3, .int v3] h (fun z h' => hk_S G m_X10_price (d + 1) cb sb 22 [some (.ref r0), o1, o2, some (.int x3), o4] [.int z] h' Q)) : hk_S G m_X10_price (d + 1) cb sb 14 [some (.ref r0), o1, o2, some (.int x3), o4] [] h Q := by
  refine hs_iload_n dX10_price_14 rfl ?_
  refine hs_aload_n dX10_price_15 rfl ?_
  refine hs_get dX10_price_16 fl_X10_97_10 hg2 hv4 ?_
  exact hk_z0 (hs_sta (M' := m_X10_isIn) (vs := [.int x3, .int v3]) (c1 := 0) (s1 := 0) dX10_price_19 wd_1226 st_X10_isIn rfl (Nat.le_of_ble_eq_true rfl) hc hq_i (hc_i (fun z h9 k9 => k9)))
theorem b_X10_price_22 {G : hk_G} {d cb sb : Nat} {h : hk_H} {Q : hk_O → hk_H → Prop} {s0 : Int32} {o0 : Option Value} {o1 : Option Value} {o2 : Option Value} {o3 : Option Value} {o4 : Option Value} (kt : s0 = 0 → hk_S G m_X10_price (d + 1) cb sb 37 [o0, o1, o2, o3, o4] [] h Q) (kf : ¬ s0 = 0 → hk_S G m_X10_price (d + 1) cb sb 25 [o0, o1, o2, o3, o4] [] h Q) : hk_S G m_X10_price (d + 1) cb sb 22 [o0, o1, o2, o3, o4] [.int s0] h Q := by
  exact hs_if_eq dX10_price_22 (by decide) kt kf
theorem b_X10_price_25 {G : hk_G} {d cb sb : Nat} {h : hk_H} {Q : hk_O → hk_H → Prop} {x4 : Int32} {r0 : Nat} {fs1 : List Value} {v3 : Int32} {o1 : Option Value} {o2 : Option Value} {o3 : Option Value} (hg2 : h.2 r0 = some (.inr (10, fs1))) (hv4 : fs1[1]? = some (.int v3)) (hc : hk_Ci G m_X10_isIn d 0 0 [.int x4, .int v3] h (fun z h' => hk_S G m_X10_price (d + 1) cb sb 34 [some (.ref r0), o1, o2, o3, some (.int x4)] [.int z] h' Q)) : hk_S G m_X10_price (d + 1) cb sb 25 [some (.ref r0), o1, o2, o3, some (.int x4)] [] h Q := by
  refine hs_iload dX10_price_25 rfl ?_
  refine hs_aload_n dX10_price_27 rfl ?_
  refine hs_get dX10_price_28 fl_X10_101_10 hg2 hv4 ?_
  exact hk_z0 (hs_sta (M' := m_X10_isIn) (vs := [.int x4, .int v3]) (c1 := 0) (s1 := 0) dX10_price_31 wd_1226 st_X10_isIn rfl (Nat.le_of_ble_eq_true rfl) hc hq_i (hc_i (fun z h9 k9 => k9)))
theorem b_X10_price_34 {G : hk_G} {d cb sb : Nat} {h : hk_H} {Q : hk_O → hk_H → Prop} {s0 : Int32} {o0 : Option Value} {o1 : Option Value} {o2 : Option Value} {o3 : Option Value} {o4 : Option Value} (kt : ¬ s0 = 0 → hk_S G m_X10_price (d + 1) cb sb 43 [o0, o1, o2, o3, o4] [] h Q) (kf : s0 = 0 → hk_S G m_X10_price (d + 1) cb sb 37 [o0, o1, o2, o3, o4] [] h Q) : hk_S G m_X10_price (d + 1) cb sb 34 [o0, o1, o2, o3, o4] [.int s0] h Q := by
  exact hs_if_ne dX10_price_34 (by decide) kt kf
theorem b_X10_price_37 {G : hk_G} {d cb sb : Nat} {h : hk_H} {Q : hk_O → hk_H → Prop} {r0 : Nat} {fs_ : List Value} {o1 : Option Value} {o2 : Option Value} {o3 : Option Value} {o4 : Option Value} (hrec : h.2 r0 = some (.inr (10, fs_))) (hc : hk_Ci G m_X10_raises d 0 0 [.ref r0, .int 1] h (fun z h' => hk_S G m_X10_price (d + 1) cb sb 42 [some (.ref r0), o1, o2, o3, o4] [.int z] h' Q)) : hk_S G m_X10_price (d + 1) cb sb 37 [some (.ref r0), o1, o2, o3, o4] [] h Q := by
  refine hs_aload_n dX10_price_37 rfl ?_
  refine hs_iconst (v := 1) dX10_price_38 (by decide) ?_
  exact hk_z0 (hs_vir (M' := m_X10_raises) (vs := [.int 1]) (c1 := 0) (s1 := 0) dX10_price_39 wd_1285 vi_X10_raises hrec rfl (Nat.le_of_ble_eq_true rfl) hc hq_i (hc_i (fun z h9 k9 => k9)))
theorem b_X10_price_42 {G : hk_G} {d cb sb : Nat} {h : hk_H} {Q : hk_O → hk_H → Prop} {s0 : Int32} {o0 : Option Value} {o1 : Option Value} {o2 : Option Value} {o3 : Option Value} {o4 : Option Value} (hq : Q (.inl (some (.int s0))) h) : hk_S G m_X10_price (d + 1) cb sb 42 [o0, o1, o2, o3, o4] [.int s0] h Q := by
  exact hs_iret dX10_price_42 rfl hq
theorem b_X10_price_43 {G : hk_G} {d cb sb : Nat} {h : hk_H} {Q : hk_O → hk_H → Prop} {r0 : Nat} {x1 : Int32} {x2 : Int32} {x3 : Int32} {fs_ : List Value} {o4 : Option Value} (hrec : h.2 r0 = some (.inr (10, fs_))) (hc : hk_Cv G m_X10_measure d 0 0 [.ref r0, .int x1, .int x2, .int x3] h (fun h' => hk_S G m_X10_price (d + 1) cb sb 50 [some (.ref r0), some (.int x1), some (.int x2), some (.int x3), o4] [] h' Q)) : hk_S G m_X10_price (d + 1) cb sb 43 [some (.ref r0), some (.int x1), some (.int x2), some (.int x3), o4] [] h Q := by
  refine hs_aload_n dX10_price_43 rfl ?_
  refine hs_iload_n dX10_price_44 rfl ?_
  refine hs_iload_n dX10_price_45 rfl ?_
  refine hs_iload_n dX10_price_46 rfl ?_
  exact hk_z0 (hs_vir (M' := m_X10_measure) (vs := [.int x1, .int x2, .int x3]) (c1 := 0) (s1 := 0) dX10_price_47 wd_1353 vi_X10_measure hrec rfl (Nat.le_of_ble_eq_true rfl) hc hq_v (hc_v (fun h9 k9 => k9)))
theorem b_X10_price_50 {G : hk_G} {d cb sb : Nat} {h : hk_H} {Q : hk_O → hk_H → Prop} {r0 : Nat} {fs1 : List Value} {v3 : Nat} {x4 : Int32} {n5 : Nat} {f6 : Nat → Int32} {o1 : Option Value} {o2 : Option Value} {o3 : Option Value} (hg2 : h.2 r0 = some (.inr (10, fs1))) (hv4 : fs1[16]? = some (.ref v3)) (ha7 : h.2 v3 = some (.inl (2, n5, .inl f6))) (j8 : Nat) (hi9 : (x4 : Int32).toInt = (j8 : Int)) (hj10 : j8 < n5) (kt : (f6 j8) = 0 → hk_S G m_X10_price (d + 1) cb sb 67 [some (.ref r0), o1, o2, o3, some (.int x4)] [] h Q) (kf : ¬ (f6 j8) = 0 → hk_S G m_X10_price (d + 1) cb sb 60 [some (.ref r0), o1, o2, o3, some (.int x4)] [] h Q) : hk_S G m_X10_price (d + 1) cb sb 50 [some (.ref r0), o1, o2, o3, some (.int x4)] [] h Q := by
  refine hs_aload_n dX10_price_50 rfl ?_
  refine hs_get dX10_price_51 fl_X10_41_10 hg2 hv4 ?_
  refine hs_iload dX10_price_54 rfl ?_
  refine hs_zald j8 dX10_price_56 ha7 hi9 hj10 ?_
  exact hs_if_eq dX10_price_57 (by decide) kt kf
theorem b_X10_price_60 {G : hk_G} {d cb sb : Nat} {h : hk_H} {Q : hk_O → hk_H → Prop} {r0 : Nat} {fs_ : List Value} {o1 : Option Value} {o2 : Option Value} {o3 : Option Value} {o4 : Option Value} (hrec : h.2 r0 = some (.inr (10, fs_))) (hc : hk_Ci G m_X10_least d 0 0 [.ref r0] h (fun z h' => hk_S G m_X10_price (d + 1) cb sb 64 [some (.ref r0), o1, o2, o3, o4] [.int z] h' Q)) : hk_S G m_X10_price (d + 1) cb sb 60 [some (.ref r0), o1, o2, o3, o4] [] h Q := by
  refine hs_aload_n dX10_price_60 rfl ?_
  exact hk_z0 (hs_vir (M' := m_X10_least) (vs := []) (c1 := 0) (s1 := 0) dX10_price_61 wd_1363 vi_X10_least hrec rfl (Nat.le_of_ble_eq_true rfl) hc hq_i (hc_i (fun z h9 k9 => k9)))
theorem b_X10_price_64 {G : hk_G} {d cb sb : Nat} {h : hk_H} {Q : hk_O → hk_H → Prop} {s0 : Int32} {o0 : Option Value} {o1 : Option Value} {o2 : Option Value} {o3 : Option Value} {o4 : Option Value} (kt : 0 ≤ s0 → hk_S G m_X10_price (d + 1) cb sb 73 [o0, o1, o2, o3, o4] [] h Q) (kf : ¬ 0 ≤ s0 → hk_S G m_X10_price (d + 1) cb sb 67 [o0, o1, o2, o3, o4] [] h Q) : hk_S G m_X10_price (d + 1) cb sb 64 [o0, o1, o2, o3, o4] [.int s0] h Q := by
  exact hs_if_ge dX10_price_64 (by decide) kt kf
theorem b_X10_price_67 {G : hk_G} {d cb sb : Nat} {h : hk_H} {Q : hk_O → hk_H → Prop} {r0 : Nat} {fs_ : List Value} {o1 : Option Value} {o2 : Option Value} {o3 : Option Value} {o4 : Option Value} (hrec : h.2 r0 = some (.inr (10, fs_))) (hc : hk_Ci G m_X10_raises d 0 0 [.ref r0, .int 2] h (fun z h' => hk_S G m_X10_price (d + 1) cb sb 72 [some (.ref r0), o1, o2, o3, o4] [.int z] h' Q)) : hk_S G m_X10_price (d + 1) cb sb 67 [some (.ref r0), o1, o2, o3, o4] [] h Q := by
  refine hs_aload_n dX10_price_67 rfl ?_
  refine hs_iconst (v := 2) dX10_price_68 (by decide) ?_
  exact hk_z0 (hs_vir (M' := m_X10_raises) (vs := [.int 2]) (c1 := 0) (s1 := 0) dX10_price_69 wd_1285 vi_X10_raises hrec rfl (Nat.le_of_ble_eq_true rfl) hc hq_i (hc_i (fun z h9 k9 => k9)))
theorem b_X10_price_72 {G : hk_G} {d cb sb : Nat} {h : hk_H} {Q : hk_O → hk_H → Prop} {s0 : Int32} {o0 : Option Value} {o1 : Option Value} {o2 : Option Value} {o3 : Option Value} {o4 : Option Value} (hq : Q (.inl (some (.int s0))) h) : hk_S G m_X10_price (d + 1) cb sb 72 [o0, o1, o2, o3, o4] [.int s0] h Q := by
  exact hs_iret dX10_price_72 rfl hq
theorem b_X10_price_73 {G : hk_G} {d cb sb : Nat} {h : hk_H} {Q : hk_O → hk_H → Prop} {r0 : Nat} {fs_ : List Value} {o1 : Option Value} {o2 : Option Value} {o3 : Option Value} {o4 : Option Value} (hrec : h.2 r0 = some (.inr (10, fs_))) (hc : hk_Cv G m_X10_priceAll d 0 0 [.ref r0] h (fun h' => hk_S G m_X10_price (d + 1) cb sb 77 [some (.ref r0), o1, o2, o3, o4] [] h' Q)) : hk_S G m_X10_price (d + 1) cb sb 73 [some (.ref r0), o1, o2, o3, o4] [] h Q := by
  refine hs_aload_n dX10_price_73 rfl ?_
  exact hk_z0 (hs_vir (M' := m_X10_priceAll) (vs := []) (c1 := 0) (s1 := 0) dX10_price_74 wd_1375 vi_X10_priceAll hrec rfl (Nat.le_of_ble_eq_true rfl) hc hq_v (hc_v (fun h9 k9 => k9)))
theorem b_X10_price_77 {G : hk_G} {d cb sb : Nat} {h : hk_H} {Q : hk_O → hk_H → Prop} {r0 : Nat} {fs1 : List Value} {v3 : Nat} {x4 : Int32} {n5 : Nat} {f6 : Nat → Int32} {o1 : Option Value} {o2 : Option Value} {o3 : Option Value} (hg2 : h.2 r0 = some (.inr (10, fs1))) (hv4 : fs1[18]? = some (.ref v3)) (ha7 : h.2 v3 = some (.inl (0, n5, .inl f6))) (j8 : Nat) (hi9 : (x4 : Int32).toInt = (j8 : Int)) (hj10 : j8 < n5) (hq : Q (.inl (some (.int (f6 j8)))) h) : hk_S G m_X10_price (d + 1) cb sb 77 [some (.ref r0), o1, o2, o3, some (.int x4)] [] h Q := by
  refine hs_aload_n dX10_price_77 rfl ?_
  refine hs_get dX10_price_78 fl_X10_48_10 hg2 hv4 ?_
  refine hs_iload dX10_price_81 rfl ?_
  refine hs_iald j8 dX10_price_83 ha7 hi9 hj10 ?_
  exact hs_iret dX10_price_84 rfl hq
-- HonestHouseModel.honest(I)I
theorem b_X10_honest_0 {G : hk_G} {d cb sb : Nat} {h : hk_H} {Q : hk_O → hk_H → Prop} {x1 : Int32} {r0 : Nat} {fs1 : List Value} {v3 : Int32} {o2 : Option Value} {o3 : Option Value} {o4 : Option Value} {o5 : Option Value} (hg2 : h.2 r0 = some (.inr (10, fs1))) (hv4 : fs1[3]? = some (.int v3)) (hc : hk_Ci G m_X10_isIn d 0 0 [.int x1, .int v3] h (fun z h' => hk_S G m_X10_honest (d + 1) cb sb 8 [some (.ref r0), some (.int x1), o2, o3, o4, o5] [.int z] h' Q)) : hk_S G m_X10_honest (d + 1) cb sb 0 [some (.ref r0), some (.int x1), o2, o3, o4, o5] [] h Q := by
  refine hs_iload_n dX10_honest_0 rfl ?_
  refine hs_aload_n dX10_honest_1 rfl ?_
  refine hs_get dX10_honest_2 fl_X10_116_10 hg2 hv4 ?_
  exact hk_z0 (hs_sta (M' := m_X10_isIn) (vs := [.int x1, .int v3]) (c1 := 0) (s1 := 0) dX10_honest_5 wd_1226 st_X10_isIn rfl (Nat.le_of_ble_eq_true rfl) hc hq_i (hc_i (fun z h9 k9 => k9)))
theorem b_X10_honest_8 {G : hk_G} {d cb sb : Nat} {h : hk_H} {Q : hk_O → hk_H → Prop} {s0 : Int32} {o0 : Option Value} {o1 : Option Value} {o2 : Option Value} {o3 : Option Value} {o4 : Option Value} {o5 : Option Value} (kt : ¬ s0 = 0 → hk_S G m_X10_honest (d + 1) cb sb 13 [o0, o1, o2, o3, o4, o5] [] h Q) (kf : s0 = 0 → hk_S G m_X10_honest (d + 1) cb sb 11 [o0, o1, o2, o3, o4, o5] [] h Q) : hk_S G m_X10_honest (d + 1) cb sb 8 [o0, o1, o2, o3, o4, o5] [.int s0] h Q := by
  exact hs_if_ne dX10_honest_8 (by decide) kt kf
theorem b_X10_honest_11 {G : hk_G} {d cb sb : Nat} {h : hk_H} {Q : hk_O → hk_H → Prop} {o0 : Option Value} {o1 : Option Value} {o2 : Option Value} {o3 : Option Value} {o4 : Option Value} {o5 : Option Value} (hq : Q (.inl (some (.int ((-1))))) h) : hk_S G m_X10_honest (d + 1) cb sb 11 [o0, o1, o2, o3, o4, o5] [] h Q := by
  refine hs_iconst (v := (-1)) dX10_honest_11 (by decide) ?_
  exact hs_iret dX10_honest_12 rfl hq
theorem b_X10_honest_13 {G : hk_G} {d cb sb : Nat} {h : hk_H} {Q : hk_O → hk_H → Prop} {r0 : Nat} {fs1 : List Value} {v3 : Int32} {o1 : Option Value} {o2 : Option Value} {o3 : Option Value} {o4 : Option Value} {o5 : Option Value} (hg2 : h.2 r0 = some (.inr (10, fs1))) (hv4 : fs1[3]? = some (.int v3)) (kt : ¬ v3 = 8 → hk_S G m_X10_honest (d + 1) cb sb 25 [some (.ref r0), o1, o2, o3, o4, o5] [] h Q) (kf : v3 = 8 → hk_S G m_X10_honest (d + 1) cb sb 22 [some (.ref r0), o1, o2, o3, o4, o5] [] h Q) : hk_S G m_X10_honest (d + 1) cb sb 13 [some (.ref r0), o1, o2, o3, o4, o5] [] h Q := by
  refine hs_aload_n dX10_honest_13 rfl ?_
  refine hs_get dX10_honest_14 fl_X10_116_10 hg2 hv4 ?_
  refine hs_bipush (v := 8) dX10_honest_17 (by decide) ?_
  exact hs_icmp_ne dX10_honest_19 (by decide) kt kf
theorem b_X10_honest_22 {G : hk_G} {d cb sb : Nat} {h : hk_H} {Q : hk_O → hk_H → Prop} {o0 : Option Value} {o1 : Option Value} {o2 : Option Value} {o3 : Option Value} {o4 : Option Value} {o5 : Option Value} (hq : Q (.inl (some (.int ((-2))))) h) : hk_S G m_X10_honest (d + 1) cb sb 22 [o0, o1, o2, o3, o4, o5] [] h Q := by
  refine hs_bipush (v := (-2)) dX10_honest_22 (by decide) ?_
  exact hs_iret dX10_honest_24 rfl hq
theorem b_X10_honest_25 {G : hk_G} {d cb sb : Nat} {h : hk_H} {Q : hk_O → hk_H → Prop} {r0 : Nat} {x1 : Int32} {fs_ : List Value} {o2 : Option Value} {o3 : Option Value} {o4 : Option Value} {o5 : Option Value} (hrec : h.2 r0 = some (.inr (10, fs_))) (hc : hk_Ci G m_X10_round d 0 0 [.ref r0, .int x1, .int 0] h (fun z h' => hk_S G m_X10_honest (d + 1) cb sb 31 [some (.ref r0), some (.int x1), o2, o3, o4, o5] [.int z] h' Q)) : hk_S G m_X10_honest (d + 1) cb sb 25 [some (.ref r0), some (.int x1), o2, o3, o4, o5] [] h Q := by
  refine hs_aload_n dX10_honest_25 rfl ?_
  refine hs_iload_n dX10_honest_26 rfl ?_
  refine hs_iconst (v := 0) dX10_honest_27 (by decide) ?_
  exact hk_z0 (hs_vir (M' := m_X10_round) (vs := [.int x1, .int 0]) (c1 := 0) (s1 := 0) dX10_honest_28 wd_1383 vi_X10_round hrec rfl (Nat.le_of_ble_eq_true rfl) hc hq_i (hc_i (fun z h9 k9 => k9)))
theorem b_X10_honest_31 {G : hk_G} {d cb sb : Nat} {h : hk_H} {Q : hk_O → hk_H → Prop} {s0 : Int32} {o0 : Option Value} {o1 : Option Value} {o2 : Option Value} {o3 : Option Value} {o4 : Option Value} {o5 : Option Value} (kt : s0 = ((-2)) → hk_S G m_X10_honest (d + 1) cb sb 39 [o0, o1, o2, o3, o4, o5] [] h Q) (kf : ¬ s0 = ((-2)) → hk_S G m_X10_honest (d + 1) cb sb 36 [o0, o1, o2, o3, o4, o5] [] h Q) : hk_S G m_X10_honest (d + 1) cb sb 31 [o0, o1, o2, o3, o4, o5] [.int s0] h Q := by
  refine hs_bipush (v := (-2)) dX10_honest_31 (by decide) ?_
  exact hs_icmp_eq dX10_honest_33 (by decide) kt kf
theorem b_X10_honest_36 {G : hk_G} {d cb sb : Nat} {h : hk_H} {Q : hk_O → hk_H → Prop} {o0 : Option Value} {o1 : Option Value} {o2 : Option Value} {o3 : Option Value} {o4 : Option Value} {o5 : Option Value} (hq : Q (.inl (some (.int ((-3))))) h) : hk_S G m_X10_honest (d + 1) cb sb 36 [o0, o1, o2, o3, o4, o5] [] h Q := by
  refine hs_bipush (v := (-3)) dX10_honest_36 (by decide) ?_
  exact hs_iret dX10_honest_38 rfl hq
theorem b_X10_honest_39 {G : hk_G} {d cb sb : Nat} {h : hk_H} {Q : hk_O → hk_H → Prop} {r0 : Nat} {fs_ : List Value} {o1 : Option Value} {o2 : Option Value} {o3 : Option Value} {o4 : Option Value} {o5 : Option Value} (hrec : h.2 r0 = some (.inr (10, fs_))) (hc : hk_Ci G m_X10_rule d 0 0 [.ref r0, .int 1] h (fun z h' => hk_S G m_X10_honest (d + 1) cb sb 44 [some (.ref r0), o1, o2, o3, o4, o5] [.int z] h' Q)) : hk_S G m_X10_honest (d + 1) cb sb 39 [some (.ref r0), o1, o2, o3, o4, o5] [] h Q := by
  refine hs_aload_n dX10_honest_39 rfl ?_
  refine hs_iconst (v := 1) dX10_honest_40 (by decide) ?_
  exact hk_z0 (hs_vir (M' := m_X10_rule) (vs := [.int 1]) (c1 := 0) (s1 := 0) dX10_honest_41 wd_1384 vi_X10_rule hrec rfl (Nat.le_of_ble_eq_true rfl) hc hq_i (hc_i (fun z h9 k9 => k9)))
theorem b_X10_honest_44 {G : hk_G} {d cb sb : Nat} {h : hk_H} {Q : hk_O → hk_H → Prop} {s0 : Int32} {o0 : Option Value} {o1 : Option Value} {o2 : Option Value} {o3 : Option Value} {o4 : Option Value} {o5 : Option Value} (k : hk_S G m_X10_honest (d + 1) cb sb 47 [o0, o1, some (.int s0), some (.int 0), o4, o5] [] h Q) (ho1 : hk_c1 o1 := by first | exact hk_c1i | exact hk_c1r | exact hk_c10 | exact hk_c1n) : hk_S G m_X10_honest (d + 1) cb sb 44 [o0, o1, o2, o3, o4, o5] [.int s0] h Q := by
  refine hs_istK_n dX10_honest_44 (by decide) (hk_nk1 rfl ho1) rfl ?_
  refine hs_iconst (v := 0) dX10_honest_45 (by decide) ?_
  refine hs_istK_n dX10_honest_46 (by decide) (hk_nk1 rfl hk_c1i) rfl ?_
  exact k
theorem b_X10_honest_47 {G : hk_G} {d cb sb : Nat} {h : hk_H} {Q : hk_O → hk_H → Prop} {x3 : Int32} {r0 : Nat} {fs1 : List Value} {v3 : Int32} {o1 : Option Value} {o2 : Option Value} {o4 : Option Value} {o5 : Option Value} (hg2 : h.2 r0 = some (.inr (10, fs1))) (hv4 : fs1[4]? = some (.int v3)) (kt : v3 ≤ x3 → hk_S G m_X10_honest (d + 1) cb sb 137 [some (.ref r0), o1, o2, some (.int x3), o4, o5] [] h Q) (kf : ¬ v3 ≤ x3 → hk_S G m_X10_honest (d + 1) cb sb 55 [some (.ref r0), o1, o2, some (.int x3), o4, o5] [] h Q) : hk_S G m_X10_honest (d + 1) cb sb 47 [some (.ref r0), o1, o2, some (.int x3), o4, o5] [] h Q := by
  refine hs_iload_n dX10_honest_47 rfl ?_
  refine hs_aload_n dX10_honest_48 rfl ?_
  refine hs_get dX10_honest_49 fl_X10_113_10 hg2 hv4 ?_
  exact hs_icmp_ge dX10_honest_52 (by decide) kt kf
theorem b_X10_honest_55 {G : hk_G} {d cb sb : Nat} {h : hk_H} {Q : hk_O → hk_H → Prop} {r0 : Nat} {x1 : Int32} {x3 : Int32} {fs_ : List Value} {o2 : Option Value} {o4 : Option Value} {o5 : Option Value} (hrec : h.2 r0 = some (.inr (10, fs_))) (hc : hk_Ci G m_X10_ends d 0 0 [.ref r0, .int x1, .int x3] h (fun z h' => hk_S G m_X10_honest (d + 1) cb sb 61 [some (.ref r0), some (.int x1), o2, some (.int x3), o4, o5] [.int z] h' Q)) : hk_S G m_X10_honest (d + 1) cb sb 55 [some (.ref r0), some (.int x1), o2, some (.int x3), o4, o5] [] h Q := by
  refine hs_aload_n dX10_honest_55 rfl ?_
  refine hs_iload_n dX10_honest_56 rfl ?_
  refine hs_iload_n dX10_honest_57 rfl ?_
  exact hk_z0 (hs_vir (M' := m_X10_ends) (vs := [.int x1, .int x3]) (c1 := 0) (s1 := 0) dX10_honest_58 wd_1257 vi_X10_ends hrec rfl (Nat.le_of_ble_eq_true rfl) hc hq_i (hc_i (fun z h9 k9 => k9)))
theorem b_X10_honest_61 {G : hk_G} {d cb sb : Nat} {h : hk_H} {Q : hk_O → hk_H → Prop} {s0 : Int32} {r0 : Nat} {fs1 : List Value} {v3 : Nat} {x2 : Int32} {x3 : Int32} {n5 : Nat} {f6 : Nat → Int32} {h_1 : hk_H} {o1 : Option Value} {o4 : Option Value} {o5 : Option Value} (hg2 : h.2 r0 = some (.inr (10, fs1))) (hv4 : fs1[8]? = some (.ref v3)) (ha7 : h.2 v3 = some (.inl (0, n5, .inl f6))) (h4_v3 : 4 ≤ v3) (j8 : Nat) (hi9 : ((1296 * x2) + x3 : Int32).toInt = (j8 : Int)) (hj10 : j8 < n5) (e_1 : (hk_set h v3 (.inl (0, n5, .inl (upd f6 j8 s0)))) = h_1) (k : hk_S G m_X10_honest (d + 1) cb sb 80 [some (.ref r0), o1, some (.int x2), some (.int x3), some (.int s0), some (.int 0)] [] h_1 Q) : hk_S G m_X10_honest (d + 1) cb sb 61 [some (.ref r0), o1, some (.int x2), some (.int x3), o4, o5] [.int s0] h Q := by
  subst e_1
  refine hs_istK dX10_honest_61 (by decide) (hk_nk1 rfl hk_c1i) rfl ?_
  refine hs_aload_n dX10_honest_63 rfl ?_
  refine hs_get dX10_honest_64 fl_X10_19_10 hg2 hv4 ?_
  refine hs_sipush (v := 1296) dX10_honest_67 (by decide) ?_
  refine hs_iload_n dX10_honest_70 rfl ?_
  refine hs_imul dX10_honest_71 ?_
  refine hs_iload_n dX10_honest_72 rfl ?_
  refine hs_iadd dX10_honest_73 ?_
  refine hs_iload dX10_honest_74 rfl ?_
  refine hs_iast j8 dX10_honest_76 ha7 h4_v3 hi9 hj10 ?_
  refine hs_iconst (v := 0) dX10_honest_77 (by decide) ?_
  refine hs_istK dX10_honest_78 (by decide) (hk_nk1 rfl hk_c1i) rfl ?_
  exact k
theorem b_X10_honest_80 {G : hk_G} {d cb sb : Nat} {h : hk_H} {Q : hk_O → hk_H → Prop} {x5 : Int32} {r0 : Nat} {fs1 : List Value} {v3 : Int32} {o1 : Option Value} {o2 : Option Value} {o3 : Option Value} {o4 : Option Value} (hg2 : h.2 r0 = some (.inr (10, fs1))) (hv4 : fs1[0]? = some (.int v3)) (kt : v3 ≤ x5 → hk_S G m_X10_honest (d + 1) cb sb 131 [some (.ref r0), o1, o2, o3, o4, some (.int x5)] [] h Q) (kf : ¬ v3 ≤ x5 → hk_S G m_X10_honest (d + 1) cb sb 89 [some (.ref r0), o1, o2, o3, o4, some (.int x5)] [] h Q) : hk_S G m_X10_honest (d + 1) cb sb 80 [some (.ref r0), o1, o2, o3, o4, some (.int x5)] [] h Q := by
  refine hs_iload dX10_honest_80 rfl ?_
  refine hs_aload_n dX10_honest_82 rfl ?_
  refine hs_get dX10_honest_83 fl_X10_97_10 hg2 hv4 ?_
  exact hs_icmp_ge dX10_honest_86 (by decide) kt kf
theorem b_X10_honest_89 {G : hk_G} {d cb sb : Nat} {h : hk_H} {Q : hk_O → hk_H → Prop} {r0 : Nat} {x1 : Int32} {x3 : Int32} {x5 : Int32} {fs_ : List Value} {o2 : Option Value} {o4 : Option Value} (hrec : h.2 r0 = some (.inr (10, fs_))) (hc : hk_Cv G m_X10_measure d 0 0 [.ref r0, .int x1, .int x3, .int x5] h (fun h' => hk_S G m_X10_honest (d + 1) cb sb 97 [some (.ref r0), some (.int x1), o2, some (.int x3), o4, some (.int x5)] [] h' Q)) : hk_S G m_X10_honest (d + 1) cb sb 89 [some (.ref r0), some (.int x1), o2, some (.int x3), o4, some (.int x5)] [] h Q := by
  refine hs_aload_n dX10_honest_89 rfl ?_
  refine hs_iload_n dX10_honest_90 rfl ?_
  refine hs_iload_n dX10_honest_91 rfl ?_
  refine hs_iload dX10_honest_92 rfl ?_
  exact hk_z0 (hs_vir (M' := m_X10_measure) (vs := [.int x1, .int x3, .int x5]) (c1 := 0) (s1 := 0) dX10_honest_94 wd_1353 vi_X10_measure hrec rfl (Nat.le_of_ble_eq_true rfl) hc hq_v (hc_v (fun h9 k9 => k9)))
theorem b_X10_honest_97 {G : hk_G} {d cb sb : Nat} {h : hk_H} {Q : hk_O → hk_H → Prop} {r0 : Nat} {fs_ : List Value} {o1 : Option Value} {o2 : Option Value} {o3 : Option Value} {o4 : Option Value} {o5 : Option Value} (hrec : h.2 r0 = some (.inr (10, fs_))) (hc : hk_Cv G m_X10_priceAll d 0 0 [.ref r0] h (fun h' => hk_S G m_X10_honest (d + 1) cb sb 101 [some (.ref r0), o1, o2, o3, o4, o5] [] h' Q)) : hk_S G m_X10_honest (d + 1) cb sb 97 [some (.ref r0), o1, o2, o3, o4, o5] [] h Q := by
  refine hs_aload_n dX10_honest_97 rfl ?_
  exact hk_z0 (hs_vir (M' := m_X10_priceAll) (vs := []) (c1 := 0) (s1 := 0) dX10_honest_98 wd_1375 vi_X10_priceAll hrec rfl (Nat.le_of_ble_eq_true rfl) hc hq_v (hc_v (fun h9 k9 => k9)))
theorem b_X10_honest_101 {G : hk_G} {d cb sb : Nat} {h : hk_H} {Q : hk_O → hk_H → Prop} {r0 : Nat} {fs1 : List Value} {v3 : Nat} {x2 : Int32} {x3 : Int32} {x5 : Int32} {v5 : Nat} {x4 : Int32} {n7 : Nat} {f8 : Nat → Int32} {n13 : Nat} {f14 : Nat → Int32} {h_1 : hk_H} {o1 : Option Value} (hg2 : h.2 r0 = some (.inr (10, fs1))) (hv4 : fs1[9]? = some (.ref v3)) (hv6 : fs1[18]? = some (.ref v5)) (ha9 : h.2 v5 = some (.inl (0, n7, .inl f8))) (j10 : Nat) (hi11 : (x4 : Int32).toInt = (j10 : Int)) (hj12 : j10 < n7) (ha15 : h.2 v3 = some (.inl (0, n13, .inl f14))) (h4_v3 : 4 ≤ v3) (j16 : Nat) (hi17 : ((4 * ((1296 * x2) + x3)) + x5 : Int32).toInt = (j16 : Int)) (hj18 : j16 < n13) (e_1 : (hk_set h v3 (.inl (0, n13, .inl (upd f14 j16 (f8 j10))))) = h_1) (k : hk_S G m_X10_honest (d + 1) cb sb 80 [some (.ref r0), o1, some (.int x2), some (.int x3), some (.int x4), some (.int (x5 + 1))] [] h_1 Q) : hk_S G m_X10_honest (d + 1) cb sb 101 [some (.ref r0), o1, some (.int x2), some (.int x3), some (.int x4), some (.int x5)] [] h Q := by
  subst e_1
  refine hs_aload_n dX10_honest_101 rfl ?_
  refine hs_get dX10_honest_102 fl_X10_23_10 hg2 hv4 ?_
  refine hs_iconst (v := 4) dX10_honest_105 (by decide) ?_
  refine hs_sipush (v := 1296) dX10_honest_106 (by decide) ?_
  refine hs_iload_n dX10_honest_109 rfl ?_
  refine hs_imul dX10_honest_110 ?_
  refine hs_iload_n dX10_honest_111 rfl ?_
  refine hs_iadd dX10_honest_112 ?_
  refine hs_imul dX10_honest_113 ?_
  refine hs_iload dX10_honest_114 rfl ?_
  refine hs_iadd dX10_honest_116 ?_
  refine hs_aload_n dX10_honest_117 rfl ?_
  refine hs_get dX10_honest_118 fl_X10_48_10 hg2 hv6 ?_
  refine hs_iload dX10_honest_121 rfl ?_
  refine hs_iald j10 dX10_honest_123 ha9 hi11 hj12 ?_
  refine hs_iast j16 dX10_honest_124 ha15 h4_v3 hi17 hj18 ?_
  refine hs_iincK (v := 1) dX10_honest_125 rfl (by decide) (by decide) (hk_nk1 rfl hk_c1i) rfl ?_
  refine hs_goto dX10_honest_128 (tgt := 80) (by decide) ?_
  exact k
theorem b_X10_honest_131 {G : hk_G} {d cb sb : Nat} {h : hk_H} {Q : hk_O → hk_H → Prop} {x3 : Int32} {o0 : Option Value} {o1 : Option Value} {o2 : Option Value} {o4 : Option Value} {o5 : Option Value} (k : hk_S G m_X10_honest (d + 1) cb sb 47 [o0, o1, o2, some (.int (x3 + 1)), o4, o5] [] h Q) (ho2 : hk_c1 o2 := by first | exact hk_c1i | exact hk_c1r | exact hk_c10 | exact hk_c1n) : hk_S G m_X10_honest (d + 1) cb sb 131 [o0, o1, o2, some (.int x3), o4, o5] [] h Q := by
  refine hs_iincK (v := 1) dX10_honest_131 rfl (by decide) (by decide) (hk_nk1 rfl ho2) rfl ?_
  refine hs_goto dX10_honest_134 (tgt := 47) (by decide) ?_
  exact k
theorem b_X10_honest_137 {G : hk_G} {d cb sb : Nat} {h : hk_H} {Q : hk_O → hk_H → Prop} {x2 : Int32} {o0 : Option Value} {o1 : Option Value} {o3 : Option Value} {o4 : Option Value} {o5 : Option Value} (hq : Q (.inl (some (.int x2))) h) : hk_S G m_X10_honest (d + 1) cb sb 137 [o0, o1, some (.int x2), o3, o4, o5] [] h Q := by
  refine hs_iload_n dX10_honest_137 rfl ?_
  exact hs_iret dX10_honest_138 rfl hq
-- HonestHouseModel.same(II)I
theorem b_X10_same_0 {G : hk_G} {d cb sb : Nat} {h : hk_H} {Q : hk_O → hk_H → Prop} {x1 : Int32} {r0 : Nat} {fs1 : List Value} {v3 : Int32} {o2 : Option Value} {o3 : Option Value} {o4 : Option Value} {o5 : Option Value} (hg2 : h.2 r0 = some (.inr (10, fs1))) (hv4 : fs1[3]? = some (.int v3)) (hc : hk_Ci G m_X10_isIn d 0 0 [.int x1, .int v3] h (fun z h' => hk_S G m_X10_same (d + 1) cb sb 8 [some (.ref r0), some (.int x1), o2, o3, o4, o5] [.int z] h' Q)) : hk_S G m_X10_same (d + 1) cb sb 0 [some (.ref r0), some (.int x1), o2, o3, o4, o5] [] h Q := by
  refine hs_iload_n dX10_same_0 rfl ?_
  refine hs_aload_n dX10_same_1 rfl ?_
  refine hs_get dX10_same_2 fl_X10_116_10 hg2 hv4 ?_
  exact hk_z0 (hs_sta (M' := m_X10_isIn) (vs := [.int x1, .int v3]) (c1 := 0) (s1 := 0) dX10_same_5 wd_1226 st_X10_isIn rfl (Nat.le_of_ble_eq_true rfl) hc hq_i (hc_i (fun z h9 k9 => k9)))
theorem b_X10_same_8 {G : hk_G} {d cb sb : Nat} {h : hk_H} {Q : hk_O → hk_H → Prop} {s0 : Int32} {o0 : Option Value} {o1 : Option Value} {o2 : Option Value} {o3 : Option Value} {o4 : Option Value} {o5 : Option Value} (kt : s0 = 0 → hk_S G m_X10_same (d + 1) cb sb 22 [o0, o1, o2, o3, o4, o5] [] h Q) (kf : ¬ s0 = 0 → hk_S G m_X10_same (d + 1) cb sb 11 [o0, o1, o2, o3, o4, o5] [] h Q) : hk_S G m_X10_same (d + 1) cb sb 8 [o0, o1, o2, o3, o4, o5] [.int s0] h Q := by
  exact hs_if_eq dX10_same_8 (by decide) kt kf
theorem b_X10_same_11 {G : hk_G} {d cb sb : Nat} {h : hk_H} {Q : hk_O → hk_H → Prop} {x2 : Int32} {r0 : Nat} {fs1 : List Value} {v3 : Int32} {o1 : Option Value} {o3 : Option Value} {o4 : Option Value} {o5 : Option Value} (hg2 : h.2 r0 = some (.inr (10, fs1))) (hv4 : fs1[3]? = some (.int v3)) (hc : hk_Ci G m_X10_isIn d 0 0 [.int x2, .int v3] h (fun z h' => hk_S G m_X10_same (d + 1) cb sb 19 [some (.ref r0), o1, some (.int x2), o3, o4, o5] [.int z] h' Q)) : hk_S G m_X10_same (d + 1) cb sb 11 [some (.ref r0), o1, some (.int x2), o3, o4, o5] [] h Q := by
  refine hs_iload_n dX10_same_11 rfl ?_
  refine hs_aload_n dX10_same_12 rfl ?_
  refine hs_get dX10_same_13 fl_X10_116_10 hg2 hv4 ?_
  exact hk_z0 (hs_sta (M' := m_X10_isIn) (vs := [.int x2, .int v3]) (c1 := 0) (s1 := 0) dX10_same_16 wd_1226 st_X10_isIn rfl (Nat.le_of_ble_eq_true rfl) hc hq_i (hc_i (fun z h9 k9 => k9)))
theorem b_X10_same_19 {G : hk_G} {d cb sb : Nat} {h : hk_H} {Q : hk_O → hk_H → Prop} {s0 : Int32} {o0 : Option Value} {o1 : Option Value} {o2 : Option Value} {o3 : Option Value} {o4 : Option Value} {o5 : Option Value} (kt : ¬ s0 = 0 → hk_S G m_X10_same (d + 1) cb sb 24 [o0, o1, o2, o3, o4, o5] [] h Q) (kf : s0 = 0 → hk_S G m_X10_same (d + 1) cb sb 22 [o0, o1, o2, o3, o4, o5] [] h Q) : hk_S G m_X10_same (d + 1) cb sb 19 [o0, o1, o2, o3, o4, o5] [.int s0] h Q := by
  exact hs_if_ne dX10_same_19 (by decide) kt kf
theorem b_X10_same_22 {G : hk_G} {d cb sb : Nat} {h : hk_H} {Q : hk_O → hk_H → Prop} {o0 : Option Value} {o1 : Option Value} {o2 : Option Value} {o3 : Option Value} {o4 : Option Value} {o5 : Option Value} (hq : Q (.inl (some (.int ((-1))))) h) : hk_S G m_X10_same (d + 1) cb sb 22 [o0, o1, o2, o3, o4, o5] [] h Q := by
  refine hs_iconst (v := (-1)) dX10_same_22 (by decide) ?_
  exact hs_iret dX10_same_23 rfl hq
theorem b_X10_same_24 {G : hk_G} {d cb sb : Nat} {h : hk_H} {Q : hk_O → hk_H → Prop} {o0 : Option Value} {o1 : Option Value} {o2 : Option Value} {o3 : Option Value} {o4 : Option Value} {o5 : Option Value} (k : hk_S G m_X10_same (d + 1) cb sb 29 [o0, o1, o2, some (.int 1), some (.int 0), o5] [] h Q) (ho2 : hk_c1 o2 := by first | exact hk_c1i | exact hk_c1r | exact hk_c10 | exact hk_c1n) : hk_S G m_X10_same (d + 1) cb sb 24 [o0, o1, o2, o3, o4, o5] [] h Q := by
  refine hs_iconst (v := 1) dX10_same_24 (by decide) ?_
  refine hs_istK_n dX10_same_25 (by decide) (hk_nk1 rfl ho2) rfl ?_
  refine hs_iconst (v := 0) dX10_same_26 (by decide) ?_
  refine hs_istK dX10_same_27 (by decide) (hk_nk1 rfl hk_c1i) rfl ?_
  exact k
theorem b_X10_same_29 {G : hk_G} {d cb sb : Nat} {h : hk_H} {Q : hk_O → hk_H → Prop} {x4 : Int32} {r0 : Nat} {fs1 : List Value} {v3 : Int32} {o1 : Option Value} {o2 : Option Value} {o3 : Option Value} {o5 : Option Value} (hg2 : h.2 r0 = some (.inr (10, fs1))) (hv4 : fs1[4]? = some (.int v3)) (kt : v3 ≤ x4 → hk_S G m_X10_same (d + 1) cb sb 120 [some (.ref r0), o1, o2, o3, some (.int x4), o5] [] h Q) (kf : ¬ v3 ≤ x4 → hk_S G m_X10_same (d + 1) cb sb 38 [some (.ref r0), o1, o2, o3, some (.int x4), o5] [] h Q) : hk_S G m_X10_same (d + 1) cb sb 29 [some (.ref r0), o1, o2, o3, some (.int x4), o5] [] h Q := by
  refine hs_iload dX10_same_29 rfl ?_
  refine hs_aload_n dX10_same_31 rfl ?_
  refine hs_get dX10_same_32 fl_X10_113_10 hg2 hv4 ?_
  exact hs_icmp_ge dX10_same_35 (by decide) kt kf
theorem b_X10_same_38 {G : hk_G} {d cb sb : Nat} {h : hk_H} {Q : hk_O → hk_H → Prop} {x3 : Int32} {o0 : Option Value} {o1 : Option Value} {o2 : Option Value} {o4 : Option Value} {o5 : Option Value} (kt : x3 = 0 → hk_S G m_X10_same (d + 1) cb sb 120 [o0, o1, o2, some (.int x3), o4, o5] [] h Q) (kf : ¬ x3 = 0 → hk_S G m_X10_same (d + 1) cb sb 42 [o0, o1, o2, some (.int x3), o4, o5] [] h Q) : hk_S G m_X10_same (d + 1) cb sb 38 [o0, o1, o2, some (.int x3), o4, o5] [] h Q := by
  refine hs_iload_n dX10_same_38 rfl ?_
  exact hs_if_eq dX10_same_39 (by decide) kt kf
theorem b_X10_same_42 {G : hk_G} {d cb sb : Nat} {h : hk_H} {Q : hk_O → hk_H → Prop} {r0 : Nat} {x1 : Int32} {x4 : Int32} {fs_ : List Value} {o2 : Option Value} {o3 : Option Value} {o5 : Option Value} (hrec : h.2 r0 = some (.inr (10, fs_))) (hc : hk_Ci G m_X10_ends d 0 0 [.ref r0, .int x1, .int x4] h (fun z h' => hk_S G m_X10_same (d + 1) cb sb 49 [some (.ref r0), some (.int x1), o2, o3, some (.int x4), o5] [.int z] h' Q)) : hk_S G m_X10_same (d + 1) cb sb 42 [some (.ref r0), some (.int x1), o2, o3, some (.int x4), o5] [] h Q := by
  refine hs_aload_n dX10_same_42 rfl ?_
  refine hs_iload_n dX10_same_43 rfl ?_
  refine hs_iload dX10_same_44 rfl ?_
  exact hk_z0 (hs_vir (M' := m_X10_ends) (vs := [.int x1, .int x4]) (c1 := 0) (s1 := 0) dX10_same_46 wd_1257 vi_X10_ends hrec rfl (Nat.le_of_ble_eq_true rfl) hc hq_i (hc_i (fun z h9 k9 => k9)))
theorem b_X10_same_49 {G : hk_G} {d cb sb : Nat} {h : hk_H} {Q : hk_O → hk_H → Prop} {s0 : Int32} {r0 : Nat} {x2 : Int32} {x4 : Int32} {fs_ : List Value} {o1 : Option Value} {o3 : Option Value} {o5 : Option Value} (hrec : h.2 r0 = some (.inr (10, fs_))) (hc : hk_Ci G m_X10_ends d 0 0 [.ref r0, .int x2, .int x4] h (fun z h' => hk_S G m_X10_same (d + 1) cb sb 56 [some (.ref r0), o1, some (.int x2), o3, some (.int x4), o5] [.int z, .int s0] h' Q)) : hk_S G m_X10_same (d + 1) cb sb 49 [some (.ref r0), o1, some (.int x2), o3, some (.int x4), o5] [.int s0] h Q := by
  refine hs_aload_n dX10_same_49 rfl ?_
  refine hs_iload_n dX10_same_50 rfl ?_
  refine hs_iload dX10_same_51 rfl ?_
  exact hk_z0 (hs_vir (M' := m_X10_ends) (vs := [.int x2, .int x4]) (c1 := 0) (s1 := 0) dX10_same_53 wd_1257 vi_X10_ends hrec rfl (Nat.le_of_ble_eq_true rfl) hc hq_i (hc_i (fun z h9 k9 => k9)))
theorem b_X10_same_56 {G : hk_G} {d cb sb : Nat} {h : hk_H} {Q : hk_O → hk_H → Prop} {s0 : Int32} {s1 : Int32} {o0 : Option Value} {o1 : Option Value} {o2 : Option Value} {o3 : Option Value} {o4 : Option Value} {o5 : Option Value} (kt : ¬ s0 = s1 → hk_S G m_X10_same (d + 1) cb sb 63 [o0, o1, o2, o3, o4, o5] [] h Q) (kf : s0 = s1 → hk_S G m_X10_same (d + 1) cb sb 59 [o0, o1, o2, o3, o4, o5] [] h Q) : hk_S G m_X10_same (d + 1) cb sb 56 [o0, o1, o2, o3, o4, o5] [.int s1, .int s0] h Q := by
  exact hs_icmp_ne dX10_same_56 (by decide) kt kf
theorem b_X10_same_59 {G : hk_G} {d cb sb : Nat} {h : hk_H} {Q : hk_O → hk_H → Prop} {o0 : Option Value} {o1 : Option Value} {o2 : Option Value} {o3 : Option Value} {o4 : Option Value} {o5 : Option Value} (k : hk_S G m_X10_same (d + 1) cb sb 68 [o0, o1, o2, some (.int 1), o4, some (.int 0)] [] h Q) (ho2 : hk_c1 o2 := by first | exact hk_c1i | exact hk_c1r | exact hk_c10 | exact hk_c1n) (ho4 : hk_c1 o4 := by first | exact hk_c1i | exact hk_c1r | exact hk_c10 | exact hk_c1n) : hk_S G m_X10_same (d + 1) cb sb 59 [o0, o1, o2, o3, o4, o5] [] h Q := by
  refine hs_iconst (v := 1) dX10_same_59 (by decide) ?_
  refine hs_goto dX10_same_60 (tgt := 64) (by decide) ?_
  refine hs_istK_n dX10_same_64 (by decide) (hk_nk1 rfl ho2) rfl ?_
  refine hs_iconst (v := 0) dX10_same_65 (by decide) ?_
  refine hs_istK dX10_same_66 (by decide) (hk_nk1 rfl ho4) rfl ?_
  exact k
theorem b_X10_same_63 {G : hk_G} {d cb sb : Nat} {h : hk_H} {Q : hk_O → hk_H → Prop} {o0 : Option Value} {o1 : Option Value} {o2 : Option Value} {o3 : Option Value} {o4 : Option Value} {o5 : Option Value} (k : hk_S G m_X10_same (d + 1) cb sb 68 [o0, o1, o2, some (.int 0), o4, some (.int 0)] [] h Q) (ho2 : hk_c1 o2 := by first | exact hk_c1i | exact hk_c1r | exact hk_c10 | exact hk_c1n) (ho4 : hk_c1 o4 := by first | exact hk_c1i | exact hk_c1r | exact hk_c10 | exact hk_c1n) : hk_S G m_X10_same (d + 1) cb sb 63 [o0, o1, o2, o3, o4, o5] [] h Q := by
  refine hs_iconst (v := 0) dX10_same_63 (by decide) ?_
  refine hs_istK_n dX10_same_64 (by decide) (hk_nk1 rfl ho2) rfl ?_
  refine hs_iconst (v := 0) dX10_same_65 (by decide) ?_
  refine hs_istK dX10_same_66 (by decide) (hk_nk1 rfl ho4) rfl ?_
  exact k
theorem b_X10_same_64 {G : hk_G} {d cb sb : Nat} {h : hk_H} {Q : hk_O → hk_H → Prop} {s0 : Int32} {o0 : Option Value} {o1 : Option Value} {o2 : Option Value} {o3 : Option Value} {o4 : Option Value} {o5 : Option Value} (k : hk_S G m_X10_same (d + 1) cb sb 68 [o0, o1, o2, some (.int s0), o4, some (.int 0)] [] h Q) (ho2 : hk_c1 o2 := by first | exact hk_c1i | exact hk_c1r | exact hk_c10 | exact hk_c1n) (ho4 : hk_c1 o4 := by first | exact hk_c1i | exact hk_c1r | exact hk_c10 | exact hk_c1n) : hk_S G m_X10_same (d + 1) cb sb 64 [o0, o1, o2, o3, o4, o5] [.int s0] h Q := by
  refine hs_istK_n dX10_same_64 (by decide) (hk_nk1 rfl ho2) rfl ?_
  refine hs_iconst (v := 0) dX10_same_65 (by decide) ?_
  refine hs_istK dX10_same_66 (by decide) (hk_nk1 rfl ho4) rfl ?_
  exact k
theorem b_X10_same_68 {G : hk_G} {d cb sb : Nat} {h : hk_H} {Q : hk_O → hk_H → Prop} {x5 : Int32} {r0 : Nat} {fs1 : List Value} {v3 : Int32} {o1 : Option Value} {o2 : Option Value} {o3 : Option Value} {o4 : Option Value} (hg2 : h.2 r0 = some (.inr (10, fs1))) (hv4 : fs1[0]? = some (.int v3)) (kt : v3 ≤ x5 → hk_S G m_X10_same (d + 1) cb sb 114 [some (.ref r0), o1, o2, o3, o4, some (.int x5)] [] h Q) (kf : ¬ v3 ≤ x5 → hk_S G m_X10_same (d + 1) cb sb 77 [some (.ref r0), o1, o2, o3, o4, some (.int x5)] [] h Q) : hk_S G m_X10_same (d + 1) cb sb 68 [some (.ref r0), o1, o2, o3, o4, some (.int x5)] [] h Q := by
  refine hs_iload dX10_same_68 rfl ?_
  refine hs_aload_n dX10_same_70 rfl ?_
  refine hs_get dX10_same_71 fl_X10_97_10 hg2 hv4 ?_
  exact hs_icmp_ge dX10_same_74 (by decide) kt kf
theorem b_X10_same_77 {G : hk_G} {d cb sb : Nat} {h : hk_H} {Q : hk_O → hk_H → Prop} {x3 : Int32} {o0 : Option Value} {o1 : Option Value} {o2 : Option Value} {o4 : Option Value} {o5 : Option Value} (kt : x3 = 0 → hk_S G m_X10_same (d + 1) cb sb 114 [o0, o1, o2, some (.int x3), o4, o5] [] h Q) (kf : ¬ x3 = 0 → hk_S G m_X10_same (d + 1) cb sb 81 [o0, o1, o2, some (.int x3), o4, o5] [] h Q) : hk_S G m_X10_same (d + 1) cb sb 77 [o0, o1, o2, some (.int x3), o4, o5] [] h Q := by
  refine hs_iload_n dX10_same_77 rfl ?_
  exact hs_if_eq dX10_same_78 (by decide) kt kf
theorem b_X10_same_81 {G : hk_G} {d cb sb : Nat} {h : hk_H} {Q : hk_O → hk_H → Prop} {r0 : Nat} {x1 : Int32} {x4 : Int32} {x5 : Int32} {fs_ : List Value} {o2 : Option Value} {o3 : Option Value} (hrec : h.2 r0 = some (.inr (10, fs_))) (hc : hk_Ci G m_X10_paysOf d 0 0 [.ref r0, .int x1, .int x4, .int x5] h (fun z h' => hk_S G m_X10_same (d + 1) cb sb 90 [some (.ref r0), some (.int x1), o2, o3, some (.int x4), some (.int x5)] [.int z] h' Q)) : hk_S G m_X10_same (d + 1) cb sb 81 [some (.ref r0), some (.int x1), o2, o3, some (.int x4), some (.int x5)] [] h Q := by
  refine hs_aload_n dX10_same_81 rfl ?_
  refine hs_iload_n dX10_same_82 rfl ?_
  refine hs_iload dX10_same_83 rfl ?_
  refine hs_iload dX10_same_85 rfl ?_
  exact hk_z0 (hs_vir (M' := m_X10_paysOf) (vs := [.int x1, .int x4, .int x5]) (c1 := 0) (s1 := 0) dX10_same_87 wd_1289 vi_X10_paysOf hrec rfl (Nat.le_of_ble_eq_true rfl) hc hq_i (hc_i (fun z h9 k9 => k9)))
theorem b_X10_same_90 {G : hk_G} {d cb sb : Nat} {h : hk_H} {Q : hk_O → hk_H → Prop} {s0 : Int32} {r0 : Nat} {x2 : Int32} {x4 : Int32} {x5 : Int32} {fs_ : List Value} {o1 : Option Value} {o3 : Option Value} (hrec : h.2 r0 = some (.inr (10, fs_))) (hc : hk_Ci G m_X10_paysOf d 0 0 [.ref r0, .int x2, .int x4, .int x5] h (fun z h' => hk_S G m_X10_same (d + 1) cb sb 99 [some (.ref r0), o1, some (.int x2), o3, some (.int x4), some (.int x5)] [.int z, .int s0] h' Q)) : hk_S G m_X10_same (d + 1) cb sb 90 [some (.ref r0), o1, some (.int x2), o3, some (.int x4), some (.int x5)] [.int s0] h Q := by
  refine hs_aload_n dX10_same_90 rfl ?_
  refine hs_iload_n dX10_same_91 rfl ?_
  refine hs_iload dX10_same_92 rfl ?_
  refine hs_iload dX10_same_94 rfl ?_
  exact hk_z0 (hs_vir (M' := m_X10_paysOf) (vs := [.int x2, .int x4, .int x5]) (c1 := 0) (s1 := 0) dX10_same_96 wd_1289 vi_X10_paysOf hrec rfl (Nat.le_of_ble_eq_true rfl) hc hq_i (hc_i (fun z h9 k9 => k9)))
theorem b_X10_same_99 {G : hk_G} {d cb sb : Nat} {h : hk_H} {Q : hk_O → hk_H → Prop} {s0 : Int32} {s1 : Int32} {o0 : Option Value} {o1 : Option Value} {o2 : Option Value} {o3 : Option Value} {o4 : Option Value} {o5 : Option Value} (kt : ¬ s0 = s1 → hk_S G m_X10_same (d + 1) cb sb 106 [o0, o1, o2, o3, o4, o5] [] h Q) (kf : s0 = s1 → hk_S G m_X10_same (d + 1) cb sb 102 [o0, o1, o2, o3, o4, o5] [] h Q) : hk_S G m_X10_same (d + 1) cb sb 99 [o0, o1, o2, o3, o4, o5] [.int s1, .int s0] h Q := by
  exact hs_icmp_ne dX10_same_99 (by decide) kt kf
theorem b_X10_same_102 {G : hk_G} {d cb sb : Nat} {h : hk_H} {Q : hk_O → hk_H → Prop} {x5 : Int32} {o0 : Option Value} {o1 : Option Value} {o2 : Option Value} {o3 : Option Value} {o4 : Option Value} (k : hk_S G m_X10_same (d + 1) cb sb 68 [o0, o1, o2, some (.int 1), o4, some (.int (x5 + 1))] [] h Q) (ho2 : hk_c1 o2 := by first | exact hk_c1i | exact hk_c1r | exact hk_c10 | exact hk_c1n) (ho4 : hk_c1 o4 := by first | exact hk_c1i | exact hk_c1r | exact hk_c10 | exact hk_c1n) : hk_S G m_X10_same (d + 1) cb sb 102 [o0, o1, o2, o3, o4, some (.int x5)] [] h Q := by
  refine hs_iconst (v := 1) dX10_same_102 (by decide) ?_
  refine hs_goto dX10_same_103 (tgt := 107) (by decide) ?_
  refine hs_istK_n dX10_same_107 (by decide) (hk_nk1 rfl ho2) rfl ?_
  refine hs_iincK (v := 1) dX10_same_108 rfl (by decide) (by decide) (hk_nk1 rfl ho4) rfl ?_
  refine hs_goto dX10_same_111 (tgt := 68) (by decide) ?_
  exact k
theorem b_X10_same_106 {G : hk_G} {d cb sb : Nat} {h : hk_H} {Q : hk_O → hk_H → Prop} {x5 : Int32} {o0 : Option Value} {o1 : Option Value} {o2 : Option Value} {o3 : Option Value} {o4 : Option Value} (k : hk_S G m_X10_same (d + 1) cb sb 68 [o0, o1, o2, some (.int 0), o4, some (.int (x5 + 1))] [] h Q) (ho2 : hk_c1 o2 := by first | exact hk_c1i | exact hk_c1r | exact hk_c10 | exact hk_c1n) (ho4 : hk_c1 o4 := by first | exact hk_c1i | exact hk_c1r | exact hk_c10 | exact hk_c1n) : hk_S G m_X10_same (d + 1) cb sb 106 [o0, o1, o2, o3, o4, some (.int x5)] [] h Q := by
  refine hs_iconst (v := 0) dX10_same_106 (by decide) ?_
  refine hs_istK_n dX10_same_107 (by decide) (hk_nk1 rfl ho2) rfl ?_
  refine hs_iincK (v := 1) dX10_same_108 rfl (by decide) (by decide) (hk_nk1 rfl ho4) rfl ?_
  refine hs_goto dX10_same_111 (tgt := 68) (by decide) ?_
  exact k
theorem b_X10_same_107 {G : hk_G} {d cb sb : Nat} {h : hk_H} {Q : hk_O → hk_H → Prop} {s0 : Int32} {x5 : Int32} {o0 : Option Value} {o1 : Option Value} {o2 : Option Value} {o3 : Option Value} {o4 : Option Value} (k : hk_S G m_X10_same (d + 1) cb sb 68 [o0, o1, o2, some (.int s0), o4, some (.int (x5 + 1))] [] h Q) (ho2 : hk_c1 o2 := by first | exact hk_c1i | exact hk_c1r | exact hk_c10 | exact hk_c1n) (ho4 : hk_c1 o4 := by first | exact hk_c1i | exact hk_c1r | exact hk_c10 | exact hk_c1n) : hk_S G m_X10_same (d + 1) cb sb 107 [o0, o1, o2, o3, o4, some (.int x5)] [.int s0] h Q := by
  refine hs_istK_n dX10_same_107 (by decide) (hk_nk1 rfl ho2) rfl ?_
  refine hs_iincK (v := 1) dX10_same_108 rfl (by decide) (by decide) (hk_nk1 rfl ho4) rfl ?_
  refine hs_goto dX10_same_111 (tgt := 68) (by decide) ?_
  exact k
theorem b_X10_same_114 {G : hk_G} {d cb sb : Nat} {h : hk_H} {Q : hk_O → hk_H → Prop} {x4 : Int32} {o0 : Option Value} {o1 : Option Value} {o2 : Option Value} {o3 : Option Value} {o5 : Option Value} (k : hk_S G m_X10_same (d + 1) cb sb 29 [o0, o1, o2, o3, some (.int (x4 + 1)), o5] [] h Q) (ho3 : hk_c1 o3 := by first | exact hk_c1i | exact hk_c1r | exact hk_c10 | exact hk_c1n) : hk_S G m_X10_same (d + 1) cb sb 114 [o0, o1, o2, o3, some (.int x4), o5] [] h Q := by
  refine hs_iincK (v := 1) dX10_same_114 rfl (by decide) (by decide) (hk_nk1 rfl ho3) rfl ?_
  refine hs_goto dX10_same_117 (tgt := 29) (by decide) ?_
  exact k
theorem b_X10_same_120 {G : hk_G} {d cb sb : Nat} {h : hk_H} {Q : hk_O → hk_H → Prop} {x3 : Int32} {o0 : Option Value} {o1 : Option Value} {o2 : Option Value} {o4 : Option Value} {o5 : Option Value} (kt : x3 = 0 → hk_S G m_X10_same (d + 1) cb sb 128 [o0, o1, o2, some (.int x3), o4, o5] [] h Q) (kf : ¬ x3 = 0 → hk_S G m_X10_same (d + 1) cb sb 124 [o0, o1, o2, some (.int x3), o4, o5] [] h Q) : hk_S G m_X10_same (d + 1) cb sb 120 [o0, o1, o2, some (.int x3), o4, o5] [] h Q := by
  refine hs_iload_n dX10_same_120 rfl ?_
  exact hs_if_eq dX10_same_121 (by decide) kt kf
theorem b_X10_same_124 {G : hk_G} {d cb sb : Nat} {h : hk_H} {Q : hk_O → hk_H → Prop} {o0 : Option Value} {o1 : Option Value} {o2 : Option Value} {o3 : Option Value} {o4 : Option Value} {o5 : Option Value} (hq : Q (.inl (some (.int 1))) h) : hk_S G m_X10_same (d + 1) cb sb 124 [o0, o1, o2, o3, o4, o5] [] h Q := by
  refine hs_iconst (v := 1) dX10_same_124 (by decide) ?_
  refine hs_goto dX10_same_125 (tgt := 129) (by decide) ?_
  exact hs_iret dX10_same_129 rfl hq
theorem b_X10_same_128 {G : hk_G} {d cb sb : Nat} {h : hk_H} {Q : hk_O → hk_H → Prop} {o0 : Option Value} {o1 : Option Value} {o2 : Option Value} {o3 : Option Value} {o4 : Option Value} {o5 : Option Value} (hq : Q (.inl (some (.int 0))) h) : hk_S G m_X10_same (d + 1) cb sb 128 [o0, o1, o2, o3, o4, o5] [] h Q := by
  refine hs_iconst (v := 0) dX10_same_128 (by decide) ?_
  exact hs_iret dX10_same_129 rfl hq
theorem b_X10_same_129 {G : hk_G} {d cb sb : Nat} {h : hk_H} {Q : hk_O → hk_H → Prop} {s0 : Int32} {o0 : Option Value} {o1 : Option Value} {o2 : Option Value} {o3 : Option Value} {o4 : Option Value} {o5 : Option Value} (hq : Q (.inl (some (.int s0))) h) : hk_S G m_X10_same (d + 1) cb sb 129 [o0, o1, o2, o3, o4, o5] [.int s0] h Q := by
  exact hs_iret dX10_same_129 rfl hq
-- HonestHouseModel.fair(I)I
theorem b_X10_fair_0 {G : hk_G} {d cb sb : Nat} {h : hk_H} {Q : hk_O → hk_H → Prop} {x1 : Int32} {r0 : Nat} {fs1 : List Value} {v3 : Int32} {o2 : Option Value} {o3 : Option Value} {o4 : Option Value} {o5 : Option Value} (hg2 : h.2 r0 = some (.inr (10, fs1))) (hv4 : fs1[3]? = some (.int v3)) (hc : hk_Ci G m_X10_isIn d 0 0 [.int x1, .int v3] h (fun z h' => hk_S G m_X10_fair (d + 1) cb sb 8 [some (.ref r0), some (.int x1), o2, o3, o4, o5] [.int z] h' Q)) : hk_S G m_X10_fair (d + 1) cb sb 0 [some (.ref r0), some (.int x1), o2, o3, o4, o5] [] h Q := by
  refine hs_iload_n dX10_fair_0 rfl ?_
  refine hs_aload_n dX10_fair_1 rfl ?_
  refine hs_get dX10_fair_2 fl_X10_116_10 hg2 hv4 ?_
  exact hk_z0 (hs_sta (M' := m_X10_isIn) (vs := [.int x1, .int v3]) (c1 := 0) (s1 := 0) dX10_fair_5 wd_1226 st_X10_isIn rfl (Nat.le_of_ble_eq_true rfl) hc hq_i (hc_i (fun z h9 k9 => k9)))
theorem b_X10_fair_8 {G : hk_G} {d cb sb : Nat} {h : hk_H} {Q : hk_O → hk_H → Prop} {s0 : Int32} {o0 : Option Value} {o1 : Option Value} {o2 : Option Value} {o3 : Option Value} {o4 : Option Value} {o5 : Option Value} (kt : ¬ s0 = 0 → hk_S G m_X10_fair (d + 1) cb sb 13 [o0, o1, o2, o3, o4, o5] [] h Q) (kf : s0 = 0 → hk_S G m_X10_fair (d + 1) cb sb 11 [o0, o1, o2, o3, o4, o5] [] h Q) : hk_S G m_X10_fair (d + 1) cb sb 8 [o0, o1, o2, o3, o4, o5] [.int s0] h Q := by
  exact hs_if_ne dX10_fair_8 (by decide) kt kf
theorem b_X10_fair_11 {G : hk_G} {d cb sb : Nat} {h : hk_H} {Q : hk_O → hk_H → Prop} {o0 : Option Value} {o1 : Option Value} {o2 : Option Value} {o3 : Option Value} {o4 : Option Value} {o5 : Option Value} (hq : Q (.inl (some (.int ((-1))))) h) : hk_S G m_X10_fair (d + 1) cb sb 11 [o0, o1, o2, o3, o4, o5] [] h Q := by
  refine hs_iconst (v := (-1)) dX10_fair_11 (by decide) ?_
  exact hs_iret dX10_fair_12 rfl hq
theorem b_X10_fair_13 {G : hk_G} {d cb sb : Nat} {h : hk_H} {Q : hk_O → hk_H → Prop} {o0 : Option Value} {o1 : Option Value} {o2 : Option Value} {o3 : Option Value} {o4 : Option Value} {o5 : Option Value} (k : hk_S G m_X10_fair (d + 1) cb sb 17 [o0, o1, some (.int 1), some (.int 0), o4, o5] [] h Q) (ho1 : hk_c1 o1 := by first | exact hk_c1i | exact hk_c1r | exact hk_c10 | exact hk_c1n) : hk_S G m_X10_fair (d + 1) cb sb 13 [o0, o1, o2, o3, o4, o5] [] h Q := by
  refine hs_iconst (v := 1) dX10_fair_13 (by decide) ?_
  refine hs_istK_n dX10_fair_14 (by decide) (hk_nk1 rfl ho1) rfl ?_
  refine hs_iconst (v := 0) dX10_fair_15 (by decide) ?_
  refine hs_istK_n dX10_fair_16 (by decide) (hk_nk1 rfl hk_c1i) rfl ?_
  exact k
theorem b_X10_fair_17 {G : hk_G} {d cb sb : Nat} {h : hk_H} {Q : hk_O → hk_H → Prop} {x3 : Int32} {r0 : Nat} {fs1 : List Value} {v3 : Int32} {o1 : Option Value} {o2 : Option Value} {o4 : Option Value} {o5 : Option Value} (hg2 : h.2 r0 = some (.inr (10, fs1))) (hv4 : fs1[4]? = some (.int v3)) (kt : v3 ≤ x3 → hk_S G m_X10_fair (d + 1) cb sb 114 [some (.ref r0), o1, o2, some (.int x3), o4, o5] [] h Q) (kf : ¬ v3 ≤ x3 → hk_S G m_X10_fair (d + 1) cb sb 25 [some (.ref r0), o1, o2, some (.int x3), o4, o5] [] h Q) : hk_S G m_X10_fair (d + 1) cb sb 17 [some (.ref r0), o1, o2, some (.int x3), o4, o5] [] h Q := by
  refine hs_iload_n dX10_fair_17 rfl ?_
  refine hs_aload_n dX10_fair_18 rfl ?_
  refine hs_get dX10_fair_19 fl_X10_113_10 hg2 hv4 ?_
  exact hs_icmp_ge dX10_fair_22 (by decide) kt kf
theorem b_X10_fair_25 {G : hk_G} {d cb sb : Nat} {h : hk_H} {Q : hk_O → hk_H → Prop} {x2 : Int32} {o0 : Option Value} {o1 : Option Value} {o3 : Option Value} {o4 : Option Value} {o5 : Option Value} (kt : x2 = 0 → hk_S G m_X10_fair (d + 1) cb sb 114 [o0, o1, some (.int x2), o3, o4, o5] [] h Q) (kf : ¬ x2 = 0 → hk_S G m_X10_fair (d + 1) cb sb 29 [o0, o1, some (.int x2), o3, o4, o5] [] h Q) : hk_S G m_X10_fair (d + 1) cb sb 25 [o0, o1, some (.int x2), o3, o4, o5] [] h Q := by
  refine hs_iload_n dX10_fair_25 rfl ?_
  exact hs_if_eq dX10_fair_26 (by decide) kt kf
theorem b_X10_fair_29 {G : hk_G} {d cb sb : Nat} {h : hk_H} {Q : hk_O → hk_H → Prop} {o0 : Option Value} {o1 : Option Value} {o2 : Option Value} {o3 : Option Value} {o4 : Option Value} {o5 : Option Value} (k : hk_S G m_X10_fair (d + 1) cb sb 32 [o0, o1, o2, o3, some (.int 0), o5] [] h Q) (ho3 : hk_c1 o3 := by first | exact hk_c1i | exact hk_c1r | exact hk_c10 | exact hk_c1n) : hk_S G m_X10_fair (d + 1) cb sb 29 [o0, o1, o2, o3, o4, o5] [] h Q := by
  refine hs_iconst (v := 0) dX10_fair_29 (by decide) ?_
  refine hs_istK dX10_fair_30 (by decide) (hk_nk1 rfl ho3) rfl ?_
  exact k
theorem b_X10_fair_32 {G : hk_G} {d cb sb : Nat} {h : hk_H} {Q : hk_O → hk_H → Prop} {x4 : Int32} {r0 : Nat} {fs1 : List Value} {v3 : Int32} {o1 : Option Value} {o2 : Option Value} {o3 : Option Value} {o5 : Option Value} (hg2 : h.2 r0 = some (.inr (10, fs1))) (hv4 : fs1[0]? = some (.int v3)) (kt : v3 ≤ (x4 + 1) → hk_S G m_X10_fair (d + 1) cb sb 108 [some (.ref r0), o1, o2, o3, some (.int x4), o5] [] h Q) (kf : ¬ v3 ≤ (x4 + 1) → hk_S G m_X10_fair (d + 1) cb sb 43 [some (.ref r0), o1, o2, o3, some (.int x4), o5] [] h Q) : hk_S G m_X10_fair (d + 1) cb sb 32 [some (.ref r0), o1, o2, o3, some (.int x4), o5] [] h Q := by
  refine hs_iload dX10_fair_32 rfl ?_
  refine hs_iconst (v := 1) dX10_fair_34 (by decide) ?_
  refine hs_iadd dX10_fair_35 ?_
  refine hs_aload_n dX10_fair_36 rfl ?_
  refine hs_get dX10_fair_37 fl_X10_97_10 hg2 hv4 ?_
  exact hs_icmp_ge dX10_fair_40 (by decide) kt kf
theorem b_X10_fair_43 {G : hk_G} {d cb sb : Nat} {h : hk_H} {Q : hk_O → hk_H → Prop} {x2 : Int32} {o0 : Option Value} {o1 : Option Value} {o3 : Option Value} {o4 : Option Value} {o5 : Option Value} (kt : x2 = 0 → hk_S G m_X10_fair (d + 1) cb sb 108 [o0, o1, some (.int x2), o3, o4, o5] [] h Q) (kf : ¬ x2 = 0 → hk_S G m_X10_fair (d + 1) cb sb 47 [o0, o1, some (.int x2), o3, o4, o5] [] h Q) : hk_S G m_X10_fair (d + 1) cb sb 43 [o0, o1, some (.int x2), o3, o4, o5] [] h Q := by
  refine hs_iload_n dX10_fair_43 rfl ?_
  exact hs_if_eq dX10_fair_44 (by decide) kt kf
theorem b_X10_fair_47 {G : hk_G} {d cb sb : Nat} {h : hk_H} {Q : hk_O → hk_H → Prop} {r0 : Nat} {x3 : Int32} {x4 : Int32} {fs_ : List Value} {o1 : Option Value} {o2 : Option Value} {o5 : Option Value} (hrec : h.2 r0 = some (.inr (10, fs_))) (hc : hk_Ci G m_X10_wishOf d 0 0 [.ref r0, .int x3, .int (x4 + 1)] h (fun z h' => hk_S G m_X10_fair (d + 1) cb sb 61 [some (.ref r0), o1, o2, some (.int x3), some (.int x4), o5] [.int z, .int x4, .int x3, .ref r0, .ref r0] h' Q)) : hk_S G m_X10_fair (d + 1) cb sb 47 [some (.ref r0), o1, o2, some (.int x3), some (.int x4), o5] [] h Q := by
  refine hs_aload_n dX10_fair_47 rfl ?_
  refine hs_aload_n dX10_fair_48 rfl ?_
  refine hs_iload_n dX10_fair_49 rfl ?_
  refine hs_iload dX10_fair_50 rfl ?_
  refine hs_aload_n dX10_fair_52 rfl ?_
  refine hs_iload_n dX10_fair_53 rfl ?_
  refine hs_iload dX10_fair_54 rfl ?_
  refine hs_iconst (v := 1) dX10_fair_56 (by decide) ?_
  refine hs_iadd dX10_fair_57 ?_
  exact hk_z0 (hs_vir (M' := m_X10_wishOf) (vs := [.int x3, .int (x4 + 1)]) (c1 := 0) (s1 := 0) dX10_fair_58 wd_1269 vi_X10_wishOf hrec rfl (Nat.le_of_ble_eq_true rfl) hc hq_i (hc_i (fun z h9 k9 => k9)))
theorem b_X10_fair_61 {G : hk_G} {d cb sb : Nat} {h : hk_H} {Q : hk_O → hk_H → Prop} {s0 : Nat} {s1 : Nat} {s2 : Int32} {s3 : Int32} {s4 : Int32} {fs_ : List Value} {o0 : Option Value} {o1 : Option Value} {o2 : Option Value} {o3 : Option Value} {o4 : Option Value} {o5 : Option Value} (hrec : h.2 s1 = some (.inr (10, fs_))) (hc : hk_Ci G m_X10_saying d 0 0 [.ref s1, .int s2, .int s3, .int s4] h (fun z h' => hk_S G m_X10_fair (d + 1) cb sb 64 [o0, o1, o2, o3, o4, o5] [.int z, .ref s0] h' Q)) : hk_S G m_X10_fair (d + 1) cb sb 61 [o0, o1, o2, o3, o4, o5] [.int s4, .int s3, .int s2, .ref s1, .ref s0] h Q := by
  exact hk_z0 (hs_vir (M' := m_X10_saying) (vs := [.int s2, .int s3, .int s4]) (c1 := 0) (s1 := 0) dX10_fair_61 wd_1297 vi_X10_saying hrec rfl (Nat.le_of_ble_eq_true rfl) hc hq_i (hc_i (fun z h9 k9 => k9)))
theorem b_X10_fair_64 {G : hk_G} {d cb sb : Nat} {h : hk_H} {Q : hk_O → hk_H → Prop} {s0 : Nat} {s1 : Int32} {x4 : Int32} {r0 : Nat} {x3 : Int32} {fs_ : List Value} {o1 : Option Value} {o2 : Option Value} {o5 : Option Value} (hrec : h.2 r0 = some (.inr (10, fs_))) (hc : hk_Ci G m_X10_wishOf d 0 0 [.ref r0, .int x3, .int x4] h (fun z h' => hk_S G m_X10_fair (d + 1) cb sb 75 [some (.ref r0), o1, o2, some (.int x3), some (.int x4), o5] [.int z, .int (x4 + 1), .int s1, .ref s0] h' Q)) : hk_S G m_X10_fair (d + 1) cb sb 64 [some (.ref r0), o1, o2, some (.int x3), some (.int x4), o5] [.int s1, .ref s0] h Q := by
  refine hs_iload dX10_fair_64 rfl ?_
  refine hs_iconst (v := 1) dX10_fair_66 (by decide) ?_
  refine hs_iadd dX10_fair_67 ?_
  refine hs_aload_n dX10_fair_68 rfl ?_
  refine hs_iload_n dX10_fair_69 rfl ?_
  refine hs_iload dX10_fair_70 rfl ?_
  exact hk_z0 (hs_vir (M' := m_X10_wishOf) (vs := [.int x3, .int x4]) (c1 := 0) (s1 := 0) dX10_fair_72 wd_1269 vi_X10_wishOf hrec rfl (Nat.le_of_ble_eq_true rfl) hc hq_i (hc_i (fun z h9 k9 => k9)))
theorem b_X10_fair_75 {G : hk_G} {d cb sb : Nat} {h : hk_H} {Q : hk_O → hk_H → Prop} {s0 : Nat} {s1 : Int32} {s2 : Int32} {s3 : Int32} {fs_ : List Value} {o0 : Option Value} {o1 : Option Value} {o2 : Option Value} {o3 : Option Value} {o4 : Option Value} {o5 : Option Value} (hrec : h.2 s0 = some (.inr (10, fs_))) (hc : hk_Ci G m_X10_saying d 0 0 [.ref s0, .int s1, .int s2, .int s3] h (fun z h' => hk_S G m_X10_fair (d + 1) cb sb 78 [o0, o1, o2, o3, o4, o5] [.int z] h' Q)) : hk_S G m_X10_fair (d + 1) cb sb 75 [o0, o1, o2, o3, o4, o5] [.int s3, .int s2, .int s1, .ref s0] h Q := by
  exact hk_z0 (hs_vir (M' := m_X10_saying) (vs := [.int s1, .int s2, .int s3]) (c1 := 0) (s1 := 0) dX10_fair_75 wd_1297 vi_X10_saying hrec rfl (Nat.le_of_ble_eq_true rfl) hc hq_i (hc_i (fun z h9 k9 => k9)))
theorem b_X10_fair_78 {G : hk_G} {d cb sb : Nat} {h : hk_H} {Q : hk_O → hk_H → Prop} {s0 : Int32} {r0 : Nat} {x1 : Int32} {fs_ : List Value} {o2 : Option Value} {o3 : Option Value} {o4 : Option Value} {o5 : Option Value} (hrec : h.2 r0 = some (.inr (10, fs_))) (hc : hk_Ci G m_X10_ends d 0 0 [.ref r0, .int x1, .int s0] h (fun z h' => hk_S G m_X10_fair (d + 1) cb sb 87 [some (.ref r0), some (.int x1), o2, o3, o4, some (.int s0)] [.int z] h' Q)) (ho4 : hk_c1 o4 := by first | exact hk_c1i | exact hk_c1r | exact hk_c10 | exact hk_c1n) : hk_S G m_X10_fair (d + 1) cb sb 78 [some (.ref r0), some (.int x1), o2, o3, o4, o5] [.int s0] h Q := by
  refine hs_istK dX10_fair_78 (by decide) (hk_nk1 rfl ho4) rfl ?_
  refine hs_aload_n dX10_fair_80 rfl ?_
  refine hs_iload_n dX10_fair_81 rfl ?_
  refine hs_iload dX10_fair_82 rfl ?_
  exact hk_z0 (hs_vir (M' := m_X10_ends) (vs := [.int x1, .int s0]) (c1 := 0) (s1 := 0) dX10_fair_84 wd_1257 vi_X10_ends hrec rfl (Nat.le_of_ble_eq_true rfl) hc hq_i (hc_i (fun z h9 k9 => k9)))
theorem b_X10_fair_87 {G : hk_G} {d cb sb : Nat} {h : hk_H} {Q : hk_O → hk_H → Prop} {s0 : Int32} {r0 : Nat} {x1 : Int32} {x3 : Int32} {fs_ : List Value} {o2 : Option Value} {o4 : Option Value} {o5 : Option Value} (hrec : h.2 r0 = some (.inr (10, fs_))) (hc : hk_Ci G m_X10_ends d 0 0 [.ref r0, .int x1, .int x3] h (fun z h' => hk_S G m_X10_fair (d + 1) cb sb 93 [some (.ref r0), some (.int x1), o2, some (.int x3), o4, o5] [.int z, .int s0] h' Q)) : hk_S G m_X10_fair (d + 1) cb sb 87 [some (.ref r0), some (.int x1), o2, some (.int x3), o4, o5] [.int s0] h Q := by
  refine hs_aload_n dX10_fair_87 rfl ?_
  refine hs_iload_n dX10_fair_88 rfl ?_
  refine hs_iload_n dX10_fair_89 rfl ?_
  exact hk_z0 (hs_vir (M' := m_X10_ends) (vs := [.int x1, .int x3]) (c1 := 0) (s1 := 0) dX10_fair_90 wd_1257 vi_X10_ends hrec rfl (Nat.le_of_ble_eq_true rfl) hc hq_i (hc_i (fun z h9 k9 => k9)))
theorem b_X10_fair_93 {G : hk_G} {d cb sb : Nat} {h : hk_H} {Q : hk_O → hk_H → Prop} {s0 : Int32} {s1 : Int32} {o0 : Option Value} {o1 : Option Value} {o2 : Option Value} {o3 : Option Value} {o4 : Option Value} {o5 : Option Value} (kt : ¬ s0 = s1 → hk_S G m_X10_fair (d + 1) cb sb 100 [o0, o1, o2, o3, o4, o5] [] h Q) (kf : s0 = s1 → hk_S G m_X10_fair (d + 1) cb sb 96 [o0, o1, o2, o3, o4, o5] [] h Q) : hk_S G m_X10_fair (d + 1) cb sb 93 [o0, o1, o2, o3, o4, o5] [.int s1, .int s0] h Q := by
  exact hs_icmp_ne dX10_fair_93 (by decide) kt kf
theorem b_X10_fair_96 {G : hk_G} {d cb sb : Nat} {h : hk_H} {Q : hk_O → hk_H → Prop} {x4 : Int32} {o0 : Option Value} {o1 : Option Value} {o2 : Option Value} {o3 : Option Value} {o5 : Option Value} (k : hk_S G m_X10_fair (d + 1) cb sb 32 [o0, o1, some (.int 1), o3, some (.int (x4 + 1)), o5] [] h Q) (ho1 : hk_c1 o1 := by first | exact hk_c1i | exact hk_c1r | exact hk_c10 | exact hk_c1n) (ho3 : hk_c1 o3 := by first | exact hk_c1i | exact hk_c1r | exact hk_c10 | exact hk_c1n) : hk_S G m_X10_fair (d + 1) cb sb 96 [o0, o1, o2, o3, some (.int x4), o5] [] h Q := by
  refine hs_iconst (v := 1) dX10_fair_96 (by decide) ?_
  refine hs_goto dX10_fair_97 (tgt := 101) (by decide) ?_
  refine hs_istK_n dX10_fair_101 (by decide) (hk_nk1 rfl ho1) rfl ?_
  refine hs_iincK (v := 1) dX10_fair_102 rfl (by decide) (by decide) (hk_nk1 rfl ho3) rfl ?_
  refine hs_goto dX10_fair_105 (tgt := 32) (by decide) ?_
  exact k
theorem b_X10_fair_100 {G : hk_G} {d cb sb : Nat} {h : hk_H} {Q : hk_O → hk_H → Prop} {x4 : Int32} {o0 : Option Value} {o1 : Option Value} {o2 : Option Value} {o3 : Option Value} {o5 : Option Value} (k : hk_S G m_X10_fair (d + 1) cb sb 32 [o0, o1, some (.int 0), o3, some (.int (x4 + 1)), o5] [] h Q) (ho1 : hk_c1 o1 := by first | exact hk_c1i | exact hk_c1r | exact hk_c10 | exact hk_c1n) (ho3 : hk_c1 o3 := by first | exact hk_c1i | exact hk_c1r | exact hk_c10 | exact hk_c1n) : hk_S G m_X10_fair (d + 1) cb sb 100 [o0, o1, o2, o3, some (.int x4), o5] [] h Q := by
  refine hs_iconst (v := 0) dX10_fair_100 (by decide) ?_
  refine hs_istK_n dX10_fair_101 (by decide) (hk_nk1 rfl ho1) rfl ?_
  refine hs_iincK (v := 1) dX10_fair_102 rfl (by decide) (by decide) (hk_nk1 rfl ho3) rfl ?_
  refine hs_goto dX10_fair_105 (tgt := 32) (by decide) ?_
  exact k
theorem b_X10_fair_101 {G : hk_G} {d cb sb : Nat} {h : hk_H} {Q : hk_O → hk_H → Prop} {s0 : Int32} {x4 : Int32} {o0 : Option Value} {o1 : Option Value} {o2 : Option Value} {o3 : Option Value} {o5 : Option Value} (k : hk_S G m_X10_fair (d + 1) cb sb 32 [o0, o1, some (.int s0), o3, some (.int (x4 + 1)), o5] [] h Q) (ho1 : hk_c1 o1 := by first | exact hk_c1i | exact hk_c1r | exact hk_c10 | exact hk_c1n) (ho3 : hk_c1 o3 := by first | exact hk_c1i | exact hk_c1r | exact hk_c10 | exact hk_c1n) : hk_S G m_X10_fair (d + 1) cb sb 101 [o0, o1, o2, o3, some (.int x4), o5] [.int s0] h Q := by
  refine hs_istK_n dX10_fair_101 (by decide) (hk_nk1 rfl ho1) rfl ?_
  refine hs_iincK (v := 1) dX10_fair_102 rfl (by decide) (by decide) (hk_nk1 rfl ho3) rfl ?_
  refine hs_goto dX10_fair_105 (tgt := 32) (by decide) ?_
  exact k
theorem b_X10_fair_108 {G : hk_G} {d cb sb : Nat} {h : hk_H} {Q : hk_O → hk_H → Prop} {x3 : Int32} {o0 : Option Value} {o1 : Option Value} {o2 : Option Value} {o4 : Option Value} {o5 : Option Value} (k : hk_S G m_X10_fair (d + 1) cb sb 17 [o0, o1, o2, some (.int (x3 + 1)), o4, o5] [] h Q) (ho2 : hk_c1 o2 := by first | exact hk_c1i | exact hk_c1r | exact hk_c10 | exact hk_c1n) : hk_S G m_X10_fair (d + 1) cb sb 108 [o0, o1, o2, some (.int x3), o4, o5] [] h Q := by
  refine hs_iincK (v := 1) dX10_fair_108 rfl (by decide) (by decide) (hk_nk1 rfl ho2) rfl ?_
  refine hs_goto dX10_fair_111 (tgt := 17) (by decide) ?_
  exact k
theorem b_X10_fair_114 {G : hk_G} {d cb sb : Nat} {h : hk_H} {Q : hk_O → hk_H → Prop} {x2 : Int32} {o0 : Option Value} {o1 : Option Value} {o3 : Option Value} {o4 : Option Value} {o5 : Option Value} (kt : x2 = 0 → hk_S G m_X10_fair (d + 1) cb sb 122 [o0, o1, some (.int x2), o3, o4, o5] [] h Q) (kf : ¬ x2 = 0 → hk_S G m_X10_fair (d + 1) cb sb 118 [o0, o1, some (.int x2), o3, o4, o5] [] h Q) : hk_S G m_X10_fair (d + 1) cb sb 114 [o0, o1, some (.int x2), o3, o4, o5] [] h Q := by
  refine hs_iload_n dX10_fair_114 rfl ?_
  exact hs_if_eq dX10_fair_115 (by decide) kt kf
theorem b_X10_fair_118 {G : hk_G} {d cb sb : Nat} {h : hk_H} {Q : hk_O → hk_H → Prop} {o0 : Option Value} {o1 : Option Value} {o2 : Option Value} {o3 : Option Value} {o4 : Option Value} {o5 : Option Value} (hq : Q (.inl (some (.int 1))) h) : hk_S G m_X10_fair (d + 1) cb sb 118 [o0, o1, o2, o3, o4, o5] [] h Q := by
  refine hs_iconst (v := 1) dX10_fair_118 (by decide) ?_
  refine hs_goto dX10_fair_119 (tgt := 123) (by decide) ?_
  exact hs_iret dX10_fair_123 rfl hq
theorem b_X10_fair_122 {G : hk_G} {d cb sb : Nat} {h : hk_H} {Q : hk_O → hk_H → Prop} {o0 : Option Value} {o1 : Option Value} {o2 : Option Value} {o3 : Option Value} {o4 : Option Value} {o5 : Option Value} (hq : Q (.inl (some (.int 0))) h) : hk_S G m_X10_fair (d + 1) cb sb 122 [o0, o1, o2, o3, o4, o5] [] h Q := by
  refine hs_iconst (v := 0) dX10_fair_122 (by decide) ?_
  exact hs_iret dX10_fair_123 rfl hq
theorem b_X10_fair_123 {G : hk_G} {d cb sb : Nat} {h : hk_H} {Q : hk_O → hk_H → Prop} {s0 : Int32} {o0 : Option Value} {o1 : Option Value} {o2 : Option Value} {o3 : Option Value} {o4 : Option Value} {o5 : Option Value} (hq : Q (.inl (some (.int s0))) h) : hk_S G m_X10_fair (d + 1) cb sb 123 [o0, o1, o2, o3, o4, o5] [.int s0] h Q := by
  exact hs_iret dX10_fair_123 rfl hq
-- HonestHouseModel.digits(I[I)Z
theorem b_X10_digits_0 {G : hk_G} {d cb sb : Nat} {h : hk_H} {Q : hk_O → hk_H → Prop} {x1 : Int32} {o0 : Option Value} {o2 : Option Value} {o3 : Option Value} {o4 : Option Value} {o5 : Option Value} (kt : 0 ≤ x1 → hk_S G m_X10_digits d cb sb 6 [o0, some (.int x1), o2, o3, o4, o5] [] h Q) (kf : ¬ 0 ≤ x1 → hk_S G m_X10_digits d cb sb 4 [o0, some (.int x1), o2, o3, o4, o5] [] h Q) : hk_S G m_X10_digits d cb sb 0 [o0, some (.int x1), o2, o3, o4, o5] [] h Q := by
  refine hs_iload_n dX10_digits_0 rfl ?_
  exact hs_if_ge dX10_digits_1 (by decide) kt kf
theorem b_X10_digits_4 {G : hk_G} {d cb sb : Nat} {h : hk_H} {Q : hk_O → hk_H → Prop} {o0 : Option Value} {o1 : Option Value} {o2 : Option Value} {o3 : Option Value} {o4 : Option Value} {o5 : Option Value} (hq : Q (.inl (some (.int 0))) h) : hk_S G m_X10_digits d cb sb 4 [o0, o1, o2, o3, o4, o5] [] h Q := by
  refine hs_iconst (v := 0) dX10_digits_4 (by decide) ?_
  exact hs_zret dX10_digits_5 rfl (by decide) hq
theorem b_X10_digits_6 {G : hk_G} {d cb sb : Nat} {h : hk_H} {Q : hk_O → hk_H → Prop} {x1 : Int32} {r0 : Nat} {fs1 : List Value} {v3 : Int32} {o2 : Option Value} {o3 : Option Value} {o4 : Option Value} {o5 : Option Value} (hg2 : h.2 r0 = some (.inr (10, fs1))) (hv4 : fs1[0]? = some (.int v3)) (k : hk_S G m_X10_digits d cb sb 19 [some (.ref r0), some (.int x1), o2, some (.int x1), some (.int 0), some (.int (v3 - 1))] [] h Q) (ho2 : hk_c1 o2 := by first | exact hk_c1i | exact hk_c1r | exact hk_c10 | exact hk_c1n) : hk_S G m_X10_digits d cb sb 6 [some (.ref r0), some (.int x1), o2, o3, o4, o5] [] h Q := by
  refine hs_iload_n dX10_digits_6 rfl ?_
  refine hs_istK_n dX10_digits_7 (by decide) (hk_nk1 rfl ho2) rfl ?_
  refine hs_iconst (v := 0) dX10_digits_8 (by decide) ?_
  refine hs_istK dX10_digits_9 (by decide) (hk_nk1 rfl hk_c1i) rfl ?_
  refine hs_aload_n dX10_digits_11 rfl ?_
  refine hs_get dX10_digits_12 fl_X10_97_10 hg2 hv4 ?_
  refine hs_iconst (v := 1) dX10_digits_15 (by decide) ?_
  refine hs_isub dX10_digits_16 ?_
  refine hs_istK dX10_digits_17 (by decide) (hk_nk1 rfl hk_c1i) rfl ?_
  exact k
theorem b_X10_digits_19 {G : hk_G} {d cb sb : Nat} {h : hk_H} {Q : hk_O → hk_H → Prop} {x5 : Int32} {o0 : Option Value} {o1 : Option Value} {o2 : Option Value} {o3 : Option Value} {o4 : Option Value} (kt : x5 < 0 → hk_S G m_X10_digits d cb sb 80 [o0, o1, o2, o3, o4, some (.int x5)] [] h Q) (kf : ¬ x5 < 0 → hk_S G m_X10_digits d cb sb 24 [o0, o1, o2, o3, o4, some (.int x5)] [] h Q) : hk_S G m_X10_digits d cb sb 19 [o0, o1, o2, o3, o4, some (.int x5)] [] h Q := by
  refine hs_iload dX10_digits_19 rfl ?_
  exact hs_if_lt dX10_digits_21 (by decide) kt kf
theorem b_X10_digits_24 {G : hk_G} {d cb sb : Nat} {h : hk_H} {Q : hk_O → hk_H → Prop} {r2 : Nat} {x5 : Int32} {x3 : Int32} {n2 : Nat} {f3 : Nat → Int32} {h_1 : hk_H} {n8 : Nat} {f9 : Nat → Int32} {r0 : Nat} {fs12 : List Value} {v14 : Int32} {o1 : Option Value} {o4 : Option Value} (ha4 : h.2 r2 = some (.inl (0, n2, .inl f3))) (h4_r2 : 4 ≤ r2) (j5 : Nat) (hi6 : (x5 : Int32).toInt = (j5 : Int)) (hj7 : j5 < n2) (e_1 : (hk_set h r2 (.inl (0, n2, .inl (upd f3 j5 (x3 - x3 / 10 * 10))))) = h_1) (ha10 : h_1.2 r2 = some (.inl (0, n8, .inl f9))) (hj11 : j5 < n8) (hg13 : h_1.2 r0 = some (.inr (10, fs12))) (hv15 : fs12[0]? = some (.int v14)) (kt : v14 ≤ (f9 j5) → hk_S G m_X10_digits d cb sb 56 [some (.ref r0), o1, some (.ref r2), some (.int x3), o4, some (.int x5)] [] h_1 Q) (kf : ¬ v14 ≤ (f9 j5) → hk_S G m_X10_digits d cb sb 43 [some (.ref r0), o1, some (.ref r2), some (.int x3), o4, some (.int x5)] [] h_1 Q) : hk_S G m_X10_digits d cb sb 24 [some (.ref r0), o1, some (.ref r2), some (.int x3), o4, some (.int x5)] [] h Q := by
  subst e_1
  refine hs_aload_n dX10_digits_24 rfl ?_
  refine hs_iload dX10_digits_25 rfl ?_
  refine hs_iload_n dX10_digits_27 rfl ?_
  refine hs_bipush (v := 10) dX10_digits_28 (by decide) ?_
  refine hs_irem dX10_digits_30 (by decide) ?_
  refine hs_iast j5 dX10_digits_31 ha4 h4_r2 hi6 hj7 ?_
  refine hs_aload_n dX10_digits_32 rfl ?_
  refine hs_iload dX10_digits_33 rfl ?_
  refine hs_iald j5 dX10_digits_35 ha10 hi6 hj11 ?_
  refine hs_aload_n dX10_digits_36 rfl ?_
  refine hs_get dX10_digits_37 fl_X10_97_10 hg13 hv15 ?_
  exact hs_icmp_ge dX10_digits_40 (by decide) kt kf
theorem b_X10_digits_43 {G : hk_G} {d cb sb : Nat} {h : hk_H} {Q : hk_O → hk_H → Prop} {x4 : Int32} {r2 : Nat} {x5 : Int32} {n1 : Nat} {f2 : Nat → Int32} {o0 : Option Value} {o1 : Option Value} {o3 : Option Value} (ha3 : h.2 r2 = some (.inl (0, n1, .inl f2))) (j4 : Nat) (hi5 : (x5 : Int32).toInt = (j4 : Int)) (hj6 : j4 < n1) (kt : ¬ ((x4 >>> ((f2 j4) &&& 31)) &&& 1) = 1 → hk_S G m_X10_digits d cb sb 58 [o0, o1, some (.ref r2), o3, some (.int x4), some (.int x5)] [] h Q) (kf : ((x4 >>> ((f2 j4) &&& 31)) &&& 1) = 1 → hk_S G m_X10_digits d cb sb 56 [o0, o1, some (.ref r2), o3, some (.int x4), some (.int x5)] [] h Q) : hk_S G m_X10_digits d cb sb 43 [o0, o1, some (.ref r2), o3, some (.int x4), some (.int x5)] [] h Q := by
  refine hs_iload dX10_digits_43 rfl ?_
  refine hs_aload_n dX10_digits_45 rfl ?_
  refine hs_iload dX10_digits_46 rfl ?_
  refine hs_iald j4 dX10_digits_48 ha3 hi5 hj6 ?_
  refine hs_ishr dX10_digits_49 ?_
  refine hs_iconst (v := 1) dX10_digits_50 (by decide) ?_
  refine hs_iand dX10_digits_51 ?_
  refine hs_iconst (v := 1) dX10_digits_52 (by decide) ?_
  exact hs_icmp_ne dX10_digits_53 (by decide) kt kf
theorem b_X10_digits_56 {G : hk_G} {d cb sb : Nat} {h : hk_H} {Q : hk_O → hk_H → Prop} {o0 : Option Value} {o1 : Option Value} {o2 : Option Value} {o3 : Option Value} {o4 : Option Value} {o5 : Option Value} (hq : Q (.inl (some (.int 0))) h) : hk_S G m_X10_digits d cb sb 56 [o0, o1, o2, o3, o4, o5] [] h Q := by
  refine hs_iconst (v := 0) dX10_digits_56 (by decide) ?_
  exact hs_zret dX10_digits_57 rfl (by decide) hq
theorem b_X10_digits_58 {G : hk_G} {d cb sb : Nat} {h : hk_H} {Q : hk_O → hk_H → Prop} {x4 : Int32} {r2 : Nat} {x5 : Int32} {n1 : Nat} {f2 : Nat → Int32} {x3 : Int32} {o0 : Option Value} {o1 : Option Value} (ha3 : h.2 r2 = some (.inl (0, n1, .inl f2))) (j4 : Nat) (hi5 : (x5 : Int32).toInt = (j4 : Int)) (hj6 : j4 < n1) (k : hk_S G m_X10_digits d cb sb 19 [o0, o1, some (.ref r2), some (.int (x3 / 10)), some (.int (x4 ||| (1 <<< ((f2 j4) &&& 31)))), some (.int (x5 + (-1)))] [] h Q) : hk_S G m_X10_digits d cb sb 58 [o0, o1, some (.ref r2), some (.int x3), some (.int x4), some (.int x5)] [] h Q := by
  refine hs_iload dX10_digits_58 rfl ?_
  refine hs_iconst (v := 1) dX10_digits_60 (by decide) ?_
  refine hs_aload_n dX10_digits_61 rfl ?_
  refine hs_iload dX10_digits_62 rfl ?_
  refine hs_iald j4 dX10_digits_64 ha3 hi5 hj6 ?_
  refine hs_ishl dX10_digits_65 ?_
  refine hs_ior dX10_digits_66 ?_
  refine hs_istK dX10_digits_67 (by decide) (hk_nk1 rfl hk_c1i) rfl ?_
  refine hs_iload_n dX10_digits_69 rfl ?_
  refine hs_bipush (v := 10) dX10_digits_70 (by decide) ?_
  refine hs_idiv dX10_digits_72 (by decide) ?_
  refine hs_istK_n dX10_digits_73 (by decide) (hk_nk1 rfl hk_c1r) rfl ?_
  refine hs_iincK (v := (-1)) dX10_digits_74 rfl (by decide) (by decide) (hk_nk1 rfl hk_c1i) rfl ?_
  refine hs_goto dX10_digits_77 (tgt := 19) (by decide) ?_
  exact k
theorem b_X10_digits_80 {G : hk_G} {d cb sb : Nat} {h : hk_H} {Q : hk_O → hk_H → Prop} {x3 : Int32} {o0 : Option Value} {o1 : Option Value} {o2 : Option Value} {o4 : Option Value} {o5 : Option Value} (kt : ¬ x3 = 0 → hk_S G m_X10_digits d cb sb 88 [o0, o1, o2, some (.int x3), o4, o5] [] h Q) (kf : x3 = 0 → hk_S G m_X10_digits d cb sb 84 [o0, o1, o2, some (.int x3), o4, o5] [] h Q) : hk_S G m_X10_digits d cb sb 80 [o0, o1, o2, some (.int x3), o4, o5] [] h Q := by
  refine hs_iload_n dX10_digits_80 rfl ?_
  exact hs_if_ne dX10_digits_81 (by decide) kt kf
theorem b_X10_digits_84 {G : hk_G} {d cb sb : Nat} {h : hk_H} {Q : hk_O → hk_H → Prop} {o0 : Option Value} {o1 : Option Value} {o2 : Option Value} {o3 : Option Value} {o4 : Option Value} {o5 : Option Value} (hq : Q (.inl (some (.int 1))) h) : hk_S G m_X10_digits d cb sb 84 [o0, o1, o2, o3, o4, o5] [] h Q := by
  refine hs_iconst (v := 1) dX10_digits_84 (by decide) ?_
  refine hs_goto dX10_digits_85 (tgt := 89) (by decide) ?_
  exact hs_zret dX10_digits_89 rfl (by decide) hq
theorem b_X10_digits_88 {G : hk_G} {d cb sb : Nat} {h : hk_H} {Q : hk_O → hk_H → Prop} {o0 : Option Value} {o1 : Option Value} {o2 : Option Value} {o3 : Option Value} {o4 : Option Value} {o5 : Option Value} (hq : Q (.inl (some (.int 0))) h) : hk_S G m_X10_digits d cb sb 88 [o0, o1, o2, o3, o4, o5] [] h Q := by
  refine hs_iconst (v := 0) dX10_digits_88 (by decide) ?_
  exact hs_zret dX10_digits_89 rfl (by decide) hq
theorem b_X10_digits_89 {G : hk_G} {d cb sb : Nat} {h : hk_H} {Q : hk_O → hk_H → Prop} {s0 : Int32} {o0 : Option Value} {o1 : Option Value} {o2 : Option Value} {o3 : Option Value} {o4 : Option Value} {o5 : Option Value} (hq : Q (.inl (some (.int s0))) h) (hb : s0 = 0 ∨ s0 = 1) : hk_S G m_X10_digits d cb sb 89 [o0, o1, o2, o3, o4, o5] [.int s0] h Q := by
  exact hs_zret dX10_digits_89 rfl hb hq
-- HonestHouseModel.code([I)I
theorem b_X10_code_0 {G : hk_G} {d cb sb : Nat} {h : hk_H} {Q : hk_O → hk_H → Prop} {o0 : Option Value} {o1 : Option Value} {o2 : Option Value} {o3 : Option Value} (k : hk_S G m_X10_code d cb sb 4 [o0, o1, some (.int 0), some (.int 0)] [] h Q) (ho1 : hk_c1 o1 := by first | exact hk_c1i | exact hk_c1r | exact hk_c10 | exact hk_c1n) : hk_S G m_X10_code d cb sb 0 [o0, o1, o2, o3] [] h Q := by
  refine hs_iconst (v := 0) dX10_code_0 (by decide) ?_
  refine hs_istK_n dX10_code_1 (by decide) (hk_nk1 rfl ho1) rfl ?_
  refine hs_iconst (v := 0) dX10_code_2 (by decide) ?_
  refine hs_istK_n dX10_code_3 (by decide) (hk_nk1 rfl hk_c1i) rfl ?_
  exact k
theorem b_X10_code_4 {G : hk_G} {d cb sb : Nat} {h : hk_H} {Q : hk_O → hk_H → Prop} {x3 : Int32} {r0 : Nat} {fs1 : List Value} {v3 : Int32} {o1 : Option Value} {o2 : Option Value} (hg2 : h.2 r0 = some (.inr (10, fs1))) (hv4 : fs1[0]? = some (.int v3)) (kt : v3 ≤ x3 → hk_S G m_X10_code d cb sb 27 [some (.ref r0), o1, o2, some (.int x3)] [] h Q) (kf : ¬ v3 ≤ x3 → hk_S G m_X10_code d cb sb 12 [some (.ref r0), o1, o2, some (.int x3)] [] h Q) : hk_S G m_X10_code d cb sb 4 [some (.ref r0), o1, o2, some (.int x3)] [] h Q := by
  refine hs_iload_n dX10_code_4 rfl ?_
  refine hs_aload_n dX10_code_5 rfl ?_
  refine hs_get dX10_code_6 fl_X10_97_10 hg2 hv4 ?_
  exact hs_icmp_ge dX10_code_9 (by decide) kt kf
theorem b_X10_code_12 {G : hk_G} {d cb sb : Nat} {h : hk_H} {Q : hk_O → hk_H → Prop} {x2 : Int32} {r1 : Nat} {x3 : Int32} {n1 : Nat} {f2 : Nat → Int32} {o0 : Option Value} (ha3 : h.2 r1 = some (.inl (0, n1, .inl f2))) (j4 : Nat) (hi5 : (x3 : Int32).toInt = (j4 : Int)) (hj6 : j4 < n1) (k : hk_S G m_X10_code d cb sb 4 [o0, some (.ref r1), some (.int ((10 * x2) + (f2 j4))), some (.int (x3 + 1))] [] h Q) : hk_S G m_X10_code d cb sb 12 [o0, some (.ref r1), some (.int x2), some (.int x3)] [] h Q := by
  refine hs_bipush (v := 10) dX10_code_12 (by decide) ?_
  refine hs_iload_n dX10_code_14 rfl ?_
  refine hs_imul dX10_code_15 ?_
  refine hs_aload_n dX10_code_16 rfl ?_
  refine hs_iload_n dX10_code_17 rfl ?_
  refine hs_iald j4 dX10_code_18 ha3 hi5 hj6 ?_
  refine hs_iadd dX10_code_19 ?_
  refine hs_istK_n dX10_code_20 (by decide) (hk_nk1 rfl hk_c1r) rfl ?_
  refine hs_iincK (v := 1) dX10_code_21 rfl (by decide) (by decide) (hk_nk1 rfl hk_c1i) rfl ?_
  refine hs_goto dX10_code_24 (tgt := 4) (by decide) ?_
  exact k
theorem b_X10_code_27 {G : hk_G} {d cb sb : Nat} {h : hk_H} {Q : hk_O → hk_H → Prop} {x2 : Int32} {o0 : Option Value} {o1 : Option Value} {o3 : Option Value} (hq : Q (.inl (some (.int x2))) h) : hk_S G m_X10_code d cb sb 27 [o0, o1, some (.int x2), o3] [] h Q := by
  refine hs_iload_n dX10_code_27 rfl ?_
  exact hs_iret dX10_code_28 rfl hq
-- HonestHouseModel.place(II)I
theorem b_X10_place_0 {G : hk_G} {d cb sb : Nat} {h : hk_H} {Q : hk_O → hk_H → Prop} {o0 : Option Value} {o1 : Option Value} {o2 : Option Value} {o3 : Option Value} (k : hk_S G m_X10_place d cb sb 2 [o0, o1, o2, some (.int 0)] [] h Q) (ho2 : hk_c1 o2 := by first | exact hk_c1i | exact hk_c1r | exact hk_c10 | exact hk_c1n) : hk_S G m_X10_place d cb sb 0 [o0, o1, o2, o3] [] h Q := by
  refine hs_iconst (v := 0) dX10_place_0 (by decide) ?_
  refine hs_istK_n dX10_place_1 (by decide) (hk_nk1 rfl ho2) rfl ?_
  exact k
theorem b_X10_place_2 {G : hk_G} {d cb sb : Nat} {h : hk_H} {Q : hk_O → hk_H → Prop} {r0 : Nat} {fs1 : List Value} {v3 : Nat} {x1 : Int32} {x3 : Int32} {n5 : Nat} {f6 : Nat → Int32} {x2 : Int32} (hg2 : h.2 r0 = some (.inr (10, fs1))) (hv4 : fs1[19]? = some (.ref v3)) (ha7 : h.2 v3 = some (.inl (0, n5, .inl f6))) (j8 : Nat) (hi9 : ((4 * x1) + x3 : Int32).toInt = (j8 : Int)) (hj10 : j8 < n5) (kt : (f6 j8) = x2 → hk_S G m_X10_place d cb sb 22 [some (.ref r0), some (.int x1), some (.int x2), some (.int x3)] [] h Q) (kf : ¬ (f6 j8) = x2 → hk_S G m_X10_place d cb sb 16 [some (.ref r0), some (.int x1), some (.int x2), some (.int x3)] [] h Q) : hk_S G m_X10_place d cb sb 2 [some (.ref r0), some (.int x1), some (.int x2), some (.int x3)] [] h Q := by
  refine hs_aload_n dX10_place_2 rfl ?_
  refine hs_get dX10_place_3 fl_X10_51_10 hg2 hv4 ?_
  refine hs_iconst (v := 4) dX10_place_6 (by decide) ?_
  refine hs_iload_n dX10_place_7 rfl ?_
  refine hs_imul dX10_place_8 ?_
  refine hs_iload_n dX10_place_9 rfl ?_
  refine hs_iadd dX10_place_10 ?_
  refine hs_iald j8 dX10_place_11 ha7 hi9 hj10 ?_
  refine hs_iload_n dX10_place_12 rfl ?_
  exact hs_icmp_eq dX10_place_13 (by decide) kt kf
theorem b_X10_place_16 {G : hk_G} {d cb sb : Nat} {h : hk_H} {Q : hk_O → hk_H → Prop} {x3 : Int32} {o0 : Option Value} {o1 : Option Value} {o2 : Option Value} (k : hk_S G m_X10_place d cb sb 2 [o0, o1, o2, some (.int (x3 + 1))] [] h Q) (ho2 : hk_c1 o2 := by first | exact hk_c1i | exact hk_c1r | exact hk_c10 | exact hk_c1n) : hk_S G m_X10_place d cb sb 16 [o0, o1, o2, some (.int x3)] [] h Q := by
  refine hs_iincK (v := 1) dX10_place_16 rfl (by decide) (by decide) (hk_nk1 rfl ho2) rfl ?_
  refine hs_goto dX10_place_19 (tgt := 2) (by decide) ?_
  exact k
theorem b_X10_place_22 {G : hk_G} {d cb sb : Nat} {h : hk_H} {Q : hk_O → hk_H → Prop} {x3 : Int32} {o0 : Option Value} {o1 : Option Value} {o2 : Option Value} (hq : Q (.inl (some (.int x3))) h) : hk_S G m_X10_place d cb sb 22 [o0, o1, o2, some (.int x3)] [] h Q := by
  refine hs_iload_n dX10_place_22 rfl ?_
  exact hs_iret dX10_place_23 rfl hq
-- HonestHouseModel.likes(II)I
theorem b_X10_likes_0 {G : hk_G} {d cb sb : Nat} {h : hk_H} {Q : hk_O → hk_H → Prop} {x1 : Int32} {r0 : Nat} {fs1 : List Value} {v3 : Int32} {o2 : Option Value} {o3 : Option Value} (hg2 : h.2 r0 = some (.inr (10, fs1))) (hv4 : fs1[0]? = some (.int v3)) (hc : hk_Ci G m_X10_isIn d 0 0 [.int x1, .int v3] h (fun z h' => hk_S G m_X10_likes (d + 1) cb sb 8 [some (.ref r0), some (.int x1), o2, o3] [.int z] h' Q)) : hk_S G m_X10_likes (d + 1) cb sb 0 [some (.ref r0), some (.int x1), o2, o3] [] h Q := by
  refine hs_iload_n dX10_likes_0 rfl ?_
  refine hs_aload_n dX10_likes_1 rfl ?_
  refine hs_get dX10_likes_2 fl_X10_97_10 hg2 hv4 ?_
  exact hk_z0 (hs_sta (M' := m_X10_isIn) (vs := [.int x1, .int v3]) (c1 := 0) (s1 := 0) dX10_likes_5 wd_1226 st_X10_isIn rfl (Nat.le_of_ble_eq_true rfl) hc hq_i (hc_i (fun z h9 k9 => k9)))
theorem b_X10_likes_8 {G : hk_G} {d cb sb : Nat} {h : hk_H} {Q : hk_O → hk_H → Prop} {s0 : Int32} {o0 : Option Value} {o1 : Option Value} {o2 : Option Value} {o3 : Option Value} (kt : s0 = 0 → hk_S G m_X10_likes (d + 1) cb sb 23 [o0, o1, o2, o3] [] h Q) (kf : ¬ s0 = 0 → hk_S G m_X10_likes (d + 1) cb sb 11 [o0, o1, o2, o3] [] h Q) : hk_S G m_X10_likes (d + 1) cb sb 8 [o0, o1, o2, o3] [.int s0] h Q := by
  exact hs_if_eq dX10_likes_8 (by decide) kt kf
theorem b_X10_likes_11 {G : hk_G} {d cb sb : Nat} {h : hk_H} {Q : hk_O → hk_H → Prop} {r0 : Nat} {x2 : Int32} {fs1 : List Value} {v3 : Nat} {o1 : Option Value} {o3 : Option Value} (hg2 : h.2 r0 = some (.inr (10, fs1))) (hv4 : fs1[21]? = some (.ref v3)) (hc : hk_Ci G m_X10_digits d 0 0 [.ref r0, .int x2, .ref v3] h (fun z h' => hk_S G m_X10_likes (d + 1) cb sb 20 [some (.ref r0), o1, some (.int x2), o3] [.int z] h' Q)) : hk_S G m_X10_likes (d + 1) cb sb 11 [some (.ref r0), o1, some (.int x2), o3] [] h Q := by
  refine hs_aload_n dX10_likes_11 rfl ?_
  refine hs_iload_n dX10_likes_12 rfl ?_
  refine hs_aload_n dX10_likes_13 rfl ?_
  refine hs_get dX10_likes_14 fl_X10_57_10 hg2 hv4 ?_
  exact hk_z0 (hs_vir (M' := m_X10_digits) (vs := [.int x2, .ref v3]) (c1 := 0) (s1 := 0) dX10_likes_17 wd_1397 vi_X10_digits hg2 rfl (Nat.le_of_ble_eq_true rfl) hc hq_i (hc_i (fun z h9 k9 => k9)))
theorem b_X10_likes_20 {G : hk_G} {d cb sb : Nat} {h : hk_H} {Q : hk_O → hk_H → Prop} {s0 : Int32} {o0 : Option Value} {o1 : Option Value} {o2 : Option Value} {o3 : Option Value} (kt : ¬ s0 = 0 → hk_S G m_X10_likes (d + 1) cb sb 25 [o0, o1, o2, o3] [] h Q) (kf : s0 = 0 → hk_S G m_X10_likes (d + 1) cb sb 23 [o0, o1, o2, o3] [] h Q) : hk_S G m_X10_likes (d + 1) cb sb 20 [o0, o1, o2, o3] [.int s0] h Q := by
  exact hs_if_ne dX10_likes_20 (by decide) kt kf
theorem b_X10_likes_23 {G : hk_G} {d cb sb : Nat} {h : hk_H} {Q : hk_O → hk_H → Prop} {o0 : Option Value} {o1 : Option Value} {o2 : Option Value} {o3 : Option Value} (hq : Q (.inl (some (.int ((-1))))) h) : hk_S G m_X10_likes (d + 1) cb sb 23 [o0, o1, o2, o3] [] h Q := by
  refine hs_iconst (v := (-1)) dX10_likes_23 (by decide) ?_
  exact hs_iret dX10_likes_24 rfl hq
theorem b_X10_likes_25 {G : hk_G} {d cb sb : Nat} {h : hk_H} {Q : hk_O → hk_H → Prop} {o0 : Option Value} {o1 : Option Value} {o2 : Option Value} {o3 : Option Value} (k : hk_S G m_X10_likes (d + 1) cb sb 27 [o0, o1, o2, some (.int 0)] [] h Q) (ho2 : hk_c1 o2 := by first | exact hk_c1i | exact hk_c1r | exact hk_c10 | exact hk_c1n) : hk_S G m_X10_likes (d + 1) cb sb 25 [o0, o1, o2, o3] [] h Q := by
  refine hs_iconst (v := 0) dX10_likes_25 (by decide) ?_
  refine hs_istK_n dX10_likes_26 (by decide) (hk_nk1 rfl ho2) rfl ?_
  exact k
theorem b_X10_likes_27 {G : hk_G} {d cb sb : Nat} {h : hk_H} {Q : hk_O → hk_H → Prop} {x3 : Int32} {r0 : Nat} {fs1 : List Value} {v3 : Int32} {o1 : Option Value} {o2 : Option Value} (hg2 : h.2 r0 = some (.inr (10, fs1))) (hv4 : fs1[0]? = some (.int v3)) (kt : v3 ≤ x3 → hk_S G m_X10_likes (d + 1) cb sb 57 [some (.ref r0), o1, o2, some (.int x3)] [] h Q) (kf : ¬ v3 ≤ x3 → hk_S G m_X10_likes (d + 1) cb sb 35 [some (.ref r0), o1, o2, some (.int x3)] [] h Q) : hk_S G m_X10_likes (d + 1) cb sb 27 [some (.ref r0), o1, o2, some (.int x3)] [] h Q := by
  refine hs_iload_n dX10_likes_27 rfl ?_
  refine hs_aload_n dX10_likes_28 rfl ?_
  refine hs_get dX10_likes_29 fl_X10_97_10 hg2 hv4 ?_
  exact hs_icmp_ge dX10_likes_32 (by decide) kt kf
theorem b_X10_likes_35 {G : hk_G} {d cb sb : Nat} {h : hk_H} {Q : hk_O → hk_H → Prop} {r0 : Nat} {fs1 : List Value} {v3 : Nat} {x1 : Int32} {x3 : Int32} {v5 : Nat} {n7 : Nat} {f8 : Nat → Int32} {n13 : Nat} {f14 : Nat → Int32} {h_1 : hk_H} {o2 : Option Value} (hg2 : h.2 r0 = some (.inr (10, fs1))) (hv4 : fs1[19]? = some (.ref v3)) (hv6 : fs1[21]? = some (.ref v5)) (ha9 : h.2 v5 = some (.inl (0, n7, .inl f8))) (j10 : Nat) (hi11 : (x3 : Int32).toInt = (j10 : Int)) (hj12 : j10 < n7) (ha15 : h.2 v3 = some (.inl (0, n13, .inl f14))) (h4_v3 : 4 ≤ v3) (j16 : Nat) (hi17 : ((4 * x1) + x3 : Int32).toInt = (j16 : Int)) (hj18 : j16 < n13) (e_1 : (hk_set h v3 (.inl (0, n13, .inl (upd f14 j16 (f8 j10))))) = h_1) (k : hk_S G m_X10_likes (d + 1) cb sb 27 [some (.ref r0), some (.int x1), o2, some (.int (x3 + 1))] [] h_1 Q) (ho2 : hk_c1 o2 := by first | exact hk_c1i | exact hk_c1r | exact hk_c10 | exact hk_c1n) : hk_S G m_X10_likes (d + 1) cb sb 35 [some (.ref r0), some (.int x1), o2, some (.int x3)] [] h Q := by
  subst e_1
  refine hs_aload_n dX10_likes_35 rfl ?_
  refine hs_get dX10_likes_36 fl_X10_51_10 hg2 hv4 ?_
  refine hs_iconst (v := 4) dX10_likes_39 (by decide) ?_
  refine hs_iload_n dX10_likes_40 rfl ?_
  refine hs_imul dX10_likes_41 ?_
  refine hs_iload_n dX10_likes_42 rfl ?_
  refine hs_iadd dX10_likes_43 ?_
  refine hs_aload_n dX10_likes_44 rfl ?_
  refine hs_get dX10_likes_45 fl_X10_57_10 hg2 hv6 ?_
  refine hs_iload_n dX10_likes_48 rfl ?_
  refine hs_iald j10 dX10_likes_49 ha9 hi11 hj12 ?_
  refine hs_iast j16 dX10_likes_50 ha15 h4_v3 hi17 hj18 ?_
  refine hs_iincK (v := 1) dX10_likes_51 rfl (by decide) (by decide) (hk_nk1 rfl ho2) rfl ?_
  refine hs_goto dX10_likes_54 (tgt := 27) (by decide) ?_
  exact k
theorem b_X10_likes_57 {G : hk_G} {d cb sb : Nat} {h : hk_H} {Q : hk_O → hk_H → Prop} {o0 : Option Value} {o1 : Option Value} {o2 : Option Value} {o3 : Option Value} (hq : Q (.inl (some (.int 0))) h) : hk_S G m_X10_likes (d + 1) cb sb 57 [o0, o1, o2, o3] [] h Q := by
  refine hs_iconst (v := 0) dX10_likes_57 (by decide) ?_
  exact hs_iret dX10_likes_58 rfl hq
-- HonestHouseModel.best(II)I
theorem b_X10_best_0 {G : hk_G} {d cb sb : Nat} {h : hk_H} {Q : hk_O → hk_H → Prop} {o0 : Option Value} {o1 : Option Value} {o2 : Option Value} {o3 : Option Value} (k : hk_S G m_X10_best d cb sb 2 [o0, o1, o2, some (.int 0)] [] h Q) (ho2 : hk_c1 o2 := by first | exact hk_c1i | exact hk_c1r | exact hk_c10 | exact hk_c1n) : hk_S G m_X10_best d cb sb 0 [o0, o1, o2, o3] [] h Q := by
  refine hs_iconst (v := 0) dX10_best_0 (by decide) ?_
  refine hs_istK_n dX10_best_1 (by decide) (hk_nk1 rfl ho2) rfl ?_
  exact k
theorem b_X10_best_2 {G : hk_G} {d cb sb : Nat} {h : hk_H} {Q : hk_O → hk_H → Prop} {x2 : Int32} {r0 : Nat} {fs1 : List Value} {v3 : Nat} {x1 : Int32} {x3 : Int32} {n5 : Nat} {f6 : Nat → Int32} (hg2 : h.2 r0 = some (.inr (10, fs1))) (hv4 : fs1[19]? = some (.ref v3)) (ha7 : h.2 v3 = some (.inl (0, n5, .inl f6))) (j8 : Nat) (hi9 : ((4 * x1) + x3 : Int32).toInt = (j8 : Int)) (hj10 : j8 < n5) (kt : ¬ ((x2 >>> ((f6 j8) &&& 31)) &&& 1) = 0 → hk_S G m_X10_best d cb sb 25 [some (.ref r0), some (.int x1), some (.int x2), some (.int x3)] [] h Q) (kf : ((x2 >>> ((f6 j8) &&& 31)) &&& 1) = 0 → hk_S G m_X10_best d cb sb 19 [some (.ref r0), some (.int x1), some (.int x2), some (.int x3)] [] h Q) : hk_S G m_X10_best d cb sb 2 [some (.ref r0), some (.int x1), some (.int x2), some (.int x3)] [] h Q := by
  refine hs_iload_n dX10_best_2 rfl ?_
  refine hs_aload_n dX10_best_3 rfl ?_
  refine hs_get dX10_best_4 fl_X10_51_10 hg2 hv4 ?_
  refine hs_iconst (v := 4) dX10_best_7 (by decide) ?_
  refine hs_iload_n dX10_best_8 rfl ?_
  refine hs_imul dX10_best_9 ?_
  refine hs_iload_n dX10_best_10 rfl ?_
  refine hs_iadd dX10_best_11 ?_
  refine hs_iald j8 dX10_best_12 ha7 hi9 hj10 ?_
  refine hs_ishr dX10_best_13 ?_
  refine hs_iconst (v := 1) dX10_best_14 (by decide) ?_
  refine hs_iand dX10_best_15 ?_
  exact hs_if_ne dX10_best_16 (by decide) kt kf
theorem b_X10_best_19 {G : hk_G} {d cb sb : Nat} {h : hk_H} {Q : hk_O → hk_H → Prop} {x3 : Int32} {o0 : Option Value} {o1 : Option Value} {o2 : Option Value} (k : hk_S G m_X10_best d cb sb 2 [o0, o1, o2, some (.int (x3 + 1))] [] h Q) (ho2 : hk_c1 o2 := by first | exact hk_c1i | exact hk_c1r | exact hk_c10 | exact hk_c1n) : hk_S G m_X10_best d cb sb 19 [o0, o1, o2, some (.int x3)] [] h Q := by
  refine hs_iincK (v := 1) dX10_best_19 rfl (by decide) (by decide) (hk_nk1 rfl ho2) rfl ?_
  refine hs_goto dX10_best_22 (tgt := 2) (by decide) ?_
  exact k
theorem b_X10_best_25 {G : hk_G} {d cb sb : Nat} {h : hk_H} {Q : hk_O → hk_H → Prop} {r0 : Nat} {fs1 : List Value} {v3 : Nat} {x1 : Int32} {x3 : Int32} {n5 : Nat} {f6 : Nat → Int32} {o2 : Option Value} (hg2 : h.2 r0 = some (.inr (10, fs1))) (hv4 : fs1[19]? = some (.ref v3)) (ha7 : h.2 v3 = some (.inl (0, n5, .inl f6))) (j8 : Nat) (hi9 : ((4 * x1) + x3 : Int32).toInt = (j8 : Int)) (hj10 : j8 < n5) (hq : Q (.inl (some (.int (f6 j8)))) h) : hk_S G m_X10_best d cb sb 25 [some (.ref r0), some (.int x1), o2, some (.int x3)] [] h Q := by
  refine hs_aload_n dX10_best_25 rfl ?_
  refine hs_get dX10_best_26 fl_X10_51_10 hg2 hv4 ?_
  refine hs_iconst (v := 4) dX10_best_29 (by decide) ?_
  refine hs_iload_n dX10_best_30 rfl ?_
  refine hs_imul dX10_best_31 ?_
  refine hs_iload_n dX10_best_32 rfl ?_
  refine hs_iadd dX10_best_33 ?_
  refine hs_iald j8 dX10_best_34 ha7 hi9 hj10 ?_
  exact hs_iret dX10_best_35 rfl hq
-- HonestHouseModel.ring()V
theorem b_X10_ring_0 {G : hk_G} {d cb sb : Nat} {h : hk_H} {Q : hk_O → hk_H → Prop} {r0 : Nat} {fs1 : List Value} {v3 : Int32} {o1 : Option Value} {o2 : Option Value} {o3 : Option Value} {o4 : Option Value} {o5 : Option Value} {o6 : Option Value} (hg2 : h.2 r0 = some (.inr (10, fs1))) (hv4 : fs1[0]? = some (.int v3)) (k : hk_S G m_X10_ring (d + 1) cb sb 11 [some (.ref r0), some (.int ((1 <<< (v3 &&& 31)) - 1)), some (.int 1), o3, o4, o5, o6] [] h Q) : hk_S G m_X10_ring (d + 1) cb sb 0 [some (.ref r0), o1, o2, o3, o4, o5, o6] [] h Q := by
  refine hs_iconst (v := 1) dX10_ring_0 (by decide) ?_
  refine hs_aload_n dX10_ring_1 rfl ?_
  refine hs_get dX10_ring_2 fl_X10_97_10 hg2 hv4 ?_
  refine hs_ishl dX10_ring_5 ?_
  refine hs_iconst (v := 1) dX10_ring_6 (by decide) ?_
  refine hs_isub dX10_ring_7 ?_
  refine hs_istK_n dX10_ring_8 (by decide) (hk_nk1 rfl hk_c1r) rfl ?_
  refine hs_iconst (v := 1) dX10_ring_9 (by decide) ?_
  refine hs_istK_n dX10_ring_10 (by decide) (hk_nk1 rfl hk_c1i) rfl ?_
  exact k
theorem b_X10_ring_11 {G : hk_G} {d cb sb : Nat} {h : hk_H} {Q : hk_O → hk_H → Prop} {x1 : Int32} {o0 : Option Value} {o2 : Option Value} {o3 : Option Value} {o4 : Option Value} {o5 : Option Value} {o6 : Option Value} (kt : x1 = 0 → hk_S G m_X10_ring (d + 1) cb sb 141 [o0, some (.int x1), o2, o3, o4, o5, o6] [] h Q) (kf : ¬ x1 = 0 → hk_S G m_X10_ring (d + 1) cb sb 15 [o0, some (.int x1), o2, o3, o4, o5, o6] [] h Q) : hk_S G m_X10_ring (d + 1) cb sb 11 [o0, some (.int x1), o2, o3, o4, o5, o6] [] h Q := by
  refine hs_iload_n dX10_ring_11 rfl ?_
  exact hs_if_eq dX10_ring_12 (by decide) kt kf
theorem b_X10_ring_15 {G : hk_G} {d cb sb : Nat} {h : hk_H} {Q : hk_O → hk_H → Prop} {o0 : Option Value} {o1 : Option Value} {o2 : Option Value} {o3 : Option Value} {o4 : Option Value} {o5 : Option Value} {o6 : Option Value} (k : hk_S G m_X10_ring (d + 1) cb sb 20 [o0, o1, o2, some (.int 0), some (.int 0), o5, o6] [] h Q) (ho2 : hk_c1 o2 := by first | exact hk_c1i | exact hk_c1r | exact hk_c10 | exact hk_c1n) : hk_S G m_X10_ring (d + 1) cb sb 15 [o0, o1, o2, o3, o4, o5, o6] [] h Q := by
  refine hs_iconst (v := 0) dX10_ring_15 (by decide) ?_
  refine hs_istK_n dX10_ring_16 (by decide) (hk_nk1 rfl ho2) rfl ?_
  refine hs_iconst (v := 0) dX10_ring_17 (by decide) ?_
  refine hs_istK dX10_ring_18 (by decide) (hk_nk1 rfl hk_c1i) rfl ?_
  exact k
theorem b_X10_ring_20 {G : hk_G} {d cb sb : Nat} {h : hk_H} {Q : hk_O → hk_H → Prop} {x4 : Int32} {r0 : Nat} {fs1 : List Value} {v3 : Int32} {o1 : Option Value} {o2 : Option Value} {o3 : Option Value} {o5 : Option Value} {o6 : Option Value} (hg2 : h.2 r0 = some (.inr (10, fs1))) (hv4 : fs1[0]? = some (.int v3)) (kt : v3 ≤ x4 → hk_S G m_X10_ring (d + 1) cb sb 129 [some (.ref r0), o1, o2, o3, some (.int x4), o5, o6] [] h Q) (kf : ¬ v3 ≤ x4 → hk_S G m_X10_ring (d + 1) cb sb 29 [some (.ref r0), o1, o2, o3, some (.int x4), o5, o6] [] h Q) : hk_S G m_X10_ring (d + 1) cb sb 20 [some (.ref r0), o1, o2, o3, some (.int x4), o5, o6] [] h Q := by
  refine hs_iload dX10_ring_20 rfl ?_
  refine hs_aload_n dX10_ring_22 rfl ?_
  refine hs_get dX10_ring_23 fl_X10_97_10 hg2 hv4 ?_
  exact hs_icmp_ge dX10_ring_26 (by decide) kt kf
theorem b_X10_ring_29 {G : hk_G} {d cb sb : Nat} {h : hk_H} {Q : hk_O → hk_H → Prop} {x1 : Int32} {x4 : Int32} {o0 : Option Value} {o2 : Option Value} {o3 : Option Value} {o5 : Option Value} {o6 : Option Value} (kt : ¬ ((x1 >>> (x4 &&& 31)) &&& 1) = 0 → hk_S G m_X10_ring (d + 1) cb sb 41 [o0, some (.int x1), o2, o3, some (.int x4), o5, o6] [] h Q) (kf : ((x1 >>> (x4 &&& 31)) &&& 1) = 0 → hk_S G m_X10_ring (d + 1) cb sb 38 [o0, some (.int x1), o2, o3, some (.int x4), o5, o6] [] h Q) : hk_S G m_X10_ring (d + 1) cb sb 29 [o0, some (.int x1), o2, o3, some (.int x4), o5, o6] [] h Q := by
  refine hs_iload_n dX10_ring_29 rfl ?_
  refine hs_iload dX10_ring_30 rfl ?_
  refine hs_ishr dX10_ring_32 ?_
  refine hs_iconst (v := 1) dX10_ring_33 (by decide) ?_
  refine hs_iand dX10_ring_34 ?_
  exact hs_if_ne dX10_ring_35 (by decide) kt kf
theorem b_X10_ring_38 {G : hk_G} {d cb sb : Nat} {h : hk_H} {Q : hk_O → hk_H → Prop} {x4 : Int32} {o0 : Option Value} {o1 : Option Value} {o2 : Option Value} {o3 : Option Value} {o5 : Option Value} {o6 : Option Value} (k : hk_S G m_X10_ring (d + 1) cb sb 20 [o0, o1, o2, o3, some (.int (x4 + 1)), o5, o6] [] h Q) (ho3 : hk_c1 o3 := by first | exact hk_c1i | exact hk_c1r | exact hk_c10 | exact hk_c1n) : hk_S G m_X10_ring (d + 1) cb sb 38 [o0, o1, o2, o3, some (.int x4), o5, o6] [] h Q := by
  refine hs_goto dX10_ring_38 (tgt := 123) (by decide) ?_
  refine hs_iincK (v := 1) dX10_ring_123 rfl (by decide) (by decide) (hk_nk1 rfl ho3) rfl ?_
  refine hs_goto dX10_ring_126 (tgt := 20) (by decide) ?_
  exact k
theorem b_X10_ring_41 {G : hk_G} {d cb sb : Nat} {h : hk_H} {Q : hk_O → hk_H → Prop} {r0 : Nat} {x4 : Int32} {x1 : Int32} {fs_ : List Value} {o2 : Option Value} {o3 : Option Value} {o5 : Option Value} {o6 : Option Value} (hrec : h.2 r0 = some (.inr (10, fs_))) (hc : hk_Ci G m_X10_best d 0 0 [.ref r0, .int x4, .int x1] h (fun z h' => hk_S G m_X10_ring (d + 1) cb sb 48 [some (.ref r0), some (.int x1), o2, o3, some (.int x4), o5, o6] [.int z] h' Q)) : hk_S G m_X10_ring (d + 1) cb sb 41 [some (.ref r0), some (.int x1), o2, o3, some (.int x4), o5, o6] [] h Q := by
  refine hs_aload_n dX10_ring_41 rfl ?_
  refine hs_iload dX10_ring_42 rfl ?_
  refine hs_iload_n dX10_ring_44 rfl ?_
  exact hk_z0 (hs_vir (M' := m_X10_best) (vs := [.int x4, .int x1]) (c1 := 0) (s1 := 0) dX10_ring_45 wd_1409 vi_X10_best hrec rfl (Nat.le_of_ble_eq_true rfl) hc hq_i (hc_i (fun z h9 k9 => k9)))
theorem b_X10_ring_48 {G : hk_G} {d cb sb : Nat} {h : hk_H} {Q : hk_O → hk_H → Prop} {s0 : Int32} {o0 : Option Value} {o1 : Option Value} {o2 : Option Value} {o3 : Option Value} {o4 : Option Value} {o5 : Option Value} {o6 : Option Value} (k : hk_S G m_X10_ring (d + 1) cb sb 53 [o0, o1, o2, o3, o4, some (.int s0), some (.int 0)] [] h Q) (ho4 : hk_c1 o4 := by first | exact hk_c1i | exact hk_c1r | exact hk_c10 | exact hk_c1n) : hk_S G m_X10_ring (d + 1) cb sb 48 [o0, o1, o2, o3, o4, o5, o6] [.int s0] h Q := by
  refine hs_istK dX10_ring_48 (by decide) (hk_nk1 rfl ho4) rfl ?_
  refine hs_iconst (v := 0) dX10_ring_50 (by decide) ?_
  refine hs_istK dX10_ring_51 (by decide) (hk_nk1 rfl hk_c1i) rfl ?_
  exact k
theorem b_X10_ring_53 {G : hk_G} {d cb sb : Nat} {h : hk_H} {Q : hk_O → hk_H → Prop} {x6 : Int32} {r0 : Nat} {fs1 : List Value} {v3 : Int32} {o1 : Option Value} {o2 : Option Value} {o3 : Option Value} {o4 : Option Value} {o5 : Option Value} (hg2 : h.2 r0 = some (.inr (10, fs1))) (hv4 : fs1[0]? = some (.int v3)) (kt : v3 ≤ x6 → hk_S G m_X10_ring (d + 1) cb sb 84 [some (.ref r0), o1, o2, o3, o4, o5, some (.int x6)] [] h Q) (kf : ¬ v3 ≤ x6 → hk_S G m_X10_ring (d + 1) cb sb 62 [some (.ref r0), o1, o2, o3, o4, o5, some (.int x6)] [] h Q) : hk_S G m_X10_ring (d + 1) cb sb 53 [some (.ref r0), o1, o2, o3, o4, o5, some (.int x6)] [] h Q := by
  refine hs_iload dX10_ring_53 rfl ?_
  refine hs_aload_n dX10_ring_55 rfl ?_
  refine hs_get dX10_ring_56 fl_X10_97_10 hg2 hv4 ?_
  exact hs_icmp_ge dX10_ring_59 (by decide) kt kf
theorem b_X10_ring_62 {G : hk_G} {d cb sb : Nat} {h : hk_H} {Q : hk_O → hk_H → Prop} {x5 : Int32} {x4 : Int32} {o0 : Option Value} {o1 : Option Value} {o2 : Option Value} {o3 : Option Value} {o6 : Option Value} (kt : x5 = x4 → hk_S G m_X10_ring (d + 1) cb sb 84 [o0, o1, o2, o3, some (.int x4), some (.int x5), o6] [] h Q) (kf : ¬ x5 = x4 → hk_S G m_X10_ring (d + 1) cb sb 69 [o0, o1, o2, o3, some (.int x4), some (.int x5), o6] [] h Q) : hk_S G m_X10_ring (d + 1) cb sb 62 [o0, o1, o2, o3, some (.int x4), some (.int x5), o6] [] h Q := by
  refine hs_iload dX10_ring_62 rfl ?_
  refine hs_iload dX10_ring_64 rfl ?_
  exact hs_icmp_eq dX10_ring_66 (by decide) kt kf
theorem b_X10_ring_69 {G : hk_G} {d cb sb : Nat} {h : hk_H} {Q : hk_O → hk_H → Prop} {r0 : Nat} {x5 : Int32} {x1 : Int32} {fs_ : List Value} {o2 : Option Value} {o3 : Option Value} {o4 : Option Value} {o6 : Option Value} (hrec : h.2 r0 = some (.inr (10, fs_))) (hc : hk_Ci G m_X10_best d 0 0 [.ref r0, .int x5, .int x1] h (fun z h' => hk_S G m_X10_ring (d + 1) cb sb 76 [some (.ref r0), some (.int x1), o2, o3, o4, some (.int x5), o6] [.int z] h' Q)) : hk_S G m_X10_ring (d + 1) cb sb 69 [some (.ref r0), some (.int x1), o2, o3, o4, some (.int x5), o6] [] h Q := by
  refine hs_aload_n dX10_ring_69 rfl ?_
  refine hs_iload dX10_ring_70 rfl ?_
  refine hs_iload_n dX10_ring_72 rfl ?_
  exact hk_z0 (hs_vir (M' := m_X10_best) (vs := [.int x5, .int x1]) (c1 := 0) (s1 := 0) dX10_ring_73 wd_1409 vi_X10_best hrec rfl (Nat.le_of_ble_eq_true rfl) hc hq_i (hc_i (fun z h9 k9 => k9)))
theorem b_X10_ring_76 {G : hk_G} {d cb sb : Nat} {h : hk_H} {Q : hk_O → hk_H → Prop} {s0 : Int32} {x6 : Int32} {o0 : Option Value} {o1 : Option Value} {o2 : Option Value} {o3 : Option Value} {o4 : Option Value} {o5 : Option Value} (k : hk_S G m_X10_ring (d + 1) cb sb 53 [o0, o1, o2, o3, o4, some (.int s0), some (.int (x6 + 1))] [] h Q) (ho4 : hk_c1 o4 := by first | exact hk_c1i | exact hk_c1r | exact hk_c10 | exact hk_c1n) : hk_S G m_X10_ring (d + 1) cb sb 76 [o0, o1, o2, o3, o4, o5, some (.int x6)] [.int s0] h Q := by
  refine hs_istK dX10_ring_76 (by decide) (hk_nk1 rfl ho4) rfl ?_
  refine hs_iincK (v := 1) dX10_ring_78 rfl (by decide) (by decide) (hk_nk1 rfl hk_c1i) rfl ?_
  refine hs_goto dX10_ring_81 (tgt := 53) (by decide) ?_
  exact k
theorem b_X10_ring_84 {G : hk_G} {d cb sb : Nat} {h : hk_H} {Q : hk_O → hk_H → Prop} {x5 : Int32} {x4 : Int32} {o0 : Option Value} {o1 : Option Value} {o2 : Option Value} {o3 : Option Value} {o6 : Option Value} (kt : x5 = x4 → hk_S G m_X10_ring (d + 1) cb sb 94 [o0, o1, o2, o3, some (.int x4), some (.int x5), o6] [] h Q) (kf : ¬ x5 = x4 → hk_S G m_X10_ring (d + 1) cb sb 91 [o0, o1, o2, o3, some (.int x4), some (.int x5), o6] [] h Q) : hk_S G m_X10_ring (d + 1) cb sb 84 [o0, o1, o2, o3, some (.int x4), some (.int x5), o6] [] h Q := by
  refine hs_iload dX10_ring_84 rfl ?_
  refine hs_iload dX10_ring_86 rfl ?_
  exact hs_icmp_eq dX10_ring_88 (by decide) kt kf
theorem b_X10_ring_91 {G : hk_G} {d cb sb : Nat} {h : hk_H} {Q : hk_O → hk_H → Prop} {x4 : Int32} {o0 : Option Value} {o1 : Option Value} {o2 : Option Value} {o3 : Option Value} {o5 : Option Value} {o6 : Option Value} (k : hk_S G m_X10_ring (d + 1) cb sb 20 [o0, o1, o2, o3, some (.int (x4 + 1)), o5, o6] [] h Q) (ho3 : hk_c1 o3 := by first | exact hk_c1i | exact hk_c1r | exact hk_c10 | exact hk_c1n) : hk_S G m_X10_ring (d + 1) cb sb 91 [o0, o1, o2, o3, some (.int x4), o5, o6] [] h Q := by
  refine hs_goto dX10_ring_91 (tgt := 123) (by decide) ?_
  refine hs_iincK (v := 1) dX10_ring_123 rfl (by decide) (by decide) (hk_nk1 rfl ho3) rfl ?_
  refine hs_goto dX10_ring_126 (tgt := 20) (by decide) ?_
  exact k
theorem b_X10_ring_94 {G : hk_G} {d cb sb : Nat} {h : hk_H} {Q : hk_O → hk_H → Prop} {x3 : Int32} {x4 : Int32} {r0 : Nat} {fs1 : List Value} {v3 : Nat} {x1 : Int32} {o2 : Option Value} {o5 : Option Value} {o6 : Option Value} (hg2 : h.2 r0 = some (.inr (10, fs1))) (hv4 : fs1[20]? = some (.ref v3)) (hc : hk_Ci G m_X10_best d 0 0 [.ref r0, .int x4, .int x1] h (fun z h' => hk_S G m_X10_ring (d + 1) cb sb 114 [some (.ref r0), some (.int x1), o2, some (.int (x3 ||| (1 <<< (x4 &&& 31)))), some (.int x4), o5, o6] [.int z, .int x4, .ref v3] h' Q)) (ho2 : hk_c1 o2 := by first | exact hk_c1i | exact hk_c1r | exact hk_c10 | exact hk_c1n) : hk_S G m_X10_ring (d + 1) cb sb 94 [some (.ref r0), some (.int x1), o2, some (.int x3), some (.int x4), o5, o6] [] h Q := by
  refine hs_iload_n dX10_ring_94 rfl ?_
  refine hs_iconst (v := 1) dX10_ring_95 (by decide) ?_
  refine hs_iload dX10_ring_96 rfl ?_
  refine hs_ishl dX10_ring_98 ?_
  refine hs_ior dX10_ring_99 ?_
  refine hs_istK_n dX10_ring_100 (by decide) (hk_nk1 rfl ho2) rfl ?_
  refine hs_aload_n dX10_ring_101 rfl ?_
  refine hs_get dX10_ring_102 fl_X10_54_10 hg2 hv4 ?_
  refine hs_iload dX10_ring_105 rfl ?_
  refine hs_aload_n dX10_ring_107 rfl ?_
  refine hs_iload dX10_ring_108 rfl ?_
  refine hs_iload_n dX10_ring_110 rfl ?_
  exact hk_z0 (hs_vir (M' := m_X10_best) (vs := [.int x4, .int x1]) (c1 := 0) (s1 := 0) dX10_ring_111 wd_1409 vi_X10_best hg2 rfl (Nat.le_of_ble_eq_true rfl) hc hq_i (hc_i (fun z h9 k9 => k9)))
theorem b_X10_ring_114 {G : hk_G} {d cb sb : Nat} {h : hk_H} {Q : hk_O → hk_H → Prop} {s0 : Nat} {s1 : Int32} {s2 : Int32} {n1 : Nat} {f2 : Nat → Int32} {h_1 : hk_H} {r0 : Nat} {fs7 : List Value} {v9 : Nat} {x4 : Int32} {x2 : Int32} {n11 : Nat} {f12 : Nat → Int32} {h_2 : hk_H} {o1 : Option Value} {o3 : Option Value} {o5 : Option Value} {o6 : Option Value} (ha3 : h.2 s0 = some (.inl (0, n1, .inl f2))) (h4_s0 : 4 ≤ s0) (j4 : Nat) (hi5 : (s1 : Int32).toInt = (j4 : Int)) (hj6 : j4 < n1) (e_1 : (hk_set h s0 (.inl (0, n1, .inl (upd f2 j4 s2)))) = h_1) (hg8 : h_1.2 r0 = some (.inr (10, fs7))) (hv10 : fs7[22]? = some (.ref v9)) (ha13 : h_1.2 v9 = some (.inl (0, n11, .inl f12))) (h4_v9 : 4 ≤ v9) (j14 : Nat) (hi15 : (x4 : Int32).toInt = (j14 : Int)) (hj16 : j14 < n11) (e_2 : (hk_set h_1 v9 (.inl (0, n11, .inl (upd f12 j14 x2)))) = h_2) (k : hk_S G m_X10_ring (d + 1) cb sb 20 [some (.ref r0), o1, some (.int x2), o3, some (.int (x4 + 1)), o5, o6] [] h_2 Q) (ho3 : hk_c1 o3 := by first | exact hk_c1i | exact hk_c1r | exact hk_c10 | exact hk_c1n) : hk_S G m_X10_ring (d + 1) cb sb 114 [some (.ref r0), o1, some (.int x2), o3, some (.int x4), o5, o6] [.int s2, .int s1, .ref s0] h Q := by
  subst e_1
  subst e_2
  refine hs_iast j4 dX10_ring_114 ha3 h4_s0 hi5 hj6 ?_
  refine hs_aload_n dX10_ring_115 rfl ?_
  refine hs_get dX10_ring_116 fl_X10_60_10 hg8 hv10 ?_
  refine hs_iload dX10_ring_119 rfl ?_
  refine hs_iload_n dX10_ring_121 rfl ?_
  refine hs_iast j14 dX10_ring_122 ha13 h4_v9 hi15 hj16 ?_
  refine hs_iincK (v := 1) dX10_ring_123 rfl (by decide) (by decide) (hk_nk1 rfl ho3) rfl ?_
  refine hs_goto dX10_ring_126 (tgt := 20) (by decide) ?_
  exact k
theorem b_X10_ring_123 {G : hk_G} {d cb sb : Nat} {h : hk_H} {Q : hk_O → hk_H → Prop} {x4 : Int32} {o0 : Option Value} {o1 : Option Value} {o2 : Option Value} {o3 : Option Value} {o5 : Option Value} {o6 : Option Value} (k : hk_S G m_X10_ring (d + 1) cb sb 20 [o0, o1, o2, o3, some (.int (x4 + 1)), o5, o6] [] h Q) (ho3 : hk_c1 o3 := by first | exact hk_c1i | exact hk_c1r | exact hk_c10 | exact hk_c1n) : hk_S G m_X10_ring (d + 1) cb sb 123 [o0, o1, o2, o3, some (.int x4), o5, o6] [] h Q := by
  refine hs_iincK (v := 1) dX10_ring_123 rfl (by decide) (by decide) (hk_nk1 rfl ho3) rfl ?_
  refine hs_goto dX10_ring_126 (tgt := 20) (by decide) ?_
  exact k
theorem b_X10_ring_129 {G : hk_G} {d cb sb : Nat} {h : hk_H} {Q : hk_O → hk_H → Prop} {x1 : Int32} {x3 : Int32} {x2 : Int32} {o0 : Option Value} {o4 : Option Value} {o5 : Option Value} {o6 : Option Value} (k : hk_S G m_X10_ring (d + 1) cb sb 11 [o0, some (.int (x1 &&& (x3 ^^^ ((-1))))), some (.int (x2 + 1)), some (.int x3), o4, o5, o6] [] h Q) (ho0 : hk_c1 o0 := by first | exact hk_c1i | exact hk_c1r | exact hk_c10 | exact hk_c1n) : hk_S G m_X10_ring (d + 1) cb sb 129 [o0, some (.int x1), some (.int x2), some (.int x3), o4, o5, o6] [] h Q := by
  refine hs_iload_n dX10_ring_129 rfl ?_
  refine hs_iload_n dX10_ring_130 rfl ?_
  refine hs_iconst (v := (-1)) dX10_ring_131 (by decide) ?_
  refine hs_ixor dX10_ring_132 ?_
  refine hs_iand dX10_ring_133 ?_
  refine hs_istK_n dX10_ring_134 (by decide) (hk_nk1 rfl ho0) rfl ?_
  refine hs_iincK (v := 1) dX10_ring_135 rfl (by decide) (by decide) (hk_nk1 rfl hk_c1i) rfl ?_
  refine hs_goto dX10_ring_138 (tgt := 11) (by decide) ?_
  exact k
theorem b_X10_ring_141 {G : hk_G} {d cb sb : Nat} {h : hk_H} {Q : hk_O → hk_H → Prop} {o0 : Option Value} {o1 : Option Value} {o2 : Option Value} {o3 : Option Value} {o4 : Option Value} {o5 : Option Value} {o6 : Option Value} (hq : Q (.inl none) h) : hk_S G m_X10_ring (d + 1) cb sb 141 [o0, o1, o2, o3, o4, o5, o6] [] h Q := by
  exact hs_vret dX10_ring_141 rfl hq
-- HonestHouseModel.rings()I
theorem b_X10_rings_0 {G : hk_G} {d cb sb : Nat} {h : hk_H} {Q : hk_O → hk_H → Prop} {r0 : Nat} {fs_ : List Value} (hrec : h.2 r0 = some (.inr (10, fs_))) (hc : hk_Cv G m_X10_ring d 0 0 [.ref r0] h (fun h' => hk_S G m_X10_rings (d + 1) cb sb 4 [some (.ref r0)] [] h' Q)) : hk_S G m_X10_rings (d + 1) cb sb 0 [some (.ref r0)] [] h Q := by
  refine hs_aload_n dX10_rings_0 rfl ?_
  exact hk_z0 (hs_vir (M' := m_X10_ring) (vs := []) (c1 := 0) (s1 := 0) dX10_rings_1 wd_1405 vi_X10_ring hrec rfl (Nat.le_of_ble_eq_true rfl) hc hq_v (hc_v (fun h9 k9 => k9)))
theorem b_X10_rings_4 {G : hk_G} {d cb sb : Nat} {h : hk_H} {Q : hk_O → hk_H → Prop} {r0 : Nat} {fs1 : List Value} {v3 : Nat} (hg2 : h.2 r0 = some (.inr (10, fs1))) (hv4 : fs1[20]? = some (.ref v3)) (hc : hk_Ci G m_X10_code d 0 0 [.ref r0, .ref v3] h (fun z h' => hk_S G m_X10_rings (d + 1) cb sb 12 [some (.ref r0)] [.int z] h' Q)) : hk_S G m_X10_rings (d + 1) cb sb 4 [some (.ref r0)] [] h Q := by
  refine hs_aload_n dX10_rings_4 rfl ?_
  refine hs_aload_n dX10_rings_5 rfl ?_
  refine hs_get dX10_rings_6 fl_X10_54_10 hg2 hv4 ?_
  exact hk_z0 (hs_vir (M' := m_X10_code) (vs := [.ref v3]) (c1 := 0) (s1 := 0) dX10_rings_9 wd_1413 vi_X10_code hg2 rfl (Nat.le_of_ble_eq_true rfl) hc hq_i (hc_i (fun z h9 k9 => k9)))
theorem b_X10_rings_12 {G : hk_G} {d cb sb : Nat} {h : hk_H} {Q : hk_O → hk_H → Prop} {s0 : Int32} {o0 : Option Value} (hq : Q (.inl (some (.int s0))) h) : hk_S G m_X10_rings (d + 1) cb sb 12 [o0] [.int s0] h Q := by
  exact hs_iret dX10_rings_12 rfl hq
-- HonestHouseModel.leaves(I)I
theorem b_X10_leaves_0 {G : hk_G} {d cb sb : Nat} {h : hk_H} {Q : hk_O → hk_H → Prop} {x1 : Int32} {r0 : Nat} {fs1 : List Value} {v3 : Int32} (hg2 : h.2 r0 = some (.inr (10, fs1))) (hv4 : fs1[0]? = some (.int v3)) (hc : hk_Ci G m_X10_isIn d 0 0 [.int x1, .int v3] h (fun z h' => hk_S G m_X10_leaves (d + 1) cb sb 8 [some (.ref r0), some (.int x1)] [.int z] h' Q)) : hk_S G m_X10_leaves (d + 1) cb sb 0 [some (.ref r0), some (.int x1)] [] h Q := by
  refine hs_iload_n dX10_leaves_0 rfl ?_
  refine hs_aload_n dX10_leaves_1 rfl ?_
  refine hs_get dX10_leaves_2 fl_X10_97_10 hg2 hv4 ?_
  exact hk_z0 (hs_sta (M' := m_X10_isIn) (vs := [.int x1, .int v3]) (c1 := 0) (s1 := 0) dX10_leaves_5 wd_1226 st_X10_isIn rfl (Nat.le_of_ble_eq_true rfl) hc hq_i (hc_i (fun z h9 k9 => k9)))
theorem b_X10_leaves_8 {G : hk_G} {d cb sb : Nat} {h : hk_H} {Q : hk_O → hk_H → Prop} {s0 : Int32} {o0 : Option Value} {o1 : Option Value} (kt : ¬ s0 = 0 → hk_S G m_X10_leaves (d + 1) cb sb 13 [o0, o1] [] h Q) (kf : s0 = 0 → hk_S G m_X10_leaves (d + 1) cb sb 11 [o0, o1] [] h Q) : hk_S G m_X10_leaves (d + 1) cb sb 8 [o0, o1] [.int s0] h Q := by
  exact hs_if_ne dX10_leaves_8 (by decide) kt kf
theorem b_X10_leaves_11 {G : hk_G} {d cb sb : Nat} {h : hk_H} {Q : hk_O → hk_H → Prop} {o0 : Option Value} {o1 : Option Value} (hq : Q (.inl (some (.int ((-1))))) h) : hk_S G m_X10_leaves (d + 1) cb sb 11 [o0, o1] [] h Q := by
  refine hs_iconst (v := (-1)) dX10_leaves_11 (by decide) ?_
  exact hs_iret dX10_leaves_12 rfl hq
theorem b_X10_leaves_13 {G : hk_G} {d cb sb : Nat} {h : hk_H} {Q : hk_O → hk_H → Prop} {r0 : Nat} {fs_ : List Value} {o1 : Option Value} (hrec : h.2 r0 = some (.inr (10, fs_))) (hc : hk_Cv G m_X10_ring d 0 0 [.ref r0] h (fun h' => hk_S G m_X10_leaves (d + 1) cb sb 17 [some (.ref r0), o1] [] h' Q)) : hk_S G m_X10_leaves (d + 1) cb sb 13 [some (.ref r0), o1] [] h Q := by
  refine hs_aload_n dX10_leaves_13 rfl ?_
  exact hk_z0 (hs_vir (M' := m_X10_ring) (vs := []) (c1 := 0) (s1 := 0) dX10_leaves_14 wd_1405 vi_X10_ring hrec rfl (Nat.le_of_ble_eq_true rfl) hc hq_v (hc_v (fun h9 k9 => k9)))
theorem b_X10_leaves_17 {G : hk_G} {d cb sb : Nat} {h : hk_H} {Q : hk_O → hk_H → Prop} {r0 : Nat} {fs1 : List Value} {v3 : Nat} {x1 : Int32} {n5 : Nat} {f6 : Nat → Int32} (hg2 : h.2 r0 = some (.inr (10, fs1))) (hv4 : fs1[22]? = some (.ref v3)) (ha7 : h.2 v3 = some (.inl (0, n5, .inl f6))) (j8 : Nat) (hi9 : (x1 : Int32).toInt = (j8 : Int)) (hj10 : j8 < n5) (hq : Q (.inl (some (.int (f6 j8)))) h) : hk_S G m_X10_leaves (d + 1) cb sb 17 [some (.ref r0), some (.int x1)] [] h Q := by
  refine hs_aload_n dX10_leaves_17 rfl ?_
  refine hs_get dX10_leaves_18 fl_X10_60_10 hg2 hv4 ?_
  refine hs_iload_n dX10_leaves_21 rfl ?_
  refine hs_iald j8 dX10_leaves_22 ha7 hi9 hj10 ?_
  exact hs_iret dX10_leaves_23 rfl hq
-- HonestHouseModel.turn()V
theorem b_X10_turn_0 {G : hk_G} {d cb sb : Nat} {h : hk_H} {Q : hk_O → hk_H → Prop} {r0 : Nat} {fs1 : List Value} {v3 : Int32} {o1 : Option Value} {o2 : Option Value} (hg2 : h.2 r0 = some (.inr (10, fs1))) (hv4 : fs1[0]? = some (.int v3)) (k : hk_S G m_X10_turn (d + 1) cb sb 11 [some (.ref r0), some (.int ((1 <<< (v3 &&& 31)) - 1)), some (.int 0)] [] h Q) : hk_S G m_X10_turn (d + 1) cb sb 0 [some (.ref r0), o1, o2] [] h Q := by
  refine hs_iconst (v := 1) dX10_turn_0 (by decide) ?_
  refine hs_aload_n dX10_turn_1 rfl ?_
  refine hs_get dX10_turn_2 fl_X10_97_10 hg2 hv4 ?_
  refine hs_ishl dX10_turn_5 ?_
  refine hs_iconst (v := 1) dX10_turn_6 (by decide) ?_
  refine hs_isub dX10_turn_7 ?_
  refine hs_istK_n dX10_turn_8 (by decide) (hk_nk1 rfl hk_c1r) rfl ?_
  refine hs_iconst (v := 0) dX10_turn_9 (by decide) ?_
  refine hs_istK_n dX10_turn_10 (by decide) (hk_nk1 rfl hk_c1i) rfl ?_
  exact k
theorem b_X10_turn_11 {G : hk_G} {d cb sb : Nat} {h : hk_H} {Q : hk_O → hk_H → Prop} {x2 : Int32} {r0 : Nat} {fs1 : List Value} {v3 : Int32} {o1 : Option Value} (hg2 : h.2 r0 = some (.inr (10, fs1))) (hv4 : fs1[0]? = some (.int v3)) (kt : v3 ≤ x2 → hk_S G m_X10_turn (d + 1) cb sb 65 [some (.ref r0), o1, some (.int x2)] [] h Q) (kf : ¬ v3 ≤ x2 → hk_S G m_X10_turn (d + 1) cb sb 19 [some (.ref r0), o1, some (.int x2)] [] h Q) : hk_S G m_X10_turn (d + 1) cb sb 11 [some (.ref r0), o1, some (.int x2)] [] h Q := by
  refine hs_iload_n dX10_turn_11 rfl ?_
  refine hs_aload_n dX10_turn_12 rfl ?_
  refine hs_get dX10_turn_13 fl_X10_97_10 hg2 hv4 ?_
  exact hs_icmp_ge dX10_turn_16 (by decide) kt kf
theorem b_X10_turn_19 {G : hk_G} {d cb sb : Nat} {h : hk_H} {Q : hk_O → hk_H → Prop} {r0 : Nat} {fs1 : List Value} {v3 : Nat} {v5 : Nat} {x2 : Int32} {n7 : Nat} {f8 : Nat → Int32} {x1 : Int32} (hg2 : h.2 r0 = some (.inr (10, fs1))) (hv4 : fs1[20]? = some (.ref v3)) (hv6 : fs1[23]? = some (.ref v5)) (ha9 : h.2 v5 = some (.inl (0, n7, .inl f8))) (j10 : Nat) (hi11 : (x2 : Int32).toInt = (j10 : Int)) (hj12 : j10 < n7) (hc : hk_Ci G m_X10_best d 0 0 [.ref r0, .int (f8 j10), .int x1] h (fun z h' => hk_S G m_X10_turn (d + 1) cb sb 40 [some (.ref r0), some (.int x1), some (.int x2)] [.int z, .int (f8 j10), .ref v3] h' Q)) : hk_S G m_X10_turn (d + 1) cb sb 19 [some (.ref r0), some (.int x1), some (.int x2)] [] h Q := by
  refine hs_aload_n dX10_turn_19 rfl ?_
  refine hs_get dX10_turn_20 fl_X10_54_10 hg2 hv4 ?_
  refine hs_aload_n dX10_turn_23 rfl ?_
  refine hs_get dX10_turn_24 fl_X10_63_10 hg2 hv6 ?_
  refine hs_iload_n dX10_turn_27 rfl ?_
  refine hs_iald j10 dX10_turn_28 ha9 hi11 hj12 ?_
  refine hs_aload_n dX10_turn_29 rfl ?_
  refine hs_aload_n dX10_turn_30 rfl ?_
  refine hs_get dX10_turn_31 fl_X10_63_10 hg2 hv6 ?_
  refine hs_iload_n dX10_turn_34 rfl ?_
  refine hs_iald j10 dX10_turn_35 ha9 hi11 hj12 ?_
  refine hs_iload_n dX10_turn_36 rfl ?_
  exact hk_z0 (hs_vir (M' := m_X10_best) (vs := [.int (f8 j10), .int x1]) (c1 := 0) (s1 := 0) dX10_turn_37 wd_1409 vi_X10_best hg2 rfl (Nat.le_of_ble_eq_true rfl) hc hq_i (hc_i (fun z h9 k9 => k9)))
theorem b_X10_turn_40 {G : hk_G} {d cb sb : Nat} {h : hk_H} {Q : hk_O → hk_H → Prop} {s0 : Nat} {s1 : Int32} {s2 : Int32} {n1 : Nat} {f2 : Nat → Int32} {h_1 : hk_H} {x1 : Int32} {r0 : Nat} {fs7 : List Value} {v9 : Nat} {v11 : Nat} {x2 : Int32} {n13 : Nat} {f14 : Nat → Int32} {n19 : Nat} {f20 : Nat → Int32} (ha3 : h.2 s0 = some (.inl (0, n1, .inl f2))) (h4_s0 : 4 ≤ s0) (j4 : Nat) (hi5 : (s1 : Int32).toInt = (j4 : Int)) (hj6 : j4 < n1) (e_1 : (hk_set h s0 (.inl (0, n1, .inl (upd f2 j4 s2)))) = h_1) (hg8 : h_1.2 r0 = some (.inr (10, fs7))) (hv10 : fs7[20]? = some (.ref v9)) (hv12 : fs7[23]? = some (.ref v11)) (ha15 : h_1.2 v11 = some (.inl (0, n13, .inl f14))) (j16 : Nat) (hi17 : (x2 : Int32).toInt = (j16 : Int)) (hj18 : j16 < n13) (ha21 : h_1.2 v9 = some (.inl (0, n19, .inl f20))) (j22 : Nat) (hi23 : (f14 j16 : Int32).toInt = (j22 : Int)) (hj24 : j22 < n19) (k : hk_S G m_X10_turn (d + 1) cb sb 11 [some (.ref r0), some (.int (x1 &&& ((1 <<< ((f20 j22) &&& 31)) ^^^ ((-1))))), some (.int (x2 + 1))] [] h_1 Q) : hk_S G m_X10_turn (d + 1) cb sb 40 [some (.ref r0), some (.int x1), some (.int x2)] [.int s2, .int s1, .ref s0] h Q := by
  subst e_1
  refine hs_iast j4 dX10_turn_40 ha3 h4_s0 hi5 hj6 ?_
  refine hs_iload_n dX10_turn_41 rfl ?_
  refine hs_iconst (v := 1) dX10_turn_42 (by decide) ?_
  refine hs_aload_n dX10_turn_43 rfl ?_
  refine hs_get dX10_turn_44 fl_X10_54_10 hg8 hv10 ?_
  refine hs_aload_n dX10_turn_47 rfl ?_
  refine hs_get dX10_turn_48 fl_X10_63_10 hg8 hv12 ?_
  refine hs_iload_n dX10_turn_51 rfl ?_
  refine hs_iald j16 dX10_turn_52 ha15 hi17 hj18 ?_
  refine hs_iald j22 dX10_turn_53 ha21 hi23 hj24 ?_
  refine hs_ishl dX10_turn_54 ?_
  refine hs_iconst (v := (-1)) dX10_turn_55 (by decide) ?_
  refine hs_ixor dX10_turn_56 ?_
  refine hs_iand dX10_turn_57 ?_
  refine hs_istK_n dX10_turn_58 (by decide) (hk_nk1 rfl hk_c1r) rfl ?_
  refine hs_iincK (v := 1) dX10_turn_59 rfl (by decide) (by decide) (hk_nk1 rfl hk_c1i) rfl ?_
  refine hs_goto dX10_turn_62 (tgt := 11) (by decide) ?_
  exact k
theorem b_X10_turn_65 {G : hk_G} {d cb sb : Nat} {h : hk_H} {Q : hk_O → hk_H → Prop} {o0 : Option Value} {o1 : Option Value} {o2 : Option Value} (hq : Q (.inl none) h) : hk_S G m_X10_turn (d + 1) cb sb 65 [o0, o1, o2] [] h Q := by
  exact hs_vret dX10_turn_65 rfl hq
-- HonestHouseModel.turns(I)I
theorem b_X10_turns_0 {G : hk_G} {d cb sb : Nat} {h : hk_H} {Q : hk_O → hk_H → Prop} {r0 : Nat} {x1 : Int32} {fs1 : List Value} {v3 : Nat} (hg2 : h.2 r0 = some (.inr (10, fs1))) (hv4 : fs1[23]? = some (.ref v3)) (hc : hk_Ci G m_X10_digits d 0 0 [.ref r0, .int x1, .ref v3] h (fun z h' => hk_S G m_X10_turns (d + 1) cb sb 9 [some (.ref r0), some (.int x1)] [.int z] h' Q)) : hk_S G m_X10_turns (d + 1) cb sb 0 [some (.ref r0), some (.int x1)] [] h Q := by
  refine hs_aload_n dX10_turns_0 rfl ?_
  refine hs_iload_n dX10_turns_1 rfl ?_
  refine hs_aload_n dX10_turns_2 rfl ?_
  refine hs_get dX10_turns_3 fl_X10_63_10 hg2 hv4 ?_
  exact hk_z0 (hs_vir (M' := m_X10_digits) (vs := [.int x1, .ref v3]) (c1 := 0) (s1 := 0) dX10_turns_6 wd_1397 vi_X10_digits hg2 rfl (Nat.le_of_ble_eq_true rfl) hc hq_i (hc_i (fun z h9 k9 => k9)))
theorem b_X10_turns_9 {G : hk_G} {d cb sb : Nat} {h : hk_H} {Q : hk_O → hk_H → Prop} {s0 : Int32} {o0 : Option Value} {o1 : Option Value} (kt : ¬ s0 = 0 → hk_S G m_X10_turns (d + 1) cb sb 14 [o0, o1] [] h Q) (kf : s0 = 0 → hk_S G m_X10_turns (d + 1) cb sb 12 [o0, o1] [] h Q) : hk_S G m_X10_turns (d + 1) cb sb 9 [o0, o1] [.int s0] h Q := by
  exact hs_if_ne dX10_turns_9 (by decide) kt kf
theorem b_X10_turns_12 {G : hk_G} {d cb sb : Nat} {h : hk_H} {Q : hk_O → hk_H → Prop} {o0 : Option Value} {o1 : Option Value} (hq : Q (.inl (some (.int ((-1))))) h) : hk_S G m_X10_turns (d + 1) cb sb 12 [o0, o1] [] h Q := by
  refine hs_iconst (v := (-1)) dX10_turns_12 (by decide) ?_
  exact hs_iret dX10_turns_13 rfl hq
theorem b_X10_turns_14 {G : hk_G} {d cb sb : Nat} {h : hk_H} {Q : hk_O → hk_H → Prop} {r0 : Nat} {fs_ : List Value} {o1 : Option Value} (hrec : h.2 r0 = some (.inr (10, fs_))) (hc : hk_Cv G m_X10_turn d 0 0 [.ref r0] h (fun h' => hk_S G m_X10_turns (d + 1) cb sb 18 [some (.ref r0), o1] [] h' Q)) : hk_S G m_X10_turns (d + 1) cb sb 14 [some (.ref r0), o1] [] h Q := by
  refine hs_aload_n dX10_turns_14 rfl ?_
  exact hk_z0 (hs_vir (M' := m_X10_turn) (vs := []) (c1 := 0) (s1 := 0) dX10_turns_15 wd_1425 vi_X10_turn hrec rfl (Nat.le_of_ble_eq_true rfl) hc hq_v (hc_v (fun h9 k9 => k9)))
theorem b_X10_turns_18 {G : hk_G} {d cb sb : Nat} {h : hk_H} {Q : hk_O → hk_H → Prop} {r0 : Nat} {fs1 : List Value} {v3 : Nat} {o1 : Option Value} (hg2 : h.2 r0 = some (.inr (10, fs1))) (hv4 : fs1[20]? = some (.ref v3)) (hc : hk_Ci G m_X10_code d 0 0 [.ref r0, .ref v3] h (fun z h' => hk_S G m_X10_turns (d + 1) cb sb 26 [some (.ref r0), o1] [.int z] h' Q)) : hk_S G m_X10_turns (d + 1) cb sb 18 [some (.ref r0), o1] [] h Q := by
  refine hs_aload_n dX10_turns_18 rfl ?_
  refine hs_aload_n dX10_turns_19 rfl ?_
  refine hs_get dX10_turns_20 fl_X10_54_10 hg2 hv4 ?_
  exact hk_z0 (hs_vir (M' := m_X10_code) (vs := [.ref v3]) (c1 := 0) (s1 := 0) dX10_turns_23 wd_1413 vi_X10_code hg2 rfl (Nat.le_of_ble_eq_true rfl) hc hq_i (hc_i (fun z h9 k9 => k9)))
theorem b_X10_turns_26 {G : hk_G} {d cb sb : Nat} {h : hk_H} {Q : hk_O → hk_H → Prop} {s0 : Int32} {o0 : Option Value} {o1 : Option Value} (hq : Q (.inl (some (.int s0))) h) : hk_S G m_X10_turns (d + 1) cb sb 26 [o0, o1] [.int s0] h Q := by
  exact hs_iret dX10_turns_26 rfl hq
-- HonestHouseModel.isBetter(I[I[I)Z
theorem b_X10_isBetter_0 {G : hk_G} {d cb sb : Nat} {h : hk_H} {Q : hk_O → hk_H → Prop} {o0 : Option Value} {o1 : Option Value} {o2 : Option Value} {o3 : Option Value} {o4 : Option Value} {o5 : Option Value} (k : hk_S G m_X10_isBetter (d + 1) cb sb 6 [o0, o1, o2, o3, some (.int 0), some (.int 0)] [] h Q) (ho3 : hk_c1 o3 := by first | exact hk_c1i | exact hk_c1r | exact hk_c10 | exact hk_c1n) : hk_S G m_X10_isBetter (d + 1) cb sb 0 [o0, o1, o2, o3, o4, o5] [] h Q := by
  refine hs_iconst (v := 0) dX10_isBetter_0 (by decide) ?_
  refine hs_istK dX10_isBetter_1 (by decide) (hk_nk1 rfl ho3) rfl ?_
  refine hs_iconst (v := 0) dX10_isBetter_3 (by decide) ?_
  refine hs_istK dX10_isBetter_4 (by decide) (hk_nk1 rfl hk_c1i) rfl ?_
  exact k
theorem b_X10_isBetter_6 {G : hk_G} {d cb sb : Nat} {h : hk_H} {Q : hk_O → hk_H → Prop} {x5 : Int32} {r0 : Nat} {fs1 : List Value} {v3 : Int32} {o1 : Option Value} {o2 : Option Value} {o3 : Option Value} {o4 : Option Value} (hg2 : h.2 r0 = some (.inr (10, fs1))) (hv4 : fs1[0]? = some (.int v3)) (kt : v3 ≤ x5 → hk_S G m_X10_isBetter (d + 1) cb sb 104 [some (.ref r0), o1, o2, o3, o4, some (.int x5)] [] h Q) (kf : ¬ v3 ≤ x5 → hk_S G m_X10_isBetter (d + 1) cb sb 15 [some (.ref r0), o1, o2, o3, o4, some (.int x5)] [] h Q) : hk_S G m_X10_isBetter (d + 1) cb sb 6 [some (.ref r0), o1, o2, o3, o4, some (.int x5)] [] h Q := by
  refine hs_iload dX10_isBetter_6 rfl ?_
  refine hs_aload_n dX10_isBetter_8 rfl ?_
  refine hs_get dX10_isBetter_9 fl_X10_97_10 hg2 hv4 ?_
  exact hs_icmp_ge dX10_isBetter_12 (by decide) kt kf
theorem b_X10_isBetter_15 {G : hk_G} {d cb sb : Nat} {h : hk_H} {Q : hk_O → hk_H → Prop} {x1 : Int32} {x5 : Int32} {o0 : Option Value} {o2 : Option Value} {o3 : Option Value} {o4 : Option Value} (kt : ¬ ((x1 >>> (x5 &&& 31)) &&& 1) = 0 → hk_S G m_X10_isBetter (d + 1) cb sb 27 [o0, some (.int x1), o2, o3, o4, some (.int x5)] [] h Q) (kf : ((x1 >>> (x5 &&& 31)) &&& 1) = 0 → hk_S G m_X10_isBetter (d + 1) cb sb 24 [o0, some (.int x1), o2, o3, o4, some (.int x5)] [] h Q) : hk_S G m_X10_isBetter (d + 1) cb sb 15 [o0, some (.int x1), o2, o3, o4, some (.int x5)] [] h Q := by
  refine hs_iload_n dX10_isBetter_15 rfl ?_
  refine hs_iload dX10_isBetter_16 rfl ?_
  refine hs_ishr dX10_isBetter_18 ?_
  refine hs_iconst (v := 1) dX10_isBetter_19 (by decide) ?_
  refine hs_iand dX10_isBetter_20 ?_
  exact hs_if_ne dX10_isBetter_21 (by decide) kt kf
theorem b_X10_isBetter_24 {G : hk_G} {d cb sb : Nat} {h : hk_H} {Q : hk_O → hk_H → Prop} {x5 : Int32} {o0 : Option Value} {o1 : Option Value} {o2 : Option Value} {o3 : Option Value} {o4 : Option Value} (k : hk_S G m_X10_isBetter (d + 1) cb sb 6 [o0, o1, o2, o3, o4, some (.int (x5 + 1))] [] h Q) (ho4 : hk_c1 o4 := by first | exact hk_c1i | exact hk_c1r | exact hk_c10 | exact hk_c1n) : hk_S G m_X10_isBetter (d + 1) cb sb 24 [o0, o1, o2, o3, o4, some (.int x5)] [] h Q := by
  refine hs_goto dX10_isBetter_24 (tgt := 98) (by decide) ?_
  refine hs_iincK (v := 1) dX10_isBetter_98 rfl (by decide) (by decide) (hk_nk1 rfl ho4) rfl ?_
  refine hs_goto dX10_isBetter_101 (tgt := 6) (by decide) ?_
  exact k
theorem b_X10_isBetter_27 {G : hk_G} {d cb sb : Nat} {h : hk_H} {Q : hk_O → hk_H → Prop} {x1 : Int32} {r3 : Nat} {x5 : Int32} {n1 : Nat} {f2 : Nat → Int32} {o0 : Option Value} {o2 : Option Value} {o4 : Option Value} (ha3 : h.2 r3 = some (.inl (0, n1, .inl f2))) (j4 : Nat) (hi5 : (x5 : Int32).toInt = (j4 : Int)) (hj6 : j4 < n1) (kt : ((x1 >>> ((f2 j4) &&& 31)) &&& 1) = 0 → hk_S G m_X10_isBetter (d + 1) cb sb 61 [o0, some (.int x1), o2, some (.ref r3), o4, some (.int x5)] [] h Q) (kf : ¬ ((x1 >>> ((f2 j4) &&& 31)) &&& 1) = 0 → hk_S G m_X10_isBetter (d + 1) cb sb 38 [o0, some (.int x1), o2, some (.ref r3), o4, some (.int x5)] [] h Q) : hk_S G m_X10_isBetter (d + 1) cb sb 27 [o0, some (.int x1), o2, some (.ref r3), o4, some (.int x5)] [] h Q := by
  refine hs_iload_n dX10_isBetter_27 rfl ?_
  refine hs_aload_n dX10_isBetter_28 rfl ?_
  refine hs_iload dX10_isBetter_29 rfl ?_
  refine hs_iald j4 dX10_isBetter_31 ha3 hi5 hj6 ?_
  refine hs_ishr dX10_isBetter_32 ?_
  refine hs_iconst (v := 1) dX10_isBetter_33 (by decide) ?_
  refine hs_iand dX10_isBetter_34 ?_
  exact hs_if_eq dX10_isBetter_35 (by decide) kt kf
theorem b_X10_isBetter_38 {G : hk_G} {d cb sb : Nat} {h : hk_H} {Q : hk_O → hk_H → Prop} {r0 : Nat} {x5 : Int32} {r3 : Nat} {n1 : Nat} {f2 : Nat → Int32} {fs_ : List Value} {o1 : Option Value} {o2 : Option Value} {o4 : Option Value} (ha3 : h.2 r3 = some (.inl (0, n1, .inl f2))) (j4 : Nat) (hi5 : (x5 : Int32).toInt = (j4 : Int)) (hj6 : j4 < n1) (hrec : h.2 r0 = some (.inr (10, fs_))) (hc : hk_Ci G m_X10_place d 0 0 [.ref r0, .int x5, .int (f2 j4)] h (fun z h' => hk_S G m_X10_isBetter (d + 1) cb sb 48 [some (.ref r0), o1, o2, some (.ref r3), o4, some (.int x5)] [.int z] h' Q)) : hk_S G m_X10_isBetter (d + 1) cb sb 38 [some (.ref r0), o1, o2, some (.ref r3), o4, some (.int x5)] [] h Q := by
  refine hs_aload_n dX10_isBetter_38 rfl ?_
  refine hs_iload dX10_isBetter_39 rfl ?_
  refine hs_aload_n dX10_isBetter_41 rfl ?_
  refine hs_iload dX10_isBetter_42 rfl ?_
  refine hs_iald j4 dX10_isBetter_44 ha3 hi5 hj6 ?_
  exact hk_z0 (hs_vir (M' := m_X10_place) (vs := [.int x5, .int (f2 j4)]) (c1 := 0) (s1 := 0) dX10_isBetter_45 wd_1449 vi_X10_place hrec rfl (Nat.le_of_ble_eq_true rfl) hc hq_i (hc_i (fun z h9 k9 => k9)))
theorem b_X10_isBetter_48 {G : hk_G} {d cb sb : Nat} {h : hk_H} {Q : hk_O → hk_H → Prop} {s0 : Int32} {r0 : Nat} {x5 : Int32} {r2 : Nat} {n1 : Nat} {f2 : Nat → Int32} {fs_ : List Value} {o1 : Option Value} {o3 : Option Value} {o4 : Option Value} (ha3 : h.2 r2 = some (.inl (0, n1, .inl f2))) (j4 : Nat) (hi5 : (x5 : Int32).toInt = (j4 : Int)) (hj6 : j4 < n1) (hrec : h.2 r0 = some (.inr (10, fs_))) (hc : hk_Ci G m_X10_place d 0 0 [.ref r0, .int x5, .int (f2 j4)] h (fun z h' => hk_S G m_X10_isBetter (d + 1) cb sb 58 [some (.ref r0), o1, some (.ref r2), o3, o4, some (.int x5)] [.int z, .int s0] h' Q)) : hk_S G m_X10_isBetter (d + 1) cb sb 48 [some (.ref r0), o1, some (.ref r2), o3, o4, some (.int x5)] [.int s0] h Q := by
  refine hs_aload_n dX10_isBetter_48 rfl ?_
  refine hs_iload dX10_isBetter_49 rfl ?_
  refine hs_aload_n dX10_isBetter_51 rfl ?_
  refine hs_iload dX10_isBetter_52 rfl ?_
  refine hs_iald j4 dX10_isBetter_54 ha3 hi5 hj6 ?_
  exact hk_z0 (hs_vir (M' := m_X10_place) (vs := [.int x5, .int (f2 j4)]) (c1 := 0) (s1 := 0) dX10_isBetter_55 wd_1449 vi_X10_place hrec rfl (Nat.le_of_ble_eq_true rfl) hc hq_i (hc_i (fun z h9 k9 => k9)))
theorem b_X10_isBetter_58 {G : hk_G} {d cb sb : Nat} {h : hk_H} {Q : hk_O → hk_H → Prop} {s0 : Int32} {s1 : Int32} {o0 : Option Value} {o1 : Option Value} {o2 : Option Value} {o3 : Option Value} {o4 : Option Value} {o5 : Option Value} (kt : s0 ≤ s1 → hk_S G m_X10_isBetter (d + 1) cb sb 63 [o0, o1, o2, o3, o4, o5] [] h Q) (kf : ¬ s0 ≤ s1 → hk_S G m_X10_isBetter (d + 1) cb sb 61 [o0, o1, o2, o3, o4, o5] [] h Q) : hk_S G m_X10_isBetter (d + 1) cb sb 58 [o0, o1, o2, o3, o4, o5] [.int s1, .int s0] h Q := by
  exact hs_icmp_le dX10_isBetter_58 (by decide) kt kf
theorem b_X10_isBetter_61 {G : hk_G} {d cb sb : Nat} {h : hk_H} {Q : hk_O → hk_H → Prop} {o0 : Option Value} {o1 : Option Value} {o2 : Option Value} {o3 : Option Value} {o4 : Option Value} {o5 : Option Value} (hq : Q (.inl (some (.int 0))) h) : hk_S G m_X10_isBetter (d + 1) cb sb 61 [o0, o1, o2, o3, o4, o5] [] h Q := by
  refine hs_iconst (v := 0) dX10_isBetter_61 (by decide) ?_
  exact hs_zret dX10_isBetter_62 rfl (by decide) hq
theorem b_X10_isBetter_63 {G : hk_G} {d cb sb : Nat} {h : hk_H} {Q : hk_O → hk_H → Prop} {x4 : Int32} {o0 : Option Value} {o1 : Option Value} {o2 : Option Value} {o3 : Option Value} {o5 : Option Value} (kt : ¬ x4 = 0 → hk_S G m_X10_isBetter (d + 1) cb sb 91 [o0, o1, o2, o3, some (.int x4), o5] [] h Q) (kf : x4 = 0 → hk_S G m_X10_isBetter (d + 1) cb sb 68 [o0, o1, o2, o3, some (.int x4), o5] [] h Q) : hk_S G m_X10_isBetter (d + 1) cb sb 63 [o0, o1, o2, o3, some (.int x4), o5] [] h Q := by
  refine hs_iload dX10_isBetter_63 rfl ?_
  exact hs_if_ne dX10_isBetter_65 (by decide) kt kf
theorem b_X10_isBetter_68 {G : hk_G} {d cb sb : Nat} {h : hk_H} {Q : hk_O → hk_H → Prop} {r0 : Nat} {x5 : Int32} {r3 : Nat} {n1 : Nat} {f2 : Nat → Int32} {fs_ : List Value} {o1 : Option Value} {o2 : Option Value} {o4 : Option Value} (ha3 : h.2 r3 = some (.inl (0, n1, .inl f2))) (j4 : Nat) (hi5 : (x5 : Int32).toInt = (j4 : Int)) (hj6 : j4 < n1) (hrec : h.2 r0 = some (.inr (10, fs_))) (hc : hk_Ci G m_X10_place d 0 0 [.ref r0, .int x5, .int (f2 j4)] h (fun z h' => hk_S G m_X10_isBetter (d + 1) cb sb 78 [some (.ref r0), o1, o2, some (.ref r3), o4, some (.int x5)] [.int z] h' Q)) : hk_S G m_X10_isBetter (d + 1) cb sb 68 [some (.ref r0), o1, o2, some (.ref r3), o4, some (.int x5)] [] h Q := by
  refine hs_aload_n dX10_isBetter_68 rfl ?_
  refine hs_iload dX10_isBetter_69 rfl ?_
  refine hs_aload_n dX10_isBetter_71 rfl ?_
  refine hs_iload dX10_isBetter_72 rfl ?_
  refine hs_iald j4 dX10_isBetter_74 ha3 hi5 hj6 ?_
  exact hk_z0 (hs_vir (M' := m_X10_place) (vs := [.int x5, .int (f2 j4)]) (c1 := 0) (s1 := 0) dX10_isBetter_75 wd_1449 vi_X10_place hrec rfl (Nat.le_of_ble_eq_true rfl) hc hq_i (hc_i (fun z h9 k9 => k9)))
theorem b_X10_isBetter_78 {G : hk_G} {d cb sb : Nat} {h : hk_H} {Q : hk_O → hk_H → Prop} {s0 : Int32} {r0 : Nat} {x5 : Int32} {r2 : Nat} {n1 : Nat} {f2 : Nat → Int32} {fs_ : List Value} {o1 : Option Value} {o3 : Option Value} {o4 : Option Value} (ha3 : h.2 r2 = some (.inl (0, n1, .inl f2))) (j4 : Nat) (hi5 : (x5 : Int32).toInt = (j4 : Int)) (hj6 : j4 < n1) (hrec : h.2 r0 = some (.inr (10, fs_))) (hc : hk_Ci G m_X10_place d 0 0 [.ref r0, .int x5, .int (f2 j4)] h (fun z h' => hk_S G m_X10_isBetter (d + 1) cb sb 88 [some (.ref r0), o1, some (.ref r2), o3, o4, some (.int x5)] [.int z, .int s0] h' Q)) : hk_S G m_X10_isBetter (d + 1) cb sb 78 [some (.ref r0), o1, some (.ref r2), o3, o4, some (.int x5)] [.int s0] h Q := by
  refine hs_aload_n dX10_isBetter_78 rfl ?_
  refine hs_iload dX10_isBetter_79 rfl ?_
  refine hs_aload_n dX10_isBetter_81 rfl ?_
  refine hs_iload dX10_isBetter_82 rfl ?_
  refine hs_iald j4 dX10_isBetter_84 ha3 hi5 hj6 ?_
  exact hk_z0 (hs_vir (M' := m_X10_place) (vs := [.int x5, .int (f2 j4)]) (c1 := 0) (s1 := 0) dX10_isBetter_85 wd_1449 vi_X10_place hrec rfl (Nat.le_of_ble_eq_true rfl) hc hq_i (hc_i (fun z h9 k9 => k9)))
theorem b_X10_isBetter_88 {G : hk_G} {d cb sb : Nat} {h : hk_H} {Q : hk_O → hk_H → Prop} {s0 : Int32} {s1 : Int32} {o0 : Option Value} {o1 : Option Value} {o2 : Option Value} {o3 : Option Value} {o4 : Option Value} {o5 : Option Value} (kt : s1 ≤ s0 → hk_S G m_X10_isBetter (d + 1) cb sb 95 [o0, o1, o2, o3, o4, o5] [] h Q) (kf : ¬ s1 ≤ s0 → hk_S G m_X10_isBetter (d + 1) cb sb 91 [o0, o1, o2, o3, o4, o5] [] h Q) : hk_S G m_X10_isBetter (d + 1) cb sb 88 [o0, o1, o2, o3, o4, o5] [.int s1, .int s0] h Q := by
  exact hs_icmp_ge dX10_isBetter_88 (by decide) kt kf
theorem b_X10_isBetter_91 {G : hk_G} {d cb sb : Nat} {h : hk_H} {Q : hk_O → hk_H → Prop} {x5 : Int32} {o0 : Option Value} {o1 : Option Value} {o2 : Option Value} {o3 : Option Value} {o4 : Option Value} (k : hk_S G m_X10_isBetter (d + 1) cb sb 6 [o0, o1, o2, o3, some (.int 1), some (.int (x5 + 1))] [] h Q) (ho3 : hk_c1 o3 := by first | exact hk_c1i | exact hk_c1r | exact hk_c10 | exact hk_c1n) : hk_S G m_X10_isBetter (d + 1) cb sb 91 [o0, o1, o2, o3, o4, some (.int x5)] [] h Q := by
  refine hs_iconst (v := 1) dX10_isBetter_91 (by decide) ?_
  refine hs_goto dX10_isBetter_92 (tgt := 96) (by decide) ?_
  refine hs_istK dX10_isBetter_96 (by decide) (hk_nk1 rfl ho3) rfl ?_
  refine hs_iincK (v := 1) dX10_isBetter_98 rfl (by decide) (by decide) (hk_nk1 rfl hk_c1i) rfl ?_
  refine hs_goto dX10_isBetter_101 (tgt := 6) (by decide) ?_
  exact k
theorem b_X10_isBetter_95 {G : hk_G} {d cb sb : Nat} {h : hk_H} {Q : hk_O → hk_H → Prop} {x5 : Int32} {o0 : Option Value} {o1 : Option Value} {o2 : Option Value} {o3 : Option Value} {o4 : Option Value} (k : hk_S G m_X10_isBetter (d + 1) cb sb 6 [o0, o1, o2, o3, some (.int 0), some (.int (x5 + 1))] [] h Q) (ho3 : hk_c1 o3 := by first | exact hk_c1i | exact hk_c1r | exact hk_c10 | exact hk_c1n) : hk_S G m_X10_isBetter (d + 1) cb sb 95 [o0, o1, o2, o3, o4, some (.int x5)] [] h Q := by
  refine hs_iconst (v := 0) dX10_isBetter_95 (by decide) ?_
  refine hs_istK dX10_isBetter_96 (by decide) (hk_nk1 rfl ho3) rfl ?_
  refine hs_iincK (v := 1) dX10_isBetter_98 rfl (by decide) (by decide) (hk_nk1 rfl hk_c1i) rfl ?_
  refine hs_goto dX10_isBetter_101 (tgt := 6) (by decide) ?_
  exact k
theorem b_X10_isBetter_96 {G : hk_G} {d cb sb : Nat} {h : hk_H} {Q : hk_O → hk_H → Prop} {s0 : Int32} {x5 : Int32} {o0 : Option Value} {o1 : Option Value} {o2 : Option Value} {o3 : Option Value} {o4 : Option Value} (k : hk_S G m_X10_isBetter (d + 1) cb sb 6 [o0, o1, o2, o3, some (.int s0), some (.int (x5 + 1))] [] h Q) (ho3 : hk_c1 o3 := by first | exact hk_c1i | exact hk_c1r | exact hk_c10 | exact hk_c1n) : hk_S G m_X10_isBetter (d + 1) cb sb 96 [o0, o1, o2, o3, o4, some (.int x5)] [.int s0] h Q := by
  refine hs_istK dX10_isBetter_96 (by decide) (hk_nk1 rfl ho3) rfl ?_
  refine hs_iincK (v := 1) dX10_isBetter_98 rfl (by decide) (by decide) (hk_nk1 rfl hk_c1i) rfl ?_
  refine hs_goto dX10_isBetter_101 (tgt := 6) (by decide) ?_
  exact k
theorem b_X10_isBetter_98 {G : hk_G} {d cb sb : Nat} {h : hk_H} {Q : hk_O → hk_H → Prop} {x5 : Int32} {o0 : Option Value} {o1 : Option Value} {o2 : Option Value} {o3 : Option Value} {o4 : Option Value} (k : hk_S G m_X10_isBetter (d + 1) cb sb 6 [o0, o1, o2, o3, o4, some (.int (x5 + 1))] [] h Q) (ho4 : hk_c1 o4 := by first | exact hk_c1i | exact hk_c1r | exact hk_c10 | exact hk_c1n) : hk_S G m_X10_isBetter (d + 1) cb sb 98 [o0, o1, o2, o3, o4, some (.int x5)] [] h Q := by
  refine hs_iincK (v := 1) dX10_isBetter_98 rfl (by decide) (by decide) (hk_nk1 rfl ho4) rfl ?_
  refine hs_goto dX10_isBetter_101 (tgt := 6) (by decide) ?_
  exact k
theorem b_X10_isBetter_104 {G : hk_G} {d cb sb : Nat} {h : hk_H} {Q : hk_O → hk_H → Prop} {x4 : Int32} {o0 : Option Value} {o1 : Option Value} {o2 : Option Value} {o3 : Option Value} {o5 : Option Value} (hq : Q (.inl (some (.int x4))) h) (hb : x4 = 0 ∨ x4 = 1) : hk_S G m_X10_isBetter (d + 1) cb sb 104 [o0, o1, o2, o3, some (.int x4), o5] [] h Q := by
  refine hs_iload dX10_isBetter_104 rfl ?_
  exact hs_zret dX10_isBetter_106 rfl hb hq
-- HonestHouseModel.last()I
theorem b_X10_last_0 {G : hk_G} {d cb sb : Nat} {h : hk_H} {Q : hk_O → hk_H → Prop} {o0 : Option Value} {o1 : Option Value} {o2 : Option Value} (k : hk_S G m_X10_last d cb sb 4 [o0, some (.int 0), some (.int 0)] [] h Q) (ho0 : hk_c1 o0 := by first | exact hk_c1i | exact hk_c1r | exact hk_c10 | exact hk_c1n) : hk_S G m_X10_last d cb sb 0 [o0, o1, o2] [] h Q := by
  refine hs_iconst (v := 0) dX10_last_0 (by decide) ?_
  refine hs_istK_n dX10_last_1 (by decide) (hk_nk1 rfl ho0) rfl ?_
  refine hs_iconst (v := 0) dX10_last_2 (by decide) ?_
  refine hs_istK_n dX10_last_3 (by decide) (hk_nk1 rfl hk_c1i) rfl ?_
  exact k
theorem b_X10_last_4 {G : hk_G} {d cb sb : Nat} {h : hk_H} {Q : hk_O → hk_H → Prop} {x2 : Int32} {r0 : Nat} {fs1 : List Value} {v3 : Int32} {o1 : Option Value} (hg2 : h.2 r0 = some (.inr (10, fs1))) (hv4 : fs1[0]? = some (.int v3)) (kt : v3 ≤ x2 → hk_S G m_X10_last d cb sb 30 [some (.ref r0), o1, some (.int x2)] [] h Q) (kf : ¬ v3 ≤ x2 → hk_S G m_X10_last d cb sb 12 [some (.ref r0), o1, some (.int x2)] [] h Q) : hk_S G m_X10_last d cb sb 4 [some (.ref r0), o1, some (.int x2)] [] h Q := by
  refine hs_iload_n dX10_last_4 rfl ?_
  refine hs_aload_n dX10_last_5 rfl ?_
  refine hs_get dX10_last_6 fl_X10_97_10 hg2 hv4 ?_
  exact hs_icmp_ge dX10_last_9 (by decide) kt kf
theorem b_X10_last_12 {G : hk_G} {d cb sb : Nat} {h : hk_H} {Q : hk_O → hk_H → Prop} {x1 : Int32} {r0 : Nat} {fs1 : List Value} {v3 : Int32} {x2 : Int32} (hg2 : h.2 r0 = some (.inr (10, fs1))) (hv4 : fs1[0]? = some (.int v3)) (k : hk_S G m_X10_last d cb sb 4 [some (.ref r0), some (.int (((10 * x1) + v3) - 1)), some (.int (x2 + 1))] [] h Q) : hk_S G m_X10_last d cb sb 12 [some (.ref r0), some (.int x1), some (.int x2)] [] h Q := by
  refine hs_bipush (v := 10) dX10_last_12 (by decide) ?_
  refine hs_iload_n dX10_last_14 rfl ?_
  refine hs_imul dX10_last_15 ?_
  refine hs_aload_n dX10_last_16 rfl ?_
  refine hs_get dX10_last_17 fl_X10_97_10 hg2 hv4 ?_
  refine hs_iadd dX10_last_20 ?_
  refine hs_iconst (v := 1) dX10_last_21 (by decide) ?_
  refine hs_isub dX10_last_22 ?_
  refine hs_istK_n dX10_last_23 (by decide) (hk_nk1 rfl hk_c1r) rfl ?_
  refine hs_iincK (v := 1) dX10_last_24 rfl (by decide) (by decide) (hk_nk1 rfl hk_c1i) rfl ?_
  refine hs_goto dX10_last_27 (tgt := 4) (by decide) ?_
  exact k
theorem b_X10_last_30 {G : hk_G} {d cb sb : Nat} {h : hk_H} {Q : hk_O → hk_H → Prop} {x1 : Int32} {o0 : Option Value} {o2 : Option Value} (hq : Q (.inl (some (.int x1))) h) : hk_S G m_X10_last d cb sb 30 [o0, some (.int x1), o2] [] h Q := by
  refine hs_iload_n dX10_last_30 rfl ?_
  exact hs_iret dX10_last_31 rfl hq
-- HonestHouseModel.isBeaten(I[I)Z
theorem b_X10_isBeaten_0 {G : hk_G} {d cb sb : Nat} {h : hk_H} {Q : hk_O → hk_H → Prop} {o0 : Option Value} {o1 : Option Value} {o2 : Option Value} {o3 : Option Value} (k : hk_S G m_X10_isBeaten (d + 1) cb sb 2 [o0, o1, o2, some (.int 0)] [] h Q) (ho2 : hk_c1 o2 := by first | exact hk_c1i | exact hk_c1r | exact hk_c10 | exact hk_c1n) : hk_S G m_X10_isBeaten (d + 1) cb sb 0 [o0, o1, o2, o3] [] h Q := by
  refine hs_iconst (v := 0) dX10_isBeaten_0 (by decide) ?_
  refine hs_istK_n dX10_isBeaten_1 (by decide) (hk_nk1 rfl ho2) rfl ?_
  exact k
theorem b_X10_isBeaten_2 {G : hk_G} {d cb sb : Nat} {h : hk_H} {Q : hk_O → hk_H → Prop} {x3 : Int32} {r0 : Nat} {fs_ : List Value} {o1 : Option Value} {o2 : Option Value} (hrec : h.2 r0 = some (.inr (10, fs_))) (hc : hk_Ci G m_X10_last d 0 0 [.ref r0] h (fun z h' => hk_S G m_X10_isBeaten (d + 1) cb sb 7 [some (.ref r0), o1, o2, some (.int x3)] [.int z, .int x3] h' Q)) : hk_S G m_X10_isBeaten (d + 1) cb sb 2 [some (.ref r0), o1, o2, some (.int x3)] [] h Q := by
  refine hs_iload_n dX10_isBeaten_2 rfl ?_
  refine hs_aload_n dX10_isBeaten_3 rfl ?_
  exact hk_z0 (hs_vir (M' := m_X10_last) (vs := []) (c1 := 0) (s1 := 0) dX10_isBeaten_4 wd_1441 vi_X10_last hrec rfl (Nat.le_of_ble_eq_true rfl) hc hq_i (hc_i (fun z h9 k9 => k9)))
theorem b_X10_isBeaten_7 {G : hk_G} {d cb sb : Nat} {h : hk_H} {Q : hk_O → hk_H → Prop} {s0 : Int32} {s1 : Int32} {o0 : Option Value} {o1 : Option Value} {o2 : Option Value} {o3 : Option Value} (kt : s1 < s0 → hk_S G m_X10_isBeaten (d + 1) cb sb 43 [o0, o1, o2, o3] [] h Q) (kf : ¬ s1 < s0 → hk_S G m_X10_isBeaten (d + 1) cb sb 10 [o0, o1, o2, o3] [] h Q) : hk_S G m_X10_isBeaten (d + 1) cb sb 7 [o0, o1, o2, o3] [.int s1, .int s0] h Q := by
  exact hs_icmp_gt dX10_isBeaten_7 (by decide) kt kf
theorem b_X10_isBeaten_10 {G : hk_G} {d cb sb : Nat} {h : hk_H} {Q : hk_O → hk_H → Prop} {r0 : Nat} {x3 : Int32} {fs1 : List Value} {v3 : Nat} {o1 : Option Value} {o2 : Option Value} (hg2 : h.2 r0 = some (.inr (10, fs1))) (hv4 : fs1[21]? = some (.ref v3)) (hc : hk_Ci G m_X10_digits d 0 0 [.ref r0, .int x3, .ref v3] h (fun z h' => hk_S G m_X10_isBeaten (d + 1) cb sb 19 [some (.ref r0), o1, o2, some (.int x3)] [.int z] h' Q)) : hk_S G m_X10_isBeaten (d + 1) cb sb 10 [some (.ref r0), o1, o2, some (.int x3)] [] h Q := by
  refine hs_aload_n dX10_isBeaten_10 rfl ?_
  refine hs_iload_n dX10_isBeaten_11 rfl ?_
  refine hs_aload_n dX10_isBeaten_12 rfl ?_
  refine hs_get dX10_isBeaten_13 fl_X10_57_10 hg2 hv4 ?_
  exact hk_z0 (hs_vir (M' := m_X10_digits) (vs := [.int x3, .ref v3]) (c1 := 0) (s1 := 0) dX10_isBeaten_16 wd_1397 vi_X10_digits hg2 rfl (Nat.le_of_ble_eq_true rfl) hc hq_i (hc_i (fun z h9 k9 => k9)))
theorem b_X10_isBeaten_19 {G : hk_G} {d cb sb : Nat} {h : hk_H} {Q : hk_O → hk_H → Prop} {s0 : Int32} {o0 : Option Value} {o1 : Option Value} {o2 : Option Value} {o3 : Option Value} (kt : s0 = 0 → hk_S G m_X10_isBeaten (d + 1) cb sb 37 [o0, o1, o2, o3] [] h Q) (kf : ¬ s0 = 0 → hk_S G m_X10_isBeaten (d + 1) cb sb 22 [o0, o1, o2, o3] [] h Q) : hk_S G m_X10_isBeaten (d + 1) cb sb 19 [o0, o1, o2, o3] [.int s0] h Q := by
  exact hs_if_eq dX10_isBeaten_19 (by decide) kt kf
theorem b_X10_isBeaten_22 {G : hk_G} {d cb sb : Nat} {h : hk_H} {Q : hk_O → hk_H → Prop} {r0 : Nat} {x1 : Int32} {r2 : Nat} {fs1 : List Value} {v3 : Nat} {o3 : Option Value} (hg2 : h.2 r0 = some (.inr (10, fs1))) (hv4 : fs1[21]? = some (.ref v3)) (hc : hk_Ci G m_X10_isBetter d 0 0 [.ref r0, .int x1, .ref r2, .ref v3] h (fun z h' => hk_S G m_X10_isBeaten (d + 1) cb sb 32 [some (.ref r0), some (.int x1), some (.ref r2), o3] [.int z] h' Q)) : hk_S G m_X10_isBeaten (d + 1) cb sb 22 [some (.ref r0), some (.int x1), some (.ref r2), o3] [] h Q := by
  refine hs_aload_n dX10_isBeaten_22 rfl ?_
  refine hs_iload_n dX10_isBeaten_23 rfl ?_
  refine hs_aload_n dX10_isBeaten_24 rfl ?_
  refine hs_aload_n dX10_isBeaten_25 rfl ?_
  refine hs_get dX10_isBeaten_26 fl_X10_57_10 hg2 hv4 ?_
  exact hk_z0 (hs_vir (M' := m_X10_isBetter) (vs := [.int x1, .ref r2, .ref v3]) (c1 := 0) (s1 := 0) dX10_isBeaten_29 wd_1445 vi_X10_isBetter hg2 rfl (Nat.le_of_ble_eq_true rfl) hc hq_i (hc_i (fun z h9 k9 => k9)))
theorem b_X10_isBeaten_32 {G : hk_G} {d cb sb : Nat} {h : hk_H} {Q : hk_O → hk_H → Prop} {s0 : Int32} {o0 : Option Value} {o1 : Option Value} {o2 : Option Value} {o3 : Option Value} (kt : s0 = 0 → hk_S G m_X10_isBeaten (d + 1) cb sb 37 [o0, o1, o2, o3] [] h Q) (kf : ¬ s0 = 0 → hk_S G m_X10_isBeaten (d + 1) cb sb 35 [o0, o1, o2, o3] [] h Q) : hk_S G m_X10_isBeaten (d + 1) cb sb 32 [o0, o1, o2, o3] [.int s0] h Q := by
  exact hs_if_eq dX10_isBeaten_32 (by decide) kt kf
theorem b_X10_isBeaten_35 {G : hk_G} {d cb sb : Nat} {h : hk_H} {Q : hk_O → hk_H → Prop} {o0 : Option Value} {o1 : Option Value} {o2 : Option Value} {o3 : Option Value} (hq : Q (.inl (some (.int 1))) h) : hk_S G m_X10_isBeaten (d + 1) cb sb 35 [o0, o1, o2, o3] [] h Q := by
  refine hs_iconst (v := 1) dX10_isBeaten_35 (by decide) ?_
  exact hs_zret dX10_isBeaten_36 rfl (by decide) hq
theorem b_X10_isBeaten_37 {G : hk_G} {d cb sb : Nat} {h : hk_H} {Q : hk_O → hk_H → Prop} {x3 : Int32} {o0 : Option Value} {o1 : Option Value} {o2 : Option Value} (k : hk_S G m_X10_isBeaten (d + 1) cb sb 2 [o0, o1, o2, some (.int (x3 + 1))] [] h Q) (ho2 : hk_c1 o2 := by first | exact hk_c1i | exact hk_c1r | exact hk_c10 | exact hk_c1n) : hk_S G m_X10_isBeaten (d + 1) cb sb 37 [o0, o1, o2, some (.int x3)] [] h Q := by
  refine hs_iincK (v := 1) dX10_isBeaten_37 rfl (by decide) (by decide) (hk_nk1 rfl ho2) rfl ?_
  refine hs_goto dX10_isBeaten_40 (tgt := 2) (by decide) ?_
  exact k
theorem b_X10_isBeaten_43 {G : hk_G} {d cb sb : Nat} {h : hk_H} {Q : hk_O → hk_H → Prop} {o0 : Option Value} {o1 : Option Value} {o2 : Option Value} {o3 : Option Value} (hq : Q (.inl (some (.int 0))) h) : hk_S G m_X10_isBeaten (d + 1) cb sb 43 [o0, o1, o2, o3] [] h Q := by
  refine hs_iconst (v := 0) dX10_isBeaten_43 (by decide) ?_
  exact hs_zret dX10_isBeaten_44 rfl (by decide) hq
-- HonestHouseModel.blocking([I)I
theorem b_X10_blocking_0 {G : hk_G} {d cb sb : Nat} {h : hk_H} {Q : hk_O → hk_H → Prop} {o0 : Option Value} {o1 : Option Value} {o2 : Option Value} (k : hk_S G m_X10_blocking (d + 1) cb sb 2 [o0, o1, some (.int 1)] [] h Q) (ho1 : hk_c1 o1 := by first | exact hk_c1i | exact hk_c1r | exact hk_c10 | exact hk_c1n) : hk_S G m_X10_blocking (d + 1) cb sb 0 [o0, o1, o2] [] h Q := by
  refine hs_iconst (v := 1) dX10_blocking_0 (by decide) ?_
  refine hs_istK_n dX10_blocking_1 (by decide) (hk_nk1 rfl ho1) rfl ?_
  exact k
theorem b_X10_blocking_2 {G : hk_G} {d cb sb : Nat} {h : hk_H} {Q : hk_O → hk_H → Prop} {x2 : Int32} {r0 : Nat} {fs1 : List Value} {v3 : Int32} {o1 : Option Value} (hg2 : h.2 r0 = some (.inr (10, fs1))) (hv4 : fs1[0]? = some (.int v3)) (kt : (1 <<< (v3 &&& 31)) ≤ x2 → hk_S G m_X10_blocking (d + 1) cb sb 29 [some (.ref r0), o1, some (.int x2)] [] h Q) (kf : ¬ (1 <<< (v3 &&& 31)) ≤ x2 → hk_S G m_X10_blocking (d + 1) cb sb 12 [some (.ref r0), o1, some (.int x2)] [] h Q) : hk_S G m_X10_blocking (d + 1) cb sb 2 [some (.ref r0), o1, some (.int x2)] [] h Q := by
  refine hs_iload_n dX10_blocking_2 rfl ?_
  refine hs_iconst (v := 1) dX10_blocking_3 (by decide) ?_
  refine hs_aload_n dX10_blocking_4 rfl ?_
  refine hs_get dX10_blocking_5 fl_X10_97_10 hg2 hv4 ?_
  refine hs_ishl dX10_blocking_8 ?_
  exact hs_icmp_ge dX10_blocking_9 (by decide) kt kf
theorem b_X10_blocking_12 {G : hk_G} {d cb sb : Nat} {h : hk_H} {Q : hk_O → hk_H → Prop} {r0 : Nat} {x2 : Int32} {r1 : Nat} {fs_ : List Value} (hrec : h.2 r0 = some (.inr (10, fs_))) (hc : hk_Ci G m_X10_isBeaten d 0 0 [.ref r0, .int x2, .ref r1] h (fun z h' => hk_S G m_X10_blocking (d + 1) cb sb 18 [some (.ref r0), some (.ref r1), some (.int x2)] [.int z] h' Q)) : hk_S G m_X10_blocking (d + 1) cb sb 12 [some (.ref r0), some (.ref r1), some (.int x2)] [] h Q := by
  refine hs_aload_n dX10_blocking_12 rfl ?_
  refine hs_iload_n dX10_blocking_13 rfl ?_
  refine hs_aload_n dX10_blocking_14 rfl ?_
  exact hk_z0 (hs_vir (M' := m_X10_isBeaten) (vs := [.int x2, .ref r1]) (c1 := 0) (s1 := 0) dX10_blocking_15 wd_1437 vi_X10_isBeaten hrec rfl (Nat.le_of_ble_eq_true rfl) hc hq_i (hc_i (fun z h9 k9 => k9)))
theorem b_X10_blocking_18 {G : hk_G} {d cb sb : Nat} {h : hk_H} {Q : hk_O → hk_H → Prop} {s0 : Int32} {o0 : Option Value} {o1 : Option Value} {o2 : Option Value} (kt : s0 = 0 → hk_S G m_X10_blocking (d + 1) cb sb 23 [o0, o1, o2] [] h Q) (kf : ¬ s0 = 0 → hk_S G m_X10_blocking (d + 1) cb sb 21 [o0, o1, o2] [] h Q) : hk_S G m_X10_blocking (d + 1) cb sb 18 [o0, o1, o2] [.int s0] h Q := by
  exact hs_if_eq dX10_blocking_18 (by decide) kt kf
theorem b_X10_blocking_21 {G : hk_G} {d cb sb : Nat} {h : hk_H} {Q : hk_O → hk_H → Prop} {x2 : Int32} {o0 : Option Value} {o1 : Option Value} (hq : Q (.inl (some (.int x2))) h) : hk_S G m_X10_blocking (d + 1) cb sb 21 [o0, o1, some (.int x2)] [] h Q := by
  refine hs_iload_n dX10_blocking_21 rfl ?_
  exact hs_iret dX10_blocking_22 rfl hq
theorem b_X10_blocking_23 {G : hk_G} {d cb sb : Nat} {h : hk_H} {Q : hk_O → hk_H → Prop} {x2 : Int32} {o0 : Option Value} {o1 : Option Value} (k : hk_S G m_X10_blocking (d + 1) cb sb 2 [o0, o1, some (.int (x2 + 1))] [] h Q) (ho1 : hk_c1 o1 := by first | exact hk_c1i | exact hk_c1r | exact hk_c10 | exact hk_c1n) : hk_S G m_X10_blocking (d + 1) cb sb 23 [o0, o1, some (.int x2)] [] h Q := by
  refine hs_iincK (v := 1) dX10_blocking_23 rfl (by decide) (by decide) (hk_nk1 rfl ho1) rfl ?_
  refine hs_goto dX10_blocking_26 (tgt := 2) (by decide) ?_
  exact k
theorem b_X10_blocking_29 {G : hk_G} {d cb sb : Nat} {h : hk_H} {Q : hk_O → hk_H → Prop} {o0 : Option Value} {o1 : Option Value} {o2 : Option Value} (hq : Q (.inl (some (.int ((-2))))) h) : hk_S G m_X10_blocking (d + 1) cb sb 29 [o0, o1, o2] [] h Q := by
  refine hs_bipush (v := (-2)) dX10_blocking_29 (by decide) ?_
  exact hs_iret dX10_blocking_31 rfl hq
-- HonestHouseModel.blocks(I)I
theorem b_X10_blocks_0 {G : hk_G} {d cb sb : Nat} {h : hk_H} {Q : hk_O → hk_H → Prop} {r0 : Nat} {x1 : Int32} {fs1 : List Value} {v3 : Nat} (hg2 : h.2 r0 = some (.inr (10, fs1))) (hv4 : fs1[24]? = some (.ref v3)) (hc : hk_Ci G m_X10_digits d 0 0 [.ref r0, .int x1, .ref v3] h (fun z h' => hk_S G m_X10_blocks (d + 1) cb sb 9 [some (.ref r0), some (.int x1)] [.int z] h' Q)) : hk_S G m_X10_blocks (d + 1) cb sb 0 [some (.ref r0), some (.int x1)] [] h Q := by
  refine hs_aload_n dX10_blocks_0 rfl ?_
  refine hs_iload_n dX10_blocks_1 rfl ?_
  refine hs_aload_n dX10_blocks_2 rfl ?_
  refine hs_get dX10_blocks_3 fl_X10_66_10 hg2 hv4 ?_
  exact hk_z0 (hs_vir (M' := m_X10_digits) (vs := [.int x1, .ref v3]) (c1 := 0) (s1 := 0) dX10_blocks_6 wd_1397 vi_X10_digits hg2 rfl (Nat.le_of_ble_eq_true rfl) hc hq_i (hc_i (fun z h9 k9 => k9)))
theorem b_X10_blocks_9 {G : hk_G} {d cb sb : Nat} {h : hk_H} {Q : hk_O → hk_H → Prop} {s0 : Int32} {o0 : Option Value} {o1 : Option Value} (kt : s0 = 0 → hk_S G m_X10_blocks (d + 1) cb sb 23 [o0, o1] [] h Q) (kf : ¬ s0 = 0 → hk_S G m_X10_blocks (d + 1) cb sb 12 [o0, o1] [] h Q) : hk_S G m_X10_blocks (d + 1) cb sb 9 [o0, o1] [.int s0] h Q := by
  exact hs_if_eq dX10_blocks_9 (by decide) kt kf
theorem b_X10_blocks_12 {G : hk_G} {d cb sb : Nat} {h : hk_H} {Q : hk_O → hk_H → Prop} {r0 : Nat} {fs1 : List Value} {v3 : Nat} {o1 : Option Value} (hg2 : h.2 r0 = some (.inr (10, fs1))) (hv4 : fs1[24]? = some (.ref v3)) (hc : hk_Ci G m_X10_blocking d 0 0 [.ref r0, .ref v3] h (fun z h' => hk_S G m_X10_blocks (d + 1) cb sb 20 [some (.ref r0), o1] [.int z] h' Q)) : hk_S G m_X10_blocks (d + 1) cb sb 12 [some (.ref r0), o1] [] h Q := by
  refine hs_aload_n dX10_blocks_12 rfl ?_
  refine hs_aload_n dX10_blocks_13 rfl ?_
  refine hs_get dX10_blocks_14 fl_X10_66_10 hg2 hv4 ?_
  exact hk_z0 (hs_vir (M' := m_X10_blocking) (vs := [.ref v3]) (c1 := 0) (s1 := 0) dX10_blocks_17 wd_1433 vi_X10_blocking hg2 rfl (Nat.le_of_ble_eq_true rfl) hc hq_i (hc_i (fun z h9 k9 => k9)))
theorem b_X10_blocks_20 {G : hk_G} {d cb sb : Nat} {h : hk_H} {Q : hk_O → hk_H → Prop} {s0 : Int32} {o0 : Option Value} {o1 : Option Value} (hq : Q (.inl (some (.int s0))) h) : hk_S G m_X10_blocks (d + 1) cb sb 20 [o0, o1] [.int s0] h Q := by
  refine hs_goto dX10_blocks_20 (tgt := 24) (by decide) ?_
  exact hs_iret dX10_blocks_24 rfl hq
theorem b_X10_blocks_23 {G : hk_G} {d cb sb : Nat} {h : hk_H} {Q : hk_O → hk_H → Prop} {o0 : Option Value} {o1 : Option Value} (hq : Q (.inl (some (.int ((-1))))) h) : hk_S G m_X10_blocks (d + 1) cb sb 23 [o0, o1] [] h Q := by
  refine hs_iconst (v := (-1)) dX10_blocks_23 (by decide) ?_
  exact hs_iret dX10_blocks_24 rfl hq
theorem b_X10_blocks_24 {G : hk_G} {d cb sb : Nat} {h : hk_H} {Q : hk_O → hk_H → Prop} {s0 : Int32} {o0 : Option Value} {o1 : Option Value} (hq : Q (.inl (some (.int s0))) h) : hk_S G m_X10_blocks (d + 1) cb sb 24 [o0, o1] [.int s0] h Q := by
  exact hs_iret dX10_blocks_24 rfl hq
-- HonestHouseModel.core(I)I
theorem b_X10_core_0 {G : hk_G} {d cb sb : Nat} {h : hk_H} {Q : hk_O → hk_H → Prop} {x1 : Int32} {o0 : Option Value} {o2 : Option Value} {o3 : Option Value} (kt : 0 ≤ x1 → hk_S G m_X10_core (d + 1) cb sb 6 [o0, some (.int x1), o2, o3] [] h Q) (kf : ¬ 0 ≤ x1 → hk_S G m_X10_core (d + 1) cb sb 4 [o0, some (.int x1), o2, o3] [] h Q) : hk_S G m_X10_core (d + 1) cb sb 0 [o0, some (.int x1), o2, o3] [] h Q := by
  refine hs_iload_n dX10_core_0 rfl ?_
  exact hs_if_ge dX10_core_1 (by decide) kt kf
theorem b_X10_core_4 {G : hk_G} {d cb sb : Nat} {h : hk_H} {Q : hk_O → hk_H → Prop} {o0 : Option Value} {o1 : Option Value} {o2 : Option Value} {o3 : Option Value} (hq : Q (.inl (some (.int ((-1))))) h) : hk_S G m_X10_core (d + 1) cb sb 4 [o0, o1, o2, o3] [] h Q := by
  refine hs_iconst (v := (-1)) dX10_core_4 (by decide) ?_
  exact hs_iret dX10_core_5 rfl hq
theorem b_X10_core_6 {G : hk_G} {d cb sb : Nat} {h : hk_H} {Q : hk_O → hk_H → Prop} {x1 : Int32} {o0 : Option Value} {o2 : Option Value} {o3 : Option Value} (k : hk_S G m_X10_core (d + 1) cb sb 10 [o0, some (.int x1), some (.int x1), some (.int 0)] [] h Q) : hk_S G m_X10_core (d + 1) cb sb 6 [o0, some (.int x1), o2, o3] [] h Q := by
  refine hs_iload_n dX10_core_6 rfl ?_
  refine hs_istK_n dX10_core_7 (by decide) (hk_nk1 rfl hk_c1i) rfl ?_
  refine hs_iconst (v := 0) dX10_core_8 (by decide) ?_
  refine hs_istK_n dX10_core_9 (by decide) (hk_nk1 rfl hk_c1i) rfl ?_
  exact k
theorem b_X10_core_10 {G : hk_G} {d cb sb : Nat} {h : hk_H} {Q : hk_O → hk_H → Prop} {x3 : Int32} {r0 : Nat} {fs_ : List Value} {o1 : Option Value} {o2 : Option Value} (hrec : h.2 r0 = some (.inr (10, fs_))) (hc : hk_Ci G m_X10_last d 0 0 [.ref r0] h (fun z h' => hk_S G m_X10_core (d + 1) cb sb 15 [some (.ref r0), o1, o2, some (.int x3)] [.int z, .int x3] h' Q)) : hk_S G m_X10_core (d + 1) cb sb 10 [some (.ref r0), o1, o2, some (.int x3)] [] h Q := by
  refine hs_iload_n dX10_core_10 rfl ?_
  refine hs_aload_n dX10_core_11 rfl ?_
  exact hk_z0 (hs_vir (M' := m_X10_last) (vs := []) (c1 := 0) (s1 := 0) dX10_core_12 wd_1441 vi_X10_last hrec rfl (Nat.le_of_ble_eq_true rfl) hc hq_i (hc_i (fun z h9 k9 => k9)))
theorem b_X10_core_15 {G : hk_G} {d cb sb : Nat} {h : hk_H} {Q : hk_O → hk_H → Prop} {s0 : Int32} {s1 : Int32} {o0 : Option Value} {o1 : Option Value} {o2 : Option Value} {o3 : Option Value} (kt : s1 < s0 → hk_S G m_X10_core (d + 1) cb sb 61 [o0, o1, o2, o3] [] h Q) (kf : ¬ s1 < s0 → hk_S G m_X10_core (d + 1) cb sb 18 [o0, o1, o2, o3] [] h Q) : hk_S G m_X10_core (d + 1) cb sb 15 [o0, o1, o2, o3] [.int s1, .int s0] h Q := by
  exact hs_icmp_gt dX10_core_15 (by decide) kt kf
theorem b_X10_core_18 {G : hk_G} {d cb sb : Nat} {h : hk_H} {Q : hk_O → hk_H → Prop} {r0 : Nat} {x3 : Int32} {fs1 : List Value} {v3 : Nat} {o1 : Option Value} {o2 : Option Value} (hg2 : h.2 r0 = some (.inr (10, fs1))) (hv4 : fs1[24]? = some (.ref v3)) (hc : hk_Ci G m_X10_digits d 0 0 [.ref r0, .int x3, .ref v3] h (fun z h' => hk_S G m_X10_core (d + 1) cb sb 27 [some (.ref r0), o1, o2, some (.int x3)] [.int z] h' Q)) : hk_S G m_X10_core (d + 1) cb sb 18 [some (.ref r0), o1, o2, some (.int x3)] [] h Q := by
  refine hs_aload_n dX10_core_18 rfl ?_
  refine hs_iload_n dX10_core_19 rfl ?_
  refine hs_aload_n dX10_core_20 rfl ?_
  refine hs_get dX10_core_21 fl_X10_66_10 hg2 hv4 ?_
  exact hk_z0 (hs_vir (M' := m_X10_digits) (vs := [.int x3, .ref v3]) (c1 := 0) (s1 := 0) dX10_core_24 wd_1397 vi_X10_digits hg2 rfl (Nat.le_of_ble_eq_true rfl) hc hq_i (hc_i (fun z h9 k9 => k9)))
theorem b_X10_core_27 {G : hk_G} {d cb sb : Nat} {h : hk_H} {Q : hk_O → hk_H → Prop} {s0 : Int32} {o0 : Option Value} {o1 : Option Value} {o2 : Option Value} {o3 : Option Value} (kt : s0 = 0 → hk_S G m_X10_core (d + 1) cb sb 55 [o0, o1, o2, o3] [] h Q) (kf : ¬ s0 = 0 → hk_S G m_X10_core (d + 1) cb sb 30 [o0, o1, o2, o3] [] h Q) : hk_S G m_X10_core (d + 1) cb sb 27 [o0, o1, o2, o3] [.int s0] h Q := by
  exact hs_if_eq dX10_core_27 (by decide) kt kf
theorem b_X10_core_30 {G : hk_G} {d cb sb : Nat} {h : hk_H} {Q : hk_O → hk_H → Prop} {r0 : Nat} {fs1 : List Value} {v3 : Nat} {o1 : Option Value} {o2 : Option Value} {o3 : Option Value} (hg2 : h.2 r0 = some (.inr (10, fs1))) (hv4 : fs1[24]? = some (.ref v3)) (hc : hk_Ci G m_X10_blocking d 0 0 [.ref r0, .ref v3] h (fun z h' => hk_S G m_X10_core (d + 1) cb sb 38 [some (.ref r0), o1, o2, o3] [.int z] h' Q)) : hk_S G m_X10_core (d + 1) cb sb 30 [some (.ref r0), o1, o2, o3] [] h Q := by
  refine hs_aload_n dX10_core_30 rfl ?_
  refine hs_aload_n dX10_core_31 rfl ?_
  refine hs_get dX10_core_32 fl_X10_66_10 hg2 hv4 ?_
  exact hk_z0 (hs_vir (M' := m_X10_blocking) (vs := [.ref v3]) (c1 := 0) (s1 := 0) dX10_core_35 wd_1433 vi_X10_blocking hg2 rfl (Nat.le_of_ble_eq_true rfl) hc hq_i (hc_i (fun z h9 k9 => k9)))
theorem b_X10_core_38 {G : hk_G} {d cb sb : Nat} {h : hk_H} {Q : hk_O → hk_H → Prop} {s0 : Int32} {o0 : Option Value} {o1 : Option Value} {o2 : Option Value} {o3 : Option Value} (kt : s0 = ((-2)) → hk_S G m_X10_core (d + 1) cb sb 46 [o0, o1, o2, o3] [] h Q) (kf : ¬ s0 = ((-2)) → hk_S G m_X10_core (d + 1) cb sb 43 [o0, o1, o2, o3] [] h Q) : hk_S G m_X10_core (d + 1) cb sb 38 [o0, o1, o2, o3] [.int s0] h Q := by
  refine hs_bipush (v := (-2)) dX10_core_38 (by decide) ?_
  exact hs_icmp_eq dX10_core_40 (by decide) kt kf
theorem b_X10_core_43 {G : hk_G} {d cb sb : Nat} {h : hk_H} {Q : hk_O → hk_H → Prop} {x3 : Int32} {o0 : Option Value} {o1 : Option Value} {o2 : Option Value} (k : hk_S G m_X10_core (d + 1) cb sb 10 [o0, o1, o2, some (.int (x3 + 1))] [] h Q) (ho2 : hk_c1 o2 := by first | exact hk_c1i | exact hk_c1r | exact hk_c10 | exact hk_c1n) : hk_S G m_X10_core (d + 1) cb sb 43 [o0, o1, o2, some (.int x3)] [] h Q := by
  refine hs_goto dX10_core_43 (tgt := 55) (by decide) ?_
  refine hs_iincK (v := 1) dX10_core_55 rfl (by decide) (by decide) (hk_nk1 rfl ho2) rfl ?_
  refine hs_goto dX10_core_58 (tgt := 10) (by decide) ?_
  exact k
theorem b_X10_core_46 {G : hk_G} {d cb sb : Nat} {h : hk_H} {Q : hk_O → hk_H → Prop} {x2 : Int32} {o0 : Option Value} {o1 : Option Value} {o3 : Option Value} (kt : ¬ x2 = 0 → hk_S G m_X10_core (d + 1) cb sb 52 [o0, o1, some (.int x2), o3] [] h Q) (kf : x2 = 0 → hk_S G m_X10_core (d + 1) cb sb 50 [o0, o1, some (.int x2), o3] [] h Q) : hk_S G m_X10_core (d + 1) cb sb 46 [o0, o1, some (.int x2), o3] [] h Q := by
  refine hs_iload_n dX10_core_46 rfl ?_
  exact hs_if_ne dX10_core_47 (by decide) kt kf
theorem b_X10_core_50 {G : hk_G} {d cb sb : Nat} {h : hk_H} {Q : hk_O → hk_H → Prop} {x3 : Int32} {o0 : Option Value} {o1 : Option Value} {o2 : Option Value} (hq : Q (.inl (some (.int x3))) h) : hk_S G m_X10_core (d + 1) cb sb 50 [o0, o1, o2, some (.int x3)] [] h Q := by
  refine hs_iload_n dX10_core_50 rfl ?_
  exact hs_iret dX10_core_51 rfl hq
theorem b_X10_core_52 {G : hk_G} {d cb sb : Nat} {h : hk_H} {Q : hk_O → hk_H → Prop} {x2 : Int32} {x3 : Int32} {o0 : Option Value} {o1 : Option Value} (k : hk_S G m_X10_core (d + 1) cb sb 10 [o0, o1, some (.int (x2 + (-1))), some (.int (x3 + 1))] [] h Q) (ho1 : hk_c1 o1 := by first | exact hk_c1i | exact hk_c1r | exact hk_c10 | exact hk_c1n) : hk_S G m_X10_core (d + 1) cb sb 52 [o0, o1, some (.int x2), some (.int x3)] [] h Q := by
  refine hs_iincK (v := (-1)) dX10_core_52 rfl (by decide) (by decide) (hk_nk1 rfl ho1) rfl ?_
  refine hs_iincK (v := 1) dX10_core_55 rfl (by decide) (by decide) (hk_nk1 rfl hk_c1i) rfl ?_
  refine hs_goto dX10_core_58 (tgt := 10) (by decide) ?_
  exact k
theorem b_X10_core_55 {G : hk_G} {d cb sb : Nat} {h : hk_H} {Q : hk_O → hk_H → Prop} {x3 : Int32} {o0 : Option Value} {o1 : Option Value} {o2 : Option Value} (k : hk_S G m_X10_core (d + 1) cb sb 10 [o0, o1, o2, some (.int (x3 + 1))] [] h Q) (ho2 : hk_c1 o2 := by first | exact hk_c1i | exact hk_c1r | exact hk_c10 | exact hk_c1n) : hk_S G m_X10_core (d + 1) cb sb 55 [o0, o1, o2, some (.int x3)] [] h Q := by
  refine hs_iincK (v := 1) dX10_core_55 rfl (by decide) (by decide) (hk_nk1 rfl ho2) rfl ?_
  refine hs_goto dX10_core_58 (tgt := 10) (by decide) ?_
  exact k
theorem b_X10_core_61 {G : hk_G} {d cb sb : Nat} {h : hk_H} {Q : hk_O → hk_H → Prop} {o0 : Option Value} {o1 : Option Value} {o2 : Option Value} {o3 : Option Value} (hq : Q (.inl (some (.int ((-2))))) h) : hk_S G m_X10_core (d + 1) cb sb 61 [o0, o1, o2, o3] [] h Q := by
  refine hs_bipush (v := (-2)) dX10_core_61 (by decide) ?_
  exact hs_iret dX10_core_63 rfl hq
-- HonestHouseModel.good(I)I
theorem b_X10_good_0 {G : hk_G} {d cb sb : Nat} {h : hk_H} {Q : hk_O → hk_H → Prop} {r0 : Nat} {x1 : Int32} {fs1 : List Value} {v3 : Nat} (hg2 : h.2 r0 = some (.inr (10, fs1))) (hv4 : fs1[24]? = some (.ref v3)) (hc : hk_Ci G m_X10_digits d 0 0 [.ref r0, .int x1, .ref v3] h (fun z h' => hk_S G m_X10_good (d + 1) cb sb 9 [some (.ref r0), some (.int x1)] [.int z] h' Q)) : hk_S G m_X10_good (d + 1) cb sb 0 [some (.ref r0), some (.int x1)] [] h Q := by
  refine hs_aload_n dX10_good_0 rfl ?_
  refine hs_iload_n dX10_good_1 rfl ?_
  refine hs_aload_n dX10_good_2 rfl ?_
  refine hs_get dX10_good_3 fl_X10_66_10 hg2 hv4 ?_
  exact hk_z0 (hs_vir (M' := m_X10_digits) (vs := [.int x1, .ref v3]) (c1 := 0) (s1 := 0) dX10_good_6 wd_1397 vi_X10_digits hg2 rfl (Nat.le_of_ble_eq_true rfl) hc hq_i (hc_i (fun z h9 k9 => k9)))
theorem b_X10_good_9 {G : hk_G} {d cb sb : Nat} {h : hk_H} {Q : hk_O → hk_H → Prop} {s0 : Int32} {o0 : Option Value} {o1 : Option Value} (kt : s0 = 0 → hk_S G m_X10_good (d + 1) cb sb 39 [o0, o1] [] h Q) (kf : ¬ s0 = 0 → hk_S G m_X10_good (d + 1) cb sb 12 [o0, o1] [] h Q) : hk_S G m_X10_good (d + 1) cb sb 9 [o0, o1] [.int s0] h Q := by
  exact hs_if_eq dX10_good_9 (by decide) kt kf
theorem b_X10_good_12 {G : hk_G} {d cb sb : Nat} {h : hk_H} {Q : hk_O → hk_H → Prop} {r0 : Nat} {fs1 : List Value} {v3 : Int32} {v5 : Nat} {o1 : Option Value} (hg2 : h.2 r0 = some (.inr (10, fs1))) (hv4 : fs1[0]? = some (.int v3)) (hv6 : fs1[24]? = some (.ref v5)) (hc : hk_Ci G m_X10_isBeaten d 0 0 [.ref r0, .int ((1 <<< (v3 &&& 31)) - 1), .ref v5] h (fun z h' => hk_S G m_X10_good (d + 1) cb sb 28 [some (.ref r0), o1] [.int z] h' Q)) : hk_S G m_X10_good (d + 1) cb sb 12 [some (.ref r0), o1] [] h Q := by
  refine hs_aload_n dX10_good_12 rfl ?_
  refine hs_iconst (v := 1) dX10_good_13 (by decide) ?_
  refine hs_aload_n dX10_good_14 rfl ?_
  refine hs_get dX10_good_15 fl_X10_97_10 hg2 hv4 ?_
  refine hs_ishl dX10_good_18 ?_
  refine hs_iconst (v := 1) dX10_good_19 (by decide) ?_
  refine hs_isub dX10_good_20 ?_
  refine hs_aload_n dX10_good_21 rfl ?_
  refine hs_get dX10_good_22 fl_X10_66_10 hg2 hv6 ?_
  exact hk_z0 (hs_vir (M' := m_X10_isBeaten) (vs := [.int ((1 <<< (v3 &&& 31)) - 1), .ref v5]) (c1 := 0) (s1 := 0) dX10_good_25 wd_1437 vi_X10_isBeaten hg2 rfl (Nat.le_of_ble_eq_true rfl) hc hq_i (hc_i (fun z h9 k9 => k9)))
theorem b_X10_good_28 {G : hk_G} {d cb sb : Nat} {h : hk_H} {Q : hk_O → hk_H → Prop} {s0 : Int32} {o0 : Option Value} {o1 : Option Value} (kt : s0 = 0 → hk_S G m_X10_good (d + 1) cb sb 35 [o0, o1] [] h Q) (kf : ¬ s0 = 0 → hk_S G m_X10_good (d + 1) cb sb 31 [o0, o1] [] h Q) : hk_S G m_X10_good (d + 1) cb sb 28 [o0, o1] [.int s0] h Q := by
  exact hs_if_eq dX10_good_28 (by decide) kt kf
theorem b_X10_good_31 {G : hk_G} {d cb sb : Nat} {h : hk_H} {Q : hk_O → hk_H → Prop} {o0 : Option Value} {o1 : Option Value} (hq : Q (.inl (some (.int 0))) h) : hk_S G m_X10_good (d + 1) cb sb 31 [o0, o1] [] h Q := by
  refine hs_iconst (v := 0) dX10_good_31 (by decide) ?_
  refine hs_goto dX10_good_32 (tgt := 40) (by decide) ?_
  exact hs_iret dX10_good_40 rfl hq
theorem b_X10_good_35 {G : hk_G} {d cb sb : Nat} {h : hk_H} {Q : hk_O → hk_H → Prop} {o0 : Option Value} {o1 : Option Value} (hq : Q (.inl (some (.int 1))) h) : hk_S G m_X10_good (d + 1) cb sb 35 [o0, o1] [] h Q := by
  refine hs_iconst (v := 1) dX10_good_35 (by decide) ?_
  refine hs_goto dX10_good_36 (tgt := 40) (by decide) ?_
  exact hs_iret dX10_good_40 rfl hq
theorem b_X10_good_39 {G : hk_G} {d cb sb : Nat} {h : hk_H} {Q : hk_O → hk_H → Prop} {o0 : Option Value} {o1 : Option Value} (hq : Q (.inl (some (.int ((-1))))) h) : hk_S G m_X10_good (d + 1) cb sb 39 [o0, o1] [] h Q := by
  refine hs_iconst (v := (-1)) dX10_good_39 (by decide) ?_
  exact hs_iret dX10_good_40 rfl hq
theorem b_X10_good_40 {G : hk_G} {d cb sb : Nat} {h : hk_H} {Q : hk_O → hk_H → Prop} {s0 : Int32} {o0 : Option Value} {o1 : Option Value} (hq : Q (.inl (some (.int s0))) h) : hk_S G m_X10_good (d + 1) cb sb 40 [o0, o1] [.int s0] h Q := by
  exact hs_iret dX10_good_40 rfl hq
-- HonestHouseModel.by(I)I
theorem b_X10_by_0 {G : hk_G} {d cb sb : Nat} {h : hk_H} {Q : hk_O → hk_H → Prop} {r0 : Nat} {x1 : Int32} {fs1 : List Value} {v3 : Nat} {o2 : Option Value} (hg2 : h.2 r0 = some (.inr (10, fs1))) (hv4 : fs1[24]? = some (.ref v3)) (hc : hk_Ci G m_X10_digits d 0 0 [.ref r0, .int x1, .ref v3] h (fun z h' => hk_S G m_X10_by (d + 1) cb sb 9 [some (.ref r0), some (.int x1), o2] [.int z] h' Q)) : hk_S G m_X10_by (d + 1) cb sb 0 [some (.ref r0), some (.int x1), o2] [] h Q := by
  refine hs_aload_n dX10_by_0 rfl ?_
  refine hs_iload_n dX10_by_1 rfl ?_
  refine hs_aload_n dX10_by_2 rfl ?_
  refine hs_get dX10_by_3 fl_X10_66_10 hg2 hv4 ?_
  exact hk_z0 (hs_vir (M' := m_X10_digits) (vs := [.int x1, .ref v3]) (c1 := 0) (s1 := 0) dX10_by_6 wd_1397 vi_X10_digits hg2 rfl (Nat.le_of_ble_eq_true rfl) hc hq_i (hc_i (fun z h9 k9 => k9)))
theorem b_X10_by_9 {G : hk_G} {d cb sb : Nat} {h : hk_H} {Q : hk_O → hk_H → Prop} {s0 : Int32} {o0 : Option Value} {o1 : Option Value} {o2 : Option Value} (kt : ¬ s0 = 0 → hk_S G m_X10_by (d + 1) cb sb 14 [o0, o1, o2] [] h Q) (kf : s0 = 0 → hk_S G m_X10_by (d + 1) cb sb 12 [o0, o1, o2] [] h Q) : hk_S G m_X10_by (d + 1) cb sb 9 [o0, o1, o2] [.int s0] h Q := by
  exact hs_if_ne dX10_by_9 (by decide) kt kf
theorem b_X10_by_12 {G : hk_G} {d cb sb : Nat} {h : hk_H} {Q : hk_O → hk_H → Prop} {o0 : Option Value} {o1 : Option Value} {o2 : Option Value} (hq : Q (.inl (some (.int ((-1))))) h) : hk_S G m_X10_by (d + 1) cb sb 12 [o0, o1, o2] [] h Q := by
  refine hs_iconst (v := (-1)) dX10_by_12 (by decide) ?_
  exact hs_iret dX10_by_13 rfl hq
theorem b_X10_by_14 {G : hk_G} {d cb sb : Nat} {h : hk_H} {Q : hk_O → hk_H → Prop} {o0 : Option Value} {o1 : Option Value} {o2 : Option Value} (k : hk_S G m_X10_by (d + 1) cb sb 16 [o0, o1, some (.int 0)] [] h Q) (ho1 : hk_c1 o1 := by first | exact hk_c1i | exact hk_c1r | exact hk_c10 | exact hk_c1n) : hk_S G m_X10_by (d + 1) cb sb 14 [o0, o1, o2] [] h Q := by
  refine hs_iconst (v := 0) dX10_by_14 (by decide) ?_
  refine hs_istK_n dX10_by_15 (by decide) (hk_nk1 rfl ho1) rfl ?_
  exact k
theorem b_X10_by_16 {G : hk_G} {d cb sb : Nat} {h : hk_H} {Q : hk_O → hk_H → Prop} {x2 : Int32} {r0 : Nat} {fs_ : List Value} {o1 : Option Value} (hrec : h.2 r0 = some (.inr (10, fs_))) (hc : hk_Ci G m_X10_last d 0 0 [.ref r0] h (fun z h' => hk_S G m_X10_by (d + 1) cb sb 21 [some (.ref r0), o1, some (.int x2)] [.int z, .int x2] h' Q)) : hk_S G m_X10_by (d + 1) cb sb 16 [some (.ref r0), o1, some (.int x2)] [] h Q := by
  refine hs_iload_n dX10_by_16 rfl ?_
  refine hs_aload_n dX10_by_17 rfl ?_
  exact hk_z0 (hs_vir (M' := m_X10_last) (vs := []) (c1 := 0) (s1 := 0) dX10_by_18 wd_1441 vi_X10_last hrec rfl (Nat.le_of_ble_eq_true rfl) hc hq_i (hc_i (fun z h9 k9 => k9)))
theorem b_X10_by_21 {G : hk_G} {d cb sb : Nat} {h : hk_H} {Q : hk_O → hk_H → Prop} {s0 : Int32} {s1 : Int32} {o0 : Option Value} {o1 : Option Value} {o2 : Option Value} (kt : s1 < s0 → hk_S G m_X10_by (d + 1) cb sb 63 [o0, o1, o2] [] h Q) (kf : ¬ s1 < s0 → hk_S G m_X10_by (d + 1) cb sb 24 [o0, o1, o2] [] h Q) : hk_S G m_X10_by (d + 1) cb sb 21 [o0, o1, o2] [.int s1, .int s0] h Q := by
  exact hs_icmp_gt dX10_by_21 (by decide) kt kf
theorem b_X10_by_24 {G : hk_G} {d cb sb : Nat} {h : hk_H} {Q : hk_O → hk_H → Prop} {r0 : Nat} {x2 : Int32} {fs1 : List Value} {v3 : Nat} {o1 : Option Value} (hg2 : h.2 r0 = some (.inr (10, fs1))) (hv4 : fs1[23]? = some (.ref v3)) (hc : hk_Ci G m_X10_digits d 0 0 [.ref r0, .int x2, .ref v3] h (fun z h' => hk_S G m_X10_by (d + 1) cb sb 33 [some (.ref r0), o1, some (.int x2)] [.int z] h' Q)) : hk_S G m_X10_by (d + 1) cb sb 24 [some (.ref r0), o1, some (.int x2)] [] h Q := by
  refine hs_aload_n dX10_by_24 rfl ?_
  refine hs_iload_n dX10_by_25 rfl ?_
  refine hs_aload_n dX10_by_26 rfl ?_
  refine hs_get dX10_by_27 fl_X10_63_10 hg2 hv4 ?_
  exact hk_z0 (hs_vir (M' := m_X10_digits) (vs := [.int x2, .ref v3]) (c1 := 0) (s1 := 0) dX10_by_30 wd_1397 vi_X10_digits hg2 rfl (Nat.le_of_ble_eq_true rfl) hc hq_i (hc_i (fun z h9 k9 => k9)))
theorem b_X10_by_33 {G : hk_G} {d cb sb : Nat} {h : hk_H} {Q : hk_O → hk_H → Prop} {s0 : Int32} {o0 : Option Value} {o1 : Option Value} {o2 : Option Value} (kt : ¬ s0 = 0 → hk_S G m_X10_by (d + 1) cb sb 39 [o0, o1, o2] [] h Q) (kf : s0 = 0 → hk_S G m_X10_by (d + 1) cb sb 36 [o0, o1, o2] [] h Q) : hk_S G m_X10_by (d + 1) cb sb 33 [o0, o1, o2] [.int s0] h Q := by
  exact hs_if_ne dX10_by_33 (by decide) kt kf
theorem b_X10_by_36 {G : hk_G} {d cb sb : Nat} {h : hk_H} {Q : hk_O → hk_H → Prop} {x2 : Int32} {o0 : Option Value} {o1 : Option Value} (k : hk_S G m_X10_by (d + 1) cb sb 16 [o0, o1, some (.int (x2 + 1))] [] h Q) (ho1 : hk_c1 o1 := by first | exact hk_c1i | exact hk_c1r | exact hk_c10 | exact hk_c1n) : hk_S G m_X10_by (d + 1) cb sb 36 [o0, o1, some (.int x2)] [] h Q := by
  refine hs_goto dX10_by_36 (tgt := 57) (by decide) ?_
  refine hs_iincK (v := 1) dX10_by_57 rfl (by decide) (by decide) (hk_nk1 rfl ho1) rfl ?_
  refine hs_goto dX10_by_60 (tgt := 16) (by decide) ?_
  exact k
theorem b_X10_by_39 {G : hk_G} {d cb sb : Nat} {h : hk_H} {Q : hk_O → hk_H → Prop} {r0 : Nat} {fs_ : List Value} {o1 : Option Value} {o2 : Option Value} (hrec : h.2 r0 = some (.inr (10, fs_))) (hc : hk_Cv G m_X10_turn d 0 0 [.ref r0] h (fun h' => hk_S G m_X10_by (d + 1) cb sb 43 [some (.ref r0), o1, o2] [] h' Q)) : hk_S G m_X10_by (d + 1) cb sb 39 [some (.ref r0), o1, o2] [] h Q := by
  refine hs_aload_n dX10_by_39 rfl ?_
  exact hk_z0 (hs_vir (M' := m_X10_turn) (vs := []) (c1 := 0) (s1 := 0) dX10_by_40 wd_1425 vi_X10_turn hrec rfl (Nat.le_of_ble_eq_true rfl) hc hq_v (hc_v (fun h9 k9 => k9)))
theorem b_X10_by_43 {G : hk_G} {d cb sb : Nat} {h : hk_H} {Q : hk_O → hk_H → Prop} {r0 : Nat} {fs1 : List Value} {v3 : Nat} {o1 : Option Value} {o2 : Option Value} (hg2 : h.2 r0 = some (.inr (10, fs1))) (hv4 : fs1[20]? = some (.ref v3)) (hc : hk_Ci G m_X10_code d 0 0 [.ref r0, .ref v3] h (fun z h' => hk_S G m_X10_by (d + 1) cb sb 51 [some (.ref r0), o1, o2] [.int z] h' Q)) : hk_S G m_X10_by (d + 1) cb sb 43 [some (.ref r0), o1, o2] [] h Q := by
  refine hs_aload_n dX10_by_43 rfl ?_
  refine hs_aload_n dX10_by_44 rfl ?_
  refine hs_get dX10_by_45 fl_X10_54_10 hg2 hv4 ?_
  exact hk_z0 (hs_vir (M' := m_X10_code) (vs := [.ref v3]) (c1 := 0) (s1 := 0) dX10_by_48 wd_1413 vi_X10_code hg2 rfl (Nat.le_of_ble_eq_true rfl) hc hq_i (hc_i (fun z h9 k9 => k9)))
theorem b_X10_by_51 {G : hk_G} {d cb sb : Nat} {h : hk_H} {Q : hk_O → hk_H → Prop} {s0 : Int32} {x1 : Int32} {o0 : Option Value} {o2 : Option Value} (kt : ¬ s0 = x1 → hk_S G m_X10_by (d + 1) cb sb 57 [o0, some (.int x1), o2] [] h Q) (kf : s0 = x1 → hk_S G m_X10_by (d + 1) cb sb 55 [o0, some (.int x1), o2] [] h Q) : hk_S G m_X10_by (d + 1) cb sb 51 [o0, some (.int x1), o2] [.int s0] h Q := by
  refine hs_iload_n dX10_by_51 rfl ?_
  exact hs_icmp_ne dX10_by_52 (by decide) kt kf
theorem b_X10_by_55 {G : hk_G} {d cb sb : Nat} {h : hk_H} {Q : hk_O → hk_H → Prop} {x2 : Int32} {o0 : Option Value} {o1 : Option Value} (hq : Q (.inl (some (.int x2))) h) : hk_S G m_X10_by (d + 1) cb sb 55 [o0, o1, some (.int x2)] [] h Q := by
  refine hs_iload_n dX10_by_55 rfl ?_
  exact hs_iret dX10_by_56 rfl hq
theorem b_X10_by_57 {G : hk_G} {d cb sb : Nat} {h : hk_H} {Q : hk_O → hk_H → Prop} {x2 : Int32} {o0 : Option Value} {o1 : Option Value} (k : hk_S G m_X10_by (d + 1) cb sb 16 [o0, o1, some (.int (x2 + 1))] [] h Q) (ho1 : hk_c1 o1 := by first | exact hk_c1i | exact hk_c1r | exact hk_c10 | exact hk_c1n) : hk_S G m_X10_by (d + 1) cb sb 57 [o0, o1, some (.int x2)] [] h Q := by
  refine hs_iincK (v := 1) dX10_by_57 rfl (by decide) (by decide) (hk_nk1 rfl ho1) rfl ?_
  refine hs_goto dX10_by_60 (tgt := 16) (by decide) ?_
  exact k
theorem b_X10_by_63 {G : hk_G} {d cb sb : Nat} {h : hk_H} {Q : hk_O → hk_H → Prop} {o0 : Option Value} {o1 : Option Value} {o2 : Option Value} (hq : Q (.inl (some (.int ((-2))))) h) : hk_S G m_X10_by (d + 1) cb sb 63 [o0, o1, o2] [] h Q := by
  refine hs_bipush (v := (-2)) dX10_by_63 (by decide) ?_
  exact hs_iret dX10_by_65 rfl hq
-- HonestHouseModel.wrong(I)I
theorem b_X10_wrong_0 {G : hk_G} {d cb sb : Nat} {h : hk_H} {Q : hk_O → hk_H → Prop} {x1 : Int32} {r0 : Nat} {fs1 : List Value} {v3 : Int32} {o2 : Option Value} {o3 : Option Value} {o4 : Option Value} {o5 : Option Value} {o6 : Option Value} {o7 : Option Value} (hg2 : h.2 r0 = some (.inr (10, fs1))) (hv4 : fs1[0]? = some (.int v3)) (hc : hk_Ci G m_X10_isIn d 0 0 [.int x1, .int v3] h (fun z h' => hk_S G m_X10_wrong (d + 1) cb sb 8 [some (.ref r0), some (.int x1), o2, o3, o4, o5, o6, o7] [.int z] h' Q)) : hk_S G m_X10_wrong (d + 1) cb sb 0 [some (.ref r0), some (.int x1), o2, o3, o4, o5, o6, o7] [] h Q := by
  refine hs_iload_n dX10_wrong_0 rfl ?_
  refine hs_aload_n dX10_wrong_1 rfl ?_
  refine hs_get dX10_wrong_2 fl_X10_97_10 hg2 hv4 ?_
  exact hk_z0 (hs_sta (M' := m_X10_isIn) (vs := [.int x1, .int v3]) (c1 := 0) (s1 := 0) dX10_wrong_5 wd_1226 st_X10_isIn rfl (Nat.le_of_ble_eq_true rfl) hc hq_i (hc_i (fun z h9 k9 => k9)))
theorem b_X10_wrong_8 {G : hk_G} {d cb sb : Nat} {h : hk_H} {Q : hk_O → hk_H → Prop} {s0 : Int32} {o0 : Option Value} {o1 : Option Value} {o2 : Option Value} {o3 : Option Value} {o4 : Option Value} {o5 : Option Value} {o6 : Option Value} {o7 : Option Value} (kt : ¬ s0 = 0 → hk_S G m_X10_wrong (d + 1) cb sb 13 [o0, o1, o2, o3, o4, o5, o6, o7] [] h Q) (kf : s0 = 0 → hk_S G m_X10_wrong (d + 1) cb sb 11 [o0, o1, o2, o3, o4, o5, o6, o7] [] h Q) : hk_S G m_X10_wrong (d + 1) cb sb 8 [o0, o1, o2, o3, o4, o5, o6, o7] [.int s0] h Q := by
  exact hs_if_ne dX10_wrong_8 (by decide) kt kf
theorem b_X10_wrong_11 {G : hk_G} {d cb sb : Nat} {h : hk_H} {Q : hk_O → hk_H → Prop} {o0 : Option Value} {o1 : Option Value} {o2 : Option Value} {o3 : Option Value} {o4 : Option Value} {o5 : Option Value} {o6 : Option Value} {o7 : Option Value} (hq : Q (.inl (some (.int ((-1))))) h) : hk_S G m_X10_wrong (d + 1) cb sb 11 [o0, o1, o2, o3, o4, o5, o6, o7] [] h Q := by
  refine hs_iconst (v := (-1)) dX10_wrong_11 (by decide) ?_
  exact hs_iret dX10_wrong_12 rfl hq
theorem b_X10_wrong_13 {G : hk_G} {d cb sb : Nat} {h : hk_H} {Q : hk_O → hk_H → Prop} {r0 : Nat} {fs_ : List Value} {o1 : Option Value} {o2 : Option Value} {o3 : Option Value} {o4 : Option Value} {o5 : Option Value} {o6 : Option Value} {o7 : Option Value} (hrec : h.2 r0 = some (.inr (10, fs_))) (hc : hk_Cv G m_X10_ring d 0 0 [.ref r0] h (fun h' => hk_S G m_X10_wrong (d + 1) cb sb 17 [some (.ref r0), o1, o2, o3, o4, o5, o6, o7] [] h' Q)) : hk_S G m_X10_wrong (d + 1) cb sb 13 [some (.ref r0), o1, o2, o3, o4, o5, o6, o7] [] h Q := by
  refine hs_aload_n dX10_wrong_13 rfl ?_
  exact hk_z0 (hs_vir (M' := m_X10_ring) (vs := []) (c1 := 0) (s1 := 0) dX10_wrong_14 wd_1405 vi_X10_ring hrec rfl (Nat.le_of_ble_eq_true rfl) hc hq_v (hc_v (fun h9 k9 => k9)))
theorem b_X10_wrong_17 {G : hk_G} {d cb sb : Nat} {h : hk_H} {Q : hk_O → hk_H → Prop} {r0 : Nat} {x1 : Int32} {fs1 : List Value} {v3 : Nat} {n5 : Nat} {f6 : Nat → Int32} {o2 : Option Value} {o3 : Option Value} {o4 : Option Value} {o5 : Option Value} {o6 : Option Value} {o7 : Option Value} (hg2 : h.2 r0 = some (.inr (10, fs1))) (hv4 : fs1[20]? = some (.ref v3)) (ha7 : h.2 v3 = some (.inl (0, n5, .inl f6))) (j8 : Nat) (hi9 : (x1 : Int32).toInt = (j8 : Int)) (hj10 : j8 < n5) (hc : hk_Ci G m_X10_place d 0 0 [.ref r0, .int x1, .int (f6 j8)] h (fun z h' => hk_S G m_X10_wrong (d + 1) cb sb 28 [some (.ref r0), some (.int x1), o2, o3, o4, o5, o6, o7] [.int z] h' Q)) : hk_S G m_X10_wrong (d + 1) cb sb 17 [some (.ref r0), some (.int x1), o2, o3, o4, o5, o6, o7] [] h Q := by
  refine hs_aload_n dX10_wrong_17 rfl ?_
  refine hs_iload_n dX10_wrong_18 rfl ?_
  refine hs_aload_n dX10_wrong_19 rfl ?_
  refine hs_get dX10_wrong_20 fl_X10_54_10 hg2 hv4 ?_
  refine hs_iload_n dX10_wrong_23 rfl ?_
  refine hs_iald j8 dX10_wrong_24 ha7 hi9 hj10 ?_
  exact hk_z0 (hs_vir (M' := m_X10_place) (vs := [.int x1, .int (f6 j8)]) (c1 := 0) (s1 := 0) dX10_wrong_25 wd_1449 vi_X10_place hg2 rfl (Nat.le_of_ble_eq_true rfl) hc hq_i (hc_i (fun z h9 k9 => k9)))
theorem b_X10_wrong_28 {G : hk_G} {d cb sb : Nat} {h : hk_H} {Q : hk_O → hk_H → Prop} {s0 : Int32} {o0 : Option Value} {o1 : Option Value} {o2 : Option Value} {o3 : Option Value} {o4 : Option Value} {o5 : Option Value} {o6 : Option Value} {o7 : Option Value} (k : hk_S G m_X10_wrong (d + 1) cb sb 34 [o0, o1, some (.int s0), some (.int 0), some (.int 0), o5, o6, o7] [] h Q) (ho1 : hk_c1 o1 := by first | exact hk_c1i | exact hk_c1r | exact hk_c10 | exact hk_c1n) : hk_S G m_X10_wrong (d + 1) cb sb 28 [o0, o1, o2, o3, o4, o5, o6, o7] [.int s0] h Q := by
  refine hs_istK_n dX10_wrong_28 (by decide) (hk_nk1 rfl ho1) rfl ?_
  refine hs_iconst (v := 0) dX10_wrong_29 (by decide) ?_
  refine hs_istK_n dX10_wrong_30 (by decide) (hk_nk1 rfl hk_c1i) rfl ?_
  refine hs_iconst (v := 0) dX10_wrong_31 (by decide) ?_
  refine hs_istK dX10_wrong_32 (by decide) (hk_nk1 rfl hk_c1i) rfl ?_
  exact k
theorem b_X10_wrong_34 {G : hk_G} {d cb sb : Nat} {h : hk_H} {Q : hk_O → hk_H → Prop} {x4 : Int32} {r0 : Nat} {fs1 : List Value} {v3 : Int32} {o1 : Option Value} {o2 : Option Value} {o3 : Option Value} {o5 : Option Value} {o6 : Option Value} {o7 : Option Value} (hg2 : h.2 r0 = some (.inr (10, fs1))) (hv4 : fs1[0]? = some (.int v3)) (kt : v3 ≤ x4 → hk_S G m_X10_wrong (d + 1) cb sb 80 [some (.ref r0), o1, o2, o3, some (.int x4), o5, o6, o7] [] h Q) (kf : ¬ v3 ≤ x4 → hk_S G m_X10_wrong (d + 1) cb sb 43 [some (.ref r0), o1, o2, o3, some (.int x4), o5, o6, o7] [] h Q) : hk_S G m_X10_wrong (d + 1) cb sb 34 [some (.ref r0), o1, o2, o3, some (.int x4), o5, o6, o7] [] h Q := by
  refine hs_iload dX10_wrong_34 rfl ?_
  refine hs_aload_n dX10_wrong_36 rfl ?_
  refine hs_get dX10_wrong_37 fl_X10_97_10 hg2 hv4 ?_
  exact hs_icmp_ge dX10_wrong_40 (by decide) kt kf
theorem b_X10_wrong_43 {G : hk_G} {d cb sb : Nat} {h : hk_H} {Q : hk_O → hk_H → Prop} {r0 : Nat} {fs1 : List Value} {v3 : Nat} {x4 : Int32} {v5 : Nat} {x1 : Int32} {n7 : Nat} {f8 : Nat → Int32} {n13 : Nat} {f14 : Nat → Int32} {h_1 : hk_H} {x3 : Int32} {fs19 : List Value} {v21 : Nat} {n23 : Nat} {f24 : Nat → Int32} {o2 : Option Value} {o5 : Option Value} {o6 : Option Value} {o7 : Option Value} (hg2 : h.2 r0 = some (.inr (10, fs1))) (hv4 : fs1[24]? = some (.ref v3)) (hv6 : fs1[19]? = some (.ref v5)) (ha9 : h.2 v5 = some (.inl (0, n7, .inl f8))) (j10 : Nat) (hi11 : ((4 * x1) + x4 : Int32).toInt = (j10 : Int)) (hj12 : j10 < n7) (ha15 : h.2 v3 = some (.inl (0, n13, .inl f14))) (h4_v3 : 4 ≤ v3) (j16 : Nat) (hi17 : (x4 : Int32).toInt = (j16 : Int)) (hj18 : j16 < n13) (e_1 : (hk_set h v3 (.inl (0, n13, .inl (upd f14 j16 (f8 j10))))) = h_1) (hg20 : h_1.2 r0 = some (.inr (10, fs19))) (hv22 : fs19[24]? = some (.ref v21)) (ha25 : h_1.2 v21 = some (.inl (0, n23, .inl f24))) (hj26 : j16 < n23) (k : hk_S G m_X10_wrong (d + 1) cb sb 34 [some (.ref r0), some (.int x1), o2, some (.int ((10 * x3) + (f24 j16))), some (.int (x4 + 1)), o5, o6, o7] [] h_1 Q) (ho2 : hk_c1 o2 := by first | exact hk_c1i | exact hk_c1r | exact hk_c10 | exact hk_c1n) : hk_S G m_X10_wrong (d + 1) cb sb 43 [some (.ref r0), some (.int x1), o2, some (.int x3), some (.int x4), o5, o6, o7] [] h Q := by
  subst e_1
  refine hs_aload_n dX10_wrong_43 rfl ?_
  refine hs_get dX10_wrong_44 fl_X10_66_10 hg2 hv4 ?_
  refine hs_iload dX10_wrong_47 rfl ?_
  refine hs_aload_n dX10_wrong_49 rfl ?_
  refine hs_get dX10_wrong_50 fl_X10_51_10 hg2 hv6 ?_
  refine hs_iconst (v := 4) dX10_wrong_53 (by decide) ?_
  refine hs_iload_n dX10_wrong_54 rfl ?_
  refine hs_imul dX10_wrong_55 ?_
  refine hs_iload dX10_wrong_56 rfl ?_
  refine hs_iadd dX10_wrong_58 ?_
  refine hs_iald j10 dX10_wrong_59 ha9 hi11 hj12 ?_
  refine hs_iast j16 dX10_wrong_60 ha15 h4_v3 hi17 hj18 ?_
  refine hs_bipush (v := 10) dX10_wrong_61 (by decide) ?_
  refine hs_iload_n dX10_wrong_63 rfl ?_
  refine hs_imul dX10_wrong_64 ?_
  refine hs_aload_n dX10_wrong_65 rfl ?_
  refine hs_get dX10_wrong_66 fl_X10_66_10 hg20 hv22 ?_
  refine hs_iload dX10_wrong_69 rfl ?_
  refine hs_iald j16 dX10_wrong_71 ha25 hi17 hj26 ?_
  refine hs_iadd dX10_wrong_72 ?_
  refine hs_istK_n dX10_wrong_73 (by decide) (hk_nk1 rfl ho2) rfl ?_
  refine hs_iincK (v := 1) dX10_wrong_74 rfl (by decide) (by decide) (hk_nk1 rfl hk_c1i) rfl ?_
  refine hs_goto dX10_wrong_77 (tgt := 34) (by decide) ?_
  exact k
theorem b_X10_wrong_80 {G : hk_G} {d cb sb : Nat} {h : hk_H} {Q : hk_O → hk_H → Prop} {o0 : Option Value} {o1 : Option Value} {o2 : Option Value} {o3 : Option Value} {o4 : Option Value} {o5 : Option Value} {o6 : Option Value} {o7 : Option Value} (k : hk_S G m_X10_wrong (d + 1) cb sb 87 [o0, o1, o2, o3, some (.int ((-2))), some (.int 0), o6, o7] [] h Q) (ho3 : hk_c1 o3 := by first | exact hk_c1i | exact hk_c1r | exact hk_c10 | exact hk_c1n) : hk_S G m_X10_wrong (d + 1) cb sb 80 [o0, o1, o2, o3, o4, o5, o6, o7] [] h Q := by
  refine hs_bipush (v := (-2)) dX10_wrong_80 (by decide) ?_
  refine hs_istK dX10_wrong_82 (by decide) (hk_nk1 rfl ho3) rfl ?_
  refine hs_iconst (v := 0) dX10_wrong_84 (by decide) ?_
  refine hs_istK dX10_wrong_85 (by decide) (hk_nk1 rfl hk_c1i) rfl ?_
  exact k
theorem b_X10_wrong_87 {G : hk_G} {d cb sb : Nat} {h : hk_H} {Q : hk_O → hk_H → Prop} {x5 : Int32} {r0 : Nat} {fs_ : List Value} {o1 : Option Value} {o2 : Option Value} {o3 : Option Value} {o4 : Option Value} {o6 : Option Value} {o7 : Option Value} (hrec : h.2 r0 = some (.inr (10, fs_))) (hc : hk_Ci G m_X10_last d 0 0 [.ref r0] h (fun z h' => hk_S G m_X10_wrong (d + 1) cb sb 93 [some (.ref r0), o1, o2, o3, o4, some (.int x5), o6, o7] [.int z, .int x5] h' Q)) : hk_S G m_X10_wrong (d + 1) cb sb 87 [some (.ref r0), o1, o2, o3, o4, some (.int x5), o6, o7] [] h Q := by
  refine hs_iload dX10_wrong_87 rfl ?_
  refine hs_aload_n dX10_wrong_89 rfl ?_
  exact hk_z0 (hs_vir (M' := m_X10_last) (vs := []) (c1 := 0) (s1 := 0) dX10_wrong_90 wd_1441 vi_X10_last hrec rfl (Nat.le_of_ble_eq_true rfl) hc hq_i (hc_i (fun z h9 k9 => k9)))
theorem b_X10_wrong_93 {G : hk_G} {d cb sb : Nat} {h : hk_H} {Q : hk_O → hk_H → Prop} {s0 : Int32} {s1 : Int32} {o0 : Option Value} {o1 : Option Value} {o2 : Option Value} {o3 : Option Value} {o4 : Option Value} {o5 : Option Value} {o6 : Option Value} {o7 : Option Value} (kt : s1 < s0 → hk_S G m_X10_wrong (d + 1) cb sb 224 [o0, o1, o2, o3, o4, o5, o6, o7] [] h Q) (kf : ¬ s1 < s0 → hk_S G m_X10_wrong (d + 1) cb sb 96 [o0, o1, o2, o3, o4, o5, o6, o7] [] h Q) : hk_S G m_X10_wrong (d + 1) cb sb 93 [o0, o1, o2, o3, o4, o5, o6, o7] [.int s1, .int s0] h Q := by
  exact hs_icmp_gt dX10_wrong_93 (by decide) kt kf
theorem b_X10_wrong_96 {G : hk_G} {d cb sb : Nat} {h : hk_H} {Q : hk_O → hk_H → Prop} {x4 : Int32} {o0 : Option Value} {o1 : Option Value} {o2 : Option Value} {o3 : Option Value} {o5 : Option Value} {o6 : Option Value} {o7 : Option Value} (kt : ¬ x4 = ((-2)) → hk_S G m_X10_wrong (d + 1) cb sb 224 [o0, o1, o2, o3, some (.int x4), o5, o6, o7] [] h Q) (kf : x4 = ((-2)) → hk_S G m_X10_wrong (d + 1) cb sb 103 [o0, o1, o2, o3, some (.int x4), o5, o6, o7] [] h Q) : hk_S G m_X10_wrong (d + 1) cb sb 96 [o0, o1, o2, o3, some (.int x4), o5, o6, o7] [] h Q := by
  refine hs_iload dX10_wrong_96 rfl ?_
  refine hs_bipush (v := (-2)) dX10_wrong_98 (by decide) ?_
  exact hs_icmp_ne dX10_wrong_100 (by decide) kt kf
theorem b_X10_wrong_103 {G : hk_G} {d cb sb : Nat} {h : hk_H} {Q : hk_O → hk_H → Prop} {r0 : Nat} {x5 : Int32} {fs1 : List Value} {v3 : Nat} {o1 : Option Value} {o2 : Option Value} {o3 : Option Value} {o4 : Option Value} {o6 : Option Value} {o7 : Option Value} (hg2 : h.2 r0 = some (.inr (10, fs1))) (hv4 : fs1[21]? = some (.ref v3)) (hc : hk_Ci G m_X10_digits d 0 0 [.ref r0, .int x5, .ref v3] h (fun z h' => hk_S G m_X10_wrong (d + 1) cb sb 113 [some (.ref r0), o1, o2, o3, o4, some (.int x5), o6, o7] [.int z] h' Q)) : hk_S G m_X10_wrong (d + 1) cb sb 103 [some (.ref r0), o1, o2, o3, o4, some (.int x5), o6, o7] [] h Q := by
  refine hs_aload_n dX10_wrong_103 rfl ?_
  refine hs_iload dX10_wrong_104 rfl ?_
  refine hs_aload_n dX10_wrong_106 rfl ?_
  refine hs_get dX10_wrong_107 fl_X10_57_10 hg2 hv4 ?_
  exact hk_z0 (hs_vir (M' := m_X10_digits) (vs := [.int x5, .ref v3]) (c1 := 0) (s1 := 0) dX10_wrong_110 wd_1397 vi_X10_digits hg2 rfl (Nat.le_of_ble_eq_true rfl) hc hq_i (hc_i (fun z h9 k9 => k9)))
theorem b_X10_wrong_113 {G : hk_G} {d cb sb : Nat} {h : hk_H} {Q : hk_O → hk_H → Prop} {s0 : Int32} {o0 : Option Value} {o1 : Option Value} {o2 : Option Value} {o3 : Option Value} {o4 : Option Value} {o5 : Option Value} {o6 : Option Value} {o7 : Option Value} (kt : ¬ s0 = 0 → hk_S G m_X10_wrong (d + 1) cb sb 119 [o0, o1, o2, o3, o4, o5, o6, o7] [] h Q) (kf : s0 = 0 → hk_S G m_X10_wrong (d + 1) cb sb 116 [o0, o1, o2, o3, o4, o5, o6, o7] [] h Q) : hk_S G m_X10_wrong (d + 1) cb sb 113 [o0, o1, o2, o3, o4, o5, o6, o7] [.int s0] h Q := by
  exact hs_if_ne dX10_wrong_113 (by decide) kt kf
theorem b_X10_wrong_116 {G : hk_G} {d cb sb : Nat} {h : hk_H} {Q : hk_O → hk_H → Prop} {x5 : Int32} {o0 : Option Value} {o1 : Option Value} {o2 : Option Value} {o3 : Option Value} {o4 : Option Value} {o6 : Option Value} {o7 : Option Value} (k : hk_S G m_X10_wrong (d + 1) cb sb 87 [o0, o1, o2, o3, o4, some (.int (x5 + 1)), o6, o7] [] h Q) (ho4 : hk_c1 o4 := by first | exact hk_c1i | exact hk_c1r | exact hk_c10 | exact hk_c1n) : hk_S G m_X10_wrong (d + 1) cb sb 116 [o0, o1, o2, o3, o4, some (.int x5), o6, o7] [] h Q := by
  refine hs_goto dX10_wrong_116 (tgt := 218) (by decide) ?_
  refine hs_iincK (v := 1) dX10_wrong_218 rfl (by decide) (by decide) (hk_nk1 rfl ho4) rfl ?_
  refine hs_goto dX10_wrong_221 (tgt := 87) (by decide) ?_
  exact k
theorem b_X10_wrong_119 {G : hk_G} {d cb sb : Nat} {h : hk_H} {Q : hk_O → hk_H → Prop} {o0 : Option Value} {o1 : Option Value} {o2 : Option Value} {o3 : Option Value} {o4 : Option Value} {o5 : Option Value} {o6 : Option Value} {o7 : Option Value} (k : hk_S G m_X10_wrong (d + 1) cb sb 122 [o0, o1, o2, o3, o4, o5, some (.int 0), o7] [] h Q) (ho5 : hk_c1 o5 := by first | exact hk_c1i | exact hk_c1r | exact hk_c10 | exact hk_c1n) : hk_S G m_X10_wrong (d + 1) cb sb 119 [o0, o1, o2, o3, o4, o5, o6, o7] [] h Q := by
  refine hs_iconst (v := 0) dX10_wrong_119 (by decide) ?_
  refine hs_istK dX10_wrong_120 (by decide) (hk_nk1 rfl ho5) rfl ?_
  exact k
theorem b_X10_wrong_122 {G : hk_G} {d cb sb : Nat} {h : hk_H} {Q : hk_O → hk_H → Prop} {x6 : Int32} {r0 : Nat} {fs1 : List Value} {v3 : Int32} {o1 : Option Value} {o2 : Option Value} {o3 : Option Value} {o4 : Option Value} {o5 : Option Value} {o7 : Option Value} (hg2 : h.2 r0 = some (.inr (10, fs1))) (hv4 : fs1[0]? = some (.int v3)) (kt : v3 ≤ x6 → hk_S G m_X10_wrong (d + 1) cb sb 155 [some (.ref r0), o1, o2, o3, o4, o5, some (.int x6), o7] [] h Q) (kf : ¬ v3 ≤ x6 → hk_S G m_X10_wrong (d + 1) cb sb 131 [some (.ref r0), o1, o2, o3, o4, o5, some (.int x6), o7] [] h Q) : hk_S G m_X10_wrong (d + 1) cb sb 122 [some (.ref r0), o1, o2, o3, o4, o5, some (.int x6), o7] [] h Q := by
  refine hs_iload dX10_wrong_122 rfl ?_
  refine hs_aload_n dX10_wrong_124 rfl ?_
  refine hs_get dX10_wrong_125 fl_X10_97_10 hg2 hv4 ?_
  exact hs_icmp_ge dX10_wrong_128 (by decide) kt kf
theorem b_X10_wrong_131 {G : hk_G} {d cb sb : Nat} {h : hk_H} {Q : hk_O → hk_H → Prop} {r0 : Nat} {fs1 : List Value} {v3 : Nat} {x1 : Int32} {x6 : Int32} {v5 : Nat} {n7 : Nat} {f8 : Nat → Int32} {n13 : Nat} {f14 : Nat → Int32} {h_1 : hk_H} {o2 : Option Value} {o3 : Option Value} {o4 : Option Value} {o5 : Option Value} {o7 : Option Value} (hg2 : h.2 r0 = some (.inr (10, fs1))) (hv4 : fs1[19]? = some (.ref v3)) (hv6 : fs1[21]? = some (.ref v5)) (ha9 : h.2 v5 = some (.inl (0, n7, .inl f8))) (j10 : Nat) (hi11 : (x6 : Int32).toInt = (j10 : Int)) (hj12 : j10 < n7) (ha15 : h.2 v3 = some (.inl (0, n13, .inl f14))) (h4_v3 : 4 ≤ v3) (j16 : Nat) (hi17 : ((4 * x1) + x6 : Int32).toInt = (j16 : Int)) (hj18 : j16 < n13) (e_1 : (hk_set h v3 (.inl (0, n13, .inl (upd f14 j16 (f8 j10))))) = h_1) (k : hk_S G m_X10_wrong (d + 1) cb sb 122 [some (.ref r0), some (.int x1), o2, o3, o4, o5, some (.int (x6 + 1)), o7] [] h_1 Q) (ho5 : hk_c1 o5 := by first | exact hk_c1i | exact hk_c1r | exact hk_c10 | exact hk_c1n) : hk_S G m_X10_wrong (d + 1) cb sb 131 [some (.ref r0), some (.int x1), o2, o3, o4, o5, some (.int x6), o7] [] h Q := by
  subst e_1
  refine hs_aload_n dX10_wrong_131 rfl ?_
  refine hs_get dX10_wrong_132 fl_X10_51_10 hg2 hv4 ?_
  refine hs_iconst (v := 4) dX10_wrong_135 (by decide) ?_
  refine hs_iload_n dX10_wrong_136 rfl ?_
  refine hs_imul dX10_wrong_137 ?_
  refine hs_iload dX10_wrong_138 rfl ?_
  refine hs_iadd dX10_wrong_140 ?_
  refine hs_aload_n dX10_wrong_141 rfl ?_
  refine hs_get dX10_wrong_142 fl_X10_57_10 hg2 hv6 ?_
  refine hs_iload dX10_wrong_145 rfl ?_
  refine hs_iald j10 dX10_wrong_147 ha9 hi11 hj12 ?_
  refine hs_iast j16 dX10_wrong_148 ha15 h4_v3 hi17 hj18 ?_
  refine hs_iincK (v := 1) dX10_wrong_149 rfl (by decide) (by decide) (hk_nk1 rfl ho5) rfl ?_
  refine hs_goto dX10_wrong_152 (tgt := 122) (by decide) ?_
  exact k
theorem b_X10_wrong_155 {G : hk_G} {d cb sb : Nat} {h : hk_H} {Q : hk_O → hk_H → Prop} {r0 : Nat} {fs_ : List Value} {o1 : Option Value} {o2 : Option Value} {o3 : Option Value} {o4 : Option Value} {o5 : Option Value} {o6 : Option Value} {o7 : Option Value} (hrec : h.2 r0 = some (.inr (10, fs_))) (hc : hk_Cv G m_X10_ring d 0 0 [.ref r0] h (fun h' => hk_S G m_X10_wrong (d + 1) cb sb 159 [some (.ref r0), o1, o2, o3, o4, o5, o6, o7] [] h' Q)) : hk_S G m_X10_wrong (d + 1) cb sb 155 [some (.ref r0), o1, o2, o3, o4, o5, o6, o7] [] h Q := by
  refine hs_aload_n dX10_wrong_155 rfl ?_
  exact hk_z0 (hs_vir (M' := m_X10_ring) (vs := []) (c1 := 0) (s1 := 0) dX10_wrong_156 wd_1405 vi_X10_ring hrec rfl (Nat.le_of_ble_eq_true rfl) hc hq_v (hc_v (fun h9 k9 => k9)))
theorem b_X10_wrong_159 {G : hk_G} {d cb sb : Nat} {h : hk_H} {Q : hk_O → hk_H → Prop} {r0 : Nat} {fs1 : List Value} {v3 : Nat} {x1 : Int32} {n5 : Nat} {f6 : Nat → Int32} {o2 : Option Value} {o3 : Option Value} {o4 : Option Value} {o5 : Option Value} {o6 : Option Value} {o7 : Option Value} (hg2 : h.2 r0 = some (.inr (10, fs1))) (hv4 : fs1[20]? = some (.ref v3)) (ha7 : h.2 v3 = some (.inl (0, n5, .inl f6))) (j8 : Nat) (hi9 : (x1 : Int32).toInt = (j8 : Int)) (hj10 : j8 < n5) (k : hk_S G m_X10_wrong (d + 1) cb sb 170 [some (.ref r0), some (.int x1), o2, o3, o4, o5, some (.int (f6 j8)), some (.int 0)] [] h Q) (ho5 : hk_c1 o5 := by first | exact hk_c1i | exact hk_c1r | exact hk_c10 | exact hk_c1n) : hk_S G m_X10_wrong (d + 1) cb sb 159 [some (.ref r0), some (.int x1), o2, o3, o4, o5, o6, o7] [] h Q := by
  refine hs_aload_n dX10_wrong_159 rfl ?_
  refine hs_get dX10_wrong_160 fl_X10_54_10 hg2 hv4 ?_
  refine hs_iload_n dX10_wrong_163 rfl ?_
  refine hs_iald j8 dX10_wrong_164 ha7 hi9 hj10 ?_
  refine hs_istK dX10_wrong_165 (by decide) (hk_nk1 rfl ho5) rfl ?_
  refine hs_iconst (v := 0) dX10_wrong_167 (by decide) ?_
  refine hs_istK dX10_wrong_168 (by decide) (hk_nk1 rfl hk_c1i) rfl ?_
  exact k
theorem b_X10_wrong_170 {G : hk_G} {d cb sb : Nat} {h : hk_H} {Q : hk_O → hk_H → Prop} {x7 : Int32} {r0 : Nat} {fs1 : List Value} {v3 : Int32} {o1 : Option Value} {o2 : Option Value} {o3 : Option Value} {o4 : Option Value} {o5 : Option Value} {o6 : Option Value} (hg2 : h.2 r0 = some (.inr (10, fs1))) (hv4 : fs1[0]? = some (.int v3)) (kt : v3 ≤ x7 → hk_S G m_X10_wrong (d + 1) cb sb 203 [some (.ref r0), o1, o2, o3, o4, o5, o6, some (.int x7)] [] h Q) (kf : ¬ v3 ≤ x7 → hk_S G m_X10_wrong (d + 1) cb sb 179 [some (.ref r0), o1, o2, o3, o4, o5, o6, some (.int x7)] [] h Q) : hk_S G m_X10_wrong (d + 1) cb sb 170 [some (.ref r0), o1, o2, o3, o4, o5, o6, some (.int x7)] [] h Q := by
  refine hs_iload dX10_wrong_170 rfl ?_
  refine hs_aload_n dX10_wrong_172 rfl ?_
  refine hs_get dX10_wrong_173 fl_X10_97_10 hg2 hv4 ?_
  exact hs_icmp_ge dX10_wrong_176 (by decide) kt kf
theorem b_X10_wrong_179 {G : hk_G} {d cb sb : Nat} {h : hk_H} {Q : hk_O → hk_H → Prop} {r0 : Nat} {fs1 : List Value} {v3 : Nat} {x1 : Int32} {x7 : Int32} {v5 : Nat} {n7 : Nat} {f8 : Nat → Int32} {n13 : Nat} {f14 : Nat → Int32} {h_1 : hk_H} {o2 : Option Value} {o3 : Option Value} {o4 : Option Value} {o5 : Option Value} {o6 : Option Value} (hg2 : h.2 r0 = some (.inr (10, fs1))) (hv4 : fs1[19]? = some (.ref v3)) (hv6 : fs1[24]? = some (.ref v5)) (ha9 : h.2 v5 = some (.inl (0, n7, .inl f8))) (j10 : Nat) (hi11 : (x7 : Int32).toInt = (j10 : Int)) (hj12 : j10 < n7) (ha15 : h.2 v3 = some (.inl (0, n13, .inl f14))) (h4_v3 : 4 ≤ v3) (j16 : Nat) (hi17 : ((4 * x1) + x7 : Int32).toInt = (j16 : Int)) (hj18 : j16 < n13) (e_1 : (hk_set h v3 (.inl (0, n13, .inl (upd f14 j16 (f8 j10))))) = h_1) (k : hk_S G m_X10_wrong (d + 1) cb sb 170 [some (.ref r0), some (.int x1), o2, o3, o4, o5, o6, some (.int (x7 + 1))] [] h_1 Q) (ho6 : hk_c1 o6 := by first | exact hk_c1i | exact hk_c1r | exact hk_c10 | exact hk_c1n) : hk_S G m_X10_wrong (d + 1) cb sb 179 [some (.ref r0), some (.int x1), o2, o3, o4, o5, o6, some (.int x7)] [] h Q := by
  subst e_1
  refine hs_aload_n dX10_wrong_179 rfl ?_
  refine hs_get dX10_wrong_180 fl_X10_51_10 hg2 hv4 ?_
  refine hs_iconst (v := 4) dX10_wrong_183 (by decide) ?_
  refine hs_iload_n dX10_wrong_184 rfl ?_
  refine hs_imul dX10_wrong_185 ?_
  refine hs_iload dX10_wrong_186 rfl ?_
  refine hs_iadd dX10_wrong_188 ?_
  refine hs_aload_n dX10_wrong_189 rfl ?_
  refine hs_get dX10_wrong_190 fl_X10_66_10 hg2 hv6 ?_
  refine hs_iload dX10_wrong_193 rfl ?_
  refine hs_iald j10 dX10_wrong_195 ha9 hi11 hj12 ?_
  refine hs_iast j16 dX10_wrong_196 ha15 h4_v3 hi17 hj18 ?_
  refine hs_iincK (v := 1) dX10_wrong_197 rfl (by decide) (by decide) (hk_nk1 rfl ho6) rfl ?_
  refine hs_goto dX10_wrong_200 (tgt := 170) (by decide) ?_
  exact k
theorem b_X10_wrong_203 {G : hk_G} {d cb sb : Nat} {h : hk_H} {Q : hk_O → hk_H → Prop} {r0 : Nat} {x1 : Int32} {x6 : Int32} {fs_ : List Value} {o2 : Option Value} {o3 : Option Value} {o4 : Option Value} {o5 : Option Value} {o7 : Option Value} (hrec : h.2 r0 = some (.inr (10, fs_))) (hc : hk_Ci G m_X10_place d 0 0 [.ref r0, .int x1, .int x6] h (fun z h' => hk_S G m_X10_wrong (d + 1) cb sb 210 [some (.ref r0), some (.int x1), o2, o3, o4, o5, some (.int x6), o7] [.int z] h' Q)) : hk_S G m_X10_wrong (d + 1) cb sb 203 [some (.ref r0), some (.int x1), o2, o3, o4, o5, some (.int x6), o7] [] h Q := by
  refine hs_aload_n dX10_wrong_203 rfl ?_
  refine hs_iload_n dX10_wrong_204 rfl ?_
  refine hs_iload dX10_wrong_205 rfl ?_
  exact hk_z0 (hs_vir (M' := m_X10_place) (vs := [.int x1, .int x6]) (c1 := 0) (s1 := 0) dX10_wrong_207 wd_1449 vi_X10_place hrec rfl (Nat.le_of_ble_eq_true rfl) hc hq_i (hc_i (fun z h9 k9 => k9)))
theorem b_X10_wrong_210 {G : hk_G} {d cb sb : Nat} {h : hk_H} {Q : hk_O → hk_H → Prop} {s0 : Int32} {x2 : Int32} {o0 : Option Value} {o1 : Option Value} {o3 : Option Value} {o4 : Option Value} {o5 : Option Value} {o6 : Option Value} {o7 : Option Value} (kt : x2 ≤ s0 → hk_S G m_X10_wrong (d + 1) cb sb 218 [o0, o1, some (.int x2), o3, o4, o5, o6, o7] [] h Q) (kf : ¬ x2 ≤ s0 → hk_S G m_X10_wrong (d + 1) cb sb 214 [o0, o1, some (.int x2), o3, o4, o5, o6, o7] [] h Q) : hk_S G m_X10_wrong (d + 1) cb sb 210 [o0, o1, some (.int x2), o3, o4, o5, o6, o7] [.int s0] h Q := by
  refine hs_iload_n dX10_wrong_210 rfl ?_
  exact hs_icmp_ge dX10_wrong_211 (by decide) kt kf
theorem b_X10_wrong_214 {G : hk_G} {d cb sb : Nat} {h : hk_H} {Q : hk_O → hk_H → Prop} {x5 : Int32} {o0 : Option Value} {o1 : Option Value} {o2 : Option Value} {o3 : Option Value} {o4 : Option Value} {o6 : Option Value} {o7 : Option Value} (k : hk_S G m_X10_wrong (d + 1) cb sb 87 [o0, o1, o2, o3, some (.int x5), some (.int (x5 + 1)), o6, o7] [] h Q) (ho3 : hk_c1 o3 := by first | exact hk_c1i | exact hk_c1r | exact hk_c10 | exact hk_c1n) : hk_S G m_X10_wrong (d + 1) cb sb 214 [o0, o1, o2, o3, o4, some (.int x5), o6, o7] [] h Q := by
  refine hs_iload dX10_wrong_214 rfl ?_
  refine hs_istK dX10_wrong_216 (by decide) (hk_nk1 rfl ho3) rfl ?_
  refine hs_iincK (v := 1) dX10_wrong_218 rfl (by decide) (by decide) (hk_nk1 rfl hk_c1i) rfl ?_
  refine hs_goto dX10_wrong_221 (tgt := 87) (by decide) ?_
  exact k
theorem b_X10_wrong_218 {G : hk_G} {d cb sb : Nat} {h : hk_H} {Q : hk_O → hk_H → Prop} {x5 : Int32} {o0 : Option Value} {o1 : Option Value} {o2 : Option Value} {o3 : Option Value} {o4 : Option Value} {o6 : Option Value} {o7 : Option Value} (k : hk_S G m_X10_wrong (d + 1) cb sb 87 [o0, o1, o2, o3, o4, some (.int (x5 + 1)), o6, o7] [] h Q) (ho4 : hk_c1 o4 := by first | exact hk_c1i | exact hk_c1r | exact hk_c10 | exact hk_c1n) : hk_S G m_X10_wrong (d + 1) cb sb 218 [o0, o1, o2, o3, o4, some (.int x5), o6, o7] [] h Q := by
  refine hs_iincK (v := 1) dX10_wrong_218 rfl (by decide) (by decide) (hk_nk1 rfl ho4) rfl ?_
  refine hs_goto dX10_wrong_221 (tgt := 87) (by decide) ?_
  exact k
theorem b_X10_wrong_224 {G : hk_G} {d cb sb : Nat} {h : hk_H} {Q : hk_O → hk_H → Prop} {x4 : Int32} {o0 : Option Value} {o1 : Option Value} {o2 : Option Value} {o3 : Option Value} {o5 : Option Value} {o6 : Option Value} {o7 : Option Value} (hq : Q (.inl (some (.int x4))) h) : hk_S G m_X10_wrong (d + 1) cb sb 224 [o0, o1, o2, o3, some (.int x4), o5, o6, o7] [] h Q := by
  refine hs_iload dX10_wrong_224 rfl ?_
  exact hs_iret dX10_wrong_226 rfl hq
-- HonestHouseModel.count(I)I
theorem b_X10_count_0 {G : hk_G} {d cb sb : Nat} {h : hk_H} {Q : hk_O → hk_H → Prop} {x1 : Int32} {o0 : Option Value} {o2 : Option Value} {o3 : Option Value} {o4 : Option Value} (k0 : x1 = 0 → hk_S G m_X10_count (d + 1) cb sb 44 [o0, some (.int x1), some (.int 0), o3, o4] [] h Q) (k1 : x1 = 1 → hk_S G m_X10_count (d + 1) cb sb 49 [o0, some (.int x1), some (.int 0), o3, o4] [] h Q) (k2 : x1 = 2 → hk_S G m_X10_count (d + 1) cb sb 54 [o0, some (.int x1), some (.int 0), o3, o4] [] h Q) (k3 : x1 = 3 → hk_S G m_X10_count (d + 1) cb sb 59 [o0, some (.int x1), some (.int 0), o3, o4] [] h Q) (k4 : x1 = 4 → hk_S G m_X10_count (d + 1) cb sb 64 [o0, some (.int x1), some (.int 0), o3, o4] [] h Q) (k5 : x1 = 5 → hk_S G m_X10_count (d + 1) cb sb 69 [o0, some (.int x1), some (.int 0), o3, o4] [] h Q) (k6 : x1 = 6 → hk_S G m_X10_count (d + 1) cb sb 69 [o0, some (.int x1), some (.int 0), o3, o4] [] h Q) (kd : ¬ x1 = 0 → ¬ x1 = 1 → ¬ x1 = 2 → ¬ x1 = 3 → ¬ x1 = 4 → ¬ x1 = 5 → ¬ x1 = 6 → hk_S G m_X10_count (d + 1) cb sb 167 [o0, some (.int x1), some (.int 0), o3, o4] [] h Q) : hk_S G m_X10_count (d + 1) cb sb 0 [o0, some (.int x1), o2, o3, o4] [] h Q := by
  refine hs_iconst (v := 0) dX10_count_0 (by decide) ?_
  refine hs_istK_n dX10_count_1 (by decide) (hk_nk1 rfl hk_c1i) rfl ?_
  refine hs_iload_n dX10_count_2 rfl ?_
  by_cases c0 : x1 = 0
  · exact hs_tableIn dX10_count_3 (by rw [c0]; decide) (by rw [c0]; decide) (off := 41) (by rw [c0]; rfl) (by decide) (k0 c0)
  by_cases c1 : x1 = 1
  · exact hs_tableIn dX10_count_3 (by rw [c1]; decide) (by rw [c1]; decide) (off := 46) (by rw [c1]; rfl) (by decide) (k1 c1)
  by_cases c2 : x1 = 2
  · exact hs_tableIn dX10_count_3 (by rw [c2]; decide) (by rw [c2]; decide) (off := 51) (by rw [c2]; rfl) (by decide) (k2 c2)
  by_cases c3 : x1 = 3
  · exact hs_tableIn dX10_count_3 (by rw [c3]; decide) (by rw [c3]; decide) (off := 56) (by rw [c3]; rfl) (by decide) (k3 c3)
  by_cases c4 : x1 = 4
  · exact hs_tableIn dX10_count_3 (by rw [c4]; decide) (by rw [c4]; decide) (off := 61) (by rw [c4]; rfl) (by decide) (k4 c4)
  by_cases c5 : x1 = 5
  · exact hs_tableIn dX10_count_3 (by rw [c5]; decide) (by rw [c5]; decide) (off := 66) (by rw [c5]; rfl) (by decide) (k5 c5)
  by_cases c6 : x1 = 6
  · exact hs_tableIn dX10_count_3 (by rw [c6]; decide) (by rw [c6]; decide) (off := 66) (by rw [c6]; rfl) (by decide) (k6 c6)
  have n0 := lv_neT (a := 0) c0 rfl
  have n1 := lv_neT (a := 1) c1 rfl
  have n2 := lv_neT (a := 2) c2 rfl
  have n3 := lv_neT (a := 3) c3 rfl
  have n4 := lv_neT (a := 4) c4 rfl
  have n5 := lv_neT (a := 5) c5 rfl
  have n6 := lv_neT (a := 6) c6 rfl
  exact hs_tableOut dX10_count_3 (by omega) (by decide) (kd c0 c1 c2 c3 c4 c5 c6)
theorem b_X10_count_44 {G : hk_G} {d cb sb : Nat} {h : hk_H} {Q : hk_O → hk_H → Prop} {r0 : Nat} {fs1 : List Value} {v3 : Int32} {o1 : Option Value} {o2 : Option Value} {o3 : Option Value} {o4 : Option Value} (hg2 : h.2 r0 = some (.inr (10, fs1))) (hv4 : fs1[0]? = some (.int v3)) (hq : Q (.inl (some (.int v3))) h) : hk_S G m_X10_count (d + 1) cb sb 44 [some (.ref r0), o1, o2, o3, o4] [] h Q := by
  refine hs_aload_n dX10_count_44 rfl ?_
  refine hs_get dX10_count_45 fl_X10_97_10 hg2 hv4 ?_
  exact hs_iret dX10_count_48 rfl hq
theorem b_X10_count_49 {G : hk_G} {d cb sb : Nat} {h : hk_H} {Q : hk_O → hk_H → Prop} {r0 : Nat} {fs1 : List Value} {v3 : Int32} {o1 : Option Value} {o2 : Option Value} {o3 : Option Value} {o4 : Option Value} (hg2 : h.2 r0 = some (.inr (10, fs1))) (hv4 : fs1[1]? = some (.int v3)) (hq : Q (.inl (some (.int v3))) h) : hk_S G m_X10_count (d + 1) cb sb 49 [some (.ref r0), o1, o2, o3, o4] [] h Q := by
  refine hs_aload_n dX10_count_49 rfl ?_
  refine hs_get dX10_count_50 fl_X10_101_10 hg2 hv4 ?_
  exact hs_iret dX10_count_53 rfl hq
theorem b_X10_count_54 {G : hk_G} {d cb sb : Nat} {h : hk_H} {Q : hk_O → hk_H → Prop} {r0 : Nat} {fs1 : List Value} {v3 : Int32} {o1 : Option Value} {o2 : Option Value} {o3 : Option Value} {o4 : Option Value} (hg2 : h.2 r0 = some (.inr (10, fs1))) (hv4 : fs1[2]? = some (.int v3)) (hq : Q (.inl (some (.int v3))) h) : hk_S G m_X10_count (d + 1) cb sb 54 [some (.ref r0), o1, o2, o3, o4] [] h Q := by
  refine hs_aload_n dX10_count_54 rfl ?_
  refine hs_get dX10_count_55 fl_X10_110_10 hg2 hv4 ?_
  exact hs_iret dX10_count_58 rfl hq
theorem b_X10_count_59 {G : hk_G} {d cb sb : Nat} {h : hk_H} {Q : hk_O → hk_H → Prop} {r0 : Nat} {fs1 : List Value} {v3 : Int32} {o1 : Option Value} {o2 : Option Value} {o3 : Option Value} {o4 : Option Value} (hg2 : h.2 r0 = some (.inr (10, fs1))) (hv4 : fs1[3]? = some (.int v3)) (hq : Q (.inl (some (.int v3))) h) : hk_S G m_X10_count (d + 1) cb sb 59 [some (.ref r0), o1, o2, o3, o4] [] h Q := by
  refine hs_aload_n dX10_count_59 rfl ?_
  refine hs_get dX10_count_60 fl_X10_116_10 hg2 hv4 ?_
  exact hs_iret dX10_count_63 rfl hq
theorem b_X10_count_64 {G : hk_G} {d cb sb : Nat} {h : hk_H} {Q : hk_O → hk_H → Prop} {r0 : Nat} {fs1 : List Value} {v3 : Int32} {o1 : Option Value} {o2 : Option Value} {o3 : Option Value} {o4 : Option Value} (hg2 : h.2 r0 = some (.inr (10, fs1))) (hv4 : fs1[4]? = some (.int v3)) (hq : Q (.inl (some (.int v3))) h) : hk_S G m_X10_count (d + 1) cb sb 64 [some (.ref r0), o1, o2, o3, o4] [] h Q := by
  refine hs_aload_n dX10_count_64 rfl ?_
  refine hs_get dX10_count_65 fl_X10_113_10 hg2 hv4 ?_
  exact hs_iret dX10_count_68 rfl hq
theorem b_X10_count_69 {G : hk_G} {d cb sb : Nat} {h : hk_H} {Q : hk_O → hk_H → Prop} {o0 : Option Value} {o1 : Option Value} {o2 : Option Value} {o3 : Option Value} {o4 : Option Value} (k : hk_S G m_X10_count (d + 1) cb sb 71 [o0, o1, o2, some (.int 0), o4] [] h Q) (ho2 : hk_c1 o2 := by first | exact hk_c1i | exact hk_c1r | exact hk_c10 | exact hk_c1n) : hk_S G m_X10_count (d + 1) cb sb 69 [o0, o1, o2, o3, o4] [] h Q := by
  refine hs_iconst (v := 0) dX10_count_69 (by decide) ?_
  refine hs_istK_n dX10_count_70 (by decide) (hk_nk1 rfl ho2) rfl ?_
  exact k
theorem b_X10_count_71 {G : hk_G} {d cb sb : Nat} {h : hk_H} {Q : hk_O → hk_H → Prop} {x3 : Int32} {r0 : Nat} {fs_ : List Value} {o1 : Option Value} {o2 : Option Value} {o4 : Option Value} (hrec : h.2 r0 = some (.inr (10, fs_))) (hc : hk_Ci G m_X10_last d 0 0 [.ref r0] h (fun z h' => hk_S G m_X10_count (d + 1) cb sb 76 [some (.ref r0), o1, o2, some (.int x3), o4] [.int z, .int x3] h' Q)) : hk_S G m_X10_count (d + 1) cb sb 71 [some (.ref r0), o1, o2, some (.int x3), o4] [] h Q := by
  refine hs_iload_n dX10_count_71 rfl ?_
  refine hs_aload_n dX10_count_72 rfl ?_
  exact hk_z0 (hs_vir (M' := m_X10_last) (vs := []) (c1 := 0) (s1 := 0) dX10_count_73 wd_1441 vi_X10_last hrec rfl (Nat.le_of_ble_eq_true rfl) hc hq_i (hc_i (fun z h9 k9 => k9)))
theorem b_X10_count_76 {G : hk_G} {d cb sb : Nat} {h : hk_H} {Q : hk_O → hk_H → Prop} {s0 : Int32} {s1 : Int32} {o0 : Option Value} {o1 : Option Value} {o2 : Option Value} {o3 : Option Value} {o4 : Option Value} (kt : s1 < s0 → hk_S G m_X10_count (d + 1) cb sb 165 [o0, o1, o2, o3, o4] [] h Q) (kf : ¬ s1 < s0 → hk_S G m_X10_count (d + 1) cb sb 79 [o0, o1, o2, o3, o4] [] h Q) : hk_S G m_X10_count (d + 1) cb sb 76 [o0, o1, o2, o3, o4] [.int s1, .int s0] h Q := by
  exact hs_icmp_gt dX10_count_76 (by decide) kt kf
theorem b_X10_count_79 {G : hk_G} {d cb sb : Nat} {h : hk_H} {Q : hk_O → hk_H → Prop} {r0 : Nat} {x3 : Int32} {fs1 : List Value} {v3 : Nat} {o1 : Option Value} {o2 : Option Value} {o4 : Option Value} (hg2 : h.2 r0 = some (.inr (10, fs1))) (hv4 : fs1[24]? = some (.ref v3)) (hc : hk_Ci G m_X10_digits d 0 0 [.ref r0, .int x3, .ref v3] h (fun z h' => hk_S G m_X10_count (d + 1) cb sb 88 [some (.ref r0), o1, o2, some (.int x3), o4] [.int z] h' Q)) : hk_S G m_X10_count (d + 1) cb sb 79 [some (.ref r0), o1, o2, some (.int x3), o4] [] h Q := by
  refine hs_aload_n dX10_count_79 rfl ?_
  refine hs_iload_n dX10_count_80 rfl ?_
  refine hs_aload_n dX10_count_81 rfl ?_
  refine hs_get dX10_count_82 fl_X10_66_10 hg2 hv4 ?_
  exact hk_z0 (hs_vir (M' := m_X10_digits) (vs := [.int x3, .ref v3]) (c1 := 0) (s1 := 0) dX10_count_85 wd_1397 vi_X10_digits hg2 rfl (Nat.le_of_ble_eq_true rfl) hc hq_i (hc_i (fun z h9 k9 => k9)))
theorem b_X10_count_88 {G : hk_G} {d cb sb : Nat} {h : hk_H} {Q : hk_O → hk_H → Prop} {s0 : Int32} {o0 : Option Value} {o1 : Option Value} {o2 : Option Value} {o3 : Option Value} {o4 : Option Value} (kt : ¬ s0 = 0 → hk_S G m_X10_count (d + 1) cb sb 94 [o0, o1, o2, o3, o4] [] h Q) (kf : s0 = 0 → hk_S G m_X10_count (d + 1) cb sb 91 [o0, o1, o2, o3, o4] [] h Q) : hk_S G m_X10_count (d + 1) cb sb 88 [o0, o1, o2, o3, o4] [.int s0] h Q := by
  exact hs_if_ne dX10_count_88 (by decide) kt kf
theorem b_X10_count_91 {G : hk_G} {d cb sb : Nat} {h : hk_H} {Q : hk_O → hk_H → Prop} {x3 : Int32} {o0 : Option Value} {o1 : Option Value} {o2 : Option Value} {o4 : Option Value} (k : hk_S G m_X10_count (d + 1) cb sb 71 [o0, o1, o2, some (.int (x3 + 1)), o4] [] h Q) (ho2 : hk_c1 o2 := by first | exact hk_c1i | exact hk_c1r | exact hk_c10 | exact hk_c1n) : hk_S G m_X10_count (d + 1) cb sb 91 [o0, o1, o2, some (.int x3), o4] [] h Q := by
  refine hs_goto dX10_count_91 (tgt := 159) (by decide) ?_
  refine hs_iincK (v := 1) dX10_count_159 rfl (by decide) (by decide) (hk_nk1 rfl ho2) rfl ?_
  refine hs_goto dX10_count_162 (tgt := 71) (by decide) ?_
  exact k
theorem b_X10_count_94 {G : hk_G} {d cb sb : Nat} {h : hk_H} {Q : hk_O → hk_H → Prop} {x1 : Int32} {o0 : Option Value} {o2 : Option Value} {o3 : Option Value} {o4 : Option Value} (kt : ¬ x1 = 5 → hk_S G m_X10_count (d + 1) cb sb 126 [o0, some (.int x1), o2, o3, o4] [] h Q) (kf : x1 = 5 → hk_S G m_X10_count (d + 1) cb sb 99 [o0, some (.int x1), o2, o3, o4] [] h Q) : hk_S G m_X10_count (d + 1) cb sb 94 [o0, some (.int x1), o2, o3, o4] [] h Q := by
  refine hs_iload_n dX10_count_94 rfl ?_
  refine hs_iconst (v := 5) dX10_count_95 (by decide) ?_
  exact hs_icmp_ne dX10_count_96 (by decide) kt kf
theorem b_X10_count_99 {G : hk_G} {d cb sb : Nat} {h : hk_H} {Q : hk_O → hk_H → Prop} {r0 : Nat} {fs1 : List Value} {v3 : Int32} {v5 : Nat} {o1 : Option Value} {o2 : Option Value} {o3 : Option Value} {o4 : Option Value} (hg2 : h.2 r0 = some (.inr (10, fs1))) (hv4 : fs1[0]? = some (.int v3)) (hv6 : fs1[24]? = some (.ref v5)) (hc : hk_Ci G m_X10_isBeaten d 0 0 [.ref r0, .int ((1 <<< (v3 &&& 31)) - 1), .ref v5] h (fun z h' => hk_S G m_X10_count (d + 1) cb sb 115 [some (.ref r0), o1, o2, o3, o4] [.int z] h' Q)) : hk_S G m_X10_count (d + 1) cb sb 99 [some (.ref r0), o1, o2, o3, o4] [] h Q := by
  refine hs_aload_n dX10_count_99 rfl ?_
  refine hs_iconst (v := 1) dX10_count_100 (by decide) ?_
  refine hs_aload_n dX10_count_101 rfl ?_
  refine hs_get dX10_count_102 fl_X10_97_10 hg2 hv4 ?_
  refine hs_ishl dX10_count_105 ?_
  refine hs_iconst (v := 1) dX10_count_106 (by decide) ?_
  refine hs_isub dX10_count_107 ?_
  refine hs_aload_n dX10_count_108 rfl ?_
  refine hs_get dX10_count_109 fl_X10_66_10 hg2 hv6 ?_
  exact hk_z0 (hs_vir (M' := m_X10_isBeaten) (vs := [.int ((1 <<< (v3 &&& 31)) - 1), .ref v5]) (c1 := 0) (s1 := 0) dX10_count_112 wd_1437 vi_X10_isBeaten hg2 rfl (Nat.le_of_ble_eq_true rfl) hc hq_i (hc_i (fun z h9 k9 => k9)))
theorem b_X10_count_115 {G : hk_G} {d cb sb : Nat} {h : hk_H} {Q : hk_O → hk_H → Prop} {s0 : Int32} {o0 : Option Value} {o1 : Option Value} {o2 : Option Value} {o3 : Option Value} {o4 : Option Value} (kt : ¬ s0 = 0 → hk_S G m_X10_count (d + 1) cb sb 122 [o0, o1, o2, o3, o4] [] h Q) (kf : s0 = 0 → hk_S G m_X10_count (d + 1) cb sb 118 [o0, o1, o2, o3, o4] [] h Q) : hk_S G m_X10_count (d + 1) cb sb 115 [o0, o1, o2, o3, o4] [.int s0] h Q := by
  exact hs_if_ne dX10_count_115 (by decide) kt kf
theorem b_X10_count_118 {G : hk_G} {d cb sb : Nat} {h : hk_H} {Q : hk_O → hk_H → Prop} {x2 : Int32} {o0 : Option Value} {o1 : Option Value} {o3 : Option Value} {o4 : Option Value} (kt : (1 : Int32) = 0 → hk_S G m_X10_count (d + 1) cb sb 156 [o0, o1, some (.int x2), o3, some (.int 1)] [.int x2] h Q) (kf : ¬ (1 : Int32) = 0 → hk_S G m_X10_count (d + 1) cb sb 152 [o0, o1, some (.int x2), o3, some (.int 1)] [.int x2] h Q) (ho3 : hk_c1 o3 := by first | exact hk_c1i | exact hk_c1r | exact hk_c10 | exact hk_c1n) : hk_S G m_X10_count (d + 1) cb sb 118 [o0, o1, some (.int x2), o3, o4] [] h Q := by
  refine hs_iconst (v := 1) dX10_count_118 (by decide) ?_
  refine hs_goto dX10_count_119 (tgt := 144) (by decide) ?_
  refine hs_istK dX10_count_144 (by decide) (hk_nk1 rfl ho3) rfl ?_
  refine hs_iload_n dX10_count_146 rfl ?_
  refine hs_iload dX10_count_147 rfl ?_
  exact hs_if_eq dX10_count_149 (by decide) kt kf
theorem b_X10_count_122 {G : hk_G} {d cb sb : Nat} {h : hk_H} {Q : hk_O → hk_H → Prop} {x2 : Int32} {o0 : Option Value} {o1 : Option Value} {o3 : Option Value} {o4 : Option Value} (kt : (0 : Int32) = 0 → hk_S G m_X10_count (d + 1) cb sb 156 [o0, o1, some (.int x2), o3, some (.int 0)] [.int x2] h Q) (kf : ¬ (0 : Int32) = 0 → hk_S G m_X10_count (d + 1) cb sb 152 [o0, o1, some (.int x2), o3, some (.int 0)] [.int x2] h Q) (ho3 : hk_c1 o3 := by first | exact hk_c1i | exact hk_c1r | exact hk_c10 | exact hk_c1n) : hk_S G m_X10_count (d + 1) cb sb 122 [o0, o1, some (.int x2), o3, o4] [] h Q := by
  refine hs_iconst (v := 0) dX10_count_122 (by decide) ?_
  refine hs_goto dX10_count_123 (tgt := 144) (by decide) ?_
  refine hs_istK dX10_count_144 (by decide) (hk_nk1 rfl ho3) rfl ?_
  refine hs_iload_n dX10_count_146 rfl ?_
  refine hs_iload dX10_count_147 rfl ?_
  exact hs_if_eq dX10_count_149 (by decide) kt kf
theorem b_X10_count_126 {G : hk_G} {d cb sb : Nat} {h : hk_H} {Q : hk_O → hk_H → Prop} {r0 : Nat} {fs1 : List Value} {v3 : Nat} {o1 : Option Value} {o2 : Option Value} {o3 : Option Value} {o4 : Option Value} (hg2 : h.2 r0 = some (.inr (10, fs1))) (hv4 : fs1[24]? = some (.ref v3)) (hc : hk_Ci G m_X10_blocking d 0 0 [.ref r0, .ref v3] h (fun z h' => hk_S G m_X10_count (d + 1) cb sb 134 [some (.ref r0), o1, o2, o3, o4] [.int z] h' Q)) : hk_S G m_X10_count (d + 1) cb sb 126 [some (.ref r0), o1, o2, o3, o4] [] h Q := by
  refine hs_aload_n dX10_count_126 rfl ?_
  refine hs_aload_n dX10_count_127 rfl ?_
  refine hs_get dX10_count_128 fl_X10_66_10 hg2 hv4 ?_
  exact hk_z0 (hs_vir (M' := m_X10_blocking) (vs := [.ref v3]) (c1 := 0) (s1 := 0) dX10_count_131 wd_1433 vi_X10_blocking hg2 rfl (Nat.le_of_ble_eq_true rfl) hc hq_i (hc_i (fun z h9 k9 => k9)))
theorem b_X10_count_134 {G : hk_G} {d cb sb : Nat} {h : hk_H} {Q : hk_O → hk_H → Prop} {s0 : Int32} {o0 : Option Value} {o1 : Option Value} {o2 : Option Value} {o3 : Option Value} {o4 : Option Value} (kt : ¬ s0 = ((-2)) → hk_S G m_X10_count (d + 1) cb sb 143 [o0, o1, o2, o3, o4] [] h Q) (kf : s0 = ((-2)) → hk_S G m_X10_count (d + 1) cb sb 139 [o0, o1, o2, o3, o4] [] h Q) : hk_S G m_X10_count (d + 1) cb sb 134 [o0, o1, o2, o3, o4] [.int s0] h Q := by
  refine hs_bipush (v := (-2)) dX10_count_134 (by decide) ?_
  exact hs_icmp_ne dX10_count_136 (by decide) kt kf
theorem b_X10_count_139 {G : hk_G} {d cb sb : Nat} {h : hk_H} {Q : hk_O → hk_H → Prop} {x2 : Int32} {o0 : Option Value} {o1 : Option Value} {o3 : Option Value} {o4 : Option Value} (kt : (1 : Int32) = 0 → hk_S G m_X10_count (d + 1) cb sb 156 [o0, o1, some (.int x2), o3, some (.int 1)] [.int x2] h Q) (kf : ¬ (1 : Int32) = 0 → hk_S G m_X10_count (d + 1) cb sb 152 [o0, o1, some (.int x2), o3, some (.int 1)] [.int x2] h Q) (ho3 : hk_c1 o3 := by first | exact hk_c1i | exact hk_c1r | exact hk_c10 | exact hk_c1n) : hk_S G m_X10_count (d + 1) cb sb 139 [o0, o1, some (.int x2), o3, o4] [] h Q := by
  refine hs_iconst (v := 1) dX10_count_139 (by decide) ?_
  refine hs_goto dX10_count_140 (tgt := 144) (by decide) ?_
  refine hs_istK dX10_count_144 (by decide) (hk_nk1 rfl ho3) rfl ?_
  refine hs_iload_n dX10_count_146 rfl ?_
  refine hs_iload dX10_count_147 rfl ?_
  exact hs_if_eq dX10_count_149 (by decide) kt kf
theorem b_X10_count_143 {G : hk_G} {d cb sb : Nat} {h : hk_H} {Q : hk_O → hk_H → Prop} {x2 : Int32} {o0 : Option Value} {o1 : Option Value} {o3 : Option Value} {o4 : Option Value} (kt : (0 : Int32) = 0 → hk_S G m_X10_count (d + 1) cb sb 156 [o0, o1, some (.int x2), o3, some (.int 0)] [.int x2] h Q) (kf : ¬ (0 : Int32) = 0 → hk_S G m_X10_count (d + 1) cb sb 152 [o0, o1, some (.int x2), o3, some (.int 0)] [.int x2] h Q) (ho3 : hk_c1 o3 := by first | exact hk_c1i | exact hk_c1r | exact hk_c10 | exact hk_c1n) : hk_S G m_X10_count (d + 1) cb sb 143 [o0, o1, some (.int x2), o3, o4] [] h Q := by
  refine hs_iconst (v := 0) dX10_count_143 (by decide) ?_
  refine hs_istK dX10_count_144 (by decide) (hk_nk1 rfl ho3) rfl ?_
  refine hs_iload_n dX10_count_146 rfl ?_
  refine hs_iload dX10_count_147 rfl ?_
  exact hs_if_eq dX10_count_149 (by decide) kt kf
theorem b_X10_count_144 {G : hk_G} {d cb sb : Nat} {h : hk_H} {Q : hk_O → hk_H → Prop} {s0 : Int32} {x2 : Int32} {o0 : Option Value} {o1 : Option Value} {o3 : Option Value} {o4 : Option Value} (kt : s0 = 0 → hk_S G m_X10_count (d + 1) cb sb 156 [o0, o1, some (.int x2), o3, some (.int s0)] [.int x2] h Q) (kf : ¬ s0 = 0 → hk_S G m_X10_count (d + 1) cb sb 152 [o0, o1, some (.int x2), o3, some (.int s0)] [.int x2] h Q) (ho3 : hk_c1 o3 := by first | exact hk_c1i | exact hk_c1r | exact hk_c10 | exact hk_c1n) : hk_S G m_X10_count (d + 1) cb sb 144 [o0, o1, some (.int x2), o3, o4] [.int s0] h Q := by
  refine hs_istK dX10_count_144 (by decide) (hk_nk1 rfl ho3) rfl ?_
  refine hs_iload_n dX10_count_146 rfl ?_
  refine hs_iload dX10_count_147 rfl ?_
  exact hs_if_eq dX10_count_149 (by decide) kt kf
theorem b_X10_count_152 {G : hk_G} {d cb sb : Nat} {h : hk_H} {Q : hk_O → hk_H → Prop} {s0 : Int32} {x3 : Int32} {o0 : Option Value} {o1 : Option Value} {o2 : Option Value} {o4 : Option Value} (k : hk_S G m_X10_count (d + 1) cb sb 71 [o0, o1, some (.int (s0 + 1)), some (.int (x3 + 1)), o4] [] h Q) (ho1 : hk_c1 o1 := by first | exact hk_c1i | exact hk_c1r | exact hk_c10 | exact hk_c1n) : hk_S G m_X10_count (d + 1) cb sb 152 [o0, o1, o2, some (.int x3), o4] [.int s0] h Q := by
  refine hs_iconst (v := 1) dX10_count_152 (by decide) ?_
  refine hs_goto dX10_count_153 (tgt := 157) (by decide) ?_
  refine hs_iadd dX10_count_157 ?_
  refine hs_istK_n dX10_count_158 (by decide) (hk_nk1 rfl ho1) rfl ?_
  refine hs_iincK (v := 1) dX10_count_159 rfl (by decide) (by decide) (hk_nk1 rfl hk_c1i) rfl ?_
  refine hs_goto dX10_count_162 (tgt := 71) (by decide) ?_
  exact k
theorem b_X10_count_156 {G : hk_G} {d cb sb : Nat} {h : hk_H} {Q : hk_O → hk_H → Prop} {s0 : Int32} {x3 : Int32} {o0 : Option Value} {o1 : Option Value} {o2 : Option Value} {o4 : Option Value} (k : hk_S G m_X10_count (d + 1) cb sb 71 [o0, o1, some (.int (s0 + 0)), some (.int (x3 + 1)), o4] [] h Q) (ho1 : hk_c1 o1 := by first | exact hk_c1i | exact hk_c1r | exact hk_c10 | exact hk_c1n) : hk_S G m_X10_count (d + 1) cb sb 156 [o0, o1, o2, some (.int x3), o4] [.int s0] h Q := by
  refine hs_iconst (v := 0) dX10_count_156 (by decide) ?_
  refine hs_iadd dX10_count_157 ?_
  refine hs_istK_n dX10_count_158 (by decide) (hk_nk1 rfl ho1) rfl ?_
  refine hs_iincK (v := 1) dX10_count_159 rfl (by decide) (by decide) (hk_nk1 rfl hk_c1i) rfl ?_
  refine hs_goto dX10_count_162 (tgt := 71) (by decide) ?_
  exact k
theorem b_X10_count_157 {G : hk_G} {d cb sb : Nat} {h : hk_H} {Q : hk_O → hk_H → Prop} {s0 : Int32} {s1 : Int32} {x3 : Int32} {o0 : Option Value} {o1 : Option Value} {o2 : Option Value} {o4 : Option Value} (k : hk_S G m_X10_count (d + 1) cb sb 71 [o0, o1, some (.int (s0 + s1)), some (.int (x3 + 1)), o4] [] h Q) (ho1 : hk_c1 o1 := by first | exact hk_c1i | exact hk_c1r | exact hk_c10 | exact hk_c1n) : hk_S G m_X10_count (d + 1) cb sb 157 [o0, o1, o2, some (.int x3), o4] [.int s1, .int s0] h Q := by
  refine hs_iadd dX10_count_157 ?_
  refine hs_istK_n dX10_count_158 (by decide) (hk_nk1 rfl ho1) rfl ?_
  refine hs_iincK (v := 1) dX10_count_159 rfl (by decide) (by decide) (hk_nk1 rfl hk_c1i) rfl ?_
  refine hs_goto dX10_count_162 (tgt := 71) (by decide) ?_
  exact k
theorem b_X10_count_159 {G : hk_G} {d cb sb : Nat} {h : hk_H} {Q : hk_O → hk_H → Prop} {x3 : Int32} {o0 : Option Value} {o1 : Option Value} {o2 : Option Value} {o4 : Option Value} (k : hk_S G m_X10_count (d + 1) cb sb 71 [o0, o1, o2, some (.int (x3 + 1)), o4] [] h Q) (ho2 : hk_c1 o2 := by first | exact hk_c1i | exact hk_c1r | exact hk_c10 | exact hk_c1n) : hk_S G m_X10_count (d + 1) cb sb 159 [o0, o1, o2, some (.int x3), o4] [] h Q := by
  refine hs_iincK (v := 1) dX10_count_159 rfl (by decide) (by decide) (hk_nk1 rfl ho2) rfl ?_
  refine hs_goto dX10_count_162 (tgt := 71) (by decide) ?_
  exact k
theorem b_X10_count_165 {G : hk_G} {d cb sb : Nat} {h : hk_H} {Q : hk_O → hk_H → Prop} {x2 : Int32} {o0 : Option Value} {o1 : Option Value} {o3 : Option Value} {o4 : Option Value} (hq : Q (.inl (some (.int x2))) h) : hk_S G m_X10_count (d + 1) cb sb 165 [o0, o1, some (.int x2), o3, o4] [] h Q := by
  refine hs_iload_n dX10_count_165 rfl ?_
  exact hs_iret dX10_count_166 rfl hq
theorem b_X10_count_167 {G : hk_G} {d cb sb : Nat} {h : hk_H} {Q : hk_O → hk_H → Prop} {o0 : Option Value} {o1 : Option Value} {o2 : Option Value} {o3 : Option Value} {o4 : Option Value} (hq : Q (.inl (some (.int ((-1))))) h) : hk_S G m_X10_count (d + 1) cb sb 167 [o0, o1, o2, o3, o4] [] h Q := by
  refine hs_iconst (v := (-1)) dX10_count_167 (by decide) ?_
  exact hs_iret dX10_count_168 rfl hq
-- HonestHouseModel.keep(III)I
theorem b_X10_keep_0 {G : hk_G} {d cb sb : Nat} {h : hk_H} {Q : hk_O → hk_H → Prop} {x1 : Int32} {o0 : Option Value} {o2 : Option Value} {o3 : Option Value} {o4 : Option Value} (hc : hk_Ci G m_X10_isIn d 0 0 [.int x1, .int 8] h (fun z h' => hk_S G m_X10_keep (d + 1) cb sb 6 [o0, some (.int x1), o2, o3, o4] [.int z] h' Q)) : hk_S G m_X10_keep (d + 1) cb sb 0 [o0, some (.int x1), o2, o3, o4] [] h Q := by
  refine hs_iload_n dX10_keep_0 rfl ?_
  refine hs_bipush (v := 8) dX10_keep_1 (by decide) ?_
  exact hk_z0 (hs_sta (M' := m_X10_isIn) (vs := [.int x1, .int 8]) (c1 := 0) (s1 := 0) dX10_keep_3 wd_1226 st_X10_isIn rfl (Nat.le_of_ble_eq_true rfl) hc hq_i (hc_i (fun z h9 k9 => k9)))
theorem b_X10_keep_6 {G : hk_G} {d cb sb : Nat} {h : hk_H} {Q : hk_O → hk_H → Prop} {s0 : Int32} {o0 : Option Value} {o1 : Option Value} {o2 : Option Value} {o3 : Option Value} {o4 : Option Value} (kt : s0 = 0 → hk_S G m_X10_keep (d + 1) cb sb 28 [o0, o1, o2, o3, o4] [] h Q) (kf : ¬ s0 = 0 → hk_S G m_X10_keep (d + 1) cb sb 9 [o0, o1, o2, o3, o4] [] h Q) : hk_S G m_X10_keep (d + 1) cb sb 6 [o0, o1, o2, o3, o4] [.int s0] h Q := by
  exact hs_if_eq dX10_keep_6 (by decide) kt kf
theorem b_X10_keep_9 {G : hk_G} {d cb sb : Nat} {h : hk_H} {Q : hk_O → hk_H → Prop} {x2 : Int32} {o0 : Option Value} {o1 : Option Value} {o3 : Option Value} {o4 : Option Value} (kt : x2 = 0 → hk_S G m_X10_keep (d + 1) cb sb 30 [o0, o1, some (.int x2), o3, o4] [] h Q) (kf : ¬ x2 = 0 → hk_S G m_X10_keep (d + 1) cb sb 13 [o0, o1, some (.int x2), o3, o4] [] h Q) : hk_S G m_X10_keep (d + 1) cb sb 9 [o0, o1, some (.int x2), o3, o4] [] h Q := by
  refine hs_iload_n dX10_keep_9 rfl ?_
  exact hs_if_eq dX10_keep_10 (by decide) kt kf
theorem b_X10_keep_13 {G : hk_G} {d cb sb : Nat} {h : hk_H} {Q : hk_O → hk_H → Prop} {x2 : Int32} {o0 : Option Value} {o1 : Option Value} {o3 : Option Value} {o4 : Option Value} (kt : x2 = 1 → hk_S G m_X10_keep (d + 1) cb sb 30 [o0, o1, some (.int x2), o3, o4] [] h Q) (kf : ¬ x2 = 1 → hk_S G m_X10_keep (d + 1) cb sb 18 [o0, o1, some (.int x2), o3, o4] [] h Q) : hk_S G m_X10_keep (d + 1) cb sb 13 [o0, o1, some (.int x2), o3, o4] [] h Q := by
  refine hs_iload_n dX10_keep_13 rfl ?_
  refine hs_iconst (v := 1) dX10_keep_14 (by decide) ?_
  exact hs_icmp_eq dX10_keep_15 (by decide) kt kf
theorem b_X10_keep_18 {G : hk_G} {d cb sb : Nat} {h : hk_H} {Q : hk_O → hk_H → Prop} {x2 : Int32} {o0 : Option Value} {o1 : Option Value} {o3 : Option Value} {o4 : Option Value} (kt : x2 = 3 → hk_S G m_X10_keep (d + 1) cb sb 30 [o0, o1, some (.int x2), o3, o4] [] h Q) (kf : ¬ x2 = 3 → hk_S G m_X10_keep (d + 1) cb sb 23 [o0, o1, some (.int x2), o3, o4] [] h Q) : hk_S G m_X10_keep (d + 1) cb sb 18 [o0, o1, some (.int x2), o3, o4] [] h Q := by
  refine hs_iload_n dX10_keep_18 rfl ?_
  refine hs_iconst (v := 3) dX10_keep_19 (by decide) ?_
  exact hs_icmp_eq dX10_keep_20 (by decide) kt kf
theorem b_X10_keep_23 {G : hk_G} {d cb sb : Nat} {h : hk_H} {Q : hk_O → hk_H → Prop} {x2 : Int32} {o0 : Option Value} {o1 : Option Value} {o3 : Option Value} {o4 : Option Value} (kt : x2 = 4 → hk_S G m_X10_keep (d + 1) cb sb 30 [o0, o1, some (.int x2), o3, o4] [] h Q) (kf : ¬ x2 = 4 → hk_S G m_X10_keep (d + 1) cb sb 28 [o0, o1, some (.int x2), o3, o4] [] h Q) : hk_S G m_X10_keep (d + 1) cb sb 23 [o0, o1, some (.int x2), o3, o4] [] h Q := by
  refine hs_iload_n dX10_keep_23 rfl ?_
  refine hs_iconst (v := 4) dX10_keep_24 (by decide) ?_
  exact hs_icmp_eq dX10_keep_25 (by decide) kt kf
theorem b_X10_keep_28 {G : hk_G} {d cb sb : Nat} {h : hk_H} {Q : hk_O → hk_H → Prop} {o0 : Option Value} {o1 : Option Value} {o2 : Option Value} {o3 : Option Value} {o4 : Option Value} (hq : Q (.inl (some (.int ((-1))))) h) : hk_S G m_X10_keep (d + 1) cb sb 28 [o0, o1, o2, o3, o4] [] h Q := by
  refine hs_iconst (v := (-1)) dX10_keep_28 (by decide) ?_
  exact hs_iret dX10_keep_29 rfl hq
theorem b_X10_keep_30 {G : hk_G} {d cb sb : Nat} {h : hk_H} {Q : hk_O → hk_H → Prop} {x2 : Int32} {o0 : Option Value} {o1 : Option Value} {o3 : Option Value} {o4 : Option Value} (kt : x2 = 1 → hk_S G m_X10_keep (d + 1) cb sb 40 [o0, o1, some (.int x2), o3, o4] [] h Q) (kf : ¬ x2 = 1 → hk_S G m_X10_keep (d + 1) cb sb 35 [o0, o1, some (.int x2), o3, o4] [] h Q) : hk_S G m_X10_keep (d + 1) cb sb 30 [o0, o1, some (.int x2), o3, o4] [] h Q := by
  refine hs_iload_n dX10_keep_30 rfl ?_
  refine hs_iconst (v := 1) dX10_keep_31 (by decide) ?_
  exact hs_icmp_eq dX10_keep_32 (by decide) kt kf
theorem b_X10_keep_35 {G : hk_G} {d cb sb : Nat} {h : hk_H} {Q : hk_O → hk_H → Prop} {x2 : Int32} {o0 : Option Value} {o1 : Option Value} {o3 : Option Value} {o4 : Option Value} (kt : ¬ x2 = 3 → hk_S G m_X10_keep (d + 1) cb sb 51 [o0, o1, some (.int x2), o3, o4] [] h Q) (kf : x2 = 3 → hk_S G m_X10_keep (d + 1) cb sb 40 [o0, o1, some (.int x2), o3, o4] [] h Q) : hk_S G m_X10_keep (d + 1) cb sb 35 [o0, o1, some (.int x2), o3, o4] [] h Q := by
  refine hs_iload_n dX10_keep_35 rfl ?_
  refine hs_iconst (v := 3) dX10_keep_36 (by decide) ?_
  exact hs_icmp_ne dX10_keep_37 (by decide) kt kf
theorem b_X10_keep_40 {G : hk_G} {d cb sb : Nat} {h : hk_H} {Q : hk_O → hk_H → Prop} {x3 : Int32} {r0 : Nat} {fs1 : List Value} {v3 : Int32} {o1 : Option Value} {o2 : Option Value} {o4 : Option Value} (hg2 : h.2 r0 = some (.inr (10, fs1))) (hv4 : fs1[3]? = some (.int v3)) (hc : hk_Ci G m_X10_isIn d 0 0 [.int x3, .int v3] h (fun z h' => hk_S G m_X10_keep (d + 1) cb sb 48 [some (.ref r0), o1, o2, some (.int x3), o4] [.int z] h' Q)) : hk_S G m_X10_keep (d + 1) cb sb 40 [some (.ref r0), o1, o2, some (.int x3), o4] [] h Q := by
  refine hs_iload_n dX10_keep_40 rfl ?_
  refine hs_aload_n dX10_keep_41 rfl ?_
  refine hs_get dX10_keep_42 fl_X10_116_10 hg2 hv4 ?_
  exact hk_z0 (hs_sta (M' := m_X10_isIn) (vs := [.int x3, .int v3]) (c1 := 0) (s1 := 0) dX10_keep_45 wd_1226 st_X10_isIn rfl (Nat.le_of_ble_eq_true rfl) hc hq_i (hc_i (fun z h9 k9 => k9)))
theorem b_X10_keep_48 {G : hk_G} {d cb sb : Nat} {h : hk_H} {Q : hk_O → hk_H → Prop} {s0 : Int32} {o0 : Option Value} {o1 : Option Value} {o2 : Option Value} {o3 : Option Value} {o4 : Option Value} (kt : s0 = 0 → hk_S G m_X10_keep (d + 1) cb sb 67 [o0, o1, o2, o3, o4] [] h Q) (kf : ¬ s0 = 0 → hk_S G m_X10_keep (d + 1) cb sb 51 [o0, o1, o2, o3, o4] [] h Q) : hk_S G m_X10_keep (d + 1) cb sb 48 [o0, o1, o2, o3, o4] [.int s0] h Q := by
  exact hs_if_eq dX10_keep_48 (by decide) kt kf
theorem b_X10_keep_51 {G : hk_G} {d cb sb : Nat} {h : hk_H} {Q : hk_O → hk_H → Prop} {x2 : Int32} {o0 : Option Value} {o1 : Option Value} {o3 : Option Value} {o4 : Option Value} (kt : ¬ x2 = 4 → hk_S G m_X10_keep (d + 1) cb sb 69 [o0, o1, some (.int x2), o3, o4] [] h Q) (kf : x2 = 4 → hk_S G m_X10_keep (d + 1) cb sb 56 [o0, o1, some (.int x2), o3, o4] [] h Q) : hk_S G m_X10_keep (d + 1) cb sb 51 [o0, o1, some (.int x2), o3, o4] [] h Q := by
  refine hs_iload_n dX10_keep_51 rfl ?_
  refine hs_iconst (v := 4) dX10_keep_52 (by decide) ?_
  exact hs_icmp_ne dX10_keep_53 (by decide) kt kf
theorem b_X10_keep_56 {G : hk_G} {d cb sb : Nat} {h : hk_H} {Q : hk_O → hk_H → Prop} {x3 : Int32} {r0 : Nat} {fs1 : List Value} {v3 : Int32} {o1 : Option Value} {o2 : Option Value} {o4 : Option Value} (hg2 : h.2 r0 = some (.inr (10, fs1))) (hv4 : fs1[2]? = some (.int v3)) (hc : hk_Ci G m_X10_isIn d 0 0 [.int x3, .int v3] h (fun z h' => hk_S G m_X10_keep (d + 1) cb sb 64 [some (.ref r0), o1, o2, some (.int x3), o4] [.int z] h' Q)) : hk_S G m_X10_keep (d + 1) cb sb 56 [some (.ref r0), o1, o2, some (.int x3), o4] [] h Q := by
  refine hs_iload_n dX10_keep_56 rfl ?_
  refine hs_aload_n dX10_keep_57 rfl ?_
  refine hs_get dX10_keep_58 fl_X10_110_10 hg2 hv4 ?_
  exact hk_z0 (hs_sta (M' := m_X10_isIn) (vs := [.int x3, .int v3]) (c1 := 0) (s1 := 0) dX10_keep_61 wd_1226 st_X10_isIn rfl (Nat.le_of_ble_eq_true rfl) hc hq_i (hc_i (fun z h9 k9 => k9)))
theorem b_X10_keep_64 {G : hk_G} {d cb sb : Nat} {h : hk_H} {Q : hk_O → hk_H → Prop} {s0 : Int32} {o0 : Option Value} {o1 : Option Value} {o2 : Option Value} {o3 : Option Value} {o4 : Option Value} (kt : ¬ s0 = 0 → hk_S G m_X10_keep (d + 1) cb sb 69 [o0, o1, o2, o3, o4] [] h Q) (kf : s0 = 0 → hk_S G m_X10_keep (d + 1) cb sb 67 [o0, o1, o2, o3, o4] [] h Q) : hk_S G m_X10_keep (d + 1) cb sb 64 [o0, o1, o2, o3, o4] [.int s0] h Q := by
  exact hs_if_ne dX10_keep_64 (by decide) kt kf
theorem b_X10_keep_67 {G : hk_G} {d cb sb : Nat} {h : hk_H} {Q : hk_O → hk_H → Prop} {o0 : Option Value} {o1 : Option Value} {o2 : Option Value} {o3 : Option Value} {o4 : Option Value} (hq : Q (.inl (some (.int ((-1))))) h) : hk_S G m_X10_keep (d + 1) cb sb 67 [o0, o1, o2, o3, o4] [] h Q := by
  refine hs_iconst (v := (-1)) dX10_keep_67 (by decide) ?_
  exact hs_iret dX10_keep_68 rfl hq
theorem b_X10_keep_69 {G : hk_G} {d cb sb : Nat} {h : hk_H} {Q : hk_O → hk_H → Prop} {r0 : Nat} {fs1 : List Value} {v3 : Nat} {x1 : Int32} {x2 : Int32} {n5 : Nat} {f6 : Nat → Int32} {h_1 : hk_H} {o3 : Option Value} {o4 : Option Value} (hg2 : h.2 r0 = some (.inr (10, fs1))) (hv4 : fs1[25]? = some (.ref v3)) (ha7 : h.2 v3 = some (.inl (0, n5, .inl f6))) (h4_v3 : 4 ≤ v3) (j8 : Nat) (hi9 : (x1 : Int32).toInt = (j8 : Int)) (hj10 : j8 < n5) (e_1 : (hk_set h v3 (.inl (0, n5, .inl (upd f6 j8 x2)))) = h_1) (kt : ¬ x2 = 1 → hk_S G m_X10_keep (d + 1) cb sb 150 [some (.ref r0), some (.int x1), some (.int x2), o3, o4] [] h_1 Q) (kf : x2 = 1 → hk_S G m_X10_keep (d + 1) cb sb 81 [some (.ref r0), some (.int x1), some (.int x2), o3, o4] [] h_1 Q) : hk_S G m_X10_keep (d + 1) cb sb 69 [some (.ref r0), some (.int x1), some (.int x2), o3, o4] [] h Q := by
  subst e_1
  refine hs_aload_n dX10_keep_69 rfl ?_
  refine hs_get dX10_keep_70 fl_X10_69_10 hg2 hv4 ?_
  refine hs_iload_n dX10_keep_73 rfl ?_
  refine hs_iload_n dX10_keep_74 rfl ?_
  refine hs_iast j8 dX10_keep_75 ha7 h4_v3 hi9 hj10 ?_
  refine hs_iload_n dX10_keep_76 rfl ?_
  refine hs_iconst (v := 1) dX10_keep_77 (by decide) ?_
  exact hs_icmp_ne dX10_keep_78 (by decide) kt kf
theorem b_X10_keep_81 {G : hk_G} {d cb sb : Nat} {h : hk_H} {Q : hk_O → hk_H → Prop} {r0 : Nat} {fs1 : List Value} {v3 : Nat} {x1 : Int32} {v5 : Nat} {x3 : Int32} {n7 : Nat} {f8 : Nat → Int32} {n13 : Nat} {f14 : Nat → Int32} {h_1 : hk_H} {fs19 : List Value} {v21 : Nat} {n23 : Nat} {f24 : Nat → Int32} {h_2 : hk_H} {fs27 : List Value} {v29 : Nat} {n31 : Nat} {f32 : Nat → Int32} {h_3 : hk_H} {o2 : Option Value} {o4 : Option Value} (hg2 : h.2 r0 = some (.inr (10, fs1))) (hv4 : fs1[27]? = some (.ref v3)) (hv6 : fs1[7]? = some (.ref v5)) (ha9 : h.2 v5 = some (.inl (0, n7, .inl f8))) (j10 : Nat) (hi11 : (x3 : Int32).toInt = (j10 : Int)) (hj12 : j10 < n7) (ha15 : h.2 v3 = some (.inl (0, n13, .inl f14))) (h4_v3 : 4 ≤ v3) (j16 : Nat) (hi17 : (x1 : Int32).toInt = (j16 : Int)) (hj18 : j16 < n13) (e_1 : (hk_set h v3 (.inl (0, n13, .inl (upd f14 j16 (f8 j10))))) = h_1) (hg20 : h_1.2 r0 = some (.inr (10, fs19))) (hv22 : fs19[28]? = some (.ref v21)) (ha25 : h_1.2 v21 = some (.inl (0, n23, .inl f24))) (h4_v21 : 4 ≤ v21) (hj26 : j16 < n23) (e_2 : (hk_set h_1 v21 (.inl (0, n23, .inl (upd f24 j16 x3)))) = h_2) (hg28 : h_2.2 r0 = some (.inr (10, fs27))) (hv30 : fs27[29]? = some (.ref v29)) (ha33 : h_2.2 v29 = some (.inl (0, n31, .inl f32))) (h4_v29 : 4 ≤ v29) (hj34 : j16 < n31) (e_3 : (hk_set h_2 v29 (.inl (0, n31, .inl (upd f32 j16 0)))) = h_3) (k : hk_S G m_X10_keep (d + 1) cb sb 110 [some (.ref r0), some (.int x1), o2, some (.int x3), some (.int 0)] [] h_3 Q) : hk_S G m_X10_keep (d + 1) cb sb 81 [some (.ref r0), some (.int x1), o2, some (.int x3), o4] [] h Q := by
  subst e_1
  subst e_2
  subst e_3
  refine hs_aload_n dX10_keep_81 rfl ?_
  refine hs_get dX10_keep_82 fl_X10_75_10 hg2 hv4 ?_
  refine hs_iload_n dX10_keep_85 rfl ?_
  refine hs_aload_n dX10_keep_86 rfl ?_
  refine hs_get dX10_keep_87 fl_X10_16_10 hg2 hv6 ?_
  refine hs_iload_n dX10_keep_90 rfl ?_
  refine hs_iald j10 dX10_keep_91 ha9 hi11 hj12 ?_
  refine hs_iast j16 dX10_keep_92 ha15 h4_v3 hi17 hj18 ?_
  refine hs_aload_n dX10_keep_93 rfl ?_
  refine hs_get dX10_keep_94 fl_X10_78_10 hg20 hv22 ?_
  refine hs_iload_n dX10_keep_97 rfl ?_
  refine hs_iload_n dX10_keep_98 rfl ?_
  refine hs_iast j16 dX10_keep_99 ha25 h4_v21 hi17 hj26 ?_
  refine hs_aload_n dX10_keep_100 rfl ?_
  refine hs_get dX10_keep_101 fl_X10_81_10 hg28 hv30 ?_
  refine hs_iload_n dX10_keep_104 rfl ?_
  refine hs_iconst (v := 0) dX10_keep_105 (by decide) ?_
  refine hs_iast j16 dX10_keep_106 ha33 h4_v29 hi17 hj34 ?_
  refine hs_iconst (v := 0) dX10_keep_107 (by decide) ?_
  refine hs_istK dX10_keep_108 (by decide) (hk_nk1 rfl hk_c1i) rfl ?_
  exact k
theorem b_X10_keep_110 {G : hk_G} {d cb sb : Nat} {h : hk_H} {Q : hk_O → hk_H → Prop} {x4 : Int32} {r0 : Nat} {fs1 : List Value} {v3 : Int32} {o1 : Option Value} {o2 : Option Value} {o3 : Option Value} (hg2 : h.2 r0 = some (.inr (10, fs1))) (hv4 : fs1[0]? = some (.int v3)) (kt : (v3 - 1) ≤ x4 → hk_S G m_X10_keep (d + 1) cb sb 147 [some (.ref r0), o1, o2, o3, some (.int x4)] [] h Q) (kf : ¬ (v3 - 1) ≤ x4 → hk_S G m_X10_keep (d + 1) cb sb 121 [some (.ref r0), o1, o2, o3, some (.int x4)] [] h Q) : hk_S G m_X10_keep (d + 1) cb sb 110 [some (.ref r0), o1, o2, o3, some (.int x4)] [] h Q := by
  refine hs_iload dX10_keep_110 rfl ?_
  refine hs_aload_n dX10_keep_112 rfl ?_
  refine hs_get dX10_keep_113 fl_X10_97_10 hg2 hv4 ?_
  refine hs_iconst (v := 1) dX10_keep_116 (by decide) ?_
  refine hs_isub dX10_keep_117 ?_
  exact hs_icmp_ge dX10_keep_118 (by decide) kt kf
theorem b_X10_keep_121 {G : hk_G} {d cb sb : Nat} {h : hk_H} {Q : hk_O → hk_H → Prop} {r0 : Nat} {fs1 : List Value} {v3 : Nat} {x1 : Int32} {n5 : Nat} {f6 : Nat → Int32} {v11 : Nat} {x3 : Int32} {x4 : Int32} {n13 : Nat} {f14 : Nat → Int32} {h_1 : hk_H} {o2 : Option Value} (hg2 : h.2 r0 = some (.inr (10, fs1))) (hv4 : fs1[29]? = some (.ref v3)) (ha7 : h.2 v3 = some (.inl (0, n5, .inl f6))) (j8 : Nat) (hi9 : (x1 : Int32).toInt = (j8 : Int)) (hj10 : j8 < n5) (hv12 : fs1[12]? = some (.ref v11)) (ha15 : h.2 v11 = some (.inl (0, n13, .inl f14))) (j16 : Nat) (hi17 : ((4 * x3) + x4 : Int32).toInt = (j16 : Int)) (hj18 : j16 < n13) (h4_v3 : 4 ≤ v3) (e_1 : (hk_set h v3 (.inl (0, n5, .inl (upd f6 j8 ((f6 j8) + (f14 j16)))))) = h_1) (k : hk_S G m_X10_keep (d + 1) cb sb 110 [some (.ref r0), some (.int x1), o2, some (.int x3), some (.int (x4 + 1))] [] h_1 Q) : hk_S G m_X10_keep (d + 1) cb sb 121 [some (.ref r0), some (.int x1), o2, some (.int x3), some (.int x4)] [] h Q := by
  subst e_1
  refine hs_aload_n dX10_keep_121 rfl ?_
  refine hs_get dX10_keep_122 fl_X10_81_10 hg2 hv4 ?_
  refine hs_iload_n dX10_keep_125 rfl ?_
  refine hs_dup2 dX10_keep_126 rfl rfl ?_
  refine hs_iald j8 dX10_keep_127 ha7 hi9 hj10 ?_
  refine hs_aload_n dX10_keep_128 rfl ?_
  refine hs_get dX10_keep_129 fl_X10_32_10 hg2 hv12 ?_
  refine hs_iconst (v := 4) dX10_keep_132 (by decide) ?_
  refine hs_iload_n dX10_keep_133 rfl ?_
  refine hs_imul dX10_keep_134 ?_
  refine hs_iload dX10_keep_135 rfl ?_
  refine hs_iadd dX10_keep_137 ?_
  refine hs_iald j16 dX10_keep_138 ha15 hi17 hj18 ?_
  refine hs_iadd dX10_keep_139 ?_
  refine hs_iast j8 dX10_keep_140 ha7 h4_v3 hi9 hj10 ?_
  refine hs_iincK (v := 1) dX10_keep_141 rfl (by decide) (by decide) (hk_nk1 rfl hk_c1i) rfl ?_
  refine hs_goto dX10_keep_144 (tgt := 110) (by decide) ?_
  exact k
theorem b_X10_keep_147 {G : hk_G} {d cb sb : Nat} {h : hk_H} {Q : hk_O → hk_H → Prop} {o0 : Option Value} {o1 : Option Value} {o2 : Option Value} {o3 : Option Value} {o4 : Option Value} (hq : Q (.inl (some (.int 0))) h) : hk_S G m_X10_keep (d + 1) cb sb 147 [o0, o1, o2, o3, o4] [] h Q := by
  refine hs_goto dX10_keep_147 (tgt := 270) (by decide) ?_
  refine hs_iconst (v := 0) dX10_keep_270 (by decide) ?_
  exact hs_iret dX10_keep_271 rfl hq
theorem b_X10_keep_150 {G : hk_G} {d cb sb : Nat} {h : hk_H} {Q : hk_O → hk_H → Prop} {x2 : Int32} {o0 : Option Value} {o1 : Option Value} {o3 : Option Value} {o4 : Option Value} (kt : ¬ x2 = 3 → hk_S G m_X10_keep (d + 1) cb sb 213 [o0, o1, some (.int x2), o3, o4] [] h Q) (kf : x2 = 3 → hk_S G m_X10_keep (d + 1) cb sb 155 [o0, o1, some (.int x2), o3, o4] [] h Q) : hk_S G m_X10_keep (d + 1) cb sb 150 [o0, o1, some (.int x2), o3, o4] [] h Q := by
  refine hs_iload_n dX10_keep_150 rfl ?_
  refine hs_iconst (v := 3) dX10_keep_151 (by decide) ?_
  exact hs_icmp_ne dX10_keep_152 (by decide) kt kf
theorem b_X10_keep_155 {G : hk_G} {d cb sb : Nat} {h : hk_H} {Q : hk_O → hk_H → Prop} {r0 : Nat} {fs1 : List Value} {v3 : Nat} {x1 : Int32} {v5 : Int32} {o2 : Option Value} {o3 : Option Value} {o4 : Option Value} (hg2 : h.2 r0 = some (.inr (10, fs1))) (hv4 : fs1[26]? = some (.ref v3)) (hv6 : fs1[4]? = some (.int v5)) (hc : hk_Ci G m_J9_min_7cf53 d 0 0 [.int v5, .int 60] h (fun z h' => hk_S G m_X10_keep (d + 1) cb sb 169 [some (.ref r0), some (.int x1), o2, o3, o4] [.int z, .int x1, .ref v3] h' Q)) : hk_S G m_X10_keep (d + 1) cb sb 155 [some (.ref r0), some (.int x1), o2, o3, o4] [] h Q := by
  refine hs_aload_n dX10_keep_155 rfl ?_
  refine hs_get dX10_keep_156 fl_X10_72_10 hg2 hv4 ?_
  refine hs_iload_n dX10_keep_159 rfl ?_
  refine hs_aload_n dX10_keep_160 rfl ?_
  refine hs_get dX10_keep_161 fl_X10_113_10 hg2 hv6 ?_
  refine hs_bipush (v := 60) dX10_keep_164 (by decide) ?_
  exact hk_z0 (hs_sta (M' := m_J9_min_7cf53) (vs := [.int v5, .int 60]) (c1 := 0) (s1 := 0) dX10_keep_166 wd_1358 st_J9_min_7cf53 rfl (Nat.le_of_ble_eq_true rfl) hc hq_i (hc_i (fun z h9 k9 => k9)))
theorem b_X10_keep_169 {G : hk_G} {d cb sb : Nat} {h : hk_H} {Q : hk_O → hk_H → Prop} {s0 : Nat} {s1 : Int32} {s2 : Int32} {n1 : Nat} {f2 : Nat → Int32} {h_1 : hk_H} {o0 : Option Value} {o1 : Option Value} {o2 : Option Value} {o3 : Option Value} {o4 : Option Value} (ha3 : h.2 s0 = some (.inl (0, n1, .inl f2))) (h4_s0 : 4 ≤ s0) (j4 : Nat) (hi5 : (s1 : Int32).toInt = (j4 : Int)) (hj6 : j4 < n1) (e_1 : (hk_set h s0 (.inl (0, n1, .inl (upd f2 j4 s2)))) = h_1) (k : hk_S G m_X10_keep (d + 1) cb sb 173 [o0, o1, o2, o3, some (.int 0)] [] h_1 Q) (ho3 : hk_c1 o3 := by first | exact hk_c1i | exact hk_c1r | exact hk_c10 | exact hk_c1n) : hk_S G m_X10_keep (d + 1) cb sb 169 [o0, o1, o2, o3, o4] [.int s2, .int s1, .ref s0] h Q := by
  subst e_1
  refine hs_iast j4 dX10_keep_169 ha3 h4_s0 hi5 hj6 ?_
  refine hs_iconst (v := 0) dX10_keep_170 (by decide) ?_
  refine hs_istK dX10_keep_171 (by decide) (hk_nk1 rfl ho3) rfl ?_
  exact k
theorem b_X10_keep_173 {G : hk_G} {d cb sb : Nat} {h : hk_H} {Q : hk_O → hk_H → Prop} {x4 : Int32} {r0 : Nat} {fs1 : List Value} {v3 : Nat} {x1 : Int32} {n5 : Nat} {f6 : Nat → Int32} {o2 : Option Value} {o3 : Option Value} (hg2 : h.2 r0 = some (.inr (10, fs1))) (hv4 : fs1[26]? = some (.ref v3)) (ha7 : h.2 v3 = some (.inl (0, n5, .inl f6))) (j8 : Nat) (hi9 : (x1 : Int32).toInt = (j8 : Int)) (hj10 : j8 < n5) (kt : (f6 j8) ≤ x4 → hk_S G m_X10_keep (d + 1) cb sb 210 [some (.ref r0), some (.int x1), o2, o3, some (.int x4)] [] h Q) (kf : ¬ (f6 j8) ≤ x4 → hk_S G m_X10_keep (d + 1) cb sb 184 [some (.ref r0), some (.int x1), o2, o3, some (.int x4)] [] h Q) : hk_S G m_X10_keep (d + 1) cb sb 173 [some (.ref r0), some (.int x1), o2, o3, some (.int x4)] [] h Q := by
  refine hs_iload dX10_keep_173 rfl ?_
  refine hs_aload_n dX10_keep_175 rfl ?_
  refine hs_get dX10_keep_176 fl_X10_72_10 hg2 hv4 ?_
  refine hs_iload_n dX10_keep_179 rfl ?_
  refine hs_iald j8 dX10_keep_180 ha7 hi9 hj10 ?_
  exact hs_icmp_ge dX10_keep_181 (by decide) kt kf
theorem b_X10_keep_184 {G : hk_G} {d cb sb : Nat} {h : hk_H} {Q : hk_O → hk_H → Prop} {r0 : Nat} {fs1 : List Value} {v3 : Nat} {x1 : Int32} {x4 : Int32} {x3 : Int32} {o2 : Option Value} (hg2 : h.2 r0 = some (.inr (10, fs1))) (hv4 : fs1[30]? = some (.ref v3)) (hc : hk_Ci G m_X10_ends d 0 0 [.ref r0, .int x3, .int x4] h (fun z h' => hk_S G m_X10_keep (d + 1) cb sb 202 [some (.ref r0), some (.int x1), o2, some (.int x3), some (.int x4)] [.int z, .int ((60 * x1) + x4), .ref v3] h' Q)) : hk_S G m_X10_keep (d + 1) cb sb 184 [some (.ref r0), some (.int x1), o2, some (.int x3), some (.int x4)] [] h Q := by
  refine hs_aload_n dX10_keep_184 rfl ?_
  refine hs_get dX10_keep_185 fl_X10_84_10 hg2 hv4 ?_
  refine hs_bipush (v := 60) dX10_keep_188 (by decide) ?_
  refine hs_iload_n dX10_keep_190 rfl ?_
  refine hs_imul dX10_keep_191 ?_
  refine hs_iload dX10_keep_192 rfl ?_
  refine hs_iadd dX10_keep_194 ?_
  refine hs_aload_n dX10_keep_195 rfl ?_
  refine hs_iload_n dX10_keep_196 rfl ?_
  refine hs_iload dX10_keep_197 rfl ?_
  exact hk_z0 (hs_vir (M' := m_X10_ends) (vs := [.int x3, .int x4]) (c1 := 0) (s1 := 0) dX10_keep_199 wd_1257 vi_X10_ends hg2 rfl (Nat.le_of_ble_eq_true rfl) hc hq_i (hc_i (fun z h9 k9 => k9)))
theorem b_X10_keep_202 {G : hk_G} {d cb sb : Nat} {h : hk_H} {Q : hk_O → hk_H → Prop} {s0 : Nat} {s1 : Int32} {s2 : Int32} {n1 : Nat} {f2 : Nat → Int64} {h_1 : hk_H} {x4 : Int32} {o0 : Option Value} {o1 : Option Value} {o2 : Option Value} {o3 : Option Value} (ha3 : h.2 s0 = some (.inl (1, n1, .inr (.inl f2)))) (h4_s0 : 4 ≤ s0) (j4 : Nat) (hi5 : (s1 : Int32).toInt = (j4 : Int)) (hj6 : j4 < n1) (e_1 : (hk_set h s0 (.inl (1, n1, .inr (.inl (vp_updL f2 j4 s2.toInt64))))) = h_1) (k : hk_S G m_X10_keep (d + 1) cb sb 173 [o0, o1, o2, o3, some (.int (x4 + 1))] [] h_1 Q) (ho3 : hk_c1 o3 := by first | exact hk_c1i | exact hk_c1r | exact hk_c10 | exact hk_c1n) : hk_S G m_X10_keep (d + 1) cb sb 202 [o0, o1, o2, o3, some (.int x4)] [.int s2, .int s1, .ref s0] h Q := by
  subst e_1
  refine hs_i2l dX10_keep_202 ?_
  refine hs_last j4 dX10_keep_203 ha3 h4_s0 hi5 hj6 ?_
  refine hs_iincK (v := 1) dX10_keep_204 rfl (by decide) (by decide) (hk_nk1 rfl ho3) rfl ?_
  refine hs_goto dX10_keep_207 (tgt := 173) (by decide) ?_
  exact k
theorem b_X10_keep_210 {G : hk_G} {d cb sb : Nat} {h : hk_H} {Q : hk_O → hk_H → Prop} {o0 : Option Value} {o1 : Option Value} {o2 : Option Value} {o3 : Option Value} {o4 : Option Value} (hq : Q (.inl (some (.int 0))) h) : hk_S G m_X10_keep (d + 1) cb sb 210 [o0, o1, o2, o3, o4] [] h Q := by
  refine hs_goto dX10_keep_210 (tgt := 270) (by decide) ?_
  refine hs_iconst (v := 0) dX10_keep_270 (by decide) ?_
  exact hs_iret dX10_keep_271 rfl hq
theorem b_X10_keep_213 {G : hk_G} {d cb sb : Nat} {h : hk_H} {Q : hk_O → hk_H → Prop} {x2 : Int32} {o0 : Option Value} {o1 : Option Value} {o3 : Option Value} {o4 : Option Value} (kt : ¬ x2 = 4 → hk_S G m_X10_keep (d + 1) cb sb 270 [o0, o1, some (.int x2), o3, o4] [] h Q) (kf : x2 = 4 → hk_S G m_X10_keep (d + 1) cb sb 218 [o0, o1, some (.int x2), o3, o4] [] h Q) : hk_S G m_X10_keep (d + 1) cb sb 213 [o0, o1, some (.int x2), o3, o4] [] h Q := by
  refine hs_iload_n dX10_keep_213 rfl ?_
  refine hs_iconst (v := 4) dX10_keep_214 (by decide) ?_
  exact hs_icmp_ne dX10_keep_215 (by decide) kt kf
theorem b_X10_keep_218 {G : hk_G} {d cb sb : Nat} {h : hk_H} {Q : hk_O → hk_H → Prop} {r0 : Nat} {fs1 : List Value} {v3 : Nat} {x1 : Int32} {v5 : Int32} {n7 : Nat} {f8 : Nat → Int32} {h_1 : hk_H} {o2 : Option Value} {o3 : Option Value} {o4 : Option Value} (hg2 : h.2 r0 = some (.inr (10, fs1))) (hv4 : fs1[26]? = some (.ref v3)) (hv6 : fs1[1]? = some (.int v5)) (ha9 : h.2 v3 = some (.inl (0, n7, .inl f8))) (h4_v3 : 4 ≤ v3) (j10 : Nat) (hi11 : (x1 : Int32).toInt = (j10 : Int)) (hj12 : j10 < n7) (e_1 : (hk_set h v3 (.inl (0, n7, .inl (upd f8 j10 v5)))) = h_1) (k : hk_S G m_X10_keep (d + 1) cb sb 231 [some (.ref r0), some (.int x1), o2, o3, some (.int 0)] [] h_1 Q) (ho3 : hk_c1 o3 := by first | exact hk_c1i | exact hk_c1r | exact hk_c10 | exact hk_c1n) : hk_S G m_X10_keep (d + 1) cb sb 218 [some (.ref r0), some (.int x1), o2, o3, o4] [] h Q := by
  subst e_1
  refine hs_aload_n dX10_keep_218 rfl ?_
  refine hs_get dX10_keep_219 fl_X10_72_10 hg2 hv4 ?_
  refine hs_iload_n dX10_keep_222 rfl ?_
  refine hs_aload_n dX10_keep_223 rfl ?_
  refine hs_get dX10_keep_224 fl_X10_101_10 hg2 hv6 ?_
  refine hs_iast j10 dX10_keep_227 ha9 h4_v3 hi11 hj12 ?_
  refine hs_iconst (v := 0) dX10_keep_228 (by decide) ?_
  refine hs_istK dX10_keep_229 (by decide) (hk_nk1 rfl ho3) rfl ?_
  exact k
theorem b_X10_keep_231 {G : hk_G} {d cb sb : Nat} {h : hk_H} {Q : hk_O → hk_H → Prop} {x4 : Int32} {r0 : Nat} {fs1 : List Value} {v3 : Int32} {o1 : Option Value} {o2 : Option Value} {o3 : Option Value} (hg2 : h.2 r0 = some (.inr (10, fs1))) (hv4 : fs1[1]? = some (.int v3)) (kt : v3 ≤ x4 → hk_S G m_X10_keep (d + 1) cb sb 270 [some (.ref r0), o1, o2, o3, some (.int x4)] [] h Q) (kf : ¬ v3 ≤ x4 → hk_S G m_X10_keep (d + 1) cb sb 240 [some (.ref r0), o1, o2, o3, some (.int x4)] [] h Q) : hk_S G m_X10_keep (d + 1) cb sb 231 [some (.ref r0), o1, o2, o3, some (.int x4)] [] h Q := by
  refine hs_iload dX10_keep_231 rfl ?_
  refine hs_aload_n dX10_keep_233 rfl ?_
  refine hs_get dX10_keep_234 fl_X10_101_10 hg2 hv4 ?_
  exact hs_icmp_ge dX10_keep_237 (by decide) kt kf
theorem b_X10_keep_240 {G : hk_G} {d cb sb : Nat} {h : hk_H} {Q : hk_O → hk_H → Prop} {r0 : Nat} {fs1 : List Value} {v3 : Nat} {x1 : Int32} {x4 : Int32} {v5 : Nat} {x3 : Int32} {n7 : Nat} {f8 : Nat → Int32} {n13 : Nat} {f14 : Nat → Int64} {h_1 : hk_H} {o2 : Option Value} (hg2 : h.2 r0 = some (.inr (10, fs1))) (hv4 : fs1[30]? = some (.ref v3)) (hv6 : fs1[5]? = some (.ref v5)) (ha9 : h.2 v5 = some (.inl (0, n7, .inl f8))) (j10 : Nat) (hi11 : ((5 * x3) + x4 : Int32).toInt = (j10 : Int)) (hj12 : j10 < n7) (ha15 : h.2 v3 = some (.inl (1, n13, .inr (.inl f14)))) (h4_v3 : 4 ≤ v3) (j16 : Nat) (hi17 : ((60 * x1) + x4 : Int32).toInt = (j16 : Int)) (hj18 : j16 < n13) (e_1 : (hk_set h v3 (.inl (1, n13, .inr (.inl (vp_updL f14 j16 ((f8 j10).toInt64)))))) = h_1) (k : hk_S G m_X10_keep (d + 1) cb sb 231 [some (.ref r0), some (.int x1), o2, some (.int x3), some (.int (x4 + 1))] [] h_1 Q) : hk_S G m_X10_keep (d + 1) cb sb 240 [some (.ref r0), some (.int x1), o2, some (.int x3), some (.int x4)] [] h Q := by
  subst e_1
  refine hs_aload_n dX10_keep_240 rfl ?_
  refine hs_get dX10_keep_241 fl_X10_84_10 hg2 hv4 ?_
  refine hs_bipush (v := 60) dX10_keep_244 (by decide) ?_
  refine hs_iload_n dX10_keep_246 rfl ?_
  refine hs_imul dX10_keep_247 ?_
  refine hs_iload dX10_keep_248 rfl ?_
  refine hs_iadd dX10_keep_250 ?_
  refine hs_aload_n dX10_keep_251 rfl ?_
  refine hs_get dX10_keep_252 fl_X10_9_10 hg2 hv6 ?_
  refine hs_iconst (v := 5) dX10_keep_255 (by decide) ?_
  refine hs_iload_n dX10_keep_256 rfl ?_
  refine hs_imul dX10_keep_257 ?_
  refine hs_iload dX10_keep_258 rfl ?_
  refine hs_iadd dX10_keep_260 ?_
  refine hs_iald j10 dX10_keep_261 ha9 hi11 hj12 ?_
  refine hs_i2l dX10_keep_262 ?_
  refine hs_last j16 dX10_keep_263 ha15 h4_v3 hi17 hj18 ?_
  refine hs_iincK (v := 1) dX10_keep_264 rfl (by decide) (by decide) (hk_nk1 rfl hk_c1i) rfl ?_
  refine hs_goto dX10_keep_267 (tgt := 231) (by decide) ?_
  exact k
theorem b_X10_keep_270 {G : hk_G} {d cb sb : Nat} {h : hk_H} {Q : hk_O → hk_H → Prop} {o0 : Option Value} {o1 : Option Value} {o2 : Option Value} {o3 : Option Value} {o4 : Option Value} (hq : Q (.inl (some (.int 0))) h) : hk_S G m_X10_keep (d + 1) cb sb 270 [o0, o1, o2, o3, o4] [] h Q := by
  refine hs_iconst (v := 0) dX10_keep_270 (by decide) ?_
  exact hs_iret dX10_keep_271 rfl hq
-- HonestHouseModel.make(III)I
theorem b_X10_make_0 {G : hk_G} {d cb sb : Nat} {h : hk_H} {Q : hk_O → hk_H → Prop} {x1 : Int32} {o0 : Option Value} {o2 : Option Value} {o3 : Option Value} {o4 : Option Value} (hc : hk_Ci G m_X10_isIn d 0 0 [.int x1, .int 8] h (fun z h' => hk_S G m_X10_make (d + 1) cb sb 6 [o0, some (.int x1), o2, o3, o4] [.int z] h' Q)) : hk_S G m_X10_make (d + 1) cb sb 0 [o0, some (.int x1), o2, o3, o4] [] h Q := by
  refine hs_iload_n dX10_make_0 rfl ?_
  refine hs_bipush (v := 8) dX10_make_1 (by decide) ?_
  exact hk_z0 (hs_sta (M' := m_X10_isIn) (vs := [.int x1, .int 8]) (c1 := 0) (s1 := 0) dX10_make_3 wd_1226 st_X10_isIn rfl (Nat.le_of_ble_eq_true rfl) hc hq_i (hc_i (fun z h9 k9 => k9)))
theorem b_X10_make_6 {G : hk_G} {d cb sb : Nat} {h : hk_H} {Q : hk_O → hk_H → Prop} {s0 : Int32} {o0 : Option Value} {o1 : Option Value} {o2 : Option Value} {o3 : Option Value} {o4 : Option Value} (kt : s0 = 0 → hk_S G m_X10_make (d + 1) cb sb 25 [o0, o1, o2, o3, o4] [] h Q) (kf : ¬ s0 = 0 → hk_S G m_X10_make (d + 1) cb sb 9 [o0, o1, o2, o3, o4] [] h Q) : hk_S G m_X10_make (d + 1) cb sb 6 [o0, o1, o2, o3, o4] [.int s0] h Q := by
  exact hs_if_eq dX10_make_6 (by decide) kt kf
theorem b_X10_make_9 {G : hk_G} {d cb sb : Nat} {h : hk_H} {Q : hk_O → hk_H → Prop} {x2 : Int32} {o0 : Option Value} {o1 : Option Value} {o3 : Option Value} {o4 : Option Value} (kt : x2 = 3 → hk_S G m_X10_make (d + 1) cb sb 19 [o0, o1, some (.int x2), o3, o4] [] h Q) (kf : ¬ x2 = 3 → hk_S G m_X10_make (d + 1) cb sb 14 [o0, o1, some (.int x2), o3, o4] [] h Q) : hk_S G m_X10_make (d + 1) cb sb 9 [o0, o1, some (.int x2), o3, o4] [] h Q := by
  refine hs_iload_n dX10_make_9 rfl ?_
  refine hs_iconst (v := 3) dX10_make_10 (by decide) ?_
  exact hs_icmp_eq dX10_make_11 (by decide) kt kf
theorem b_X10_make_14 {G : hk_G} {d cb sb : Nat} {h : hk_H} {Q : hk_O → hk_H → Prop} {x2 : Int32} {o0 : Option Value} {o1 : Option Value} {o3 : Option Value} {o4 : Option Value} (kt : ¬ x2 = 4 → hk_S G m_X10_make (d + 1) cb sb 25 [o0, o1, some (.int x2), o3, o4] [] h Q) (kf : x2 = 4 → hk_S G m_X10_make (d + 1) cb sb 19 [o0, o1, some (.int x2), o3, o4] [] h Q) : hk_S G m_X10_make (d + 1) cb sb 14 [o0, o1, some (.int x2), o3, o4] [] h Q := by
  refine hs_iload_n dX10_make_14 rfl ?_
  refine hs_iconst (v := 4) dX10_make_15 (by decide) ?_
  exact hs_icmp_ne dX10_make_16 (by decide) kt kf
theorem b_X10_make_19 {G : hk_G} {d cb sb : Nat} {h : hk_H} {Q : hk_O → hk_H → Prop} {x3 : Int32} {o0 : Option Value} {o1 : Option Value} {o2 : Option Value} {o4 : Option Value} (kt : x3 ≤ 60 → hk_S G m_X10_make (d + 1) cb sb 27 [o0, o1, o2, some (.int x3), o4] [] h Q) (kf : ¬ x3 ≤ 60 → hk_S G m_X10_make (d + 1) cb sb 25 [o0, o1, o2, some (.int x3), o4] [] h Q) : hk_S G m_X10_make (d + 1) cb sb 19 [o0, o1, o2, some (.int x3), o4] [] h Q := by
  refine hs_iload_n dX10_make_19 rfl ?_
  refine hs_bipush (v := 60) dX10_make_20 (by decide) ?_
  exact hs_icmp_le dX10_make_22 (by decide) kt kf
theorem b_X10_make_25 {G : hk_G} {d cb sb : Nat} {h : hk_H} {Q : hk_O → hk_H → Prop} {o0 : Option Value} {o1 : Option Value} {o2 : Option Value} {o3 : Option Value} {o4 : Option Value} (hq : Q (.inl (some (.int ((-1))))) h) : hk_S G m_X10_make (d + 1) cb sb 25 [o0, o1, o2, o3, o4] [] h Q := by
  refine hs_iconst (v := (-1)) dX10_make_25 (by decide) ?_
  exact hs_iret dX10_make_26 rfl hq
theorem b_X10_make_27 {G : hk_G} {d cb sb : Nat} {h : hk_H} {Q : hk_O → hk_H → Prop} {x3 : Int32} {o0 : Option Value} {o1 : Option Value} {o2 : Option Value} {o4 : Option Value} (kt : 0 ≤ x3 → hk_S G m_X10_make (d + 1) cb sb 34 [o0, o1, o2, some (.int x3), o4] [] h Q) (kf : ¬ 0 ≤ x3 → hk_S G m_X10_make (d + 1) cb sb 31 [o0, o1, o2, some (.int x3), o4] [] h Q) : hk_S G m_X10_make (d + 1) cb sb 27 [o0, o1, o2, some (.int x3), o4] [] h Q := by
  refine hs_iload_n dX10_make_27 rfl ?_
  exact hs_if_ge dX10_make_28 (by decide) kt kf
theorem b_X10_make_31 {G : hk_G} {d cb sb : Nat} {h : hk_H} {Q : hk_O → hk_H → Prop} {o0 : Option Value} {o1 : Option Value} {o2 : Option Value} {o3 : Option Value} {o4 : Option Value} (hq : Q (.inl (some (.int ((-14))))) h) : hk_S G m_X10_make (d + 1) cb sb 31 [o0, o1, o2, o3, o4] [] h Q := by
  refine hs_bipush (v := (-14)) dX10_make_31 (by decide) ?_
  exact hs_iret dX10_make_33 rfl hq
theorem b_X10_make_34 {G : hk_G} {d cb sb : Nat} {h : hk_H} {Q : hk_O → hk_H → Prop} {r0 : Nat} {fs1 : List Value} {v3 : Nat} {x1 : Int32} {x2 : Int32} {n5 : Nat} {f6 : Nat → Int32} {h_1 : hk_H} {fs11 : List Value} {v13 : Nat} {x3 : Int32} {n15 : Nat} {f16 : Nat → Int32} {h_2 : hk_H} {o4 : Option Value} (hg2 : h.2 r0 = some (.inr (10, fs1))) (hv4 : fs1[25]? = some (.ref v3)) (ha7 : h.2 v3 = some (.inl (0, n5, .inl f6))) (h4_v3 : 4 ≤ v3) (j8 : Nat) (hi9 : (x1 : Int32).toInt = (j8 : Int)) (hj10 : j8 < n5) (e_1 : (hk_set h v3 (.inl (0, n5, .inl (upd f6 j8 x2)))) = h_1) (hg12 : h_1.2 r0 = some (.inr (10, fs11))) (hv14 : fs11[26]? = some (.ref v13)) (ha17 : h_1.2 v13 = some (.inl (0, n15, .inl f16))) (h4_v13 : 4 ≤ v13) (hj18 : j8 < n15) (e_2 : (hk_set h_1 v13 (.inl (0, n15, .inl (upd f16 j8 x3)))) = h_2) (k : hk_S G m_X10_make (d + 1) cb sb 51 [some (.ref r0), some (.int x1), some (.int x2), some (.int x3), some (.int 0)] [] h_2 Q) : hk_S G m_X10_make (d + 1) cb sb 34 [some (.ref r0), some (.int x1), some (.int x2), some (.int x3), o4] [] h Q := by
  subst e_1
  subst e_2
  refine hs_aload_n dX10_make_34 rfl ?_
  refine hs_get dX10_make_35 fl_X10_69_10 hg2 hv4 ?_
  refine hs_iload_n dX10_make_38 rfl ?_
  refine hs_iload_n dX10_make_39 rfl ?_
  refine hs_iast j8 dX10_make_40 ha7 h4_v3 hi9 hj10 ?_
  refine hs_aload_n dX10_make_41 rfl ?_
  refine hs_get dX10_make_42 fl_X10_72_10 hg12 hv14 ?_
  refine hs_iload_n dX10_make_45 rfl ?_
  refine hs_iload_n dX10_make_46 rfl ?_
  refine hs_iast j8 dX10_make_47 ha17 h4_v13 hi9 hj18 ?_
  refine hs_iconst (v := 0) dX10_make_48 (by decide) ?_
  refine hs_istK dX10_make_49 (by decide) (hk_nk1 rfl hk_c1i) rfl ?_
  exact k
theorem b_X10_make_51 {G : hk_G} {d cb sb : Nat} {h : hk_H} {Q : hk_O → hk_H → Prop} {x4 : Int32} {x3 : Int32} {o0 : Option Value} {o1 : Option Value} {o2 : Option Value} (kt : x3 ≤ x4 → hk_S G m_X10_make (d + 1) cb sb 76 [o0, o1, o2, some (.int x3), some (.int x4)] [] h Q) (kf : ¬ x3 ≤ x4 → hk_S G m_X10_make (d + 1) cb sb 57 [o0, o1, o2, some (.int x3), some (.int x4)] [] h Q) : hk_S G m_X10_make (d + 1) cb sb 51 [o0, o1, o2, some (.int x3), some (.int x4)] [] h Q := by
  refine hs_iload dX10_make_51 rfl ?_
  refine hs_iload_n dX10_make_53 rfl ?_
  exact hs_icmp_ge dX10_make_54 (by decide) kt kf
theorem b_X10_make_57 {G : hk_G} {d cb sb : Nat} {h : hk_H} {Q : hk_O → hk_H → Prop} {r0 : Nat} {fs1 : List Value} {v3 : Nat} {x1 : Int32} {x4 : Int32} {n5 : Nat} {f6 : Nat → Int64} {h_1 : hk_H} {o2 : Option Value} {o3 : Option Value} (hg2 : h.2 r0 = some (.inr (10, fs1))) (hv4 : fs1[30]? = some (.ref v3)) (ha7 : h.2 v3 = some (.inl (1, n5, .inr (.inl f6)))) (h4_v3 : 4 ≤ v3) (j8 : Nat) (hi9 : ((60 * x1) + x4 : Int32).toInt = (j8 : Int)) (hj10 : j8 < n5) (e_1 : (hk_set h v3 (.inl (1, n5, .inr (.inl (vp_updL f6 j8 0))))) = h_1) (k : hk_S G m_X10_make (d + 1) cb sb 51 [some (.ref r0), some (.int x1), o2, o3, some (.int (x4 + 1))] [] h_1 Q) (ho3 : hk_c1 o3 := by first | exact hk_c1i | exact hk_c1r | exact hk_c10 | exact hk_c1n) : hk_S G m_X10_make (d + 1) cb sb 57 [some (.ref r0), some (.int x1), o2, o3, some (.int x4)] [] h Q := by
  subst e_1
  refine hs_aload_n dX10_make_57 rfl ?_
  refine hs_get dX10_make_58 fl_X10_84_10 hg2 hv4 ?_
  refine hs_bipush (v := 60) dX10_make_61 (by decide) ?_
  refine hs_iload_n dX10_make_63 rfl ?_
  refine hs_imul dX10_make_64 ?_
  refine hs_iload dX10_make_65 rfl ?_
  refine hs_iadd dX10_make_67 ?_
  refine hs_lconst (v := 0) dX10_make_68 (by decide) ?_
  refine hs_last j8 dX10_make_69 ha7 h4_v3 hi9 hj10 ?_
  refine hs_iincK (v := 1) dX10_make_70 rfl (by decide) (by decide) (hk_nk1 rfl ho3) rfl ?_
  refine hs_goto dX10_make_73 (tgt := 51) (by decide) ?_
  exact k
theorem b_X10_make_76 {G : hk_G} {d cb sb : Nat} {h : hk_H} {Q : hk_O → hk_H → Prop} {o0 : Option Value} {o1 : Option Value} {o2 : Option Value} {o3 : Option Value} {o4 : Option Value} (hq : Q (.inl (some (.int 0))) h) : hk_S G m_X10_make (d + 1) cb sb 76 [o0, o1, o2, o3, o4] [] h Q := by
  refine hs_iconst (v := 0) dX10_make_76 (by decide) ?_
  exact hs_iret dX10_make_77 rfl hq
-- HonestHouseModel.element(II)J
theorem b_X10_element_0 {G : hk_G} {d cb sb : Nat} {h : hk_H} {Q : hk_O → hk_H → Prop} {r0 : Nat} {fs1 : List Value} {h_1 : hk_H} {x1 : Int32} {o2 : Option Value} (hg2 : h.2 r0 = some (.inr (10, fs1))) (h4_r0 : 4 ≤ r0) (e_1 : (hk_set h r0 (.inr (10, fs1.set 13 (.int 0)))) = h_1) (hc : hk_Ci G m_X10_isIn d 0 0 [.int x1, .int 8] h_1 (fun z h' => hk_S G m_X10_element (d + 1) cb sb 11 [some (.ref r0), some (.int x1), o2] [.int z] h' Q)) (hl3 : 13 < fs1.length := by exact Nat.le_of_ble_eq_true rfl) : hk_S G m_X10_element (d + 1) cb sb 0 [some (.ref r0), some (.int x1), o2] [] h Q := by
  subst e_1
  refine hs_aload_n dX10_element_0 rfl ?_
  refine hs_iconst (v := 0) dX10_element_1 (by decide) ?_
  refine hs_put (t := .int) dX10_element_2 fw_X10_107_10 hg2 h4_r0 hl3 rfl rfl ?_
  refine hs_iload_n dX10_element_5 rfl ?_
  refine hs_bipush (v := 8) dX10_element_6 (by decide) ?_
  exact hk_z0 (hs_sta (M' := m_X10_isIn) (vs := [.int x1, .int 8]) (c1 := 0) (s1 := 0) dX10_element_8 wd_1226 st_X10_isIn rfl (Nat.le_of_ble_eq_true rfl) hc hq_i (hc_i (fun z h9 k9 => k9)))
theorem b_X10_element_11 {G : hk_G} {d cb sb : Nat} {h : hk_H} {Q : hk_O → hk_H → Prop} {s0 : Int32} {o0 : Option Value} {o1 : Option Value} {o2 : Option Value} (kt : ¬ s0 = 0 → hk_S G m_X10_element (d + 1) cb sb 21 [o0, o1, o2] [] h Q) (kf : s0 = 0 → hk_S G m_X10_element (d + 1) cb sb 14 [o0, o1, o2] [] h Q) : hk_S G m_X10_element (d + 1) cb sb 11 [o0, o1, o2] [.int s0] h Q := by
  exact hs_if_ne dX10_element_11 (by decide) kt kf
theorem b_X10_element_14 {G : hk_G} {d cb sb : Nat} {h : hk_H} {Q : hk_O → hk_H → Prop} {r0 : Nat} {fs_ : List Value} {o1 : Option Value} {o2 : Option Value} (hrec : h.2 r0 = some (.inr (10, fs_))) (hc : hk_Ci G m_X10_raises d 0 0 [.ref r0, .int 1] h (fun z h' => hk_S G m_X10_element (d + 1) cb sb 19 [some (.ref r0), o1, o2] [.int z] h' Q)) : hk_S G m_X10_element (d + 1) cb sb 14 [some (.ref r0), o1, o2] [] h Q := by
  refine hs_aload_n dX10_element_14 rfl ?_
  refine hs_iconst (v := 1) dX10_element_15 (by decide) ?_
  exact hk_z0 (hs_vir (M' := m_X10_raises) (vs := [.int 1]) (c1 := 0) (s1 := 0) dX10_element_16 wd_1285 vi_X10_raises hrec rfl (Nat.le_of_ble_eq_true rfl) hc hq_i (hc_i (fun z h9 k9 => k9)))
theorem b_X10_element_19 {G : hk_G} {d cb sb : Nat} {h : hk_H} {Q : hk_O → hk_H → Prop} {s0 : Int32} {o0 : Option Value} {o1 : Option Value} {o2 : Option Value} (hq : Q (.inl (some (.long s0.toInt64))) h) : hk_S G m_X10_element (d + 1) cb sb 19 [o0, o1, o2] [.int s0] h Q := by
  refine hs_i2l dX10_element_19 ?_
  exact hs_lret dX10_element_20 rfl hq
theorem b_X10_element_21 {G : hk_G} {d cb sb : Nat} {h : hk_H} {Q : hk_O → hk_H → Prop} {r0 : Nat} {fs1 : List Value} {v3 : Nat} {x1 : Int32} {n5 : Nat} {f6 : Nat → Int32} {o2 : Option Value} (hg2 : h.2 r0 = some (.inr (10, fs1))) (hv4 : fs1[25]? = some (.ref v3)) (ha7 : h.2 v3 = some (.inl (0, n5, .inl f6))) (j8 : Nat) (hi9 : (x1 : Int32).toInt = (j8 : Int)) (hj10 : j8 < n5) (kt : (f6 j8) < 3 → hk_S G m_X10_element (d + 1) cb sb 44 [some (.ref r0), some (.int x1), o2] [] h Q) (kf : ¬ (f6 j8) < 3 → hk_S G m_X10_element (d + 1) cb sb 31 [some (.ref r0), some (.int x1), o2] [] h Q) : hk_S G m_X10_element (d + 1) cb sb 21 [some (.ref r0), some (.int x1), o2] [] h Q := by
  refine hs_aload_n dX10_element_21 rfl ?_
  refine hs_get dX10_element_22 fl_X10_69_10 hg2 hv4 ?_
  refine hs_iload_n dX10_element_25 rfl ?_
  refine hs_iald j8 dX10_element_26 ha7 hi9 hj10 ?_
  refine hs_iconst (v := 3) dX10_element_27 (by decide) ?_
  exact hs_icmp_lt dX10_element_28 (by decide) kt kf
theorem b_X10_element_31 {G : hk_G} {d cb sb : Nat} {h : hk_H} {Q : hk_O → hk_H → Prop} {x2 : Int32} {r0 : Nat} {fs1 : List Value} {v3 : Nat} {x1 : Int32} {n5 : Nat} {f6 : Nat → Int32} (hg2 : h.2 r0 = some (.inr (10, fs1))) (hv4 : fs1[26]? = some (.ref v3)) (ha7 : h.2 v3 = some (.inl (0, n5, .inl f6))) (j8 : Nat) (hi9 : (x1 : Int32).toInt = (j8 : Int)) (hj10 : j8 < n5) (hc : hk_Ci G m_X10_isIn d 0 0 [.int x2, .int (f6 j8)] h (fun z h' => hk_S G m_X10_element (d + 1) cb sb 41 [some (.ref r0), some (.int x1), some (.int x2)] [.int z] h' Q)) : hk_S G m_X10_element (d + 1) cb sb 31 [some (.ref r0), some (.int x1), some (.int x2)] [] h Q := by
  refine hs_iload_n dX10_element_31 rfl ?_
  refine hs_aload_n dX10_element_32 rfl ?_
  refine hs_get dX10_element_33 fl_X10_72_10 hg2 hv4 ?_
  refine hs_iload_n dX10_element_36 rfl ?_
  refine hs_iald j8 dX10_element_37 ha7 hi9 hj10 ?_
  exact hk_z0 (hs_sta (M' := m_X10_isIn) (vs := [.int x2, .int (f6 j8)]) (c1 := 0) (s1 := 0) dX10_element_38 wd_1226 st_X10_isIn rfl (Nat.le_of_ble_eq_true rfl) hc hq_i (hc_i (fun z h9 k9 => k9)))
theorem b_X10_element_41 {G : hk_G} {d cb sb : Nat} {h : hk_H} {Q : hk_O → hk_H → Prop} {s0 : Int32} {o0 : Option Value} {o1 : Option Value} {o2 : Option Value} (kt : ¬ s0 = 0 → hk_S G m_X10_element (d + 1) cb sb 51 [o0, o1, o2] [] h Q) (kf : s0 = 0 → hk_S G m_X10_element (d + 1) cb sb 44 [o0, o1, o2] [] h Q) : hk_S G m_X10_element (d + 1) cb sb 41 [o0, o1, o2] [.int s0] h Q := by
  exact hs_if_ne dX10_element_41 (by decide) kt kf
theorem b_X10_element_44 {G : hk_G} {d cb sb : Nat} {h : hk_H} {Q : hk_O → hk_H → Prop} {r0 : Nat} {fs_ : List Value} {o1 : Option Value} {o2 : Option Value} (hrec : h.2 r0 = some (.inr (10, fs_))) (hc : hk_Ci G m_X10_raises d 0 0 [.ref r0, .int 2] h (fun z h' => hk_S G m_X10_element (d + 1) cb sb 49 [some (.ref r0), o1, o2] [.int z] h' Q)) : hk_S G m_X10_element (d + 1) cb sb 44 [some (.ref r0), o1, o2] [] h Q := by
  refine hs_aload_n dX10_element_44 rfl ?_
  refine hs_iconst (v := 2) dX10_element_45 (by decide) ?_
  exact hk_z0 (hs_vir (M' := m_X10_raises) (vs := [.int 2]) (c1 := 0) (s1 := 0) dX10_element_46 wd_1285 vi_X10_raises hrec rfl (Nat.le_of_ble_eq_true rfl) hc hq_i (hc_i (fun z h9 k9 => k9)))
theorem b_X10_element_49 {G : hk_G} {d cb sb : Nat} {h : hk_H} {Q : hk_O → hk_H → Prop} {s0 : Int32} {o0 : Option Value} {o1 : Option Value} {o2 : Option Value} (hq : Q (.inl (some (.long s0.toInt64))) h) : hk_S G m_X10_element (d + 1) cb sb 49 [o0, o1, o2] [.int s0] h Q := by
  refine hs_i2l dX10_element_49 ?_
  exact hs_lret dX10_element_50 rfl hq
theorem b_X10_element_51 {G : hk_G} {d cb sb : Nat} {h : hk_H} {Q : hk_O → hk_H → Prop} {r0 : Nat} {fs1 : List Value} {v3 : Nat} {x1 : Int32} {x2 : Int32} {n5 : Nat} {f6 : Nat → Int64} (hg2 : h.2 r0 = some (.inr (10, fs1))) (hv4 : fs1[30]? = some (.ref v3)) (ha7 : h.2 v3 = some (.inl (1, n5, .inr (.inl f6)))) (j8 : Nat) (hi9 : ((60 * x1) + x2 : Int32).toInt = (j8 : Int)) (hj10 : j8 < n5) (hq : Q (.inl (some (.long (f6 j8)))) h) : hk_S G m_X10_element (d + 1) cb sb 51 [some (.ref r0), some (.int x1), some (.int x2)] [] h Q := by
  refine hs_aload_n dX10_element_51 rfl ?_
  refine hs_get dX10_element_52 fl_X10_84_10 hg2 hv4 ?_
  refine hs_bipush (v := 60) dX10_element_55 (by decide) ?_
  refine hs_iload_n dX10_element_57 rfl ?_
  refine hs_imul dX10_element_58 ?_
  refine hs_iload_n dX10_element_59 rfl ?_
  refine hs_iadd dX10_element_60 ?_
  refine hs_lald j8 dX10_element_61 ha7 hi9 hj10 ?_
  exact hs_lret dX10_element_62 rfl hq
-- HonestHouseModel.copy(IIIII)I
theorem b_X10_copy_0 {G : hk_G} {d cb sb : Nat} {h : hk_H} {Q : hk_O → hk_H → Prop} {x1 : Int32} {o0 : Option Value} {o2 : Option Value} {o3 : Option Value} {o4 : Option Value} {o5 : Option Value} {o6 : Option Value} (hc : hk_Ci G m_X10_isIn d 0 0 [.int x1, .int 8] h (fun z h' => hk_S G m_X10_copy (d + 1) cb sb 6 [o0, some (.int x1), o2, o3, o4, o5, o6] [.int z] h' Q)) : hk_S G m_X10_copy (d + 1) cb sb 0 [o0, some (.int x1), o2, o3, o4, o5, o6] [] h Q := by
  refine hs_iload_n dX10_copy_0 rfl ?_
  refine hs_bipush (v := 8) dX10_copy_1 (by decide) ?_
  exact hk_z0 (hs_sta (M' := m_X10_isIn) (vs := [.int x1, .int 8]) (c1 := 0) (s1 := 0) dX10_copy_3 wd_1226 st_X10_isIn rfl (Nat.le_of_ble_eq_true rfl) hc hq_i (hc_i (fun z h9 k9 => k9)))
theorem b_X10_copy_6 {G : hk_G} {d cb sb : Nat} {h : hk_H} {Q : hk_O → hk_H → Prop} {s0 : Int32} {o0 : Option Value} {o1 : Option Value} {o2 : Option Value} {o3 : Option Value} {o4 : Option Value} {o5 : Option Value} {o6 : Option Value} (kt : s0 = 0 → hk_S G m_X10_copy (d + 1) cb sb 18 [o0, o1, o2, o3, o4, o5, o6] [] h Q) (kf : ¬ s0 = 0 → hk_S G m_X10_copy (d + 1) cb sb 9 [o0, o1, o2, o3, o4, o5, o6] [] h Q) : hk_S G m_X10_copy (d + 1) cb sb 6 [o0, o1, o2, o3, o4, o5, o6] [.int s0] h Q := by
  exact hs_if_eq dX10_copy_6 (by decide) kt kf
theorem b_X10_copy_9 {G : hk_G} {d cb sb : Nat} {h : hk_H} {Q : hk_O → hk_H → Prop} {x3 : Int32} {o0 : Option Value} {o1 : Option Value} {o2 : Option Value} {o4 : Option Value} {o5 : Option Value} {o6 : Option Value} (hc : hk_Ci G m_X10_isIn d 0 0 [.int x3, .int 8] h (fun z h' => hk_S G m_X10_copy (d + 1) cb sb 15 [o0, o1, o2, some (.int x3), o4, o5, o6] [.int z] h' Q)) : hk_S G m_X10_copy (d + 1) cb sb 9 [o0, o1, o2, some (.int x3), o4, o5, o6] [] h Q := by
  refine hs_iload_n dX10_copy_9 rfl ?_
  refine hs_bipush (v := 8) dX10_copy_10 (by decide) ?_
  exact hk_z0 (hs_sta (M' := m_X10_isIn) (vs := [.int x3, .int 8]) (c1 := 0) (s1 := 0) dX10_copy_12 wd_1226 st_X10_isIn rfl (Nat.le_of_ble_eq_true rfl) hc hq_i (hc_i (fun z h9 k9 => k9)))
theorem b_X10_copy_15 {G : hk_G} {d cb sb : Nat} {h : hk_H} {Q : hk_O → hk_H → Prop} {s0 : Int32} {o0 : Option Value} {o1 : Option Value} {o2 : Option Value} {o3 : Option Value} {o4 : Option Value} {o5 : Option Value} {o6 : Option Value} (kt : ¬ s0 = 0 → hk_S G m_X10_copy (d + 1) cb sb 20 [o0, o1, o2, o3, o4, o5, o6] [] h Q) (kf : s0 = 0 → hk_S G m_X10_copy (d + 1) cb sb 18 [o0, o1, o2, o3, o4, o5, o6] [] h Q) : hk_S G m_X10_copy (d + 1) cb sb 15 [o0, o1, o2, o3, o4, o5, o6] [.int s0] h Q := by
  exact hs_if_ne dX10_copy_15 (by decide) kt kf
theorem b_X10_copy_18 {G : hk_G} {d cb sb : Nat} {h : hk_H} {Q : hk_O → hk_H → Prop} {o0 : Option Value} {o1 : Option Value} {o2 : Option Value} {o3 : Option Value} {o4 : Option Value} {o5 : Option Value} {o6 : Option Value} (hq : Q (.inl (some (.int ((-1))))) h) : hk_S G m_X10_copy (d + 1) cb sb 18 [o0, o1, o2, o3, o4, o5, o6] [] h Q := by
  refine hs_iconst (v := (-1)) dX10_copy_18 (by decide) ?_
  exact hs_iret dX10_copy_19 rfl hq
theorem b_X10_copy_20 {G : hk_G} {d cb sb : Nat} {h : hk_H} {Q : hk_O → hk_H → Prop} {r0 : Nat} {fs1 : List Value} {v3 : Nat} {x1 : Int32} {n5 : Nat} {f6 : Nat → Int32} {o2 : Option Value} {o3 : Option Value} {o4 : Option Value} {o5 : Option Value} {o6 : Option Value} (hg2 : h.2 r0 = some (.inr (10, fs1))) (hv4 : fs1[25]? = some (.ref v3)) (ha7 : h.2 v3 = some (.inl (0, n5, .inl f6))) (j8 : Nat) (hi9 : (x1 : Int32).toInt = (j8 : Int)) (hj10 : j8 < n5) (kt : (f6 j8) = 0 → hk_S G m_X10_copy (d + 1) cb sb 38 [some (.ref r0), some (.int x1), o2, o3, o4, o5, o6] [] h Q) (kf : ¬ (f6 j8) = 0 → hk_S G m_X10_copy (d + 1) cb sb 29 [some (.ref r0), some (.int x1), o2, o3, o4, o5, o6] [] h Q) : hk_S G m_X10_copy (d + 1) cb sb 20 [some (.ref r0), some (.int x1), o2, o3, o4, o5, o6] [] h Q := by
  refine hs_aload_n dX10_copy_20 rfl ?_
  refine hs_get dX10_copy_21 fl_X10_69_10 hg2 hv4 ?_
  refine hs_iload_n dX10_copy_24 rfl ?_
  refine hs_iald j8 dX10_copy_25 ha7 hi9 hj10 ?_
  exact hs_if_eq dX10_copy_26 (by decide) kt kf
theorem b_X10_copy_29 {G : hk_G} {d cb sb : Nat} {h : hk_H} {Q : hk_O → hk_H → Prop} {r0 : Nat} {fs1 : List Value} {v3 : Nat} {x3 : Int32} {n5 : Nat} {f6 : Nat → Int32} {o1 : Option Value} {o2 : Option Value} {o4 : Option Value} {o5 : Option Value} {o6 : Option Value} (hg2 : h.2 r0 = some (.inr (10, fs1))) (hv4 : fs1[25]? = some (.ref v3)) (ha7 : h.2 v3 = some (.inl (0, n5, .inl f6))) (j8 : Nat) (hi9 : (x3 : Int32).toInt = (j8 : Int)) (hj10 : j8 < n5) (kt : ¬ (f6 j8) = 0 → hk_S G m_X10_copy (d + 1) cb sb 41 [some (.ref r0), o1, o2, some (.int x3), o4, o5, o6] [] h Q) (kf : (f6 j8) = 0 → hk_S G m_X10_copy (d + 1) cb sb 38 [some (.ref r0), o1, o2, some (.int x3), o4, o5, o6] [] h Q) : hk_S G m_X10_copy (d + 1) cb sb 29 [some (.ref r0), o1, o2, some (.int x3), o4, o5, o6] [] h Q := by
  refine hs_aload_n dX10_copy_29 rfl ?_
  refine hs_get dX10_copy_30 fl_X10_69_10 hg2 hv4 ?_
  refine hs_iload_n dX10_copy_33 rfl ?_
  refine hs_iald j8 dX10_copy_34 ha7 hi9 hj10 ?_
  exact hs_if_ne dX10_copy_35 (by decide) kt kf
theorem b_X10_copy_38 {G : hk_G} {d cb sb : Nat} {h : hk_H} {Q : hk_O → hk_H → Prop} {o0 : Option Value} {o1 : Option Value} {o2 : Option Value} {o3 : Option Value} {o4 : Option Value} {o5 : Option Value} {o6 : Option Value} (hq : Q (.inl (some (.int ((-11))))) h) : hk_S G m_X10_copy (d + 1) cb sb 38 [o0, o1, o2, o3, o4, o5, o6] [] h Q := by
  refine hs_bipush (v := (-11)) dX10_copy_38 (by decide) ?_
  exact hs_iret dX10_copy_40 rfl hq
theorem b_X10_copy_41 {G : hk_G} {d cb sb : Nat} {h : hk_H} {Q : hk_O → hk_H → Prop} {r0 : Nat} {fs1 : List Value} {v3 : Nat} {x1 : Int32} {n5 : Nat} {f6 : Nat → Int32} {o2 : Option Value} {o3 : Option Value} {o4 : Option Value} {o5 : Option Value} {o6 : Option Value} (hg2 : h.2 r0 = some (.inr (10, fs1))) (hv4 : fs1[25]? = some (.ref v3)) (ha7 : h.2 v3 = some (.inl (0, n5, .inl f6))) (j8 : Nat) (hi9 : (x1 : Int32).toInt = (j8 : Int)) (hj10 : j8 < n5) (kt : (f6 j8) < 3 → hk_S G m_X10_copy (d + 1) cb sb 66 [some (.ref r0), some (.int x1), o2, o3, o4, o5, o6] [] h Q) (kf : ¬ (f6 j8) < 3 → hk_S G m_X10_copy (d + 1) cb sb 51 [some (.ref r0), some (.int x1), o2, o3, o4, o5, o6] [] h Q) : hk_S G m_X10_copy (d + 1) cb sb 41 [some (.ref r0), some (.int x1), o2, o3, o4, o5, o6] [] h Q := by
  refine hs_aload_n dX10_copy_41 rfl ?_
  refine hs_get dX10_copy_42 fl_X10_69_10 hg2 hv4 ?_
  refine hs_iload_n dX10_copy_45 rfl ?_
  refine hs_iald j8 dX10_copy_46 ha7 hi9 hj10 ?_
  refine hs_iconst (v := 3) dX10_copy_47 (by decide) ?_
  exact hs_icmp_lt dX10_copy_48 (by decide) kt kf
theorem b_X10_copy_51 {G : hk_G} {d cb sb : Nat} {h : hk_H} {Q : hk_O → hk_H → Prop} {r0 : Nat} {fs1 : List Value} {v3 : Nat} {x1 : Int32} {n5 : Nat} {f6 : Nat → Int32} {x3 : Int32} {o2 : Option Value} {o4 : Option Value} {o5 : Option Value} {o6 : Option Value} (hg2 : h.2 r0 = some (.inr (10, fs1))) (hv4 : fs1[25]? = some (.ref v3)) (ha7 : h.2 v3 = some (.inl (0, n5, .inl f6))) (j8 : Nat) (hi9 : (x1 : Int32).toInt = (j8 : Int)) (hj10 : j8 < n5) (j11 : Nat) (hi12 : (x3 : Int32).toInt = (j11 : Int)) (hj13 : j11 < n5) (kt : (f6 j8) = (f6 j11) → hk_S G m_X10_copy (d + 1) cb sb 69 [some (.ref r0), some (.int x1), o2, some (.int x3), o4, o5, o6] [] h Q) (kf : ¬ (f6 j8) = (f6 j11) → hk_S G m_X10_copy (d + 1) cb sb 66 [some (.ref r0), some (.int x1), o2, some (.int x3), o4, o5, o6] [] h Q) : hk_S G m_X10_copy (d + 1) cb sb 51 [some (.ref r0), some (.int x1), o2, some (.int x3), o4, o5, o6] [] h Q := by
  refine hs_aload_n dX10_copy_51 rfl ?_
  refine hs_get dX10_copy_52 fl_X10_69_10 hg2 hv4 ?_
  refine hs_iload_n dX10_copy_55 rfl ?_
  refine hs_iald j8 dX10_copy_56 ha7 hi9 hj10 ?_
  refine hs_aload_n dX10_copy_57 rfl ?_
  refine hs_get dX10_copy_58 fl_X10_69_10 hg2 hv4 ?_
  refine hs_iload_n dX10_copy_61 rfl ?_
  refine hs_iald j11 dX10_copy_62 ha7 hi12 hj13 ?_
  exact hs_icmp_eq dX10_copy_63 (by decide) kt kf
theorem b_X10_copy_66 {G : hk_G} {d cb sb : Nat} {h : hk_H} {Q : hk_O → hk_H → Prop} {o0 : Option Value} {o1 : Option Value} {o2 : Option Value} {o3 : Option Value} {o4 : Option Value} {o5 : Option Value} {o6 : Option Value} (hq : Q (.inl (some (.int ((-12))))) h) : hk_S G m_X10_copy (d + 1) cb sb 66 [o0, o1, o2, o3, o4, o5, o6] [] h Q := by
  refine hs_bipush (v := (-12)) dX10_copy_66 (by decide) ?_
  exact hs_iret dX10_copy_68 rfl hq
theorem b_X10_copy_69 {G : hk_G} {d cb sb : Nat} {h : hk_H} {Q : hk_O → hk_H → Prop} {x5 : Int32} {o0 : Option Value} {o1 : Option Value} {o2 : Option Value} {o3 : Option Value} {o4 : Option Value} {o6 : Option Value} (kt : x5 < 0 → hk_S G m_X10_copy (d + 1) cb sb 118 [o0, o1, o2, o3, o4, some (.int x5), o6] [] h Q) (kf : ¬ x5 < 0 → hk_S G m_X10_copy (d + 1) cb sb 74 [o0, o1, o2, o3, o4, some (.int x5), o6] [] h Q) : hk_S G m_X10_copy (d + 1) cb sb 69 [o0, o1, o2, o3, o4, some (.int x5), o6] [] h Q := by
  refine hs_iload dX10_copy_69 rfl ?_
  exact hs_if_lt dX10_copy_71 (by decide) kt kf
theorem b_X10_copy_74 {G : hk_G} {d cb sb : Nat} {h : hk_H} {Q : hk_O → hk_H → Prop} {x2 : Int32} {o0 : Option Value} {o1 : Option Value} {o3 : Option Value} {o4 : Option Value} {o5 : Option Value} {o6 : Option Value} (kt : x2 < 0 → hk_S G m_X10_copy (d + 1) cb sb 118 [o0, o1, some (.int x2), o3, o4, o5, o6] [] h Q) (kf : ¬ x2 < 0 → hk_S G m_X10_copy (d + 1) cb sb 78 [o0, o1, some (.int x2), o3, o4, o5, o6] [] h Q) : hk_S G m_X10_copy (d + 1) cb sb 74 [o0, o1, some (.int x2), o3, o4, o5, o6] [] h Q := by
  refine hs_iload_n dX10_copy_74 rfl ?_
  exact hs_if_lt dX10_copy_75 (by decide) kt kf
theorem b_X10_copy_78 {G : hk_G} {d cb sb : Nat} {h : hk_H} {Q : hk_O → hk_H → Prop} {x4 : Int32} {o0 : Option Value} {o1 : Option Value} {o2 : Option Value} {o3 : Option Value} {o5 : Option Value} {o6 : Option Value} (kt : x4 < 0 → hk_S G m_X10_copy (d + 1) cb sb 118 [o0, o1, o2, o3, some (.int x4), o5, o6] [] h Q) (kf : ¬ x4 < 0 → hk_S G m_X10_copy (d + 1) cb sb 83 [o0, o1, o2, o3, some (.int x4), o5, o6] [] h Q) : hk_S G m_X10_copy (d + 1) cb sb 78 [o0, o1, o2, o3, some (.int x4), o5, o6] [] h Q := by
  refine hs_iload dX10_copy_78 rfl ?_
  exact hs_if_lt dX10_copy_80 (by decide) kt kf
theorem b_X10_copy_83 {G : hk_G} {d cb sb : Nat} {h : hk_H} {Q : hk_O → hk_H → Prop} {x2 : Int32} {x5 : Int32} {r0 : Nat} {fs1 : List Value} {v3 : Nat} {x1 : Int32} {n5 : Nat} {f6 : Nat → Int32} {o3 : Option Value} {o4 : Option Value} {o6 : Option Value} (hg2 : h.2 r0 = some (.inr (10, fs1))) (hv4 : fs1[26]? = some (.ref v3)) (ha7 : h.2 v3 = some (.inl (0, n5, .inl f6))) (j8 : Nat) (hi9 : (x1 : Int32).toInt = (j8 : Int)) (hj10 : j8 < n5) (kt : 0 < (lg_cmp (x2.toInt64 + x5.toInt64) ((f6 j8).toInt64)) → hk_S G m_X10_copy (d + 1) cb sb 118 [some (.ref r0), some (.int x1), some (.int x2), o3, o4, some (.int x5), o6] [] h Q) (kf : ¬ 0 < (lg_cmp (x2.toInt64 + x5.toInt64) ((f6 j8).toInt64)) → hk_S G m_X10_copy (d + 1) cb sb 100 [some (.ref r0), some (.int x1), some (.int x2), o3, o4, some (.int x5), o6] [] h Q) : hk_S G m_X10_copy (d + 1) cb sb 83 [some (.ref r0), some (.int x1), some (.int x2), o3, o4, some (.int x5), o6] [] h Q := by
  refine hs_iload_n dX10_copy_83 rfl ?_
  refine hs_i2l dX10_copy_84 ?_
  refine hs_iload dX10_copy_85 rfl ?_
  refine hs_i2l dX10_copy_87 ?_
  refine hs_ladd dX10_copy_88 ?_
  refine hs_aload_n dX10_copy_89 rfl ?_
  refine hs_get dX10_copy_90 fl_X10_72_10 hg2 hv4 ?_
  refine hs_iload_n dX10_copy_93 rfl ?_
  refine hs_iald j8 dX10_copy_94 ha7 hi9 hj10 ?_
  refine hs_i2l dX10_copy_95 ?_
  refine hs_lcmp dX10_copy_96 ?_
  exact hs_if_gt dX10_copy_97 (by decide) kt kf
theorem b_X10_copy_100 {G : hk_G} {d cb sb : Nat} {h : hk_H} {Q : hk_O → hk_H → Prop} {x4 : Int32} {x5 : Int32} {r0 : Nat} {fs1 : List Value} {v3 : Nat} {x3 : Int32} {n5 : Nat} {f6 : Nat → Int32} {o1 : Option Value} {o2 : Option Value} {o6 : Option Value} (hg2 : h.2 r0 = some (.inr (10, fs1))) (hv4 : fs1[26]? = some (.ref v3)) (ha7 : h.2 v3 = some (.inl (0, n5, .inl f6))) (j8 : Nat) (hi9 : (x3 : Int32).toInt = (j8 : Int)) (hj10 : j8 < n5) (kt : (lg_cmp (x4.toInt64 + x5.toInt64) ((f6 j8).toInt64)) ≤ 0 → hk_S G m_X10_copy (d + 1) cb sb 121 [some (.ref r0), o1, o2, some (.int x3), some (.int x4), some (.int x5), o6] [] h Q) (kf : ¬ (lg_cmp (x4.toInt64 + x5.toInt64) ((f6 j8).toInt64)) ≤ 0 → hk_S G m_X10_copy (d + 1) cb sb 118 [some (.ref r0), o1, o2, some (.int x3), some (.int x4), some (.int x5), o6] [] h Q) : hk_S G m_X10_copy (d + 1) cb sb 100 [some (.ref r0), o1, o2, some (.int x3), some (.int x4), some (.int x5), o6] [] h Q := by
  refine hs_iload dX10_copy_100 rfl ?_
  refine hs_i2l dX10_copy_102 ?_
  refine hs_iload dX10_copy_103 rfl ?_
  refine hs_i2l dX10_copy_105 ?_
  refine hs_ladd dX10_copy_106 ?_
  refine hs_aload_n dX10_copy_107 rfl ?_
  refine hs_get dX10_copy_108 fl_X10_72_10 hg2 hv4 ?_
  refine hs_iload_n dX10_copy_111 rfl ?_
  refine hs_iald j8 dX10_copy_112 ha7 hi9 hj10 ?_
  refine hs_i2l dX10_copy_113 ?_
  refine hs_lcmp dX10_copy_114 ?_
  exact hs_if_le dX10_copy_115 (by decide) kt kf
theorem b_X10_copy_118 {G : hk_G} {d cb sb : Nat} {h : hk_H} {Q : hk_O → hk_H → Prop} {o0 : Option Value} {o1 : Option Value} {o2 : Option Value} {o3 : Option Value} {o4 : Option Value} {o5 : Option Value} {o6 : Option Value} (hq : Q (.inl (some (.int ((-13))))) h) : hk_S G m_X10_copy (d + 1) cb sb 118 [o0, o1, o2, o3, o4, o5, o6] [] h Q := by
  refine hs_bipush (v := (-13)) dX10_copy_118 (by decide) ?_
  exact hs_iret dX10_copy_120 rfl hq
theorem b_X10_copy_121 {G : hk_G} {d cb sb : Nat} {h : hk_H} {Q : hk_O → hk_H → Prop} {o0 : Option Value} {o1 : Option Value} {o2 : Option Value} {o3 : Option Value} {o4 : Option Value} {o5 : Option Value} {o6 : Option Value} (k : hk_S G m_X10_copy (d + 1) cb sb 124 [o0, o1, o2, o3, o4, o5, some (.int 0)] [] h Q) (ho5 : hk_c1 o5 := by first | exact hk_c1i | exact hk_c1r | exact hk_c10 | exact hk_c1n) : hk_S G m_X10_copy (d + 1) cb sb 121 [o0, o1, o2, o3, o4, o5, o6] [] h Q := by
  refine hs_iconst (v := 0) dX10_copy_121 (by decide) ?_
  refine hs_istK dX10_copy_122 (by decide) (hk_nk1 rfl ho5) rfl ?_
  exact k
theorem b_X10_copy_124 {G : hk_G} {d cb sb : Nat} {h : hk_H} {Q : hk_O → hk_H → Prop} {x6 : Int32} {x5 : Int32} {o0 : Option Value} {o1 : Option Value} {o2 : Option Value} {o3 : Option Value} {o4 : Option Value} (kt : x5 ≤ x6 → hk_S G m_X10_copy (d + 1) cb sb 158 [o0, o1, o2, o3, o4, some (.int x5), some (.int x6)] [] h Q) (kf : ¬ x5 ≤ x6 → hk_S G m_X10_copy (d + 1) cb sb 131 [o0, o1, o2, o3, o4, some (.int x5), some (.int x6)] [] h Q) : hk_S G m_X10_copy (d + 1) cb sb 124 [o0, o1, o2, o3, o4, some (.int x5), some (.int x6)] [] h Q := by
  refine hs_iload dX10_copy_124 rfl ?_
  refine hs_iload dX10_copy_126 rfl ?_
  exact hs_icmp_ge dX10_copy_128 (by decide) kt kf
theorem b_X10_copy_131 {G : hk_G} {d cb sb : Nat} {h : hk_H} {Q : hk_O → hk_H → Prop} {r0 : Nat} {fs1 : List Value} {v3 : Nat} {x6 : Int32} {v5 : Nat} {x1 : Int32} {x2 : Int32} {n7 : Nat} {f8 : Nat → Int64} {n13 : Nat} {f14 : Nat → Int64} {h_1 : hk_H} {o3 : Option Value} {o4 : Option Value} {o5 : Option Value} (hg2 : h.2 r0 = some (.inr (10, fs1))) (hv4 : fs1[31]? = some (.ref v3)) (hv6 : fs1[30]? = some (.ref v5)) (ha9 : h.2 v5 = some (.inl (1, n7, .inr (.inl f8)))) (j10 : Nat) (hi11 : (((60 * x1) + x2) + x6 : Int32).toInt = (j10 : Int)) (hj12 : j10 < n7) (ha15 : h.2 v3 = some (.inl (1, n13, .inr (.inl f14)))) (h4_v3 : 4 ≤ v3) (j16 : Nat) (hi17 : (x6 : Int32).toInt = (j16 : Int)) (hj18 : j16 < n13) (e_1 : (hk_set h v3 (.inl (1, n13, .inr (.inl (vp_updL f14 j16 (f8 j10)))))) = h_1) (k : hk_S G m_X10_copy (d + 1) cb sb 124 [some (.ref r0), some (.int x1), some (.int x2), o3, o4, o5, some (.int (x6 + 1))] [] h_1 Q) (ho5 : hk_c1 o5 := by first | exact hk_c1i | exact hk_c1r | exact hk_c10 | exact hk_c1n) : hk_S G m_X10_copy (d + 1) cb sb 131 [some (.ref r0), some (.int x1), some (.int x2), o3, o4, o5, some (.int x6)] [] h Q := by
  subst e_1
  refine hs_aload_n dX10_copy_131 rfl ?_
  refine hs_get dX10_copy_132 fl_X10_88_10 hg2 hv4 ?_
  refine hs_iload dX10_copy_135 rfl ?_
  refine hs_aload_n dX10_copy_137 rfl ?_
  refine hs_get dX10_copy_138 fl_X10_84_10 hg2 hv6 ?_
  refine hs_bipush (v := 60) dX10_copy_141 (by decide) ?_
  refine hs_iload_n dX10_copy_143 rfl ?_
  refine hs_imul dX10_copy_144 ?_
  refine hs_iload_n dX10_copy_145 rfl ?_
  refine hs_iadd dX10_copy_146 ?_
  refine hs_iload dX10_copy_147 rfl ?_
  refine hs_iadd dX10_copy_149 ?_
  refine hs_lald j10 dX10_copy_150 ha9 hi11 hj12 ?_
  refine hs_last j16 dX10_copy_151 ha15 h4_v3 hi17 hj18 ?_
  refine hs_iincK (v := 1) dX10_copy_152 rfl (by decide) (by decide) (hk_nk1 rfl ho5) rfl ?_
  refine hs_goto dX10_copy_155 (tgt := 124) (by decide) ?_
  exact k
theorem b_X10_copy_158 {G : hk_G} {d cb sb : Nat} {h : hk_H} {Q : hk_O → hk_H → Prop} {o0 : Option Value} {o1 : Option Value} {o2 : Option Value} {o3 : Option Value} {o4 : Option Value} {o5 : Option Value} {o6 : Option Value} (k : hk_S G m_X10_copy (d + 1) cb sb 161 [o0, o1, o2, o3, o4, o5, some (.int 0)] [] h Q) (ho5 : hk_c1 o5 := by first | exact hk_c1i | exact hk_c1r | exact hk_c10 | exact hk_c1n) : hk_S G m_X10_copy (d + 1) cb sb 158 [o0, o1, o2, o3, o4, o5, o6] [] h Q := by
  refine hs_iconst (v := 0) dX10_copy_158 (by decide) ?_
  refine hs_istK dX10_copy_159 (by decide) (hk_nk1 rfl ho5) rfl ?_
  exact k
theorem b_X10_copy_161 {G : hk_G} {d cb sb : Nat} {h : hk_H} {Q : hk_O → hk_H → Prop} {x6 : Int32} {x5 : Int32} {o0 : Option Value} {o1 : Option Value} {o2 : Option Value} {o3 : Option Value} {o4 : Option Value} (kt : x5 ≤ x6 → hk_S G m_X10_copy (d + 1) cb sb 196 [o0, o1, o2, o3, o4, some (.int x5), some (.int x6)] [] h Q) (kf : ¬ x5 ≤ x6 → hk_S G m_X10_copy (d + 1) cb sb 168 [o0, o1, o2, o3, o4, some (.int x5), some (.int x6)] [] h Q) : hk_S G m_X10_copy (d + 1) cb sb 161 [o0, o1, o2, o3, o4, some (.int x5), some (.int x6)] [] h Q := by
  refine hs_iload dX10_copy_161 rfl ?_
  refine hs_iload dX10_copy_163 rfl ?_
  exact hs_icmp_ge dX10_copy_165 (by decide) kt kf
theorem b_X10_copy_168 {G : hk_G} {d cb sb : Nat} {h : hk_H} {Q : hk_O → hk_H → Prop} {r0 : Nat} {fs1 : List Value} {v3 : Nat} {x3 : Int32} {x4 : Int32} {x6 : Int32} {v5 : Nat} {n7 : Nat} {f8 : Nat → Int64} {n13 : Nat} {f14 : Nat → Int64} {h_1 : hk_H} {o1 : Option Value} {o2 : Option Value} {o5 : Option Value} (hg2 : h.2 r0 = some (.inr (10, fs1))) (hv4 : fs1[30]? = some (.ref v3)) (hv6 : fs1[31]? = some (.ref v5)) (ha9 : h.2 v5 = some (.inl (1, n7, .inr (.inl f8)))) (j10 : Nat) (hi11 : (x6 : Int32).toInt = (j10 : Int)) (hj12 : j10 < n7) (ha15 : h.2 v3 = some (.inl (1, n13, .inr (.inl f14)))) (h4_v3 : 4 ≤ v3) (j16 : Nat) (hi17 : (((60 * x3) + x4) + x6 : Int32).toInt = (j16 : Int)) (hj18 : j16 < n13) (e_1 : (hk_set h v3 (.inl (1, n13, .inr (.inl (vp_updL f14 j16 (f8 j10)))))) = h_1) (k : hk_S G m_X10_copy (d + 1) cb sb 161 [some (.ref r0), o1, o2, some (.int x3), some (.int x4), o5, some (.int (x6 + 1))] [] h_1 Q) (ho5 : hk_c1 o5 := by first | exact hk_c1i | exact hk_c1r | exact hk_c10 | exact hk_c1n) : hk_S G m_X10_copy (d + 1) cb sb 168 [some (.ref r0), o1, o2, some (.int x3), some (.int x4), o5, some (.int x6)] [] h Q := by
  subst e_1
  refine hs_aload_n dX10_copy_168 rfl ?_
  refine hs_get dX10_copy_169 fl_X10_84_10 hg2 hv4 ?_
  refine hs_bipush (v := 60) dX10_copy_172 (by decide) ?_
  refine hs_iload_n dX10_copy_174 rfl ?_
  refine hs_imul dX10_copy_175 ?_
  refine hs_iload dX10_copy_176 rfl ?_
  refine hs_iadd dX10_copy_178 ?_
  refine hs_iload dX10_copy_179 rfl ?_
  refine hs_iadd dX10_copy_181 ?_
  refine hs_aload_n dX10_copy_182 rfl ?_
  refine hs_get dX10_copy_183 fl_X10_88_10 hg2 hv6 ?_
  refine hs_iload dX10_copy_186 rfl ?_
  refine hs_lald j10 dX10_copy_188 ha9 hi11 hj12 ?_
  refine hs_last j16 dX10_copy_189 ha15 h4_v3 hi17 hj18 ?_
  refine hs_iincK (v := 1) dX10_copy_190 rfl (by decide) (by decide) (hk_nk1 rfl ho5) rfl ?_
  refine hs_goto dX10_copy_193 (tgt := 161) (by decide) ?_
  exact k
theorem b_X10_copy_196 {G : hk_G} {d cb sb : Nat} {h : hk_H} {Q : hk_O → hk_H → Prop} {x5 : Int32} {o0 : Option Value} {o1 : Option Value} {o2 : Option Value} {o3 : Option Value} {o4 : Option Value} {o6 : Option Value} (hq : Q (.inl (some (.int x5))) h) : hk_S G m_X10_copy (d + 1) cb sb 196 [o0, o1, o2, o3, o4, some (.int x5), o6] [] h Q := by
  refine hs_iload dX10_copy_196 rfl ?_
  exact hs_iret dX10_copy_198 rfl hq
-- HonestHouseModel.wrongShelf(I)I
theorem b_X10_wrongShelf_0 {G : hk_G} {d cb sb : Nat} {h : hk_H} {Q : hk_O → hk_H → Prop} {x1 : Int32} {o0 : Option Value} (hc : hk_Ci G m_X10_isIn d 0 0 [.int x1, .int 8] h (fun z h' => hk_S G m_X10_wrongShelf (d + 1) cb sb 6 [o0, some (.int x1)] [.int z] h' Q)) : hk_S G m_X10_wrongShelf (d + 1) cb sb 0 [o0, some (.int x1)] [] h Q := by
  refine hs_iload_n dX10_wrongShelf_0 rfl ?_
  refine hs_bipush (v := 8) dX10_wrongShelf_1 (by decide) ?_
  exact hk_z0 (hs_sta (M' := m_X10_isIn) (vs := [.int x1, .int 8]) (c1 := 0) (s1 := 0) dX10_wrongShelf_3 wd_1226 st_X10_isIn rfl (Nat.le_of_ble_eq_true rfl) hc hq_i (hc_i (fun z h9 k9 => k9)))
theorem b_X10_wrongShelf_6 {G : hk_G} {d cb sb : Nat} {h : hk_H} {Q : hk_O → hk_H → Prop} {s0 : Int32} {o0 : Option Value} {o1 : Option Value} (kt : ¬ s0 = 0 → hk_S G m_X10_wrongShelf (d + 1) cb sb 13 [o0, o1] [] h Q) (kf : s0 = 0 → hk_S G m_X10_wrongShelf (d + 1) cb sb 9 [o0, o1] [] h Q) : hk_S G m_X10_wrongShelf (d + 1) cb sb 6 [o0, o1] [.int s0] h Q := by
  exact hs_if_ne dX10_wrongShelf_6 (by decide) kt kf
theorem b_X10_wrongShelf_9 {G : hk_G} {d cb sb : Nat} {h : hk_H} {Q : hk_O → hk_H → Prop} {o0 : Option Value} {o1 : Option Value} (hq : Q (.inl (some (.int ((-1))))) h) : hk_S G m_X10_wrongShelf (d + 1) cb sb 9 [o0, o1] [] h Q := by
  refine hs_iconst (v := (-1)) dX10_wrongShelf_9 (by decide) ?_
  refine hs_goto dX10_wrongShelf_10 (tgt := 43) (by decide) ?_
  exact hs_iret dX10_wrongShelf_43 rfl hq
theorem b_X10_wrongShelf_13 {G : hk_G} {d cb sb : Nat} {h : hk_H} {Q : hk_O → hk_H → Prop} {r0 : Nat} {fs1 : List Value} {v3 : Nat} {x1 : Int32} {n5 : Nat} {f6 : Nat → Int32} (hg2 : h.2 r0 = some (.inr (10, fs1))) (hv4 : fs1[25]? = some (.ref v3)) (ha7 : h.2 v3 = some (.inl (0, n5, .inl f6))) (j8 : Nat) (hi9 : (x1 : Int32).toInt = (j8 : Int)) (hj10 : j8 < n5) (kt : ¬ (f6 j8) = 0 → hk_S G m_X10_wrongShelf (d + 1) cb sb 27 [some (.ref r0), some (.int x1)] [] h Q) (kf : (f6 j8) = 0 → hk_S G m_X10_wrongShelf (d + 1) cb sb 22 [some (.ref r0), some (.int x1)] [] h Q) : hk_S G m_X10_wrongShelf (d + 1) cb sb 13 [some (.ref r0), some (.int x1)] [] h Q := by
  refine hs_aload_n dX10_wrongShelf_13 rfl ?_
  refine hs_get dX10_wrongShelf_14 fl_X10_69_10 hg2 hv4 ?_
  refine hs_iload_n dX10_wrongShelf_17 rfl ?_
  refine hs_iald j8 dX10_wrongShelf_18 ha7 hi9 hj10 ?_
  exact hs_if_ne dX10_wrongShelf_19 (by decide) kt kf
theorem b_X10_wrongShelf_22 {G : hk_G} {d cb sb : Nat} {h : hk_H} {Q : hk_O → hk_H → Prop} {o0 : Option Value} {o1 : Option Value} (hq : Q (.inl (some (.int ((-11))))) h) : hk_S G m_X10_wrongShelf (d + 1) cb sb 22 [o0, o1] [] h Q := by
  refine hs_bipush (v := (-11)) dX10_wrongShelf_22 (by decide) ?_
  refine hs_goto dX10_wrongShelf_24 (tgt := 43) (by decide) ?_
  exact hs_iret dX10_wrongShelf_43 rfl hq
theorem b_X10_wrongShelf_27 {G : hk_G} {d cb sb : Nat} {h : hk_H} {Q : hk_O → hk_H → Prop} {r0 : Nat} {fs1 : List Value} {v3 : Nat} {x1 : Int32} {n5 : Nat} {f6 : Nat → Int32} (hg2 : h.2 r0 = some (.inr (10, fs1))) (hv4 : fs1[25]? = some (.ref v3)) (ha7 : h.2 v3 = some (.inl (0, n5, .inl f6))) (j8 : Nat) (hi9 : (x1 : Int32).toInt = (j8 : Int)) (hj10 : j8 < n5) (kt : (f6 j8) = 1 → hk_S G m_X10_wrongShelf (d + 1) cb sb 42 [some (.ref r0), some (.int x1)] [] h Q) (kf : ¬ (f6 j8) = 1 → hk_S G m_X10_wrongShelf (d + 1) cb sb 37 [some (.ref r0), some (.int x1)] [] h Q) : hk_S G m_X10_wrongShelf (d + 1) cb sb 27 [some (.ref r0), some (.int x1)] [] h Q := by
  refine hs_aload_n dX10_wrongShelf_27 rfl ?_
  refine hs_get dX10_wrongShelf_28 fl_X10_69_10 hg2 hv4 ?_
  refine hs_iload_n dX10_wrongShelf_31 rfl ?_
  refine hs_iald j8 dX10_wrongShelf_32 ha7 hi9 hj10 ?_
  refine hs_iconst (v := 1) dX10_wrongShelf_33 (by decide) ?_
  exact hs_icmp_eq dX10_wrongShelf_34 (by decide) kt kf
theorem b_X10_wrongShelf_37 {G : hk_G} {d cb sb : Nat} {h : hk_H} {Q : hk_O → hk_H → Prop} {o0 : Option Value} {o1 : Option Value} (hq : Q (.inl (some (.int ((-12))))) h) : hk_S G m_X10_wrongShelf (d + 1) cb sb 37 [o0, o1] [] h Q := by
  refine hs_bipush (v := (-12)) dX10_wrongShelf_37 (by decide) ?_
  refine hs_goto dX10_wrongShelf_39 (tgt := 43) (by decide) ?_
  exact hs_iret dX10_wrongShelf_43 rfl hq
theorem b_X10_wrongShelf_42 {G : hk_G} {d cb sb : Nat} {h : hk_H} {Q : hk_O → hk_H → Prop} {o0 : Option Value} {o1 : Option Value} (hq : Q (.inl (some (.int 0))) h) : hk_S G m_X10_wrongShelf (d + 1) cb sb 42 [o0, o1] [] h Q := by
  refine hs_iconst (v := 0) dX10_wrongShelf_42 (by decide) ?_
  exact hs_iret dX10_wrongShelf_43 rfl hq
theorem b_X10_wrongShelf_43 {G : hk_G} {d cb sb : Nat} {h : hk_H} {Q : hk_O → hk_H → Prop} {s0 : Int32} {o0 : Option Value} {o1 : Option Value} (hq : Q (.inl (some (.int s0))) h) : hk_S G m_X10_wrongShelf (d + 1) cb sb 43 [o0, o1] [.int s0] h Q := by
  exact hs_iret dX10_wrongShelf_43 rfl hq
-- HonestHouseModel.weight(I)I
theorem b_X10_weight_0 {G : hk_G} {d cb sb : Nat} {h : hk_H} {Q : hk_O → hk_H → Prop} {r0 : Nat} {x1 : Int32} {fs_ : List Value} {o2 : Option Value} {o3 : Option Value} (hrec : h.2 r0 = some (.inr (10, fs_))) (hc : hk_Ci G m_X10_wrongShelf d 0 0 [.ref r0, .int x1] h (fun z h' => hk_S G m_X10_weight (d + 1) cb sb 5 [some (.ref r0), some (.int x1), o2, o3] [.int z] h' Q)) : hk_S G m_X10_weight (d + 1) cb sb 0 [some (.ref r0), some (.int x1), o2, o3] [] h Q := by
  refine hs_aload_n dX10_weight_0 rfl ?_
  refine hs_iload_n dX10_weight_1 rfl ?_
  exact hk_z0 (hs_vir (M' := m_X10_wrongShelf) (vs := [.int x1]) (c1 := 0) (s1 := 0) dX10_weight_2 wd_1493 vi_X10_wrongShelf hrec rfl (Nat.le_of_ble_eq_true rfl) hc hq_i (hc_i (fun z h9 k9 => k9)))
theorem b_X10_weight_5 {G : hk_G} {d cb sb : Nat} {h : hk_H} {Q : hk_O → hk_H → Prop} {s0 : Int32} {o0 : Option Value} {o1 : Option Value} {o2 : Option Value} {o3 : Option Value} (kt : s0 = 0 → hk_S G m_X10_weight (d + 1) cb sb 12 [o0, o1, some (.int s0), o3] [] h Q) (kf : ¬ s0 = 0 → hk_S G m_X10_weight (d + 1) cb sb 10 [o0, o1, some (.int s0), o3] [] h Q) (ho1 : hk_c1 o1 := by first | exact hk_c1i | exact hk_c1r | exact hk_c10 | exact hk_c1n) : hk_S G m_X10_weight (d + 1) cb sb 5 [o0, o1, o2, o3] [.int s0] h Q := by
  refine hs_istK_n dX10_weight_5 (by decide) (hk_nk1 rfl ho1) rfl ?_
  refine hs_iload_n dX10_weight_6 rfl ?_
  exact hs_if_eq dX10_weight_7 (by decide) kt kf
theorem b_X10_weight_10 {G : hk_G} {d cb sb : Nat} {h : hk_H} {Q : hk_O → hk_H → Prop} {x2 : Int32} {o0 : Option Value} {o1 : Option Value} {o3 : Option Value} (hq : Q (.inl (some (.int x2))) h) : hk_S G m_X10_weight (d + 1) cb sb 10 [o0, o1, some (.int x2), o3] [] h Q := by
  refine hs_iload_n dX10_weight_10 rfl ?_
  exact hs_iret dX10_weight_11 rfl hq
theorem b_X10_weight_12 {G : hk_G} {d cb sb : Nat} {h : hk_H} {Q : hk_O → hk_H → Prop} {r0 : Nat} {fs1 : List Value} {v3 : Nat} {x1 : Int32} {n5 : Nat} {f6 : Nat → Int32} {v11 : Nat} {n13 : Nat} {f14 : Nat → Int32} {o2 : Option Value} {o3 : Option Value} (hg2 : h.2 r0 = some (.inr (10, fs1))) (hv4 : fs1[28]? = some (.ref v3)) (ha7 : h.2 v3 = some (.inl (0, n5, .inl f6))) (j8 : Nat) (hi9 : (x1 : Int32).toInt = (j8 : Int)) (hj10 : j8 < n5) (hv12 : fs1[27]? = some (.ref v11)) (ha15 : h.2 v11 = some (.inl (0, n13, .inl f14))) (hj16 : j8 < n13) (k0 : (f14 j8) = 0 → hk_S G m_X10_weight (d + 1) cb sb 56 [some (.ref r0), some (.int x1), o2, some (.int ((f6 j8) + 10))] [] h Q) (k1 : (f14 j8) = 1 → hk_S G m_X10_weight (d + 1) cb sb 58 [some (.ref r0), some (.int x1), o2, some (.int ((f6 j8) + 10))] [] h Q) (k2 : (f14 j8) = 2 → hk_S G m_X10_weight (d + 1) cb sb 63 [some (.ref r0), some (.int x1), o2, some (.int ((f6 j8) + 10))] [] h Q) (kd : ¬ (f14 j8) = 0 → ¬ (f14 j8) = 1 → ¬ (f14 j8) = 2 → hk_S G m_X10_weight (d + 1) cb sb 70 [some (.ref r0), some (.int x1), o2, some (.int ((f6 j8) + 10))] [] h Q) (ho2 : hk_c1 o2 := by first | exact hk_c1i | exact hk_c1r | exact hk_c10 | exact hk_c1n) : hk_S G m_X10_weight (d + 1) cb sb 12 [some (.ref r0), some (.int x1), o2, o3] [] h Q := by
  refine hs_aload_n dX10_weight_12 rfl ?_
  refine hs_get dX10_weight_13 fl_X10_78_10 hg2 hv4 ?_
  refine hs_iload_n dX10_weight_16 rfl ?_
  refine hs_iald j8 dX10_weight_17 ha7 hi9 hj10 ?_
  refine hs_bipush (v := 10) dX10_weight_18 (by decide) ?_
  refine hs_iadd dX10_weight_20 ?_
  refine hs_istK_n dX10_weight_21 (by decide) (hk_nk1 rfl ho2) rfl ?_
  refine hs_aload_n dX10_weight_22 rfl ?_
  refine hs_get dX10_weight_23 fl_X10_75_10 hg2 hv12 ?_
  refine hs_iload_n dX10_weight_26 rfl ?_
  refine hs_iald j8 dX10_weight_27 ha15 hi9 hj16 ?_
  by_cases c0 : (f14 j8) = 0
  · exact hs_tableIn dX10_weight_28 (by rw [c0]; decide) (by rw [c0]; decide) (off := 28) (by rw [c0]; rfl) (by decide) (k0 c0)
  by_cases c1 : (f14 j8) = 1
  · exact hs_tableIn dX10_weight_28 (by rw [c1]; decide) (by rw [c1]; decide) (off := 30) (by rw [c1]; rfl) (by decide) (k1 c1)
  by_cases c2 : (f14 j8) = 2
  · exact hs_tableIn dX10_weight_28 (by rw [c2]; decide) (by rw [c2]; decide) (off := 35) (by rw [c2]; rfl) (by decide) (k2 c2)
  have n0 := lv_neT (a := 0) c0 rfl
  have n1 := lv_neT (a := 1) c1 rfl
  have n2 := lv_neT (a := 2) c2 rfl
  exact hs_tableOut dX10_weight_28 (by omega) (by decide) (kd c0 c1 c2)
theorem b_X10_weight_56 {G : hk_G} {d cb sb : Nat} {h : hk_H} {Q : hk_O → hk_H → Prop} {x3 : Int32} {o0 : Option Value} {o1 : Option Value} {o2 : Option Value} (hq : Q (.inl (some (.int x3))) h) : hk_S G m_X10_weight (d + 1) cb sb 56 [o0, o1, o2, some (.int x3)] [] h Q := by
  refine hs_iload_n dX10_weight_56 rfl ?_
  exact hs_iret dX10_weight_57 rfl hq
theorem b_X10_weight_58 {G : hk_G} {d cb sb : Nat} {h : hk_H} {Q : hk_O → hk_H → Prop} {x3 : Int32} {o0 : Option Value} {o1 : Option Value} {o2 : Option Value} (hq : Q (.inl (some (.int (x3 + 100)))) h) : hk_S G m_X10_weight (d + 1) cb sb 58 [o0, o1, o2, some (.int x3)] [] h Q := by
  refine hs_iload_n dX10_weight_58 rfl ?_
  refine hs_bipush (v := 100) dX10_weight_59 (by decide) ?_
  refine hs_iadd dX10_weight_61 ?_
  exact hs_iret dX10_weight_62 rfl hq
theorem b_X10_weight_63 {G : hk_G} {d cb sb : Nat} {h : hk_H} {Q : hk_O → hk_H → Prop} {x3 : Int32} {o0 : Option Value} {o1 : Option Value} {o2 : Option Value} (hq : Q (.inl (some (.int (2 * (x3 + 100))))) h) : hk_S G m_X10_weight (d + 1) cb sb 63 [o0, o1, o2, some (.int x3)] [] h Q := by
  refine hs_iconst (v := 2) dX10_weight_63 (by decide) ?_
  refine hs_iload_n dX10_weight_64 rfl ?_
  refine hs_bipush (v := 100) dX10_weight_65 (by decide) ?_
  refine hs_iadd dX10_weight_67 ?_
  refine hs_imul dX10_weight_68 ?_
  exact hs_iret dX10_weight_69 rfl hq
theorem b_X10_weight_70 {G : hk_G} {d cb sb : Nat} {h : hk_H} {Q : hk_O → hk_H → Prop} {x3 : Int32} {r0 : Nat} {fs1 : List Value} {v3 : Nat} {x1 : Int32} {n5 : Nat} {f6 : Nat → Int32} {o2 : Option Value} (hg2 : h.2 r0 = some (.inr (10, fs1))) (hv4 : fs1[29]? = some (.ref v3)) (ha7 : h.2 v3 = some (.inl (0, n5, .inl f6))) (j8 : Nat) (hi9 : (x1 : Int32).toInt = (j8 : Int)) (hj10 : j8 < n5) (hq : Q (.inl (some (.int ((x3 + 500) + (f6 j8))))) h) : hk_S G m_X10_weight (d + 1) cb sb 70 [some (.ref r0), some (.int x1), o2, some (.int x3)] [] h Q := by
  refine hs_iload_n dX10_weight_70 rfl ?_
  refine hs_sipush (v := 500) dX10_weight_71 (by decide) ?_
  refine hs_iadd dX10_weight_74 ?_
  refine hs_aload_n dX10_weight_75 rfl ?_
  refine hs_get dX10_weight_76 fl_X10_81_10 hg2 hv4 ?_
  refine hs_iload_n dX10_weight_79 rfl ?_
  refine hs_iald j8 dX10_weight_80 ha7 hi9 hj10 ?_
  refine hs_iadd dX10_weight_81 ?_
  exact hs_iret dX10_weight_82 rfl hq
-- HonestHouseModel.toss(I)I
theorem b_X10_toss_0 {G : hk_G} {d cb sb : Nat} {h : hk_H} {Q : hk_O → hk_H → Prop} {r0 : Nat} {x1 : Int32} {fs_ : List Value} {o2 : Option Value} (hrec : h.2 r0 = some (.inr (10, fs_))) (hc : hk_Ci G m_X10_wrongShelf d 0 0 [.ref r0, .int x1] h (fun z h' => hk_S G m_X10_toss (d + 1) cb sb 5 [some (.ref r0), some (.int x1), o2] [.int z] h' Q)) : hk_S G m_X10_toss (d + 1) cb sb 0 [some (.ref r0), some (.int x1), o2] [] h Q := by
  refine hs_aload_n dX10_toss_0 rfl ?_
  refine hs_iload_n dX10_toss_1 rfl ?_
  exact hk_z0 (hs_vir (M' := m_X10_wrongShelf) (vs := [.int x1]) (c1 := 0) (s1 := 0) dX10_toss_2 wd_1493 vi_X10_wrongShelf hrec rfl (Nat.le_of_ble_eq_true rfl) hc hq_i (hc_i (fun z h9 k9 => k9)))
theorem b_X10_toss_5 {G : hk_G} {d cb sb : Nat} {h : hk_H} {Q : hk_O → hk_H → Prop} {s0 : Int32} {o0 : Option Value} {o1 : Option Value} {o2 : Option Value} (kt : s0 = 0 → hk_S G m_X10_toss (d + 1) cb sb 14 [o0, o1, some (.int s0)] [] h Q) (kf : ¬ s0 = 0 → hk_S G m_X10_toss (d + 1) cb sb 10 [o0, o1, some (.int s0)] [] h Q) (ho1 : hk_c1 o1 := by first | exact hk_c1i | exact hk_c1r | exact hk_c10 | exact hk_c1n) : hk_S G m_X10_toss (d + 1) cb sb 5 [o0, o1, o2] [.int s0] h Q := by
  refine hs_istK_n dX10_toss_5 (by decide) (hk_nk1 rfl ho1) rfl ?_
  refine hs_iload_n dX10_toss_6 rfl ?_
  exact hs_if_eq dX10_toss_7 (by decide) kt kf
theorem b_X10_toss_10 {G : hk_G} {d cb sb : Nat} {h : hk_H} {Q : hk_O → hk_H → Prop} {x2 : Int32} {o0 : Option Value} {o1 : Option Value} (hq : Q (.inl (some (.int x2))) h) : hk_S G m_X10_toss (d + 1) cb sb 10 [o0, o1, some (.int x2)] [] h Q := by
  refine hs_iload_n dX10_toss_10 rfl ?_
  refine hs_goto dX10_toss_11 (tgt := 34) (by decide) ?_
  exact hs_iret dX10_toss_34 rfl hq
theorem b_X10_toss_14 {G : hk_G} {d cb sb : Nat} {h : hk_H} {Q : hk_O → hk_H → Prop} {r0 : Nat} {fs1 : List Value} {v3 : Nat} {x1 : Int32} {n5 : Nat} {f6 : Nat → Int32} {o2 : Option Value} (hg2 : h.2 r0 = some (.inr (10, fs1))) (hv4 : fs1[27]? = some (.ref v3)) (ha7 : h.2 v3 = some (.inl (0, n5, .inl f6))) (j8 : Nat) (hi9 : (x1 : Int32).toInt = (j8 : Int)) (hj10 : j8 < n5) (kt : ¬ (f6 j8) = 0 → hk_S G m_X10_toss (d + 1) cb sb 28 [some (.ref r0), some (.int x1), o2] [] h Q) (kf : (f6 j8) = 0 → hk_S G m_X10_toss (d + 1) cb sb 23 [some (.ref r0), some (.int x1), o2] [] h Q) : hk_S G m_X10_toss (d + 1) cb sb 14 [some (.ref r0), some (.int x1), o2] [] h Q := by
  refine hs_aload_n dX10_toss_14 rfl ?_
  refine hs_get dX10_toss_15 fl_X10_75_10 hg2 hv4 ?_
  refine hs_iload_n dX10_toss_18 rfl ?_
  refine hs_iald j8 dX10_toss_19 ha7 hi9 hj10 ?_
  exact hs_if_ne dX10_toss_20 (by decide) kt kf
theorem b_X10_toss_23 {G : hk_G} {d cb sb : Nat} {h : hk_H} {Q : hk_O → hk_H → Prop} {o0 : Option Value} {o1 : Option Value} {o2 : Option Value} (hq : Q (.inl (some (.int ((-15))))) h) : hk_S G m_X10_toss (d + 1) cb sb 23 [o0, o1, o2] [] h Q := by
  refine hs_bipush (v := (-15)) dX10_toss_23 (by decide) ?_
  refine hs_goto dX10_toss_25 (tgt := 34) (by decide) ?_
  exact hs_iret dX10_toss_34 rfl hq
theorem b_X10_toss_28 {G : hk_G} {d cb sb : Nat} {h : hk_H} {Q : hk_O → hk_H → Prop} {r0 : Nat} {fs1 : List Value} {v3 : Nat} {x1 : Int32} {n5 : Nat} {f6 : Nat → Int32} {o2 : Option Value} (hg2 : h.2 r0 = some (.inr (10, fs1))) (hv4 : fs1[28]? = some (.ref v3)) (ha7 : h.2 v3 = some (.inl (0, n5, .inl f6))) (j8 : Nat) (hi9 : (x1 : Int32).toInt = (j8 : Int)) (hj10 : j8 < n5) (hq : Q (.inl (some (.int (f6 j8)))) h) : hk_S G m_X10_toss (d + 1) cb sb 28 [some (.ref r0), some (.int x1), o2] [] h Q := by
  refine hs_aload_n dX10_toss_28 rfl ?_
  refine hs_get dX10_toss_29 fl_X10_78_10 hg2 hv4 ?_
  refine hs_iload_n dX10_toss_32 rfl ?_
  refine hs_iald j8 dX10_toss_33 ha7 hi9 hj10 ?_
  exact hs_iret dX10_toss_34 rfl hq
theorem b_X10_toss_34 {G : hk_G} {d cb sb : Nat} {h : hk_H} {Q : hk_O → hk_H → Prop} {s0 : Int32} {o0 : Option Value} {o1 : Option Value} {o2 : Option Value} (hq : Q (.inl (some (.int s0))) h) : hk_S G m_X10_toss (d + 1) cb sb 34 [o0, o1, o2] [.int s0] h Q := by
  exact hs_iret dX10_toss_34 rfl hq
