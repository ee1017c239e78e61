-- HonestHouse.<init>(II)V
theorem b_X9_init_0 {G : hk_G} {d cb sb : Nat} {h : hk_H} {Q : hk_O → hk_H → Prop} {r0 : Nat} {x1 : Int32} {o2 : Option Value} {o3 : Option Value} {o4 : Option Value} {o5 : Option Value} {o6 : Option Value} (hc : hk_Ci G m_J9_floorMod_7cf53 d 0 0 [.int x1, .int 3] h (fun z h' => hk_S G m_X9_init (d + 1) cb sb 10 [some (.ref r0), some (.int x1), o2, o3, o4, o5, o6] [.int z, .int 2] h' Q)) : hk_S G m_X9_init (d + 1) cb sb 0 [some (.ref r0), some (.int x1), o2, o3, o4, o5, o6] [] h Q := by
  refine hs_aload_n dX9_init_0 rfl ?_
  refine hs_objInit (a := r0) dX9_init_1 ⟨wd_26, oi_.1, oi_.2⟩ (Nat.le_of_ble_eq_true rfl) ?_
  refine hs_iconst (v := 2) dX9_init_4 (by decide) ?_
  refine hs_iload_n dX9_init_5 rfl ?_
  refine hs_iconst (v := 3) dX9_init_6 (by decide) ?_
  exact hk_z0 (hs_sta (M' := m_J9_floorMod_7cf53) (vs := [.int x1, .int 3]) (c1 := 0) (s1 := 0) dX9_init_7 wd_29 st_J9_floorMod_7cf53 rfl (Nat.le_of_ble_eq_true rfl) hc hq_i (hc_i (fun z h9 k9 => k9)))
theorem b_X9_init_10 {G : hk_G} {d cb sb : Nat} {h : hk_H} {Q : hk_O → hk_H → Prop} {s0 : Int32} {s1 : Int32} {x2 : Int32} {o0 : Option Value} {o1 : Option Value} {o3 : Option Value} {o4 : Option Value} {o5 : Option Value} {o6 : Option Value} (hc : hk_Ci G m_J9_floorMod_7cf53 d 0 0 [.int x2, .int 4] h (fun z h' => hk_S G m_X9_init (d + 1) cb sb 18 [o0, o1, some (.int x2), some (.int (s0 + s1)), o4, o5, o6] [.int z, .int 2] h' Q)) : hk_S G m_X9_init (d + 1) cb sb 10 [o0, o1, some (.int x2), o3, o4, o5, o6] [.int s1, .int s0] h Q := by
  refine hs_iadd dX9_init_10 ?_
  refine hs_istK_n dX9_init_11 (by decide) (hk_nk1 rfl hk_c1i) rfl ?_
  refine hs_iconst (v := 2) dX9_init_12 (by decide) ?_
  refine hs_iload_n dX9_init_13 rfl ?_
  refine hs_iconst (v := 4) dX9_init_14 (by decide) ?_
  exact hk_z0 (hs_sta (M' := m_J9_floorMod_7cf53) (vs := [.int x2, .int 4]) (c1 := 0) (s1 := 0) dX9_init_15 wd_29 st_J9_floorMod_7cf53 rfl (Nat.le_of_ble_eq_true rfl) hc hq_i (hc_i (fun z h9 k9 => k9)))
theorem b_X9_init_18 {G : hk_G} {d cb sb : Nat} {h : hk_H} {Q : hk_O → hk_H → Prop} {s0 : Int32} {s1 : Int32} {h_1 : hk_H} {x3 : Int32} {cq : Nat} {sq : Nat} {o0 : Option Value} {o1 : Option Value} {o2 : Option Value} {o4 : Option Value} {o5 : Option Value} {o6 : Option Value} (e_1 : (hk_new h (.inr (8, fs_8))) = h_1) (hc : hk_Cv G m_X8_init d cq sq [.ref h.1, .int x3, .int (s0 + s1)] h_1 (fun h' => hk_S G m_X9_init (d + 1) cb sb 31 [o0, o1, o2, some (.int x3), some (.int (s0 + s1)), o5, o6] [.ref h.1] h' Q)) : hk_S G m_X9_init (d + 1) ((cq + cb) + 1) ((sq + sb) + 6) 18 [o0, o1, o2, some (.int x3), o4, o5, o6] [.int s1, .int s0] h Q := by
  subst e_1
  refine hs_iadd dX9_init_18 ?_
  refine hs_istK dX9_init_19 (by decide) (hk_nk1 rfl hk_c1i) rfl ?_
  refine hs_new dX9_init_21 cl_8 nw_X9_13 (nf_8 G) ?_
  refine hs_dup dX9_init_24 rfl ?_
  refine hs_iload_n dX9_init_25 rfl ?_
  refine hs_iload dX9_init_26 rfl ?_
  exact hs_ini (M' := m_X8_init) (vs := [.int x3, .int (s0 + s1)]) dX9_init_28 wd_34 ic_X8_init rfl (Nat.le_of_ble_eq_true rfl) hc hq_v (hc_v (fun h9 k9 => k9))
theorem b_X9_init_31 {G : hk_G} {d cb sb : Nat} {h : hk_H} {Q : hk_O → hk_H → Prop} {s0 : Nat} {r0 : Nat} {x3 : Int32} {fs1 : List Value} {h_1 : hk_H} {x4 : Int32} {fs4 : List Value} {h_2 : hk_H} {fs7 : List Value} {h_3 : hk_H} {h_4 : hk_H} {fs10 : List Value} {h_5 : hk_H} {h_6 : hk_H} {cq : Nat} {sq : Nat} {o1 : Option Value} {o2 : Option Value} {o5 : Option Value} {o6 : Option Value} (hg2 : h.2 r0 = some (.inr (9, fs1))) (h4_r0 : 4 ≤ r0) (e_1 : (hk_set h r0 (.inr (9, fs1.set 0 (.int x3)))) = h_1) (hg5 : h_1.2 r0 = some (.inr (9, fs4))) (e_2 : (hk_set h_1 r0 (.inr (9, fs4.set 1 (.int x4)))) = h_2) (hg8 : h_2.2 r0 = some (.inr (9, fs7))) (e_3 : (hk_set h_2 r0 (.inr (9, fs7.set 2 (.ref s0)))) = h_3) (e_4 : (hk_new h_3 (.inl (3, 8, .inr (.inr (.inr (.inr (fun _ => none))))))) = h_4) (hg11 : h_4.2 r0 = some (.inr (9, fs10))) (e_5 : (hk_set h_4 r0 (.inr (9, fs10.set 3 (.ref h_3.1)))) = h_5) (e_6 : (hk_new h_5 (.inr (0, fs_0))) = h_6) (hc : hk_Cv G m_X0_init d cq sq [.ref h_5.1, .ref s0] h_6 (fun h' => hk_S G m_X9_init (d + 1) cb sb 69 [some (.ref r0), o1, o2, some (.int x3), some (.int x4), some (.ref s0), o6] [.ref h_5.1, .ref r0] h' Q)) (hl3 : 0 < fs1.length := by exact Nat.le_of_ble_eq_true rfl) (hl6 : 1 < fs4.length := by exact Nat.le_of_ble_eq_true rfl) (hl9 : 2 < fs7.length := by exact Nat.le_of_ble_eq_true rfl) (hl12 : 3 < fs10.length := by exact Nat.le_of_ble_eq_true rfl) : hk_S G m_X9_init (d + 1) (((cq + cb) + 1) + 1) (((sq + sb) + 6) + 8) 31 [some (.ref r0), o1, o2, some (.int x3), some (.int x4), o5, o6] [.ref s0] h Q := by
  subst e_1
  subst e_2
  subst e_3
  subst e_4
  subst e_5
  subst e_6
  refine hs_astK dX9_init_31 (by decide) (hk_nk1 rfl hk_c1i) rfl ?_
  refine hs_aload_n dX9_init_33 rfl ?_
  refine hs_iload_n dX9_init_34 rfl ?_
  refine hs_putF (t := .int) dX9_init_35 rfl fw_X9_18_9 hg2 h4_r0 hl3 rfl rfl ?_
  refine hs_aload_n dX9_init_38 rfl ?_
  refine hs_iload dX9_init_39 rfl ?_
  refine hs_putF (t := .int) dX9_init_41 rfl fw_X9_24_9 hg5 h4_r0 hl6 rfl rfl ?_
  refine hs_aload_n dX9_init_44 rfl ?_
  refine hs_aload dX9_init_45 rfl ?_
  refine hs_putF (t := .object "HonestHouse$Wishes") dX9_init_47 rfl fw_X9_27_9 hg8 h4_r0 hl9 rfl rfl ?_
  refine hs_aload_n dX9_init_50 rfl ?_
  refine hs_bipush (v := 8) dX9_init_51 (by decide) ?_
  refine hs_anew (N := 8) (t := 3) (E := RX5) dX9_init_53 wd_74 (by left; exact ⟨rfl, rfl⟩) (by decide) (by decide) ?_
  refine hs_putF (t := .array (.object "HonestHouse$Table")) dX9_init_56 rfl fw_X9_33_9 hg11 h4_r0 hl12 rfl rfl ?_
  refine hs_aload_n dX9_init_59 rfl ?_
  refine hs_new dX9_init_60 cl_0 nw_X9_37 (nf_0 G) ?_
  refine hs_dup dX9_init_63 rfl ?_
  refine hs_aload dX9_init_64 rfl ?_
  exact hs_ini (M' := m_X0_init) (vs := [.ref s0]) dX9_init_66 wd_78 ic_X0_init rfl (Nat.le_of_ble_eq_true rfl) hc hq_v (hc_v (fun h9 k9 => k9))
theorem b_X9_init_31N0 {G : hk_G} {d cb sb : Nat} {h : hk_H} {Q : hk_O → hk_H → Prop} {r0 : Nat} {x3 : Int32} {fs1 : List Value} {h_1 : hk_H} {x4 : Int32} {fs4 : List Value} {h_2 : hk_H} {fs7 : List Value} {h_3 : hk_H} {h_4 : hk_H} {fs10 : List Value} {h_5 : hk_H} {h_6 : hk_H} {cq : Nat} {sq : Nat} {o1 : Option Value} {o2 : Option Value} {o5 : Option Value} {o6 : Option Value} (hg2 : h.2 r0 = some (.inr (9, fs1))) (h4_r0 : 4 ≤ r0) (e_1 : (hk_set h r0 (.inr (9, fs1.set 0 (.int x3)))) = h_1) (hg5 : h_1.2 r0 = some (.inr (9, fs4))) (e_2 : (hk_set h_1 r0 (.inr (9, fs4.set 1 (.int x4)))) = h_2) (hg8 : h_2.2 r0 = some (.inr (9, fs7))) (e_3 : (hk_set h_2 r0 (.inr (9, fs7.set 2 (.null)))) = h_3) (e_4 : (hk_new h_3 (.inl (3, 8, .inr (.inr (.inr (.inr (fun _ => none))))))) = h_4) (hg11 : h_4.2 r0 = some (.inr (9, fs10))) (e_5 : (hk_set h_4 r0 (.inr (9, fs10.set 3 (.ref h_3.1)))) = h_5) (e_6 : (hk_new h_5 (.inr (0, fs_0))) = h_6) (hc : hk_Cv G m_X0_init d cq sq [.ref h_5.1, .null] h_6 (fun h' => hk_S G m_X9_init (d + 1) cb sb 69 [some (.ref r0), o1, o2, some (.int x3), some (.int x4), some (.null), o6] [.ref h_5.1, .ref r0] h' Q)) (hl3 : 0 < fs1.length := by exact Nat.le_of_ble_eq_true rfl) (hl6 : 1 < fs4.length := by exact Nat.le_of_ble_eq_true rfl) (hl9 : 2 < fs7.length := by exact Nat.le_of_ble_eq_true rfl) (hl12 : 3 < fs10.length := by exact Nat.le_of_ble_eq_true rfl) : hk_S G m_X9_init (d + 1) (((cq + cb) + 1) + 1) (((sq + sb) + 6) + 8) 31 [some (.ref r0), o1, o2, some (.int x3), some (.int x4), o5, o6] [.null] h Q := by
  subst e_1
  subst e_2
  subst e_3
  subst e_4
  subst e_5
  subst e_6
  refine hs_astKN dX9_init_31 (by decide) (hk_nk1 rfl hk_c1i) rfl ?_
  refine hs_aload_n dX9_init_33 rfl ?_
  refine hs_iload_n dX9_init_34 rfl ?_
  refine hs_putF (t := .int) dX9_init_35 rfl fw_X9_18_9 hg2 h4_r0 hl3 rfl rfl ?_
  refine hs_aload_n dX9_init_38 rfl ?_
  refine hs_iload dX9_init_39 rfl ?_
  refine hs_putF (t := .int) dX9_init_41 rfl fw_X9_24_9 hg5 h4_r0 hl6 rfl rfl ?_
  refine hs_aload_n dX9_init_44 rfl ?_
  refine hs_aloadN dX9_init_45 rfl ?_
  refine hs_putF (t := .object "HonestHouse$Wishes") dX9_init_47 rfl fw_X9_27_9 hg8 h4_r0 hl9 rfl rfl ?_
  refine hs_aload_n dX9_init_50 rfl ?_
  refine hs_bipush (v := 8) dX9_init_51 (by decide) ?_
  refine hs_anew (N := 8) (t := 3) (E := RX5) dX9_init_53 wd_74 (by left; exact ⟨rfl, rfl⟩) (by decide) (by decide) ?_
  refine hs_putF (t := .array (.object "HonestHouse$Table")) dX9_init_56 rfl fw_X9_33_9 hg11 h4_r0 hl12 rfl rfl ?_
  refine hs_aload_n dX9_init_59 rfl ?_
  refine hs_new dX9_init_60 cl_0 nw_X9_37 (nf_0 G) ?_
  refine hs_dup dX9_init_63 rfl ?_
  refine hs_aloadN dX9_init_64 rfl ?_
  exact hs_ini (M' := m_X0_init) (vs := [.null]) dX9_init_66 wd_78 ic_X0_init rfl (Nat.le_of_ble_eq_true rfl) hc hq_v (hc_v (fun h9 k9 => k9))
theorem b_X9_init_69 {G : hk_G} {d cb sb : Nat} {h : hk_H} {Q : hk_O → hk_H → Prop} {s0 : Nat} {s1 : Nat} {fs1 : List Value} {h_1 : hk_H} {r0 : Nat} {h_2 : hk_H} {r5 : Nat} {cq : Nat} {sq : Nat} {o1 : Option Value} {o2 : Option Value} {o3 : Option Value} {o4 : Option Value} {o6 : Option Value} (hg2 : h.2 s0 = some (.inr (9, fs1))) (h4_s0 : 4 ≤ s0) (e_1 : (hk_set h s0 (.inr (9, fs1.set 5 (.ref s1)))) = h_1) (e_2 : (hk_new h_1 (.inr (6, fs_6))) = h_2) (hc : hk_Cv G m_X6_init d cq sq [.ref h_1.1, .ref r5] h_2 (fun h' => hk_S G m_X9_init (d + 1) cb sb 82 [some (.ref r0), o1, o2, o3, o4, some (.ref r5), o6] [.ref h_1.1, .ref r0] h' Q)) (hl3 : 5 < fs1.length := by exact Nat.le_of_ble_eq_true rfl) : hk_S G m_X9_init (d + 1) ((cq + cb) + 1) ((sq + sb) + 5) 69 [some (.ref r0), o1, o2, o3, o4, some (.ref r5), o6] [.ref s1, .ref s0] h Q := by
  subst e_1
  subst e_2
  refine hs_putF (t := .object "HonestHouse$Heap") dX9_init_69 rfl fw_X9_42_9 hg2 h4_s0 hl3 rfl rfl ?_
  refine hs_aload_n dX9_init_72 rfl ?_
  refine hs_new dX9_init_73 cl_6 nw_X9_46 (nf_6 G) ?_
  refine hs_dup dX9_init_76 rfl ?_
  refine hs_aload dX9_init_77 rfl ?_
  exact hs_ini (M' := m_X6_init) (vs := [.ref r5]) dX9_init_79 wd_103 ic_X6_init rfl (Nat.le_of_ble_eq_true rfl) hc hq_v (hc_v (fun h9 k9 => k9))
theorem b_X9_init_82 {G : hk_G} {d cb sb : Nat} {h : hk_H} {Q : hk_O → hk_H → Prop} {s0 : Nat} {s1 : Nat} {fs1 : List Value} {h_1 : hk_H} {r0 : Nat} {h_2 : hk_H} {x3 : Int32} {cq : Nat} {sq : Nat} {o1 : Option Value} {o2 : Option Value} {o4 : Option Value} {o5 : Option Value} {o6 : Option Value} (hg2 : h.2 s0 = some (.inr (9, fs1))) (h4_s0 : 4 ≤ s0) (e_1 : (hk_set h s0 (.inr (9, fs1.set 6 (.ref s1)))) = h_1) (e_2 : (hk_new h_1 (.inr (1, fs_1))) = h_2) (hc : hk_Cv G m_X1_init d cq sq [.ref h_1.1, .int x3] h_2 (fun h' => hk_S G m_X9_init (d + 1) cb sb 94 [some (.ref r0), o1, o2, some (.int x3), o4, o5, o6] [.ref h_1.1, .ref r0] h' Q)) (hl3 : 6 < fs1.length := by exact Nat.le_of_ble_eq_true rfl) : hk_S G m_X9_init (d + 1) ((cq + cb) + 1) ((sq + sb) + 9) 82 [some (.ref r0), o1, o2, some (.int x3), o4, o5, o6] [.ref s1, .ref s0] h Q := by
  subst e_1
  subst e_2
  refine hs_putF (t := .object "HonestHouse$Ways") dX9_init_82 rfl fw_X9_49_9 hg2 h4_s0 hl3 rfl rfl ?_
  refine hs_aload_n dX9_init_85 rfl ?_
  refine hs_new dX9_init_86 cl_1 nw_X9_53 (nf_1 G) ?_
  refine hs_dup dX9_init_89 rfl ?_
  refine hs_iload_n dX9_init_90 rfl ?_
  exact hs_ini (M' := m_X1_init) (vs := [.int x3]) dX9_init_91 wd_127 ic_X1_init rfl (Nat.le_of_ble_eq_true rfl) hc hq_v (hc_v (fun h9 k9 => k9))
theorem b_X9_init_94 {G : hk_G} {d cb sb : Nat} {h : hk_H} {Q : hk_O → hk_H → Prop} {s0 : Nat} {s1 : Nat} {fs1 : List Value} {h_1 : hk_H} {r0 : Nat} {h_2 : hk_H} {fs4 : List Value} {h_3 : hk_H} {o1 : Option Value} {o2 : Option Value} {o3 : Option Value} {o4 : Option Value} {o5 : Option Value} {o6 : Option Value} (hg2 : h.2 s0 = some (.inr (9, fs1))) (h4_s0 : 4 ≤ s0) (e_1 : (hk_set h s0 (.inr (9, fs1.set 7 (.ref s1)))) = h_1) (e_2 : (hk_new h_1 (.inl (4, 8, .inr (.inr (.inr (.inr (fun _ => none))))))) = h_2) (hg5 : h_2.2 r0 = some (.inr (9, fs4))) (h4_r0 : 4 ≤ r0) (e_3 : (hk_set h_2 r0 (.inr (9, fs4.set 8 (.ref h_1.1)))) = h_3) (k : hk_S G m_X9_init (d + 1) cb sb 109 [some (.ref r0), o1, o2, o3, o4, o5, some (.int 0)] [] h_3 Q) (ho5 : hk_c1 o5 := by first | exact hk_c1i | exact hk_c1r | exact hk_c10 | exact hk_c1n) (hl3 : 7 < fs1.length := by exact Nat.le_of_ble_eq_true rfl) (hl6 : 8 < fs4.length := by exact Nat.le_of_ble_eq_true rfl) : hk_S G m_X9_init (d + 1) (cb + 1) (sb + 8) 94 [some (.ref r0), o1, o2, o3, o4, o5, o6] [.ref s1, .ref s0] h Q := by
  subst e_1
  subst e_2
  subst e_3
  refine hs_putF (t := .object "HonestHouse$Market") dX9_init_94 rfl fw_X9_58_9 hg2 h4_s0 hl3 rfl rfl ?_
  refine hs_aload_n dX9_init_97 rfl ?_
  refine hs_bipush (v := 8) dX9_init_98 (by decide) ?_
  refine hs_anew (N := 8) (t := 4) (E := RX4) dX9_init_100 wd_167 (by right; exact ⟨rfl, rfl⟩) (by decide) (by decide) ?_
  refine hs_putF (t := .array (.object "HonestHouse$Shelf")) dX9_init_103 rfl fw_X9_64_9 hg5 h4_r0 hl6 rfl rfl ?_
  refine hs_iconst (v := 0) dX9_init_106 (by decide) ?_
  refine hs_istK dX9_init_107 (by decide) (hk_nk1 rfl ho5) rfl ?_
  exact k
theorem b_X9_init_109 {G : hk_G} {d cb sb : Nat} {h : hk_H} {Q : hk_O → hk_H → Prop} {x6 : Int32} {o0 : Option Value} {o1 : Option Value} {o2 : Option Value} {o3 : Option Value} {o4 : Option Value} {o5 : Option Value} (kt : 8 ≤ x6 → hk_S G m_X9_init (d + 1) cb sb 136 [o0, o1, o2, o3, o4, o5, some (.int x6)] [] h Q) (kf : ¬ 8 ≤ x6 → hk_S G m_X9_init (d + 1) cb sb 116 [o0, o1, o2, o3, o4, o5, some (.int x6)] [] h Q) : hk_S G m_X9_init (d + 1) cb sb 109 [o0, o1, o2, o3, o4, o5, some (.int x6)] [] h Q := by
  refine hs_iload dX9_init_109 rfl ?_
  refine hs_bipush (v := 8) dX9_init_111 (by decide) ?_
  exact hs_icmp_ge dX9_init_113 (by decide) kt kf
theorem b_X9_init_116 {G : hk_G} {d cb sb : Nat} {h : hk_H} {Q : hk_O → hk_H → Prop} {r0 : Nat} {fs1 : List Value} {v3 : Nat} {x6 : Int32} {h_1 : hk_H} {cq : Nat} {sq : Nat} {o1 : Option Value} {o2 : Option Value} {o3 : Option Value} {o4 : Option Value} {o5 : Option Value} (hg2 : h.2 r0 = some (.inr (9, fs1))) (hv4 : fs1[8]? = some (.ref v3)) (e_1 : (hk_new h (.inr (4, fs_4))) = h_1) (hc : hk_Cv G m_X4_init d cq sq [.ref h.1] h_1 (fun h' => hk_S G m_X9_init (d + 1) cb sb 129 [some (.ref r0), o1, o2, o3, o4, o5, some (.int x6)] [.ref h.1, .int x6, .ref v3] h' Q)) : hk_S G m_X9_init (d + 1) ((cq + cb) + 1) ((sq + sb) + 5) 116 [some (.ref r0), o1, o2, o3, o4, o5, some (.int x6)] [] h Q := by
  subst e_1
  refine hs_aload_n dX9_init_116 rfl ?_
  refine hs_get dX9_init_117 fl_X9_64_9 hg2 hv4 ?_
  refine hs_iload dX9_init_120 rfl ?_
  refine hs_new dX9_init_122 cl_4 nw_X9_62 (nf_4 G) ?_
  refine hs_dup dX9_init_125 rfl ?_
  exact hs_ini (M' := m_X4_init) (vs := []) dX9_init_126 wd_170 ic_X4_init rfl (Nat.le_of_ble_eq_true rfl) hc hq_v (hc_v (fun h9 k9 => k9))
theorem b_X9_init_129 {G : hk_G} {d cb sb : Nat} {h : hk_H} {Q : hk_O → hk_H → Prop} {s0 : Nat} {s1 : Int32} {s2 : Nat} {n1 : Nat} {f2 : Nat → Option Nat} {t3 : Nat} {E5 : String} {ci6 : Nat} {vs7 : List Value} {r8 : vw_C} {h_1 : hk_H} {x6 : Int32} {o0 : Option Value} {o1 : Option Value} {o2 : Option Value} {o3 : Option Value} {o4 : Option Value} {o5 : Option Value} (ha4 : h.2 s0 = some (.inl (t3, n1, .inr (.inr (.inr (.inr f2)))))) (h4_s0 : 4 ≤ s0) (ht9 : (hk_tys G)[t3]? = some (G.2.1 t3, .object E5)) (hb10 : h.2 s2 = some (.inr (ci6, vs7))) (hc11 : hk_cl[ci6]? = some r8) (hE12 : r8.1 = E5 ∨ (r8.1, E5) ∈ hk_cast) (j13 : Nat) (hi14 : (s1 : Int32).toInt = (j13 : Int)) (hj15 : j13 < n1) (e_1 : (hk_set h s0 (.inl (t3, n1, .inr (.inr (.inr (.inr (va_up f2 j13 (some s2)))))))) = h_1) (k : hk_S G m_X9_init (d + 1) cb sb 109 [o0, o1, o2, o3, o4, o5, some (.int (x6 + 1))] [] h_1 Q) (ho5 : hk_c1 o5 := by first | exact hk_c1i | exact hk_c1r | exact hk_c10 | exact hk_c1n) : hk_S G m_X9_init (d + 1) cb sb 129 [o0, o1, o2, o3, o4, o5, some (.int x6)] [.ref s2, .int s1, .ref s0] h Q := by
  subst e_1
  refine hs_aast j13 dX9_init_129 ha4 ht9 h4_s0 hb10 hc11 hE12 hi14 hj15 ?_
  refine hs_iincK (v := 1) dX9_init_130 rfl (by decide) (by decide) (hk_nk1 rfl ho5) rfl ?_
  refine hs_goto dX9_init_133 (tgt := 109) (by decide) ?_
  exact k
theorem b_X9_init_136 {G : hk_G} {d cb sb : Nat} {h : hk_H} {Q : hk_O → hk_H → Prop} {o0 : Option Value} {o1 : Option Value} {o2 : Option Value} {o3 : Option Value} {o4 : Option Value} {o5 : Option Value} {o6 : Option Value} (hq : Q (.inl none) h) : hk_S G m_X9_init (d + 1) cb sb 136 [o0, o1, o2, o3, o4, o5, o6] [] h Q := by
  exact hs_vret dX9_init_136 rfl hq
-- HonestHouse.wish()I
theorem b_X9_wish_0 {G : hk_G} {d cb sb : Nat} {h : hk_H} {Q : hk_O → hk_H → Prop} {r0 : Nat} {fs1 : List Value} {v3 : Nat} {fs5 : List Value} {v7 : Int32} (hg2 : h.2 r0 = some (.inr (9, fs1))) (hv4 : fs1[2]? = some (.ref v3)) (hg6 : h.2 v3 = some (.inr (8, fs5))) (hv8 : fs5[4]? = some (.int v7)) (kt : v7 < 6 → hk_S G m_X9_wish (d + 1) cb sb 15 [some (.ref r0)] [] h Q) (kf : ¬ v7 < 6 → hk_S G m_X9_wish (d + 1) cb sb 12 [some (.ref r0)] [] h Q) : hk_S G m_X9_wish (d + 1) cb sb 0 [some (.ref r0)] [] h Q := by
  refine hs_aload_n dX9_wish_0 rfl ?_
  refine hs_get dX9_wish_1 fl_X9_27_9 hg2 hv4 ?_
  refine hs_get dX9_wish_4 fl_X9_69_8 hg6 hv8 ?_
  refine hs_bipush (v := 6) dX9_wish_7 (by decide) ?_
  exact hs_icmp_lt dX9_wish_9 (by decide) kt kf
theorem b_X9_wish_12 {G : hk_G} {d cb sb : Nat} {h : hk_H} {Q : hk_O → hk_H → Prop} {o0 : Option Value} (hq : Q (.inl (some (.int ((-2))))) h) : hk_S G m_X9_wish (d + 1) cb sb 12 [o0] [] h Q := by
  refine hs_bipush (v := (-2)) dX9_wish_12 (by decide) ?_
  exact hs_iret dX9_wish_14 rfl hq
theorem b_X9_wish_15 {G : hk_G} {d cb sb : Nat} {h : hk_H} {Q : hk_O → hk_H → Prop} {r0 : Nat} {fs1 : List Value} {v3 : Int32} (hg2 : h.2 r0 = some (.inr (9, fs1))) (hv4 : fs1[4]? = some (.int v3)) (kt : v3 ≤ 0 → hk_S G m_X9_wish (d + 1) cb sb 27 [some (.ref r0)] [] h Q) (kf : ¬ v3 ≤ 0 → hk_S G m_X9_wish (d + 1) cb sb 22 [some (.ref r0)] [] h Q) : hk_S G m_X9_wish (d + 1) cb sb 15 [some (.ref r0)] [] h Q := by
  refine hs_aload_n dX9_wish_15 rfl ?_
  refine hs_get dX9_wish_16 fl_X9_72_9 hg2 hv4 ?_
  exact hs_if_le dX9_wish_19 (by decide) kt kf
theorem b_X9_wish_22 {G : hk_G} {d cb sb : Nat} {h : hk_H} {Q : hk_O → hk_H → Prop} {o0 : Option Value} (hq : Q (.inl (some (.int ((-3))))) h) : hk_S G m_X9_wish (d + 1) cb sb 22 [o0] [] h Q := by
  refine hs_bipush (v := (-3)) dX9_wish_22 (by decide) ?_
  refine hs_goto dX9_wish_24 (tgt := 34) (by decide) ?_
  exact hs_iret dX9_wish_34 rfl hq
theorem b_X9_wish_27 {G : hk_G} {d cb sb : Nat} {h : hk_H} {Q : hk_O → hk_H → Prop} {r0 : Nat} {fs1 : List Value} {v3 : Nat} {fs_ : List Value} (hg2 : h.2 r0 = some (.inr (9, fs1))) (hv4 : fs1[2]? = some (.ref v3)) (hrec : h.2 v3 = some (.inr (8, fs_))) (hc : hk_Ci G m_X8_come d 0 0 [.ref v3] h (fun z h' => hk_S G m_X9_wish (d + 1) cb sb 34 [some (.ref r0)] [.int z] h' Q)) : hk_S G m_X9_wish (d + 1) cb sb 27 [some (.ref r0)] [] h Q := by
  refine hs_aload_n dX9_wish_27 rfl ?_
  refine hs_get dX9_wish_28 fl_X9_27_9 hg2 hv4 ?_
  exact hk_z0 (hs_vir (M' := m_X8_come) (vs := []) (c1 := 0) (s1 := 0) dX9_wish_31 wd_228 vi_X8_come hrec rfl (Nat.le_of_ble_eq_true rfl) hc hq_i (hc_i (fun z h9 k9 => k9)))
theorem b_X9_wish_34 {G : hk_G} {d cb sb : Nat} {h : hk_H} {Q : hk_O → hk_H → Prop} {s0 : Int32} {o0 : Option Value} (hq : Q (.inl (some (.int s0))) h) : hk_S G m_X9_wish (d + 1) cb sb 34 [o0] [.int s0] h Q := by
  exact hs_iret dX9_wish_34 rfl hq
-- HonestHouse.worth(III)I
theorem b_X9_worth_0 {G : hk_G} {d cb sb : Nat} {h : hk_H} {Q : hk_O → hk_H → Prop} {r0 : Nat} {x1 : Int32} {fs_ : List Value} {o2 : Option Value} {o3 : Option Value} (hrec : h.2 r0 = some (.inr (9, fs_))) (hc : hk_Ci G m_X9_isWish d 0 0 [.ref r0, .int x1] h (fun z h' => hk_S G m_X9_worth (d + 1) cb sb 5 [some (.ref r0), some (.int x1), o2, o3] [.int z] h' Q)) : hk_S G m_X9_worth (d + 1) cb sb 0 [some (.ref r0), some (.int x1), o2, o3] [] h Q := by
  refine hs_aload_n dX9_worth_0 rfl ?_
  refine hs_iload_n dX9_worth_1 rfl ?_
  exact hk_z0 (hs_vir (M' := m_X9_isWish) (vs := [.int x1]) (c1 := 0) (s1 := 0) dX9_worth_2 wd_236 vi_X9_isWish hrec rfl (Nat.le_of_ble_eq_true rfl) hc hq_i (hc_i (fun z h9 k9 => k9)))
theorem b_X9_worth_5 {G : hk_G} {d cb sb : Nat} {h : hk_H} {Q : hk_O → hk_H → Prop} {s0 : Int32} {o0 : Option Value} {o1 : Option Value} {o2 : Option Value} {o3 : Option Value} (kt : s0 = 0 → hk_S G m_X9_worth (d + 1) cb sb 27 [o0, o1, o2, o3] [] h Q) (kf : ¬ s0 = 0 → hk_S G m_X9_worth (d + 1) cb sb 8 [o0, o1, o2, o3] [] h Q) : hk_S G m_X9_worth (d + 1) cb sb 5 [o0, o1, o2, o3] [.int s0] h Q := by
  exact hs_if_eq dX9_worth_5 (by decide) kt kf
theorem b_X9_worth_8 {G : hk_G} {d cb sb : Nat} {h : hk_H} {Q : hk_O → hk_H → Prop} {r0 : Nat} {x2 : Int32} {fs_ : List Value} {o1 : Option Value} {o3 : Option Value} (hrec : h.2 r0 = some (.inr (9, fs_))) (hc : hk_Ci G m_X9_isEnd d 0 0 [.ref r0, .int x2] h (fun z h' => hk_S G m_X9_worth (d + 1) cb sb 13 [some (.ref r0), o1, some (.int x2), o3] [.int z] h' Q)) : hk_S G m_X9_worth (d + 1) cb sb 8 [some (.ref r0), o1, some (.int x2), o3] [] h Q := by
  refine hs_aload_n dX9_worth_8 rfl ?_
  refine hs_iload_n dX9_worth_9 rfl ?_
  exact hk_z0 (hs_vir (M' := m_X9_isEnd) (vs := [.int x2]) (c1 := 0) (s1 := 0) dX9_worth_10 wd_240 vi_X9_isEnd hrec rfl (Nat.le_of_ble_eq_true rfl) hc hq_i (hc_i (fun z h9 k9 => k9)))
theorem b_X9_worth_13 {G : hk_G} {d cb sb : Nat} {h : hk_H} {Q : hk_O → hk_H → Prop} {s0 : Int32} {o0 : Option Value} {o1 : Option Value} {o2 : Option Value} {o3 : Option Value} (kt : s0 = 0 → hk_S G m_X9_worth (d + 1) cb sb 27 [o0, o1, o2, o3] [] h Q) (kf : ¬ s0 = 0 → hk_S G m_X9_worth (d + 1) cb sb 16 [o0, o1, o2, o3] [] h Q) : hk_S G m_X9_worth (d + 1) cb sb 13 [o0, o1, o2, o3] [.int s0] h Q := by
  exact hs_if_eq dX9_worth_13 (by decide) kt kf
theorem b_X9_worth_16 {G : hk_G} {d cb sb : Nat} {h : hk_H} {Q : hk_O → hk_H → Prop} {x3 : Int32} {o0 : Option Value} {o1 : Option Value} {o2 : Option Value} (hc : hk_Ci G m_X9_isWithin d 0 0 [.int x3, .int ((-99)), .int 99] h (fun z h' => hk_S G m_X9_worth (d + 1) cb sb 24 [o0, o1, o2, some (.int x3)] [.int z] h' Q)) : hk_S G m_X9_worth (d + 1) cb sb 16 [o0, o1, o2, some (.int x3)] [] h Q := by
  refine hs_iload_n dX9_worth_16 rfl ?_
  refine hs_bipush (v := (-99)) dX9_worth_17 (by decide) ?_
  refine hs_bipush (v := 99) dX9_worth_19 (by decide) ?_
  exact hk_z0 (hs_sta (M' := m_X9_isWithin) (vs := [.int x3, .int ((-99)), .int 99]) (c1 := 0) (s1 := 0) dX9_worth_21 wd_244 st_X9_isWithin rfl (Nat.le_of_ble_eq_true rfl) hc hq_i (hc_i (fun z h9 k9 => k9)))
theorem b_X9_worth_24 {G : hk_G} {d cb sb : Nat} {h : hk_H} {Q : hk_O → hk_H → Prop} {s0 : Int32} {o0 : Option Value} {o1 : Option Value} {o2 : Option Value} {o3 : Option Value} (kt : ¬ s0 = 0 → hk_S G m_X9_worth (d + 1) cb sb 29 [o0, o1, o2, o3] [] h Q) (kf : s0 = 0 → hk_S G m_X9_worth (d + 1) cb sb 27 [o0, o1, o2, o3] [] h Q) : hk_S G m_X9_worth (d + 1) cb sb 24 [o0, o1, o2, o3] [.int s0] h Q := by
  exact hs_if_ne dX9_worth_24 (by decide) kt kf
theorem b_X9_worth_27 {G : hk_G} {d cb sb : Nat} {h : hk_H} {Q : hk_O → hk_H → Prop} {o0 : Option Value} {o1 : Option Value} {o2 : Option Value} {o3 : Option Value} (hq : Q (.inl (some (.int ((-1))))) h) : hk_S G m_X9_worth (d + 1) cb sb 27 [o0, o1, o2, o3] [] h Q := by
  refine hs_iconst (v := (-1)) dX9_worth_27 (by decide) ?_
  exact hs_iret dX9_worth_28 rfl hq
theorem b_X9_worth_29 {G : hk_G} {d cb sb : Nat} {h : hk_H} {Q : hk_O → hk_H → Prop} {r0 : Nat} {fs1 : List Value} {v3 : Int32} {o1 : Option Value} {o2 : Option Value} {o3 : Option Value} (hg2 : h.2 r0 = some (.inr (9, fs1))) (hv4 : fs1[4]? = some (.int v3)) (kt : v3 ≤ 0 → hk_S G m_X9_worth (d + 1) cb sb 41 [some (.ref r0), o1, o2, o3] [] h Q) (kf : ¬ v3 ≤ 0 → hk_S G m_X9_worth (d + 1) cb sb 36 [some (.ref r0), o1, o2, o3] [] h Q) : hk_S G m_X9_worth (d + 1) cb sb 29 [some (.ref r0), o1, o2, o3] [] h Q := by
  refine hs_aload_n dX9_worth_29 rfl ?_
  refine hs_get dX9_worth_30 fl_X9_72_9 hg2 hv4 ?_
  exact hs_if_le dX9_worth_33 (by decide) kt kf
theorem b_X9_worth_36 {G : hk_G} {d cb sb : Nat} {h : hk_H} {Q : hk_O → hk_H → Prop} {o0 : Option Value} {o1 : Option Value} {o2 : Option Value} {o3 : Option Value} (hq : Q (.inl (some (.int ((-3))))) h) : hk_S G m_X9_worth (d + 1) cb sb 36 [o0, o1, o2, o3] [] h Q := by
  refine hs_bipush (v := (-3)) dX9_worth_36 (by decide) ?_
  refine hs_goto dX9_worth_38 (tgt := 51) (by decide) ?_
  exact hs_iret dX9_worth_51 rfl hq
theorem b_X9_worth_41 {G : hk_G} {d cb sb : Nat} {h : hk_H} {Q : hk_O → hk_H → Prop} {r0 : Nat} {fs1 : List Value} {v3 : Nat} {x1 : Int32} {x2 : Int32} {x3 : Int32} {fs_ : List Value} (hg2 : h.2 r0 = some (.inr (9, fs1))) (hv4 : fs1[2]? = some (.ref v3)) (hrec : h.2 v3 = some (.inr (8, fs_))) (hc : hk_Ci G m_X8_changeNumber d 0 0 [.ref v3, .int x1, .int x2, .int x3] h (fun z h' => hk_S G m_X9_worth (d + 1) cb sb 51 [some (.ref r0), some (.int x1), some (.int x2), some (.int x3)] [.int z] h' Q)) : hk_S G m_X9_worth (d + 1) cb sb 41 [some (.ref r0), some (.int x1), some (.int x2), some (.int x3)] [] h Q := by
  refine hs_aload_n dX9_worth_41 rfl ?_
  refine hs_get dX9_worth_42 fl_X9_27_9 hg2 hv4 ?_
  refine hs_iload_n dX9_worth_45 rfl ?_
  refine hs_iload_n dX9_worth_46 rfl ?_
  refine hs_iload_n dX9_worth_47 rfl ?_
  exact hk_z0 (hs_vir (M' := m_X8_changeNumber) (vs := [.int x1, .int x2, .int x3]) (c1 := 0) (s1 := 0) dX9_worth_48 wd_247 vi_X8_changeNumber hrec rfl (Nat.le_of_ble_eq_true rfl) hc hq_i (hc_i (fun z h9 k9 => k9)))
theorem b_X9_worth_51 {G : hk_G} {d cb sb : Nat} {h : hk_H} {Q : hk_O → hk_H → Prop} {s0 : Int32} {o0 : Option Value} {o1 : Option Value} {o2 : Option Value} {o3 : Option Value} (hq : Q (.inl (some (.int s0))) h) : hk_S G m_X9_worth (d + 1) cb sb 51 [o0, o1, o2, o3] [.int s0] h Q := by
  exact hs_iret dX9_worth_51 rfl hq
-- HonestHouse.rule(I)I
theorem b_X9_rule_0 {G : hk_G} {d cb sb : Nat} {h : hk_H} {Q : hk_O → hk_H → Prop} {x1 : Int32} {o0 : Option Value} (hc : hk_Ci G m_X9_isWithin d 0 0 [.int x1, .int 0, .int 3] h (fun z h' => hk_S G m_X9_rule (d + 1) cb sb 6 [o0, some (.int x1)] [.int z] h' Q)) : hk_S G m_X9_rule (d + 1) cb sb 0 [o0, some (.int x1)] [] h Q := by
  refine hs_iload_n dX9_rule_0 rfl ?_
  refine hs_iconst (v := 0) dX9_rule_1 (by decide) ?_
  refine hs_iconst (v := 3) dX9_rule_2 (by decide) ?_
  exact hk_z0 (hs_sta (M' := m_X9_isWithin) (vs := [.int x1, .int 0, .int 3]) (c1 := 0) (s1 := 0) dX9_rule_3 wd_244 st_X9_isWithin rfl (Nat.le_of_ble_eq_true rfl) hc hq_i (hc_i (fun z h9 k9 => k9)))
theorem b_X9_rule_6 {G : hk_G} {d cb sb : Nat} {h : hk_H} {Q : hk_O → hk_H → Prop} {s0 : Int32} {o0 : Option Value} {o1 : Option Value} (kt : s0 = 0 → hk_S G m_X9_rule (d + 1) cb sb 20 [o0, o1] [] h Q) (kf : ¬ s0 = 0 → hk_S G m_X9_rule (d + 1) cb sb 9 [o0, o1] [] h Q) : hk_S G m_X9_rule (d + 1) cb sb 6 [o0, o1] [.int s0] h Q := by
  exact hs_if_eq dX9_rule_6 (by decide) kt kf
theorem b_X9_rule_9 {G : hk_G} {d cb sb : Nat} {h : hk_H} {Q : hk_O → hk_H → Prop} {r0 : Nat} {fs1 : List Value} {v3 : Nat} {fs5 : List Value} {v7 : Int32} {o1 : Option Value} (hg2 : h.2 r0 = some (.inr (9, fs1))) (hv4 : fs1[2]? = some (.ref v3)) (hg6 : h.2 v3 = some (.inr (8, fs5))) (hv8 : fs5[4]? = some (.int v7)) (kt : 1 ≤ v7 → hk_S G m_X9_rule (d + 1) cb sb 22 [some (.ref r0), o1] [] h Q) (kf : ¬ 1 ≤ v7 → hk_S G m_X9_rule (d + 1) cb sb 20 [some (.ref r0), o1] [] h Q) : hk_S G m_X9_rule (d + 1) cb sb 9 [some (.ref r0), o1] [] h Q := by
  refine hs_aload_n dX9_rule_9 rfl ?_
  refine hs_get dX9_rule_10 fl_X9_27_9 hg2 hv4 ?_
  refine hs_get dX9_rule_13 fl_X9_69_8 hg6 hv8 ?_
  refine hs_iconst (v := 1) dX9_rule_16 (by decide) ?_
  exact hs_icmp_ge dX9_rule_17 (by decide) kt kf
theorem b_X9_rule_20 {G : hk_G} {d cb sb : Nat} {h : hk_H} {Q : hk_O → hk_H → Prop} {o0 : Option Value} {o1 : Option Value} (hq : Q (.inl (some (.int ((-1))))) h) : hk_S G m_X9_rule (d + 1) cb sb 20 [o0, o1] [] h Q := by
  refine hs_iconst (v := (-1)) dX9_rule_20 (by decide) ?_
  exact hs_iret dX9_rule_21 rfl hq
theorem b_X9_rule_22 {G : hk_G} {d cb sb : Nat} {h : hk_H} {Q : hk_O → hk_H → Prop} {r0 : Nat} {fs1 : List Value} {v3 : Int32} {o1 : Option Value} (hg2 : h.2 r0 = some (.inr (9, fs1))) (hv4 : fs1[4]? = some (.int v3)) (kt : v3 < 8 → hk_S G m_X9_rule (d + 1) cb sb 36 [some (.ref r0), o1] [] h Q) (kf : ¬ v3 < 8 → hk_S G m_X9_rule (d + 1) cb sb 31 [some (.ref r0), o1] [] h Q) : hk_S G m_X9_rule (d + 1) cb sb 22 [some (.ref r0), o1] [] h Q := by
  refine hs_aload_n dX9_rule_22 rfl ?_
  refine hs_get dX9_rule_23 fl_X9_72_9 hg2 hv4 ?_
  refine hs_bipush (v := 8) dX9_rule_26 (by decide) ?_
  exact hs_icmp_lt dX9_rule_28 (by decide) kt kf
theorem b_X9_rule_31 {G : hk_G} {d cb sb : Nat} {h : hk_H} {Q : hk_O → hk_H → Prop} {o0 : Option Value} {o1 : Option Value} (hq : Q (.inl (some (.int ((-2))))) h) : hk_S G m_X9_rule (d + 1) cb sb 31 [o0, o1] [] h Q := by
  refine hs_bipush (v := (-2)) dX9_rule_31 (by decide) ?_
  refine hs_goto dX9_rule_33 (tgt := 52) (by decide) ?_
  exact hs_iret dX9_rule_52 rfl hq
theorem b_X9_rule_36 {G : hk_G} {d cb sb : Nat} {h : hk_H} {Q : hk_O → hk_H → Prop} {r0 : Nat} {x1 : Int32} {fs1 : List Value} {v3 : Int32} {v5 : Nat} {cq : Nat} {sq : Nat} (hg2 : h.2 r0 = some (.inr (9, fs1))) (hv4 : fs1[4]? = some (.int v3)) (hv6 : fs1[2]? = some (.ref v5)) (hc : hk_Cr G m_X9_newRule d cq sq [.int x1, .int v3, .ref v5] h (fun z h' => hk_S G m_X9_rule (d + 1) cb sb 49 [some (.ref r0), some (.int x1)] [hk_rf z, .ref r0] h' Q)) : hk_S G m_X9_rule (d + 1) (cq + cb) (sq + sb) 36 [some (.ref r0), some (.int x1)] [] h Q := by
  refine hs_aload_n dX9_rule_36 rfl ?_
  refine hs_iload_n dX9_rule_37 rfl ?_
  refine hs_aload_n dX9_rule_38 rfl ?_
  refine hs_get dX9_rule_39 fl_X9_72_9 hg2 hv4 ?_
  refine hs_aload_n dX9_rule_42 rfl ?_
  refine hs_get dX9_rule_43 fl_X9_27_9 hg2 hv6 ?_
  exact hs_sta (M' := m_X9_newRule) (vs := [.int x1, .int v3, .ref v5]) dX9_rule_46 wd_259 st_X9_newRule rfl (Nat.le_of_ble_eq_true rfl) hc hq_r (hc_r (fun z h9 k9 => k9))
theorem b_X9_rule_49 {G : hk_G} {d cb sb : Nat} {h : hk_H} {Q : hk_O → hk_H → Prop} {s0 : Nat} {s1 : Nat} {fs_ : List Value} {o0 : Option Value} {o1 : Option Value} (hrec : h.2 s0 = some (.inr (9, fs_))) (hc : hk_Ci G m_X9_add d 0 0 [.ref s0, .ref s1] h (fun z h' => hk_S G m_X9_rule (d + 1) cb sb 52 [o0, o1] [.int z] h' Q)) : hk_S G m_X9_rule (d + 1) cb sb 49 [o0, o1] [.ref s1, .ref s0] h Q := by
  exact hk_z0 (hs_vir (M' := m_X9_add) (vs := [.ref s1]) (c1 := 0) (s1 := 0) dX9_rule_49 wd_343 vi_X9_add hrec rfl (Nat.le_of_ble_eq_true rfl) hc hq_i (hc_i (fun z h9 k9 => k9)))
theorem b_X9_rule_52 {G : hk_G} {d cb sb : Nat} {h : hk_H} {Q : hk_O → hk_H → Prop} {s0 : Int32} {o0 : Option Value} {o1 : Option Value} (hq : Q (.inl (some (.int s0))) h) : hk_S G m_X9_rule (d + 1) cb sb 52 [o0, o1] [.int s0] h Q := by
  exact hs_iret dX9_rule_52 rfl hq
-- HonestHouse.put(III)I
theorem b_X9_put_0 {G : hk_G} {d cb sb : Nat} {h : hk_H} {Q : hk_O → hk_H → Prop} {r0 : Nat} {x1 : Int32} {fs_ : List Value} {o2 : Option Value} {o3 : Option Value} {o4 : Option Value} (hrec : h.2 r0 = some (.inr (9, fs_))) (hc : hk_Cr G m_X9_ruleAt d 0 0 [.ref r0, .int x1] h (fun z h' => hk_S G m_X9_put (d + 1) cb sb 5 [some (.ref r0), some (.int x1), o2, o3, o4] [hk_rf z] h' Q)) : hk_S G m_X9_put (d + 1) cb sb 0 [some (.ref r0), some (.int x1), o2, o3, o4] [] h Q := by
  refine hs_aload_n dX9_put_0 rfl ?_
  refine hs_iload_n dX9_put_1 rfl ?_
  exact hk_z0 (hs_vir (M' := m_X9_ruleAt) (vs := [.int x1]) (c1 := 0) (s1 := 0) dX9_put_2 wd_351 vi_X9_ruleAt hrec rfl (Nat.le_of_ble_eq_true rfl) hc hq_r (hc_r (fun z h9 k9 => k9)))
theorem b_X9_put_5 {G : hk_G} {d cb sb : Nat} {h : hk_H} {Q : hk_O → hk_H → Prop} {s0 : Nat} {r0 : Nat} {x2 : Int32} {fs_ : List Value} {o1 : Option Value} {o3 : Option Value} {o4 : Option Value} (hrec : h.2 r0 = some (.inr (9, fs_))) (hc : hk_Ci G m_X9_isRow d 0 0 [.ref r0, .int x2] h (fun z h' => hk_S G m_X9_put (d + 1) cb sb 17 [some (.ref r0), o1, some (.int x2), o3, some (.ref s0)] [.int z] h' Q)) (ho3 : hk_c1 o3 := by first | exact hk_c1i | exact hk_c1r | exact hk_c10 | exact hk_c1n) : hk_S G m_X9_put (d + 1) cb sb 5 [some (.ref r0), o1, some (.int x2), o3, o4] [.ref s0] h Q := by
  refine hs_astK dX9_put_5 (by decide) (hk_nk1 rfl ho3) rfl ?_
  refine hs_aload dX9_put_7 rfl ?_
  refine hs_ifnull dX9_put_9 ?_
  refine hs_aload_n dX9_put_12 rfl ?_
  refine hs_iload_n dX9_put_13 rfl ?_
  exact hk_z0 (hs_vir (M' := m_X9_isRow) (vs := [.int x2]) (c1 := 0) (s1 := 0) dX9_put_14 wd_355 vi_X9_isRow hrec rfl (Nat.le_of_ble_eq_true rfl) hc hq_i (hc_i (fun z h9 k9 => k9)))
theorem b_X9_put_5N0 {G : hk_G} {d cb sb : Nat} {h : hk_H} {Q : hk_O → hk_H → Prop} {o0 : Option Value} {o1 : Option Value} {o2 : Option Value} {o3 : Option Value} {o4 : Option Value} (hq : Q (.inl (some (.int ((-1))))) h) (ho3 : hk_c1 o3 := by first | exact hk_c1i | exact hk_c1r | exact hk_c10 | exact hk_c1n) : hk_S G m_X9_put (d + 1) cb sb 5 [o0, o1, o2, o3, o4] [.null] h Q := by
  refine hs_astKN dX9_put_5 (by decide) (hk_nk1 rfl ho3) rfl ?_
  refine hs_aloadN dX9_put_7 rfl ?_
  refine hs_ifnullN dX9_put_9 (tgt := 28) (by decide) ?_
  refine hs_iconst (v := (-1)) dX9_put_28 (by decide) ?_
  exact hs_iret dX9_put_29 rfl hq
theorem b_X9_put_12 {G : hk_G} {d cb sb : Nat} {h : hk_H} {Q : hk_O → hk_H → Prop} {r0 : Nat} {x2 : Int32} {fs_ : List Value} {o1 : Option Value} {o3 : Option Value} {o4 : Option Value} (hrec : h.2 r0 = some (.inr (9, fs_))) (hc : hk_Ci G m_X9_isRow d 0 0 [.ref r0, .int x2] h (fun z h' => hk_S G m_X9_put (d + 1) cb sb 17 [some (.ref r0), o1, some (.int x2), o3, o4] [.int z] h' Q)) : hk_S G m_X9_put (d + 1) cb sb 12 [some (.ref r0), o1, some (.int x2), o3, o4] [] h Q := by
  refine hs_aload_n dX9_put_12 rfl ?_
  refine hs_iload_n dX9_put_13 rfl ?_
  exact hk_z0 (hs_vir (M' := m_X9_isRow) (vs := [.int x2]) (c1 := 0) (s1 := 0) dX9_put_14 wd_355 vi_X9_isRow hrec rfl (Nat.le_of_ble_eq_true rfl) hc hq_i (hc_i (fun z h9 k9 => k9)))
theorem b_X9_put_17 {G : hk_G} {d cb sb : Nat} {h : hk_H} {Q : hk_O → hk_H → Prop} {s0 : Int32} {o0 : Option Value} {o1 : Option Value} {o2 : Option Value} {o3 : Option Value} {o4 : Option Value} (kt : s0 = 0 → hk_S G m_X9_put (d + 1) cb sb 28 [o0, o1, o2, o3, o4] [] h Q) (kf : ¬ s0 = 0 → hk_S G m_X9_put (d + 1) cb sb 20 [o0, o1, o2, o3, o4] [] h Q) : hk_S G m_X9_put (d + 1) cb sb 17 [o0, o1, o2, o3, o4] [.int s0] h Q := by
  exact hs_if_eq dX9_put_17 (by decide) kt kf
theorem b_X9_put_20 {G : hk_G} {d cb sb : Nat} {h : hk_H} {Q : hk_O → hk_H → Prop} {r0 : Nat} {x3 : Int32} {fs_ : List Value} {o1 : Option Value} {o2 : Option Value} {o4 : Option Value} (hrec : h.2 r0 = some (.inr (9, fs_))) (hc : hk_Ci G m_X9_isEnd d 0 0 [.ref r0, .int x3] h (fun z h' => hk_S G m_X9_put (d + 1) cb sb 25 [some (.ref r0), o1, o2, some (.int x3), o4] [.int z] h' Q)) : hk_S G m_X9_put (d + 1) cb sb 20 [some (.ref r0), o1, o2, some (.int x3), o4] [] h Q := by
  refine hs_aload_n dX9_put_20 rfl ?_
  refine hs_iload_n dX9_put_21 rfl ?_
  exact hk_z0 (hs_vir (M' := m_X9_isEnd) (vs := [.int x3]) (c1 := 0) (s1 := 0) dX9_put_22 wd_240 vi_X9_isEnd hrec rfl (Nat.le_of_ble_eq_true rfl) hc hq_i (hc_i (fun z h9 k9 => k9)))
theorem b_X9_put_25 {G : hk_G} {d cb sb : Nat} {h : hk_H} {Q : hk_O → hk_H → Prop} {s0 : Int32} {o0 : Option Value} {o1 : Option Value} {o2 : Option Value} {o3 : Option Value} {o4 : Option Value} (kt : ¬ s0 = 0 → hk_S G m_X9_put (d + 1) cb sb 30 [o0, o1, o2, o3, o4] [] h Q) (kf : s0 = 0 → hk_S G m_X9_put (d + 1) cb sb 28 [o0, o1, o2, o3, o4] [] h Q) : hk_S G m_X9_put (d + 1) cb sb 25 [o0, o1, o2, o3, o4] [.int s0] h Q := by
  exact hs_if_ne dX9_put_25 (by decide) kt kf
theorem b_X9_put_28 {G : hk_G} {d cb sb : Nat} {h : hk_H} {Q : hk_O → hk_H → Prop} {o0 : Option Value} {o1 : Option Value} {o2 : Option Value} {o3 : Option Value} {o4 : Option Value} (hq : Q (.inl (some (.int ((-1))))) h) : hk_S G m_X9_put (d + 1) cb sb 28 [o0, o1, o2, o3, o4] [] h Q := by
  refine hs_iconst (v := (-1)) dX9_put_28 (by decide) ?_
  exact hs_iret dX9_put_29 rfl hq
theorem b_X9_put_30 {G : hk_G} {d cb sb : Nat} {h : hk_H} {Q : hk_O → hk_H → Prop} {r4 : Nat} {x2 : Int32} {x3 : Int32} {M' : hk_M} {ci_ : Nat} {fs_ : List Value} {o0 : Option Value} {o1 : Option Value} (hdis : hk_dis yX5_changeEnd ci_ M' 2) (hrec : h.2 r4 = some (.inr (ci_, fs_))) (hc : hk_Ci G M' d 0 0 [.ref r4, .int x2, .int x3] h (fun z h' => hk_S G m_X9_put (d + 1) cb sb 37 [o0, o1, some (.int x2), some (.int x3), some (.ref r4)] [.int z] h' Q)) : hk_S G m_X9_put (d + 1) cb sb 30 [o0, o1, some (.int x2), some (.int x3), some (.ref r4)] [] h Q := by
  refine hs_aload dX9_put_30 rfl ?_
  refine hs_iload_n dX9_put_32 rfl ?_
  refine hs_iload_n dX9_put_33 rfl ?_
  exact hk_z0 (hs_dis (x := yX5_changeEnd) (vs := [.int x2, .int x3]) (c1 := 0) (s1 := 0) dX9_put_34 wd_359 hdis hrec rfl (Nat.le_of_ble_eq_true rfl) hc hq_i (hc_i (fun z h9 k9 => k9)))
theorem b_X9_put_37 {G : hk_G} {d cb sb : Nat} {h : hk_H} {Q : hk_O → hk_H → Prop} {s0 : Int32} {o0 : Option Value} {o1 : Option Value} {o2 : Option Value} {o3 : Option Value} {o4 : Option Value} (hq : Q (.inl (some (.int s0))) h) : hk_S G m_X9_put (d + 1) cb sb 37 [o0, o1, o2, o3, o4] [.int s0] h Q := by
  exact hs_iret dX9_put_37 rfl hq
-- HonestHouse.pay(IIII)I
theorem b_X9_pay_0 {G : hk_G} {d cb sb : Nat} {h : hk_H} {Q : hk_O → hk_H → Prop} {r0 : Nat} {x1 : Int32} {fs_ : List Value} {o2 : Option Value} {o3 : Option Value} {o4 : Option Value} {o5 : Option Value} (hrec : h.2 r0 = some (.inr (9, fs_))) (hc : hk_Cr G m_X9_ruleAt d 0 0 [.ref r0, .int x1] h (fun z h' => hk_S G m_X9_pay (d + 1) cb sb 5 [some (.ref r0), some (.int x1), o2, o3, o4, o5] [hk_rf z] h' Q)) : hk_S G m_X9_pay (d + 1) cb sb 0 [some (.ref r0), some (.int x1), o2, o3, o4, o5] [] h Q := by
  refine hs_aload_n dX9_pay_0 rfl ?_
  refine hs_iload_n dX9_pay_1 rfl ?_
  exact hk_z0 (hs_vir (M' := m_X9_ruleAt) (vs := [.int x1]) (c1 := 0) (s1 := 0) dX9_pay_2 wd_351 vi_X9_ruleAt hrec rfl (Nat.le_of_ble_eq_true rfl) hc hq_r (hc_r (fun z h9 k9 => k9)))
theorem b_X9_pay_5 {G : hk_G} {d cb sb : Nat} {h : hk_H} {Q : hk_O → hk_H → Prop} {s0 : Nat} {r0 : Nat} {x2 : Int32} {fs_ : List Value} {o1 : Option Value} {o3 : Option Value} {o4 : Option Value} {o5 : Option Value} (hrec : h.2 r0 = some (.inr (9, fs_))) (hc : hk_Ci G m_X9_isRow d 0 0 [.ref r0, .int x2] h (fun z h' => hk_S G m_X9_pay (d + 1) cb sb 17 [some (.ref r0), o1, some (.int x2), o3, o4, some (.ref s0)] [.int z] h' Q)) (ho4 : hk_c1 o4 := by first | exact hk_c1i | exact hk_c1r | exact hk_c10 | exact hk_c1n) : hk_S G m_X9_pay (d + 1) cb sb 5 [some (.ref r0), o1, some (.int x2), o3, o4, o5] [.ref s0] h Q := by
  refine hs_astK dX9_pay_5 (by decide) (hk_nk1 rfl ho4) rfl ?_
  refine hs_aload dX9_pay_7 rfl ?_
  refine hs_ifnull dX9_pay_9 ?_
  refine hs_aload_n dX9_pay_12 rfl ?_
  refine hs_iload_n dX9_pay_13 rfl ?_
  exact hk_z0 (hs_vir (M' := m_X9_isRow) (vs := [.int x2]) (c1 := 0) (s1 := 0) dX9_pay_14 wd_355 vi_X9_isRow hrec rfl (Nat.le_of_ble_eq_true rfl) hc hq_i (hc_i (fun z h9 k9 => k9)))
theorem b_X9_pay_5N0 {G : hk_G} {d cb sb : Nat} {h : hk_H} {Q : hk_O → hk_H → Prop} {o0 : Option Value} {o1 : Option Value} {o2 : Option Value} {o3 : Option Value} {o4 : Option Value} {o5 : Option Value} (hq : Q (.inl (some (.int ((-1))))) h) (ho4 : hk_c1 o4 := by first | exact hk_c1i | exact hk_c1r | exact hk_c10 | exact hk_c1n) : hk_S G m_X9_pay (d + 1) cb sb 5 [o0, o1, o2, o3, o4, o5] [.null] h Q := by
  refine hs_astKN dX9_pay_5 (by decide) (hk_nk1 rfl ho4) rfl ?_
  refine hs_aloadN dX9_pay_7 rfl ?_
  refine hs_ifnullN dX9_pay_9 (tgt := 42) (by decide) ?_
  refine hs_iconst (v := (-1)) dX9_pay_42 (by decide) ?_
  exact hs_iret dX9_pay_43 rfl hq
theorem b_X9_pay_12 {G : hk_G} {d cb sb : Nat} {h : hk_H} {Q : hk_O → hk_H → Prop} {r0 : Nat} {x2 : Int32} {fs_ : List Value} {o1 : Option Value} {o3 : Option Value} {o4 : Option Value} {o5 : Option Value} (hrec : h.2 r0 = some (.inr (9, fs_))) (hc : hk_Ci G m_X9_isRow d 0 0 [.ref r0, .int x2] h (fun z h' => hk_S G m_X9_pay (d + 1) cb sb 17 [some (.ref r0), o1, some (.int x2), o3, o4, o5] [.int z] h' Q)) : hk_S G m_X9_pay (d + 1) cb sb 12 [some (.ref r0), o1, some (.int x2), o3, o4, o5] [] h Q := by
  refine hs_aload_n dX9_pay_12 rfl ?_
  refine hs_iload_n dX9_pay_13 rfl ?_
  exact hk_z0 (hs_vir (M' := m_X9_isRow) (vs := [.int x2]) (c1 := 0) (s1 := 0) dX9_pay_14 wd_355 vi_X9_isRow hrec rfl (Nat.le_of_ble_eq_true rfl) hc hq_i (hc_i (fun z h9 k9 => k9)))
theorem b_X9_pay_17 {G : hk_G} {d cb sb : Nat} {h : hk_H} {Q : hk_O → hk_H → Prop} {s0 : Int32} {o0 : Option Value} {o1 : Option Value} {o2 : Option Value} {o3 : Option Value} {o4 : Option Value} {o5 : Option Value} (kt : s0 = 0 → hk_S G m_X9_pay (d + 1) cb sb 42 [o0, o1, o2, o3, o4, o5] [] h Q) (kf : ¬ s0 = 0 → hk_S G m_X9_pay (d + 1) cb sb 20 [o0, o1, o2, o3, o4, o5] [] h Q) : hk_S G m_X9_pay (d + 1) cb sb 17 [o0, o1, o2, o3, o4, o5] [.int s0] h Q := by
  exact hs_if_eq dX9_pay_17 (by decide) kt kf
theorem b_X9_pay_20 {G : hk_G} {d cb sb : Nat} {h : hk_H} {Q : hk_O → hk_H → Prop} {r0 : Nat} {x3 : Int32} {fs_ : List Value} {o1 : Option Value} {o2 : Option Value} {o4 : Option Value} {o5 : Option Value} (hrec : h.2 r0 = some (.inr (9, fs_))) (hc : hk_Ci G m_X9_isPerson d 0 0 [.ref r0, .int x3] h (fun z h' => hk_S G m_X9_pay (d + 1) cb sb 25 [some (.ref r0), o1, o2, some (.int x3), o4, o5] [.int z] h' Q)) : hk_S G m_X9_pay (d + 1) cb sb 20 [some (.ref r0), o1, o2, some (.int x3), o4, o5] [] h Q := by
  refine hs_aload_n dX9_pay_20 rfl ?_
  refine hs_iload_n dX9_pay_21 rfl ?_
  exact hk_z0 (hs_vir (M' := m_X9_isPerson) (vs := [.int x3]) (c1 := 0) (s1 := 0) dX9_pay_22 wd_375 vi_X9_isPerson hrec rfl (Nat.le_of_ble_eq_true rfl) hc hq_i (hc_i (fun z h9 k9 => k9)))
theorem b_X9_pay_25 {G : hk_G} {d cb sb : Nat} {h : hk_H} {Q : hk_O → hk_H → Prop} {s0 : Int32} {o0 : Option Value} {o1 : Option Value} {o2 : Option Value} {o3 : Option Value} {o4 : Option Value} {o5 : Option Value} (kt : s0 = 0 → hk_S G m_X9_pay (d + 1) cb sb 42 [o0, o1, o2, o3, o4, o5] [] h Q) (kf : ¬ s0 = 0 → hk_S G m_X9_pay (d + 1) cb sb 28 [o0, o1, o2, o3, o4, o5] [] h Q) : hk_S G m_X9_pay (d + 1) cb sb 25 [o0, o1, o2, o3, o4, o5] [.int s0] h Q := by
  exact hs_if_eq dX9_pay_25 (by decide) kt kf
theorem b_X9_pay_28 {G : hk_G} {d cb sb : Nat} {h : hk_H} {Q : hk_O → hk_H → Prop} {x4 : Int32} {o0 : Option Value} {o1 : Option Value} {o2 : Option Value} {o3 : Option Value} {o5 : Option Value} (hc : hk_Ci G m_X9_isWithin d 0 0 [.int x4, .int ((-9999)), .int 9999] h (fun z h' => hk_S G m_X9_pay (d + 1) cb sb 39 [o0, o1, o2, o3, some (.int x4), o5] [.int z] h' Q)) : hk_S G m_X9_pay (d + 1) cb sb 28 [o0, o1, o2, o3, some (.int x4), o5] [] h Q := by
  refine hs_iload dX9_pay_28 rfl ?_
  refine hs_sipush (v := (-9999)) dX9_pay_30 (by decide) ?_
  refine hs_sipush (v := 9999) dX9_pay_33 (by decide) ?_
  exact hk_z0 (hs_sta (M' := m_X9_isWithin) (vs := [.int x4, .int ((-9999)), .int 9999]) (c1 := 0) (s1 := 0) dX9_pay_36 wd_244 st_X9_isWithin rfl (Nat.le_of_ble_eq_true rfl) hc hq_i (hc_i (fun z h9 k9 => k9)))
theorem b_X9_pay_39 {G : hk_G} {d cb sb : Nat} {h : hk_H} {Q : hk_O → hk_H → Prop} {s0 : Int32} {o0 : Option Value} {o1 : Option Value} {o2 : Option Value} {o3 : Option Value} {o4 : Option Value} {o5 : Option Value} (kt : ¬ s0 = 0 → hk_S G m_X9_pay (d + 1) cb sb 44 [o0, o1, o2, o3, o4, o5] [] h Q) (kf : s0 = 0 → hk_S G m_X9_pay (d + 1) cb sb 42 [o0, o1, o2, o3, o4, o5] [] h Q) : hk_S G m_X9_pay (d + 1) cb sb 39 [o0, o1, o2, o3, o4, o5] [.int s0] h Q := by
  exact hs_if_ne dX9_pay_39 (by decide) kt kf
theorem b_X9_pay_42 {G : hk_G} {d cb sb : Nat} {h : hk_H} {Q : hk_O → hk_H → Prop} {o0 : Option Value} {o1 : Option Value} {o2 : Option Value} {o3 : Option Value} {o4 : Option Value} {o5 : Option Value} (hq : Q (.inl (some (.int ((-1))))) h) : hk_S G m_X9_pay (d + 1) cb sb 42 [o0, o1, o2, o3, o4, o5] [] h Q := by
  refine hs_iconst (v := (-1)) dX9_pay_42 (by decide) ?_
  exact hs_iret dX9_pay_43 rfl hq
theorem b_X9_pay_44 {G : hk_G} {d cb sb : Nat} {h : hk_H} {Q : hk_O → hk_H → Prop} {r5 : Nat} {x2 : Int32} {x3 : Int32} {x4 : Int32} {M' : hk_M} {ci_ : Nat} {fs_ : List Value} {o0 : Option Value} {o1 : Option Value} (hdis : hk_dis yX5_changePayment ci_ M' 3) (hrec : h.2 r5 = some (.inr (ci_, fs_))) (hc : hk_Ci G M' d 0 0 [.ref r5, .int x2, .int x3, .int x4] h (fun z h' => hk_S G m_X9_pay (d + 1) cb sb 53 [o0, o1, some (.int x2), some (.int x3), some (.int x4), some (.ref r5)] [.int z] h' Q)) : hk_S G m_X9_pay (d + 1) cb sb 44 [o0, o1, some (.int x2), some (.int x3), some (.int x4), some (.ref r5)] [] h Q := by
  refine hs_aload dX9_pay_44 rfl ?_
  refine hs_iload_n dX9_pay_46 rfl ?_
  refine hs_iload_n dX9_pay_47 rfl ?_
  refine hs_iload dX9_pay_48 rfl ?_
  exact hk_z0 (hs_dis (x := yX5_changePayment) (vs := [.int x2, .int x3, .int x4]) (c1 := 0) (s1 := 0) dX9_pay_50 wd_379 hdis hrec rfl (Nat.le_of_ble_eq_true rfl) hc hq_i (hc_i (fun z h9 k9 => k9)))
theorem b_X9_pay_53 {G : hk_G} {d cb sb : Nat} {h : hk_H} {Q : hk_O → hk_H → Prop} {s0 : Int32} {o0 : Option Value} {o1 : Option Value} {o2 : Option Value} {o3 : Option Value} {o4 : Option Value} {o5 : Option Value} (hq : Q (.inl (some (.int s0))) h) : hk_S G m_X9_pay (d + 1) cb sb 53 [o0, o1, o2, o3, o4, o5] [.int s0] h Q := by
  exact hs_iret dX9_pay_53 rfl hq
-- HonestHouse.gift(IIII)I
theorem b_X9_gift_0 {G : hk_G} {d cb sb : Nat} {h : hk_H} {Q : hk_O → hk_H → Prop} {r0 : Nat} {x1 : Int32} {fs_ : List Value} {o2 : Option Value} {o3 : Option Value} {o4 : Option Value} {o5 : Option Value} {o6 : Option Value} {o7 : Option Value} (hrec : h.2 r0 = some (.inr (9, fs_))) (hc : hk_Cr G m_X9_ruleAt d 0 0 [.ref r0, .int x1] h (fun z h' => hk_S G m_X9_gift (d + 1) cb sb 5 [some (.ref r0), some (.int x1), o2, o3, o4, o5, o6, o7] [hk_rf z] h' Q)) : hk_S G m_X9_gift (d + 1) cb sb 0 [some (.ref r0), some (.int x1), o2, o3, o4, o5, o6, o7] [] h Q := by
  refine hs_aload_n dX9_gift_0 rfl ?_
  refine hs_iload_n dX9_gift_1 rfl ?_
  exact hk_z0 (hs_vir (M' := m_X9_ruleAt) (vs := [.int x1]) (c1 := 0) (s1 := 0) dX9_gift_2 wd_351 vi_X9_ruleAt hrec rfl (Nat.le_of_ble_eq_true rfl) hc hq_r (hc_r (fun z h9 k9 => k9)))
theorem b_X9_gift_5 {G : hk_G} {d cb sb : Nat} {h : hk_H} {Q : hk_O → hk_H → Prop} {s0 : Nat} {x3 : Int32} {o0 : Option Value} {o1 : Option Value} {o2 : Option Value} {o4 : Option Value} {o5 : Option Value} {o6 : Option Value} {o7 : Option Value} (kt : ¬ x3 = ((-1)) → hk_S G m_X9_gift (d + 1) cb sb 36 [o0, o1, o2, some (.int x3), o4, some (.ref s0), o6, o7] [] h Q) (kf : x3 = ((-1)) → hk_S G m_X9_gift (d + 1) cb sb 12 [o0, o1, o2, some (.int x3), o4, some (.ref s0), o6, o7] [] h Q) (ho4 : hk_c1 o4 := by first | exact hk_c1i | exact hk_c1r | exact hk_c10 | exact hk_c1n) : hk_S G m_X9_gift (d + 1) cb sb 5 [o0, o1, o2, some (.int x3), o4, o5, o6, o7] [.ref s0] h Q := by
  refine hs_astK dX9_gift_5 (by decide) (hk_nk1 rfl ho4) rfl ?_
  refine hs_iload_n dX9_gift_7 rfl ?_
  refine hs_iconst (v := (-1)) dX9_gift_8 (by decide) ?_
  exact hs_icmp_ne dX9_gift_9 (by decide) kt kf
theorem b_X9_gift_5N0 {G : hk_G} {d cb sb : Nat} {h : hk_H} {Q : hk_O → hk_H → Prop} {x3 : Int32} {o0 : Option Value} {o1 : Option Value} {o2 : Option Value} {o4 : Option Value} {o5 : Option Value} {o6 : Option Value} {o7 : Option Value} (kt : ¬ x3 = ((-1)) → hk_S G m_X9_gift (d + 1) cb sb 36 [o0, o1, o2, some (.int x3), o4, some (.null), o6, o7] [] h Q) (kf : x3 = ((-1)) → hk_S G m_X9_gift (d + 1) cb sb 12 [o0, o1, o2, some (.int x3), o4, some (.null), o6, o7] [] h Q) (ho4 : hk_c1 o4 := by first | exact hk_c1i | exact hk_c1r | exact hk_c10 | exact hk_c1n) : hk_S G m_X9_gift (d + 1) cb sb 5 [o0, o1, o2, some (.int x3), o4, o5, o6, o7] [.null] h Q := by
  refine hs_astKN dX9_gift_5 (by decide) (hk_nk1 rfl ho4) rfl ?_
  refine hs_iload_n dX9_gift_7 rfl ?_
  refine hs_iconst (v := (-1)) dX9_gift_8 (by decide) ?_
  exact hs_icmp_ne dX9_gift_9 (by decide) kt kf
theorem b_X9_gift_12 {G : hk_G} {d cb sb : Nat} {h : hk_H} {Q : hk_O → hk_H → Prop} {r0 : Nat} {x2 : Int32} {fs_ : List Value} {o1 : Option Value} {o3 : Option Value} {o4 : Option Value} {o5 : Option Value} {o6 : Option Value} {o7 : Option Value} (hrec : h.2 r0 = some (.inr (9, fs_))) (hc : hk_Ci G m_X9_isEnd d 0 0 [.ref r0, .int x2] h (fun z h' => hk_S G m_X9_gift (d + 1) cb sb 17 [some (.ref r0), o1, some (.int x2), o3, o4, o5, o6, o7] [.int z] h' Q)) : hk_S G m_X9_gift (d + 1) cb sb 12 [some (.ref r0), o1, some (.int x2), o3, o4, o5, o6, o7] [] h Q := by
  refine hs_aload_n dX9_gift_12 rfl ?_
  refine hs_iload_n dX9_gift_13 rfl ?_
  exact hk_z0 (hs_vir (M' := m_X9_isEnd) (vs := [.int x2]) (c1 := 0) (s1 := 0) dX9_gift_14 wd_240 vi_X9_isEnd hrec rfl (Nat.le_of_ble_eq_true rfl) hc hq_i (hc_i (fun z h9 k9 => k9)))
theorem b_X9_gift_17 {G : hk_G} {d cb sb : Nat} {h : hk_H} {Q : hk_O → hk_H → Prop} {s0 : Int32} {o0 : Option Value} {o1 : Option Value} {o2 : Option Value} {o3 : Option Value} {o4 : Option Value} {o5 : Option Value} {o6 : Option Value} {o7 : Option Value} (kt : s0 = 0 → hk_S G m_X9_gift (d + 1) cb sb 36 [o0, o1, o2, o3, o4, o5, o6, o7] [] h Q) (kf : ¬ s0 = 0 → hk_S G m_X9_gift (d + 1) cb sb 20 [o0, o1, o2, o3, o4, o5, o6, o7] [] h Q) : hk_S G m_X9_gift (d + 1) cb sb 17 [o0, o1, o2, o3, o4, o5, o6, o7] [.int s0] h Q := by
  exact hs_if_eq dX9_gift_17 (by decide) kt kf
theorem b_X9_gift_20 {G : hk_G} {d cb sb : Nat} {h : hk_H} {Q : hk_O → hk_H → Prop} {x4 : Int32} {o0 : Option Value} {o1 : Option Value} {o2 : Option Value} {o3 : Option Value} {o5 : Option Value} {o6 : Option Value} {o7 : Option Value} (hc : hk_Ci G m_X9_isWithin d 0 0 [.int x4, .int ((-99)), .int 99] h (fun z h' => hk_S G m_X9_gift (d + 1) cb sb 29 [o0, o1, o2, o3, some (.int x4), o5, o6, o7] [.int z] h' Q)) : hk_S G m_X9_gift (d + 1) cb sb 20 [o0, o1, o2, o3, some (.int x4), o5, o6, o7] [] h Q := by
  refine hs_iload dX9_gift_20 rfl ?_
  refine hs_bipush (v := (-99)) dX9_gift_22 (by decide) ?_
  refine hs_bipush (v := 99) dX9_gift_24 (by decide) ?_
  exact hk_z0 (hs_sta (M' := m_X9_isWithin) (vs := [.int x4, .int ((-99)), .int 99]) (c1 := 0) (s1 := 0) dX9_gift_26 wd_244 st_X9_isWithin rfl (Nat.le_of_ble_eq_true rfl) hc hq_i (hc_i (fun z h9 k9 => k9)))
theorem b_X9_gift_29 {G : hk_G} {d cb sb : Nat} {h : hk_H} {Q : hk_O → hk_H → Prop} {s0 : Int32} {o0 : Option Value} {o1 : Option Value} {o2 : Option Value} {o3 : Option Value} {o4 : Option Value} {o5 : Option Value} {o6 : Option Value} {o7 : Option Value} (kt : s0 = 0 → hk_S G m_X9_gift (d + 1) cb sb 36 [o0, o1, o2, o3, o4, o5, o6, o7] [] h Q) (kf : ¬ s0 = 0 → hk_S G m_X9_gift (d + 1) cb sb 32 [o0, o1, o2, o3, o4, o5, o6, o7] [] h Q) : hk_S G m_X9_gift (d + 1) cb sb 29 [o0, o1, o2, o3, o4, o5, o6, o7] [.int s0] h Q := by
  exact hs_if_eq dX9_gift_29 (by decide) kt kf
theorem b_X9_gift_32 {G : hk_G} {d cb sb : Nat} {h : hk_H} {Q : hk_O → hk_H → Prop} {x2 : Int32} {o0 : Option Value} {o1 : Option Value} {o3 : Option Value} {o4 : Option Value} {o5 : Option Value} {o6 : Option Value} {o7 : Option Value} (kt : ¬ x2 = ((-1)) → hk_S G m_X9_gift (d + 1) cb sb 67 [o0, o1, some (.int x2), o3, o4, o5, some (.int 1), o7] [] h Q) (kf : x2 = ((-1)) → hk_S G m_X9_gift (d + 1) cb sb 44 [o0, o1, some (.int x2), o3, o4, o5, some (.int 1), o7] [] h Q) (ho5 : hk_c1 o5 := by first | exact hk_c1i | exact hk_c1r | exact hk_c10 | exact hk_c1n) : hk_S G m_X9_gift (d + 1) cb sb 32 [o0, o1, some (.int x2), o3, o4, o5, o6, o7] [] h Q := by
  refine hs_iconst (v := 1) dX9_gift_32 (by decide) ?_
  refine hs_goto dX9_gift_33 (tgt := 37) (by decide) ?_
  refine hs_istK dX9_gift_37 (by decide) (hk_nk1 rfl ho5) rfl ?_
  refine hs_iload_n dX9_gift_39 rfl ?_
  refine hs_iconst (v := (-1)) dX9_gift_40 (by decide) ?_
  exact hs_icmp_ne dX9_gift_41 (by decide) kt kf
theorem b_X9_gift_36 {G : hk_G} {d cb sb : Nat} {h : hk_H} {Q : hk_O → hk_H → Prop} {x2 : Int32} {o0 : Option Value} {o1 : Option Value} {o3 : Option Value} {o4 : Option Value} {o5 : Option Value} {o6 : Option Value} {o7 : Option Value} (kt : ¬ x2 = ((-1)) → hk_S G m_X9_gift (d + 1) cb sb 67 [o0, o1, some (.int x2), o3, o4, o5, some (.int 0), o7] [] h Q) (kf : x2 = ((-1)) → hk_S G m_X9_gift (d + 1) cb sb 44 [o0, o1, some (.int x2), o3, o4, o5, some (.int 0), o7] [] h Q) (ho5 : hk_c1 o5 := by first | exact hk_c1i | exact hk_c1r | exact hk_c10 | exact hk_c1n) : hk_S G m_X9_gift (d + 1) cb sb 36 [o0, o1, some (.int x2), o3, o4, o5, o6, o7] [] h Q := by
  refine hs_iconst (v := 0) dX9_gift_36 (by decide) ?_
  refine hs_istK dX9_gift_37 (by decide) (hk_nk1 rfl ho5) rfl ?_
  refine hs_iload_n dX9_gift_39 rfl ?_
  refine hs_iconst (v := (-1)) dX9_gift_40 (by decide) ?_
  exact hs_icmp_ne dX9_gift_41 (by decide) kt kf
theorem b_X9_gift_37 {G : hk_G} {d cb sb : Nat} {h : hk_H} {Q : hk_O → hk_H → Prop} {s0 : Int32} {x2 : Int32} {o0 : Option Value} {o1 : Option Value} {o3 : Option Value} {o4 : Option Value} {o5 : Option Value} {o6 : Option Value} {o7 : Option Value} (kt : ¬ x2 = ((-1)) → hk_S G m_X9_gift (d + 1) cb sb 67 [o0, o1, some (.int x2), o3, o4, o5, some (.int s0), o7] [] h Q) (kf : x2 = ((-1)) → hk_S G m_X9_gift (d + 1) cb sb 44 [o0, o1, some (.int x2), o3, o4, o5, some (.int s0), o7] [] h Q) (ho5 : hk_c1 o5 := by first | exact hk_c1i | exact hk_c1r | exact hk_c10 | exact hk_c1n) : hk_S G m_X9_gift (d + 1) cb sb 37 [o0, o1, some (.int x2), o3, o4, o5, o6, o7] [.int s0] h Q := by
  refine hs_istK dX9_gift_37 (by decide) (hk_nk1 rfl ho5) rfl ?_
  refine hs_iload_n dX9_gift_39 rfl ?_
  refine hs_iconst (v := (-1)) dX9_gift_40 (by decide) ?_
  exact hs_icmp_ne dX9_gift_41 (by decide) kt kf
theorem b_X9_gift_44 {G : hk_G} {d cb sb : Nat} {h : hk_H} {Q : hk_O → hk_H → Prop} {r0 : Nat} {x3 : Int32} {fs_ : List Value} {o1 : Option Value} {o2 : Option Value} {o4 : Option Value} {o5 : Option Value} {o6 : Option Value} {o7 : Option Value} (hrec : h.2 r0 = some (.inr (9, fs_))) (hc : hk_Ci G m_X9_isPerson d 0 0 [.ref r0, .int x3] h (fun z h' => hk_S G m_X9_gift (d + 1) cb sb 49 [some (.ref r0), o1, o2, some (.int x3), o4, o5, o6, o7] [.int z] h' Q)) : hk_S G m_X9_gift (d + 1) cb sb 44 [some (.ref r0), o1, o2, some (.int x3), o4, o5, o6, o7] [] h Q := by
  refine hs_aload_n dX9_gift_44 rfl ?_
  refine hs_iload_n dX9_gift_45 rfl ?_
  exact hk_z0 (hs_vir (M' := m_X9_isPerson) (vs := [.int x3]) (c1 := 0) (s1 := 0) dX9_gift_46 wd_375 vi_X9_isPerson hrec rfl (Nat.le_of_ble_eq_true rfl) hc hq_i (hc_i (fun z h9 k9 => k9)))
theorem b_X9_gift_49 {G : hk_G} {d cb sb : Nat} {h : hk_H} {Q : hk_O → hk_H → Prop} {s0 : Int32} {o0 : Option Value} {o1 : Option Value} {o2 : Option Value} {o3 : Option Value} {o4 : Option Value} {o5 : Option Value} {o6 : Option Value} {o7 : Option Value} (kt : s0 = 0 → hk_S G m_X9_gift (d + 1) cb sb 67 [o0, o1, o2, o3, o4, o5, o6, o7] [] h Q) (kf : ¬ s0 = 0 → hk_S G m_X9_gift (d + 1) cb sb 52 [o0, o1, o2, o3, o4, o5, o6, o7] [] h Q) : hk_S G m_X9_gift (d + 1) cb sb 49 [o0, o1, o2, o3, o4, o5, o6, o7] [.int s0] h Q := by
  exact hs_if_eq dX9_gift_49 (by decide) kt kf
theorem b_X9_gift_52 {G : hk_G} {d cb sb : Nat} {h : hk_H} {Q : hk_O → hk_H → Prop} {x4 : Int32} {o0 : Option Value} {o1 : Option Value} {o2 : Option Value} {o3 : Option Value} {o5 : Option Value} {o6 : Option Value} {o7 : Option Value} (hc : hk_Ci G m_X9_isWithin d 0 0 [.int x4, .int 0, .int 9] h (fun z h' => hk_S G m_X9_gift (d + 1) cb sb 60 [o0, o1, o2, o3, some (.int x4), o5, o6, o7] [.int z] h' Q)) : hk_S G m_X9_gift (d + 1) cb sb 52 [o0, o1, o2, o3, some (.int x4), o5, o6, o7] [] h Q := by
  refine hs_iload dX9_gift_52 rfl ?_
  refine hs_iconst (v := 0) dX9_gift_54 (by decide) ?_
  refine hs_bipush (v := 9) dX9_gift_55 (by decide) ?_
  exact hk_z0 (hs_sta (M' := m_X9_isWithin) (vs := [.int x4, .int 0, .int 9]) (c1 := 0) (s1 := 0) dX9_gift_57 wd_244 st_X9_isWithin rfl (Nat.le_of_ble_eq_true rfl) hc hq_i (hc_i (fun z h9 k9 => k9)))
theorem b_X9_gift_60 {G : hk_G} {d cb sb : Nat} {h : hk_H} {Q : hk_O → hk_H → Prop} {s0 : Int32} {o0 : Option Value} {o1 : Option Value} {o2 : Option Value} {o3 : Option Value} {o4 : Option Value} {o5 : Option Value} {o6 : Option Value} {o7 : Option Value} (kt : s0 = 0 → hk_S G m_X9_gift (d + 1) cb sb 67 [o0, o1, o2, o3, o4, o5, o6, o7] [] h Q) (kf : ¬ s0 = 0 → hk_S G m_X9_gift (d + 1) cb sb 63 [o0, o1, o2, o3, o4, o5, o6, o7] [] h Q) : hk_S G m_X9_gift (d + 1) cb sb 60 [o0, o1, o2, o3, o4, o5, o6, o7] [.int s0] h Q := by
  exact hs_if_eq dX9_gift_60 (by decide) kt kf
theorem b_X9_gift_63 {G : hk_G} {d cb sb : Nat} {h : hk_H} {Q : hk_O → hk_H → Prop} {r5 : Nat} {x6 : Int32} {o0 : Option Value} {o1 : Option Value} {o2 : Option Value} {o3 : Option Value} {o4 : Option Value} {o7 : Option Value} (kt : ¬ x6 = 0 → hk_S G m_X9_gift (d + 1) cb sb 87 [o0, o1, o2, o3, o4, some (.ref r5), some (.int x6), some (.int 1)] [] h Q) (kf : x6 = 0 → hk_S G m_X9_gift (d + 1) cb sb 80 [o0, o1, o2, o3, o4, some (.ref r5), some (.int x6), some (.int 1)] [] h Q) : hk_S G m_X9_gift (d + 1) cb sb 63 [o0, o1, o2, o3, o4, some (.ref r5), some (.int x6), o7] [] h Q := by
  refine hs_iconst (v := 1) dX9_gift_63 (by decide) ?_
  refine hs_goto dX9_gift_64 (tgt := 68) (by decide) ?_
  refine hs_istK dX9_gift_68 (by decide) (hk_nk1 rfl hk_c1i) rfl ?_
  refine hs_aload dX9_gift_70 rfl ?_
  refine hs_ifnull dX9_gift_72 ?_
  refine hs_iload dX9_gift_75 rfl ?_
  exact hs_if_ne dX9_gift_77 (by decide) kt kf
theorem b_X9_gift_67 {G : hk_G} {d cb sb : Nat} {h : hk_H} {Q : hk_O → hk_H → Prop} {r5 : Nat} {x6 : Int32} {o0 : Option Value} {o1 : Option Value} {o2 : Option Value} {o3 : Option Value} {o4 : Option Value} {o7 : Option Value} (kt : ¬ x6 = 0 → hk_S G m_X9_gift (d + 1) cb sb 87 [o0, o1, o2, o3, o4, some (.ref r5), some (.int x6), some (.int 0)] [] h Q) (kf : x6 = 0 → hk_S G m_X9_gift (d + 1) cb sb 80 [o0, o1, o2, o3, o4, some (.ref r5), some (.int x6), some (.int 0)] [] h Q) : hk_S G m_X9_gift (d + 1) cb sb 67 [o0, o1, o2, o3, o4, some (.ref r5), some (.int x6), o7] [] h Q := by
  refine hs_iconst (v := 0) dX9_gift_67 (by decide) ?_
  refine hs_istK dX9_gift_68 (by decide) (hk_nk1 rfl hk_c1i) rfl ?_
  refine hs_aload dX9_gift_70 rfl ?_
  refine hs_ifnull dX9_gift_72 ?_
  refine hs_iload dX9_gift_75 rfl ?_
  exact hs_if_ne dX9_gift_77 (by decide) kt kf
theorem b_X9_gift_68 {G : hk_G} {d cb sb : Nat} {h : hk_H} {Q : hk_O → hk_H → Prop} {s0 : Int32} {r5 : Nat} {x6 : Int32} {o0 : Option Value} {o1 : Option Value} {o2 : Option Value} {o3 : Option Value} {o4 : Option Value} {o7 : Option Value} (kt : ¬ x6 = 0 → hk_S G m_X9_gift (d + 1) cb sb 87 [o0, o1, o2, o3, o4, some (.ref r5), some (.int x6), some (.int s0)] [] h Q) (kf : x6 = 0 → hk_S G m_X9_gift (d + 1) cb sb 80 [o0, o1, o2, o3, o4, some (.ref r5), some (.int x6), some (.int s0)] [] h Q) : hk_S G m_X9_gift (d + 1) cb sb 68 [o0, o1, o2, o3, o4, some (.ref r5), some (.int x6), o7] [.int s0] h Q := by
  refine hs_istK dX9_gift_68 (by decide) (hk_nk1 rfl hk_c1i) rfl ?_
  refine hs_aload dX9_gift_70 rfl ?_
  refine hs_ifnull dX9_gift_72 ?_
  refine hs_iload dX9_gift_75 rfl ?_
  exact hs_if_ne dX9_gift_77 (by decide) kt kf
theorem b_X9_gift_75 {G : hk_G} {d cb sb : Nat} {h : hk_H} {Q : hk_O → hk_H → Prop} {x6 : Int32} {o0 : Option Value} {o1 : Option Value} {o2 : Option Value} {o3 : Option Value} {o4 : Option Value} {o5 : Option Value} {o7 : Option Value} (kt : ¬ x6 = 0 → hk_S G m_X9_gift (d + 1) cb sb 87 [o0, o1, o2, o3, o4, o5, some (.int x6), o7] [] h Q) (kf : x6 = 0 → hk_S G m_X9_gift (d + 1) cb sb 80 [o0, o1, o2, o3, o4, o5, some (.int x6), o7] [] h Q) : hk_S G m_X9_gift (d + 1) cb sb 75 [o0, o1, o2, o3, o4, o5, some (.int x6), o7] [] h Q := by
  refine hs_iload dX9_gift_75 rfl ?_
  exact hs_if_ne dX9_gift_77 (by decide) kt kf
theorem b_X9_gift_80 {G : hk_G} {d cb sb : Nat} {h : hk_H} {Q : hk_O → hk_H → Prop} {x7 : Int32} {o0 : Option Value} {o1 : Option Value} {o2 : Option Value} {o3 : Option Value} {o4 : Option Value} {o5 : Option Value} {o6 : Option Value} (kt : ¬ x7 = 0 → hk_S G m_X9_gift (d + 1) cb sb 87 [o0, o1, o2, o3, o4, o5, o6, some (.int x7)] [] h Q) (kf : x7 = 0 → hk_S G m_X9_gift (d + 1) cb sb 85 [o0, o1, o2, o3, o4, o5, o6, some (.int x7)] [] h Q) : hk_S G m_X9_gift (d + 1) cb sb 80 [o0, o1, o2, o3, o4, o5, o6, some (.int x7)] [] h Q := by
  refine hs_iload dX9_gift_80 rfl ?_
  exact hs_if_ne dX9_gift_82 (by decide) kt kf
theorem b_X9_gift_85 {G : hk_G} {d cb sb : Nat} {h : hk_H} {Q : hk_O → hk_H → Prop} {o0 : Option Value} {o1 : Option Value} {o2 : Option Value} {o3 : Option Value} {o4 : Option Value} {o5 : Option Value} {o6 : Option Value} {o7 : Option Value} (hq : Q (.inl (some (.int ((-1))))) h) : hk_S G m_X9_gift (d + 1) cb sb 85 [o0, o1, o2, o3, o4, o5, o6, o7] [] h Q := by
  refine hs_iconst (v := (-1)) dX9_gift_85 (by decide) ?_
  exact hs_iret dX9_gift_86 rfl hq
theorem b_X9_gift_87 {G : hk_G} {d cb sb : Nat} {h : hk_H} {Q : hk_O → hk_H → Prop} {x6 : Int32} {o0 : Option Value} {o1 : Option Value} {o2 : Option Value} {o3 : Option Value} {o4 : Option Value} {o5 : Option Value} {o7 : Option Value} (kt : x6 = 0 → hk_S G m_X9_gift (d + 1) cb sb 103 [o0, o1, o2, o3, o4, o5, some (.int x6), o7] [] h Q) (kf : ¬ x6 = 0 → hk_S G m_X9_gift (d + 1) cb sb 92 [o0, o1, o2, o3, o4, o5, some (.int x6), o7] [] h Q) : hk_S G m_X9_gift (d + 1) cb sb 87 [o0, o1, o2, o3, o4, o5, some (.int x6), o7] [] h Q := by
  refine hs_iload dX9_gift_87 rfl ?_
  exact hs_if_eq dX9_gift_89 (by decide) kt kf
theorem b_X9_gift_92 {G : hk_G} {d cb sb : Nat} {h : hk_H} {Q : hk_O → hk_H → Prop} {r5 : Nat} {x2 : Int32} {x4 : Int32} {M' : hk_M} {ci_ : Nat} {fs_ : List Value} {o0 : Option Value} {o1 : Option Value} {o3 : Option Value} {o6 : Option Value} {o7 : Option Value} (hdis : hk_dis yX5_changeGift ci_ M' 2) (hrec : h.2 r5 = some (.inr (ci_, fs_))) (hc : hk_Ci G M' d 0 0 [.ref r5, .int x2, .int x4] h (fun z h' => hk_S G m_X9_gift (d + 1) cb sb 100 [o0, o1, some (.int x2), o3, some (.int x4), some (.ref r5), o6, o7] [.int z] h' Q)) : hk_S G m_X9_gift (d + 1) cb sb 92 [o0, o1, some (.int x2), o3, some (.int x4), some (.ref r5), o6, o7] [] h Q := by
  refine hs_aload dX9_gift_92 rfl ?_
  refine hs_iload_n dX9_gift_94 rfl ?_
  refine hs_iload dX9_gift_95 rfl ?_
  exact hk_z0 (hs_dis (x := yX5_changeGift) (vs := [.int x2, .int x4]) (c1 := 0) (s1 := 0) dX9_gift_97 wd_395 hdis hrec rfl (Nat.le_of_ble_eq_true rfl) hc hq_i (hc_i (fun z h9 k9 => k9)))
theorem b_X9_gift_100 {G : hk_G} {d cb sb : Nat} {h : hk_H} {Q : hk_O → hk_H → Prop} {s0 : Int32} {o0 : Option Value} {o1 : Option Value} {o2 : Option Value} {o3 : Option Value} {o4 : Option Value} {o5 : Option Value} {o6 : Option Value} {o7 : Option Value} (hq : Q (.inl (some (.int s0))) h) : hk_S G m_X9_gift (d + 1) cb sb 100 [o0, o1, o2, o3, o4, o5, o6, o7] [.int s0] h Q := by
  refine hs_goto dX9_gift_100 (tgt := 111) (by decide) ?_
  exact hs_iret dX9_gift_111 rfl hq
theorem b_X9_gift_103 {G : hk_G} {d cb sb : Nat} {h : hk_H} {Q : hk_O → hk_H → Prop} {r5 : Nat} {x3 : Int32} {x4 : Int32} {M' : hk_M} {ci_ : Nat} {fs_ : List Value} {o0 : Option Value} {o1 : Option Value} {o2 : Option Value} {o6 : Option Value} {o7 : Option Value} (hdis : hk_dis yX5_changeWeight ci_ M' 2) (hrec : h.2 r5 = some (.inr (ci_, fs_))) (hc : hk_Ci G M' d 0 0 [.ref r5, .int x3, .int x4] h (fun z h' => hk_S G m_X9_gift (d + 1) cb sb 111 [o0, o1, o2, some (.int x3), some (.int x4), some (.ref r5), o6, o7] [.int z] h' Q)) : hk_S G m_X9_gift (d + 1) cb sb 103 [o0, o1, o2, some (.int x3), some (.int x4), some (.ref r5), o6, o7] [] h Q := by
  refine hs_aload dX9_gift_103 rfl ?_
  refine hs_iload_n dX9_gift_105 rfl ?_
  refine hs_iload dX9_gift_106 rfl ?_
  exact hk_z0 (hs_dis (x := yX5_changeWeight) (vs := [.int x3, .int x4]) (c1 := 0) (s1 := 0) dX9_gift_108 wd_409 hdis hrec rfl (Nat.le_of_ble_eq_true rfl) hc hq_i (hc_i (fun z h9 k9 => k9)))
theorem b_X9_gift_111 {G : hk_G} {d cb sb : Nat} {h : hk_H} {Q : hk_O → hk_H → Prop} {s0 : Int32} {o0 : Option Value} {o1 : Option Value} {o2 : Option Value} {o3 : Option Value} {o4 : Option Value} {o5 : Option Value} {o6 : Option Value} {o7 : Option Value} (hq : Q (.inl (some (.int s0))) h) : hk_S G m_X9_gift (d + 1) cb sb 111 [o0, o1, o2, o3, o4, o5, o6, o7] [.int s0] h Q := by
  exact hs_iret dX9_gift_111 rfl hq
-- HonestHouse.middle(III)I
theorem b_X9_middle_0 {G : hk_G} {d cb sb : Nat} {h : hk_H} {Q : hk_O → hk_H → Prop} {r0 : Nat} {x1 : Int32} {fs_ : List Value} {o2 : Option Value} {o3 : Option Value} {o4 : Option Value} (hrec : h.2 r0 = some (.inr (9, fs_))) (hc : hk_Cr G m_X9_ruleAt d 0 0 [.ref r0, .int x1] h (fun z h' => hk_S G m_X9_middle (d + 1) cb sb 5 [some (.ref r0), some (.int x1), o2, o3, o4] [hk_rf z] h' Q)) : hk_S G m_X9_middle (d + 1) cb sb 0 [some (.ref r0), some (.int x1), o2, o3, o4] [] h Q := by
  refine hs_aload_n dX9_middle_0 rfl ?_
  refine hs_iload_n dX9_middle_1 rfl ?_
  exact hk_z0 (hs_vir (M' := m_X9_ruleAt) (vs := [.int x1]) (c1 := 0) (s1 := 0) dX9_middle_2 wd_351 vi_X9_ruleAt hrec rfl (Nat.le_of_ble_eq_true rfl) hc hq_r (hc_r (fun z h9 k9 => k9)))
theorem b_X9_middle_5 {G : hk_G} {d cb sb : Nat} {h : hk_H} {Q : hk_O → hk_H → Prop} {s0 : Nat} {x2 : Int32} {r0 : Nat} {fs1 : List Value} {v3 : Int32} {o1 : Option Value} {o3 : Option Value} {o4 : Option Value} (hg2 : h.2 r0 = some (.inr (9, fs1))) (hv4 : fs1[0]? = some (.int v3)) (hc : hk_Ci G m_X9_isWithin d 0 0 [.int x2, .int 0, .int (v3 - 2)] h (fun z h' => hk_S G m_X9_middle (d + 1) cb sb 23 [some (.ref r0), o1, some (.int x2), o3, some (.ref s0)] [.int z] h' Q)) (ho3 : hk_c1 o3 := by first | exact hk_c1i | exact hk_c1r | exact hk_c10 | exact hk_c1n) : hk_S G m_X9_middle (d + 1) cb sb 5 [some (.ref r0), o1, some (.int x2), o3, o4] [.ref s0] h Q := by
  refine hs_astK dX9_middle_5 (by decide) (hk_nk1 rfl ho3) rfl ?_
  refine hs_aload dX9_middle_7 rfl ?_
  refine hs_ifnull dX9_middle_9 ?_
  refine hs_iload_n dX9_middle_12 rfl ?_
  refine hs_iconst (v := 0) dX9_middle_13 (by decide) ?_
  refine hs_aload_n dX9_middle_14 rfl ?_
  refine hs_get dX9_middle_15 fl_X9_18_9 hg2 hv4 ?_
  refine hs_iconst (v := 2) dX9_middle_18 (by decide) ?_
  refine hs_isub dX9_middle_19 ?_
  exact hk_z0 (hs_sta (M' := m_X9_isWithin) (vs := [.int x2, .int 0, .int (v3 - 2)]) (c1 := 0) (s1 := 0) dX9_middle_20 wd_244 st_X9_isWithin rfl (Nat.le_of_ble_eq_true rfl) hc hq_i (hc_i (fun z h9 k9 => k9)))
theorem b_X9_middle_5N0 {G : hk_G} {d cb sb : Nat} {h : hk_H} {Q : hk_O → hk_H → Prop} {o0 : Option Value} {o1 : Option Value} {o2 : Option Value} {o3 : Option Value} {o4 : Option Value} (hq : Q (.inl (some (.int ((-1))))) h) (ho3 : hk_c1 o3 := by first | exact hk_c1i | exact hk_c1r | exact hk_c10 | exact hk_c1n) : hk_S G m_X9_middle (d + 1) cb sb 5 [o0, o1, o2, o3, o4] [.null] h Q := by
  refine hs_astKN dX9_middle_5 (by decide) (hk_nk1 rfl ho3) rfl ?_
  refine hs_aloadN dX9_middle_7 rfl ?_
  refine hs_ifnullN dX9_middle_9 (tgt := 34) (by decide) ?_
  refine hs_iconst (v := (-1)) dX9_middle_34 (by decide) ?_
  exact hs_iret dX9_middle_35 rfl hq
theorem b_X9_middle_12 {G : hk_G} {d cb sb : Nat} {h : hk_H} {Q : hk_O → hk_H → Prop} {x2 : Int32} {r0 : Nat} {fs1 : List Value} {v3 : Int32} {o1 : Option Value} {o3 : Option Value} {o4 : Option Value} (hg2 : h.2 r0 = some (.inr (9, fs1))) (hv4 : fs1[0]? = some (.int v3)) (hc : hk_Ci G m_X9_isWithin d 0 0 [.int x2, .int 0, .int (v3 - 2)] h (fun z h' => hk_S G m_X9_middle (d + 1) cb sb 23 [some (.ref r0), o1, some (.int x2), o3, o4] [.int z] h' Q)) : hk_S G m_X9_middle (d + 1) cb sb 12 [some (.ref r0), o1, some (.int x2), o3, o4] [] h Q := by
  refine hs_iload_n dX9_middle_12 rfl ?_
  refine hs_iconst (v := 0) dX9_middle_13 (by decide) ?_
  refine hs_aload_n dX9_middle_14 rfl ?_
  refine hs_get dX9_middle_15 fl_X9_18_9 hg2 hv4 ?_
  refine hs_iconst (v := 2) dX9_middle_18 (by decide) ?_
  refine hs_isub dX9_middle_19 ?_
  exact hk_z0 (hs_sta (M' := m_X9_isWithin) (vs := [.int x2, .int 0, .int (v3 - 2)]) (c1 := 0) (s1 := 0) dX9_middle_20 wd_244 st_X9_isWithin rfl (Nat.le_of_ble_eq_true rfl) hc hq_i (hc_i (fun z h9 k9 => k9)))
theorem b_X9_middle_23 {G : hk_G} {d cb sb : Nat} {h : hk_H} {Q : hk_O → hk_H → Prop} {s0 : Int32} {o0 : Option Value} {o1 : Option Value} {o2 : Option Value} {o3 : Option Value} {o4 : Option Value} (kt : s0 = 0 → hk_S G m_X9_middle (d + 1) cb sb 34 [o0, o1, o2, o3, o4] [] h Q) (kf : ¬ s0 = 0 → hk_S G m_X9_middle (d + 1) cb sb 26 [o0, o1, o2, o3, o4] [] h Q) : hk_S G m_X9_middle (d + 1) cb sb 23 [o0, o1, o2, o3, o4] [.int s0] h Q := by
  exact hs_if_eq dX9_middle_23 (by decide) kt kf
theorem b_X9_middle_26 {G : hk_G} {d cb sb : Nat} {h : hk_H} {Q : hk_O → hk_H → Prop} {r0 : Nat} {x3 : Int32} {fs_ : List Value} {o1 : Option Value} {o2 : Option Value} {o4 : Option Value} (hrec : h.2 r0 = some (.inr (9, fs_))) (hc : hk_Ci G m_X9_isEnd d 0 0 [.ref r0, .int x3] h (fun z h' => hk_S G m_X9_middle (d + 1) cb sb 31 [some (.ref r0), o1, o2, some (.int x3), o4] [.int z] h' Q)) : hk_S G m_X9_middle (d + 1) cb sb 26 [some (.ref r0), o1, o2, some (.int x3), o4] [] h Q := by
  refine hs_aload_n dX9_middle_26 rfl ?_
  refine hs_iload_n dX9_middle_27 rfl ?_
  exact hk_z0 (hs_vir (M' := m_X9_isEnd) (vs := [.int x3]) (c1 := 0) (s1 := 0) dX9_middle_28 wd_240 vi_X9_isEnd hrec rfl (Nat.le_of_ble_eq_true rfl) hc hq_i (hc_i (fun z h9 k9 => k9)))
theorem b_X9_middle_31 {G : hk_G} {d cb sb : Nat} {h : hk_H} {Q : hk_O → hk_H → Prop} {s0 : Int32} {o0 : Option Value} {o1 : Option Value} {o2 : Option Value} {o3 : Option Value} {o4 : Option Value} (kt : ¬ s0 = 0 → hk_S G m_X9_middle (d + 1) cb sb 36 [o0, o1, o2, o3, o4] [] h Q) (kf : s0 = 0 → hk_S G m_X9_middle (d + 1) cb sb 34 [o0, o1, o2, o3, o4] [] h Q) : hk_S G m_X9_middle (d + 1) cb sb 31 [o0, o1, o2, o3, o4] [.int s0] h Q := by
  exact hs_if_ne dX9_middle_31 (by decide) kt kf
theorem b_X9_middle_34 {G : hk_G} {d cb sb : Nat} {h : hk_H} {Q : hk_O → hk_H → Prop} {o0 : Option Value} {o1 : Option Value} {o2 : Option Value} {o3 : Option Value} {o4 : Option Value} (hq : Q (.inl (some (.int ((-1))))) h) : hk_S G m_X9_middle (d + 1) cb sb 34 [o0, o1, o2, o3, o4] [] h Q := by
  refine hs_iconst (v := (-1)) dX9_middle_34 (by decide) ?_
  exact hs_iret dX9_middle_35 rfl hq
theorem b_X9_middle_36 {G : hk_G} {d cb sb : Nat} {h : hk_H} {Q : hk_O → hk_H → Prop} {r4 : Nat} {x2 : Int32} {x3 : Int32} {M' : hk_M} {ci_ : Nat} {fs_ : List Value} {o0 : Option Value} {o1 : Option Value} (hdis : hk_dis yX5_changePlace ci_ M' 2) (hrec : h.2 r4 = some (.inr (ci_, fs_))) (hc : hk_Ci G M' d 0 0 [.ref r4, .int x2, .int x3] h (fun z h' => hk_S G m_X9_middle (d + 1) cb sb 43 [o0, o1, some (.int x2), some (.int x3), some (.ref r4)] [.int z] h' Q)) : hk_S G m_X9_middle (d + 1) cb sb 36 [o0, o1, some (.int x2), some (.int x3), some (.ref r4)] [] h Q := by
  refine hs_aload dX9_middle_36 rfl ?_
  refine hs_iload_n dX9_middle_38 rfl ?_
  refine hs_iload_n dX9_middle_39 rfl ?_
  exact hk_z0 (hs_dis (x := yX5_changePlace) (vs := [.int x2, .int x3]) (c1 := 0) (s1 := 0) dX9_middle_40 wd_423 hdis hrec rfl (Nat.le_of_ble_eq_true rfl) hc hq_i (hc_i (fun z h9 k9 => k9)))
theorem b_X9_middle_43 {G : hk_G} {d cb sb : Nat} {h : hk_H} {Q : hk_O → hk_H → Prop} {s0 : Int32} {o0 : Option Value} {o1 : Option Value} {o2 : Option Value} {o3 : Option Value} {o4 : Option Value} (hq : Q (.inl (some (.int s0))) h) : hk_S G m_X9_middle (d + 1) cb sb 43 [o0, o1, o2, o3, o4] [.int s0] h Q := by
  exact hs_iret dX9_middle_43 rfl hq
-- HonestHouse.end(II)I
theorem b_X9_end_0 {G : hk_G} {d cb sb : Nat} {h : hk_H} {Q : hk_O → hk_H → Prop} {r0 : Nat} {x1 : Int32} {fs_ : List Value} {o2 : Option Value} {o3 : Option Value} (hrec : h.2 r0 = some (.inr (9, fs_))) (hc : hk_Cr G m_X9_ruleAt d 0 0 [.ref r0, .int x1] h (fun z h' => hk_S G m_X9_end (d + 1) cb sb 5 [some (.ref r0), some (.int x1), o2, o3] [hk_rf z] h' Q)) : hk_S G m_X9_end (d + 1) cb sb 0 [some (.ref r0), some (.int x1), o2, o3] [] h Q := by
  refine hs_aload_n dX9_end_0 rfl ?_
  refine hs_iload_n dX9_end_1 rfl ?_
  exact hk_z0 (hs_vir (M' := m_X9_ruleAt) (vs := [.int x1]) (c1 := 0) (s1 := 0) dX9_end_2 wd_351 vi_X9_ruleAt hrec rfl (Nat.le_of_ble_eq_true rfl) hc hq_r (hc_r (fun z h9 k9 => k9)))
theorem b_X9_end_5 {G : hk_G} {d cb sb : Nat} {h : hk_H} {Q : hk_O → hk_H → Prop} {s0 : Nat} {r0 : Nat} {x2 : Int32} {fs_ : List Value} {o1 : Option Value} {o3 : Option Value} (hrec : h.2 r0 = some (.inr (9, fs_))) (hc : hk_Ci G m_X9_isRow d 0 0 [.ref r0, .int x2] h (fun z h' => hk_S G m_X9_end (d + 1) cb sb 15 [some (.ref r0), o1, some (.int x2), some (.ref s0)] [.int z] h' Q)) : hk_S G m_X9_end (d + 1) cb sb 5 [some (.ref r0), o1, some (.int x2), o3] [.ref s0] h Q := by
  refine hs_astK_n dX9_end_5 (by decide) (hk_nk1 rfl hk_c1i) rfl ?_
  refine hs_aload_n dX9_end_6 rfl ?_
  refine hs_ifnull dX9_end_7 ?_
  refine hs_aload_n dX9_end_10 rfl ?_
  refine hs_iload_n dX9_end_11 rfl ?_
  exact hk_z0 (hs_vir (M' := m_X9_isRow) (vs := [.int x2]) (c1 := 0) (s1 := 0) dX9_end_12 wd_355 vi_X9_isRow hrec rfl (Nat.le_of_ble_eq_true rfl) hc hq_i (hc_i (fun z h9 k9 => k9)))
theorem b_X9_end_5N0 {G : hk_G} {d cb sb : Nat} {h : hk_H} {Q : hk_O → hk_H → Prop} {o0 : Option Value} {o1 : Option Value} {o2 : Option Value} {o3 : Option Value} (hq : Q (.inl (some (.int ((-1))))) h) (ho2 : hk_c1 o2 := by first | exact hk_c1i | exact hk_c1r | exact hk_c10 | exact hk_c1n) : hk_S G m_X9_end (d + 1) cb sb 5 [o0, o1, o2, o3] [.null] h Q := by
  refine hs_astKN_n dX9_end_5 (by decide) (hk_nk1 rfl ho2) rfl ?_
  refine hs_aload_nN dX9_end_6 rfl ?_
  refine hs_ifnullN dX9_end_7 (tgt := 18) (by decide) ?_
  refine hs_iconst (v := (-1)) dX9_end_18 (by decide) ?_
  exact hs_iret dX9_end_19 rfl hq
theorem b_X9_end_10 {G : hk_G} {d cb sb : Nat} {h : hk_H} {Q : hk_O → hk_H → Prop} {r0 : Nat} {x2 : Int32} {fs_ : List Value} {o1 : Option Value} {o3 : Option Value} (hrec : h.2 r0 = some (.inr (9, fs_))) (hc : hk_Ci G m_X9_isRow d 0 0 [.ref r0, .int x2] h (fun z h' => hk_S G m_X9_end (d + 1) cb sb 15 [some (.ref r0), o1, some (.int x2), o3] [.int z] h' Q)) : hk_S G m_X9_end (d + 1) cb sb 10 [some (.ref r0), o1, some (.int x2), o3] [] h Q := by
  refine hs_aload_n dX9_end_10 rfl ?_
  refine hs_iload_n dX9_end_11 rfl ?_
  exact hk_z0 (hs_vir (M' := m_X9_isRow) (vs := [.int x2]) (c1 := 0) (s1 := 0) dX9_end_12 wd_355 vi_X9_isRow hrec rfl (Nat.le_of_ble_eq_true rfl) hc hq_i (hc_i (fun z h9 k9 => k9)))
theorem b_X9_end_15 {G : hk_G} {d cb sb : Nat} {h : hk_H} {Q : hk_O → hk_H → Prop} {s0 : Int32} {o0 : Option Value} {o1 : Option Value} {o2 : Option Value} {o3 : Option Value} (kt : ¬ s0 = 0 → hk_S G m_X9_end (d + 1) cb sb 20 [o0, o1, o2, o3] [] h Q) (kf : s0 = 0 → hk_S G m_X9_end (d + 1) cb sb 18 [o0, o1, o2, o3] [] h Q) : hk_S G m_X9_end (d + 1) cb sb 15 [o0, o1, o2, o3] [.int s0] h Q := by
  exact hs_if_ne dX9_end_15 (by decide) kt kf
theorem b_X9_end_18 {G : hk_G} {d cb sb : Nat} {h : hk_H} {Q : hk_O → hk_H → Prop} {o0 : Option Value} {o1 : Option Value} {o2 : Option Value} {o3 : Option Value} (hq : Q (.inl (some (.int ((-1))))) h) : hk_S G m_X9_end (d + 1) cb sb 18 [o0, o1, o2, o3] [] h Q := by
  refine hs_iconst (v := (-1)) dX9_end_18 (by decide) ?_
  exact hs_iret dX9_end_19 rfl hq
theorem b_X9_end_20 {G : hk_G} {d cb sb : Nat} {h : hk_H} {Q : hk_O → hk_H → Prop} {r3 : Nat} {x2 : Int32} {M' : hk_M} {ci_ : Nat} {fs_ : List Value} {o0 : Option Value} {o1 : Option Value} (hdis : hk_dis yX5_settle ci_ M' 1) (hrec : h.2 r3 = some (.inr (ci_, fs_))) (hc : hk_Cv G M' d 0 0 [.ref r3, .int x2] h (fun h' => hk_S G m_X9_end (d + 1) cb sb 25 [o0, o1, some (.int x2), some (.ref r3)] [] h' Q)) : hk_S G m_X9_end (d + 1) cb sb 20 [o0, o1, some (.int x2), some (.ref r3)] [] h Q := by
  refine hs_aload_n dX9_end_20 rfl ?_
  refine hs_iload_n dX9_end_21 rfl ?_
  exact hk_z0 (hs_dis (x := yX5_settle) (vs := [.int x2]) (c1 := 0) (s1 := 0) dX9_end_22 wd_437 hdis hrec rfl (Nat.le_of_ble_eq_true rfl) hc hq_v (hc_v (fun h9 k9 => k9)))
theorem b_X9_end_25 {G : hk_G} {d cb sb : Nat} {h : hk_H} {Q : hk_O → hk_H → Prop} {r3 : Nat} {x2 : Int32} {M' : hk_M} {ci_ : Nat} {fs_ : List Value} {o0 : Option Value} {o1 : Option Value} (hdis : hk_dis yX5_endAt ci_ M' 1) (hrec : h.2 r3 = some (.inr (ci_, fs_))) (hc : hk_Ci G M' d 0 0 [.ref r3, .int x2] h (fun z h' => hk_S G m_X9_end (d + 1) cb sb 30 [o0, o1, some (.int x2), some (.ref r3)] [.int z] h' Q)) : hk_S G m_X9_end (d + 1) cb sb 25 [o0, o1, some (.int x2), some (.ref r3)] [] h Q := by
  refine hs_aload_n dX9_end_25 rfl ?_
  refine hs_iload_n dX9_end_26 rfl ?_
  exact hk_z0 (hs_dis (x := yX5_endAt) (vs := [.int x2]) (c1 := 0) (s1 := 0) dX9_end_27 wd_479 hdis hrec rfl (Nat.le_of_ble_eq_true rfl) hc hq_i (hc_i (fun z h9 k9 => k9)))
theorem b_X9_end_30 {G : hk_G} {d cb sb : Nat} {h : hk_H} {Q : hk_O → hk_H → Prop} {s0 : Int32} {o0 : Option Value} {o1 : Option Value} {o2 : Option Value} {o3 : Option Value} (hq : Q (.inl (some (.int s0))) h) : hk_S G m_X9_end (d + 1) cb sb 30 [o0, o1, o2, o3] [.int s0] h Q := by
  exact hs_iret dX9_end_30 rfl hq
-- HonestHouse.pays(III)I
theorem b_X9_pays_0 {G : hk_G} {d cb sb : Nat} {h : hk_H} {Q : hk_O → hk_H → Prop} {r0 : Nat} {x1 : Int32} {fs_ : List Value} {o2 : Option Value} {o3 : Option Value} {o4 : Option Value} (hrec : h.2 r0 = some (.inr (9, fs_))) (hc : hk_Cr G m_X9_ruleAt d 0 0 [.ref r0, .int x1] h (fun z h' => hk_S G m_X9_pays (d + 1) cb sb 5 [some (.ref r0), some (.int x1), o2, o3, o4] [hk_rf z] h' Q)) : hk_S G m_X9_pays (d + 1) cb sb 0 [some (.ref r0), some (.int x1), o2, o3, o4] [] h Q := by
  refine hs_aload_n dX9_pays_0 rfl ?_
  refine hs_iload_n dX9_pays_1 rfl ?_
  exact hk_z0 (hs_vir (M' := m_X9_ruleAt) (vs := [.int x1]) (c1 := 0) (s1 := 0) dX9_pays_2 wd_351 vi_X9_ruleAt hrec rfl (Nat.le_of_ble_eq_true rfl) hc hq_r (hc_r (fun z h9 k9 => k9)))
theorem b_X9_pays_5 {G : hk_G} {d cb sb : Nat} {h : hk_H} {Q : hk_O → hk_H → Prop} {s0 : Nat} {r0 : Nat} {x2 : Int32} {fs_ : List Value} {o1 : Option Value} {o3 : Option Value} {o4 : Option Value} (hrec : h.2 r0 = some (.inr (9, fs_))) (hc : hk_Ci G m_X9_isRow d 0 0 [.ref r0, .int x2] h (fun z h' => hk_S G m_X9_pays (d + 1) cb sb 17 [some (.ref r0), o1, some (.int x2), o3, some (.ref s0)] [.int z] h' Q)) (ho3 : hk_c1 o3 := by first | exact hk_c1i | exact hk_c1r | exact hk_c10 | exact hk_c1n) : hk_S G m_X9_pays (d + 1) cb sb 5 [some (.ref r0), o1, some (.int x2), o3, o4] [.ref s0] h Q := by
  refine hs_astK dX9_pays_5 (by decide) (hk_nk1 rfl ho3) rfl ?_
  refine hs_aload dX9_pays_7 rfl ?_
  refine hs_ifnull dX9_pays_9 ?_
  refine hs_aload_n dX9_pays_12 rfl ?_
  refine hs_iload_n dX9_pays_13 rfl ?_
  exact hk_z0 (hs_vir (M' := m_X9_isRow) (vs := [.int x2]) (c1 := 0) (s1 := 0) dX9_pays_14 wd_355 vi_X9_isRow hrec rfl (Nat.le_of_ble_eq_true rfl) hc hq_i (hc_i (fun z h9 k9 => k9)))
theorem b_X9_pays_5N0 {G : hk_G} {d cb sb : Nat} {h : hk_H} {Q : hk_O → hk_H → Prop} {o0 : Option Value} {o1 : Option Value} {o2 : Option Value} {o3 : Option Value} {o4 : Option Value} (hq : Q (.inr "java/lang/IllegalArgumentException") (h.1 + 1, h.2)) (ho3 : hk_c1 o3 := by first | exact hk_c1i | exact hk_c1r | exact hk_c10 | exact hk_c1n) : hk_S G m_X9_pays (d + 1) (cb + 1) (sb + 6) 5 [o0, o1, o2, o3, o4] [.null] h Q := by
  refine hs_astKN dX9_pays_5 (by decide) (hk_nk1 rfl ho3) rfl ?_
  refine hs_aloadN dX9_pays_7 rfl ?_
  refine hs_ifnullN dX9_pays_9 (tgt := 28) (by decide) ?_
  exact hs_throw (text := "no such rule, row or person") dX9_pays_28 dX9_pays_31 dX9_pays_32 dX9_pays_34 dX9_pays_37 rfl th_X9_A (by decide +kernel) rfl hq
theorem b_X9_pays_12 {G : hk_G} {d cb sb : Nat} {h : hk_H} {Q : hk_O → hk_H → Prop} {r0 : Nat} {x2 : Int32} {fs_ : List Value} {o1 : Option Value} {o3 : Option Value} {o4 : Option Value} (hrec : h.2 r0 = some (.inr (9, fs_))) (hc : hk_Ci G m_X9_isRow d 0 0 [.ref r0, .int x2] h (fun z h' => hk_S G m_X9_pays (d + 1) cb sb 17 [some (.ref r0), o1, some (.int x2), o3, o4] [.int z] h' Q)) : hk_S G m_X9_pays (d + 1) cb sb 12 [some (.ref r0), o1, some (.int x2), o3, o4] [] h Q := by
  refine hs_aload_n dX9_pays_12 rfl ?_
  refine hs_iload_n dX9_pays_13 rfl ?_
  exact hk_z0 (hs_vir (M' := m_X9_isRow) (vs := [.int x2]) (c1 := 0) (s1 := 0) dX9_pays_14 wd_355 vi_X9_isRow hrec rfl (Nat.le_of_ble_eq_true rfl) hc hq_i (hc_i (fun z h9 k9 => k9)))
theorem b_X9_pays_17 {G : hk_G} {d cb sb : Nat} {h : hk_H} {Q : hk_O → hk_H → Prop} {s0 : Int32} {o0 : Option Value} {o1 : Option Value} {o2 : Option Value} {o3 : Option Value} {o4 : Option Value} (kt : s0 = 0 → hk_S G m_X9_pays (d + 1) cb sb 28 [o0, o1, o2, o3, o4] [] h Q) (kf : ¬ s0 = 0 → hk_S G m_X9_pays (d + 1) cb sb 20 [o0, o1, o2, o3, o4] [] h Q) : hk_S G m_X9_pays (d + 1) cb sb 17 [o0, o1, o2, o3, o4] [.int s0] h Q := by
  exact hs_if_eq dX9_pays_17 (by decide) kt kf
theorem b_X9_pays_20 {G : hk_G} {d cb sb : Nat} {h : hk_H} {Q : hk_O → hk_H → Prop} {r0 : Nat} {x3 : Int32} {fs_ : List Value} {o1 : Option Value} {o2 : Option Value} {o4 : Option Value} (hrec : h.2 r0 = some (.inr (9, fs_))) (hc : hk_Ci G m_X9_isPerson d 0 0 [.ref r0, .int x3] h (fun z h' => hk_S G m_X9_pays (d + 1) cb sb 25 [some (.ref r0), o1, o2, some (.int x3), o4] [.int z] h' Q)) : hk_S G m_X9_pays (d + 1) cb sb 20 [some (.ref r0), o1, o2, some (.int x3), o4] [] h Q := by
  refine hs_aload_n dX9_pays_20 rfl ?_
  refine hs_iload_n dX9_pays_21 rfl ?_
  exact hk_z0 (hs_vir (M' := m_X9_isPerson) (vs := [.int x3]) (c1 := 0) (s1 := 0) dX9_pays_22 wd_375 vi_X9_isPerson hrec rfl (Nat.le_of_ble_eq_true rfl) hc hq_i (hc_i (fun z h9 k9 => k9)))
theorem b_X9_pays_25 {G : hk_G} {d cb sb : Nat} {h : hk_H} {Q : hk_O → hk_H → Prop} {s0 : Int32} {o0 : Option Value} {o1 : Option Value} {o2 : Option Value} {o3 : Option Value} {o4 : Option Value} (kt : ¬ s0 = 0 → hk_S G m_X9_pays (d + 1) cb sb 38 [o0, o1, o2, o3, o4] [] h Q) (kf : s0 = 0 → hk_S G m_X9_pays (d + 1) cb sb 28 [o0, o1, o2, o3, o4] [] h Q) : hk_S G m_X9_pays (d + 1) cb sb 25 [o0, o1, o2, o3, o4] [.int s0] h Q := by
  exact hs_if_ne dX9_pays_25 (by decide) kt kf
theorem b_X9_pays_28 {G : hk_G} {d cb sb : Nat} {h : hk_H} {Q : hk_O → hk_H → Prop} {o0 : Option Value} {o1 : Option Value} {o2 : Option Value} {o3 : Option Value} {o4 : Option Value} (hq : Q (.inr "java/lang/IllegalArgumentException") (h.1 + 1, h.2)) : hk_S G m_X9_pays (d + 1) (cb + 1) (sb + 6) 28 [o0, o1, o2, o3, o4] [] h Q := by
  exact hs_throw (text := "no such rule, row or person") dX9_pays_28 dX9_pays_31 dX9_pays_32 dX9_pays_34 dX9_pays_37 rfl th_X9_A (by decide +kernel) rfl hq
-- b_X9_pays_37: .athrow
theorem b_X9_pays_38 {G : hk_G} {d cb sb : Nat} {h : hk_H} {Q : hk_O → hk_H → Prop} {r4 : Nat} {x2 : Int32} {M' : hk_M} {ci_ : Nat} {fs_ : List Value} {o0 : Option Value} {o1 : Option Value} {o3 : Option Value} (hdis : hk_dis yX5_settle ci_ M' 1) (hrec : h.2 r4 = some (.inr (ci_, fs_))) (hc : hk_Cv G M' d 0 0 [.ref r4, .int x2] h (fun h' => hk_S G m_X9_pays (d + 1) cb sb 44 [o0, o1, some (.int x2), o3, some (.ref r4)] [] h' Q)) : hk_S G m_X9_pays (d + 1) cb sb 38 [o0, o1, some (.int x2), o3, some (.ref r4)] [] h Q := by
  refine hs_aload dX9_pays_38 rfl ?_
  refine hs_iload_n dX9_pays_40 rfl ?_
  exact hk_z0 (hs_dis (x := yX5_settle) (vs := [.int x2]) (c1 := 0) (s1 := 0) dX9_pays_41 wd_437 hdis hrec rfl (Nat.le_of_ble_eq_true rfl) hc hq_v (hc_v (fun h9 k9 => k9)))
theorem b_X9_pays_44 {G : hk_G} {d cb sb : Nat} {h : hk_H} {Q : hk_O → hk_H → Prop} {r4 : Nat} {x2 : Int32} {x3 : Int32} {M' : hk_M} {ci_ : Nat} {fs_ : List Value} {o0 : Option Value} {o1 : Option Value} (hdis : hk_dis yX5_paymentAt ci_ M' 2) (hrec : h.2 r4 = some (.inr (ci_, fs_))) (hc : hk_Ci G M' d 0 0 [.ref r4, .int x2, .int x3] h (fun z h' => hk_S G m_X9_pays (d + 1) cb sb 51 [o0, o1, some (.int x2), some (.int x3), some (.ref r4)] [.int z] h' Q)) : hk_S G m_X9_pays (d + 1) cb sb 44 [o0, o1, some (.int x2), some (.int x3), some (.ref r4)] [] h Q := by
  refine hs_aload dX9_pays_44 rfl ?_
  refine hs_iload_n dX9_pays_46 rfl ?_
  refine hs_iload_n dX9_pays_47 rfl ?_
  exact hk_z0 (hs_dis (x := yX5_paymentAt) (vs := [.int x2, .int x3]) (c1 := 0) (s1 := 0) dX9_pays_48 wd_720 hdis hrec rfl (Nat.le_of_ble_eq_true rfl) hc hq_i (hc_i (fun z h9 k9 => k9)))
theorem b_X9_pays_51 {G : hk_G} {d cb sb : Nat} {h : hk_H} {Q : hk_O → hk_H → Prop} {s0 : Int32} {o0 : Option Value} {o1 : Option Value} {o2 : Option Value} {o3 : Option Value} {o4 : Option Value} (hq : Q (.inl (some (.int s0))) h) : hk_S G m_X9_pays (d + 1) cb sb 51 [o0, o1, o2, o3, o4] [.int s0] h Q := by
  exact hs_iret dX9_pays_51 rfl hq
-- HonestHouse.said(III)I
theorem b_X9_said_0 {G : hk_G} {d cb sb : Nat} {h : hk_H} {Q : hk_O → hk_H → Prop} {r0 : Nat} {x1 : Int32} {fs_ : List Value} {o2 : Option Value} {o3 : Option Value} (hrec : h.2 r0 = some (.inr (9, fs_))) (hc : hk_Ci G m_X9_isRow d 0 0 [.ref r0, .int x1] h (fun z h' => hk_S G m_X9_said (d + 1) cb sb 5 [some (.ref r0), some (.int x1), o2, o3] [.int z] h' Q)) : hk_S G m_X9_said (d + 1) cb sb 0 [some (.ref r0), some (.int x1), o2, o3] [] h Q := by
  refine hs_aload_n dX9_said_0 rfl ?_
  refine hs_iload_n dX9_said_1 rfl ?_
  exact hk_z0 (hs_vir (M' := m_X9_isRow) (vs := [.int x1]) (c1 := 0) (s1 := 0) dX9_said_2 wd_355 vi_X9_isRow hrec rfl (Nat.le_of_ble_eq_true rfl) hc hq_i (hc_i (fun z h9 k9 => k9)))
theorem b_X9_said_5 {G : hk_G} {d cb sb : Nat} {h : hk_H} {Q : hk_O → hk_H → Prop} {s0 : Int32} {o0 : Option Value} {o1 : Option Value} {o2 : Option Value} {o3 : Option Value} (kt : s0 = 0 → hk_S G m_X9_said (d + 1) cb sb 24 [o0, o1, o2, o3] [] h Q) (kf : ¬ s0 = 0 → hk_S G m_X9_said (d + 1) cb sb 8 [o0, o1, o2, o3] [] h Q) : hk_S G m_X9_said (d + 1) cb sb 5 [o0, o1, o2, o3] [.int s0] h Q := by
  exact hs_if_eq dX9_said_5 (by decide) kt kf
theorem b_X9_said_8 {G : hk_G} {d cb sb : Nat} {h : hk_H} {Q : hk_O → hk_H → Prop} {r0 : Nat} {x2 : Int32} {fs_ : List Value} {o1 : Option Value} {o3 : Option Value} (hrec : h.2 r0 = some (.inr (9, fs_))) (hc : hk_Ci G m_X9_isPerson d 0 0 [.ref r0, .int x2] h (fun z h' => hk_S G m_X9_said (d + 1) cb sb 13 [some (.ref r0), o1, some (.int x2), o3] [.int z] h' Q)) : hk_S G m_X9_said (d + 1) cb sb 8 [some (.ref r0), o1, some (.int x2), o3] [] h Q := by
  refine hs_aload_n dX9_said_8 rfl ?_
  refine hs_iload_n dX9_said_9 rfl ?_
  exact hk_z0 (hs_vir (M' := m_X9_isPerson) (vs := [.int x2]) (c1 := 0) (s1 := 0) dX9_said_10 wd_375 vi_X9_isPerson hrec rfl (Nat.le_of_ble_eq_true rfl) hc hq_i (hc_i (fun z h9 k9 => k9)))
theorem b_X9_said_13 {G : hk_G} {d cb sb : Nat} {h : hk_H} {Q : hk_O → hk_H → Prop} {s0 : Int32} {o0 : Option Value} {o1 : Option Value} {o2 : Option Value} {o3 : Option Value} (kt : s0 = 0 → hk_S G m_X9_said (d + 1) cb sb 24 [o0, o1, o2, o3] [] h Q) (kf : ¬ s0 = 0 → hk_S G m_X9_said (d + 1) cb sb 16 [o0, o1, o2, o3] [] h Q) : hk_S G m_X9_said (d + 1) cb sb 13 [o0, o1, o2, o3] [.int s0] h Q := by
  exact hs_if_eq dX9_said_13 (by decide) kt kf
theorem b_X9_said_16 {G : hk_G} {d cb sb : Nat} {h : hk_H} {Q : hk_O → hk_H → Prop} {r0 : Nat} {x3 : Int32} {fs_ : List Value} {o1 : Option Value} {o2 : Option Value} (hrec : h.2 r0 = some (.inr (9, fs_))) (hc : hk_Ci G m_X9_isWish d 0 0 [.ref r0, .int x3] h (fun z h' => hk_S G m_X9_said (d + 1) cb sb 21 [some (.ref r0), o1, o2, some (.int x3)] [.int z] h' Q)) : hk_S G m_X9_said (d + 1) cb sb 16 [some (.ref r0), o1, o2, some (.int x3)] [] h Q := by
  refine hs_aload_n dX9_said_16 rfl ?_
  refine hs_iload_n dX9_said_17 rfl ?_
  exact hk_z0 (hs_vir (M' := m_X9_isWish) (vs := [.int x3]) (c1 := 0) (s1 := 0) dX9_said_18 wd_236 vi_X9_isWish hrec rfl (Nat.le_of_ble_eq_true rfl) hc hq_i (hc_i (fun z h9 k9 => k9)))
theorem b_X9_said_21 {G : hk_G} {d cb sb : Nat} {h : hk_H} {Q : hk_O → hk_H → Prop} {s0 : Int32} {o0 : Option Value} {o1 : Option Value} {o2 : Option Value} {o3 : Option Value} (kt : ¬ s0 = 0 → hk_S G m_X9_said (d + 1) cb sb 26 [o0, o1, o2, o3] [] h Q) (kf : s0 = 0 → hk_S G m_X9_said (d + 1) cb sb 24 [o0, o1, o2, o3] [] h Q) : hk_S G m_X9_said (d + 1) cb sb 21 [o0, o1, o2, o3] [.int s0] h Q := by
  exact hs_if_ne dX9_said_21 (by decide) kt kf
theorem b_X9_said_24 {G : hk_G} {d cb sb : Nat} {h : hk_H} {Q : hk_O → hk_H → Prop} {o0 : Option Value} {o1 : Option Value} {o2 : Option Value} {o3 : Option Value} (hq : Q (.inl (some (.int ((-1))))) h) : hk_S G m_X9_said (d + 1) cb sb 24 [o0, o1, o2, o3] [] h Q := by
  refine hs_iconst (v := (-1)) dX9_said_24 (by decide) ?_
  exact hs_iret dX9_said_25 rfl hq
theorem b_X9_said_26 {G : hk_G} {d cb sb : Nat} {h : hk_H} {Q : hk_O → hk_H → Prop} {r0 : Nat} {fs1 : List Value} {v3 : Nat} {x1 : Int32} {x2 : Int32} {x3 : Int32} {fs_ : List Value} (hg2 : h.2 r0 = some (.inr (9, fs1))) (hv4 : fs1[2]? = some (.ref v3)) (hrec : h.2 v3 = some (.inr (8, fs_))) (hc : hk_Ci G m_X8_rowSaying d 0 0 [.ref v3, .int x1, .int x2, .int x3] h (fun z h' => hk_S G m_X9_said (d + 1) cb sb 36 [some (.ref r0), some (.int x1), some (.int x2), some (.int x3)] [.int z] h' Q)) : hk_S G m_X9_said (d + 1) cb sb 26 [some (.ref r0), some (.int x1), some (.int x2), some (.int x3)] [] h Q := by
  refine hs_aload_n dX9_said_26 rfl ?_
  refine hs_get dX9_said_27 fl_X9_27_9 hg2 hv4 ?_
  refine hs_iload_n dX9_said_30 rfl ?_
  refine hs_iload_n dX9_said_31 rfl ?_
  refine hs_iload_n dX9_said_32 rfl ?_
  exact hk_z0 (hs_vir (M' := m_X8_rowSaying) (vs := [.int x1, .int x2, .int x3]) (c1 := 0) (s1 := 0) dX9_said_33 wd_491 vi_X8_rowSaying hrec rfl (Nat.le_of_ble_eq_true rfl) hc hq_i (hc_i (fun z h9 k9 => k9)))
theorem b_X9_said_36 {G : hk_G} {d cb sb : Nat} {h : hk_H} {Q : hk_O → hk_H → Prop} {s0 : Int32} {o0 : Option Value} {o1 : Option Value} {o2 : Option Value} {o3 : Option Value} (hq : Q (.inl (some (.int s0))) h) : hk_S G m_X9_said (d + 1) cb sb 36 [o0, o1, o2, o3] [.int s0] h Q := by
  exact hs_iret dX9_said_36 rfl hq
-- HonestHouse.gain(IIII)I
theorem b_X9_gain_0 {G : hk_G} {d cb sb : Nat} {h : hk_H} {Q : hk_O → hk_H → Prop} {r0 : Nat} {x1 : Int32} {fs_ : List Value} {o2 : Option Value} {o3 : Option Value} {o4 : Option Value} {o5 : Option Value} {o6 : Option Value} {o7 : Option Value} (hrec : h.2 r0 = some (.inr (9, fs_))) (hc : hk_Cr G m_X9_ruleAt d 0 0 [.ref r0, .int x1] h (fun z h' => hk_S G m_X9_gain (d + 1) cb sb 5 [some (.ref r0), some (.int x1), o2, o3, o4, o5, o6, o7] [hk_rf z] h' Q)) : hk_S G m_X9_gain (d + 1) cb sb 0 [some (.ref r0), some (.int x1), o2, o3, o4, o5, o6, o7] [] h Q := by
  refine hs_aload_n dX9_gain_0 rfl ?_
  refine hs_iload_n dX9_gain_1 rfl ?_
  exact hk_z0 (hs_vir (M' := m_X9_ruleAt) (vs := [.int x1]) (c1 := 0) (s1 := 0) dX9_gain_2 wd_351 vi_X9_ruleAt hrec rfl (Nat.le_of_ble_eq_true rfl) hc hq_r (hc_r (fun z h9 k9 => k9)))
theorem b_X9_gain_5 {G : hk_G} {d cb sb : Nat} {h : hk_H} {Q : hk_O → hk_H → Prop} {s0 : Nat} {r0 : Nat} {x2 : Int32} {fs_ : List Value} {o1 : Option Value} {o3 : Option Value} {o4 : Option Value} {o5 : Option Value} {o6 : Option Value} {o7 : Option Value} (hrec : h.2 r0 = some (.inr (9, fs_))) (hc : hk_Ci G m_X9_isRow d 0 0 [.ref r0, .int x2] h (fun z h' => hk_S G m_X9_gain (d + 1) cb sb 17 [some (.ref r0), o1, some (.int x2), o3, o4, some (.ref s0), o6, o7] [.int z] h' Q)) (ho4 : hk_c1 o4 := by first | exact hk_c1i | exact hk_c1r | exact hk_c10 | exact hk_c1n) : hk_S G m_X9_gain (d + 1) cb sb 5 [some (.ref r0), o1, some (.int x2), o3, o4, o5, o6, o7] [.ref s0] h Q := by
  refine hs_astK dX9_gain_5 (by decide) (hk_nk1 rfl ho4) rfl ?_
  refine hs_aload dX9_gain_7 rfl ?_
  refine hs_ifnull dX9_gain_9 ?_
  refine hs_aload_n dX9_gain_12 rfl ?_
  refine hs_iload_n dX9_gain_13 rfl ?_
  exact hk_z0 (hs_vir (M' := m_X9_isRow) (vs := [.int x2]) (c1 := 0) (s1 := 0) dX9_gain_14 wd_355 vi_X9_isRow hrec rfl (Nat.le_of_ble_eq_true rfl) hc hq_i (hc_i (fun z h9 k9 => k9)))
theorem b_X9_gain_5N0 {G : hk_G} {d cb sb : Nat} {h : hk_H} {Q : hk_O → hk_H → Prop} {o0 : Option Value} {o1 : Option Value} {o2 : Option Value} {o3 : Option Value} {o4 : Option Value} {o5 : Option Value} {o6 : Option Value} {o7 : Option Value} (hq : Q (.inr "java/lang/IllegalArgumentException") (h.1 + 1, h.2)) (ho4 : hk_c1 o4 := by first | exact hk_c1i | exact hk_c1r | exact hk_c10 | exact hk_c1n) : hk_S G m_X9_gain (d + 1) (cb + 1) (sb + 6) 5 [o0, o1, o2, o3, o4, o5, o6, o7] [.null] h Q := by
  refine hs_astKN dX9_gain_5 (by decide) (hk_nk1 rfl ho4) rfl ?_
  refine hs_aloadN dX9_gain_7 rfl ?_
  refine hs_ifnullN dX9_gain_9 (tgt := 37) (by decide) ?_
  exact hs_throw (text := "no such rule, row, person or wish") dX9_gain_37 dX9_gain_40 dX9_gain_41 dX9_gain_43 dX9_gain_46 rfl th_X9_A (by decide +kernel) rfl hq
theorem b_X9_gain_12 {G : hk_G} {d cb sb : Nat} {h : hk_H} {Q : hk_O → hk_H → Prop} {r0 : Nat} {x2 : Int32} {fs_ : List Value} {o1 : Option Value} {o3 : Option Value} {o4 : Option Value} {o5 : Option Value} {o6 : Option Value} {o7 : Option Value} (hrec : h.2 r0 = some (.inr (9, fs_))) (hc : hk_Ci G m_X9_isRow d 0 0 [.ref r0, .int x2] h (fun z h' => hk_S G m_X9_gain (d + 1) cb sb 17 [some (.ref r0), o1, some (.int x2), o3, o4, o5, o6, o7] [.int z] h' Q)) : hk_S G m_X9_gain (d + 1) cb sb 12 [some (.ref r0), o1, some (.int x2), o3, o4, o5, o6, o7] [] h Q := by
  refine hs_aload_n dX9_gain_12 rfl ?_
  refine hs_iload_n dX9_gain_13 rfl ?_
  exact hk_z0 (hs_vir (M' := m_X9_isRow) (vs := [.int x2]) (c1 := 0) (s1 := 0) dX9_gain_14 wd_355 vi_X9_isRow hrec rfl (Nat.le_of_ble_eq_true rfl) hc hq_i (hc_i (fun z h9 k9 => k9)))
theorem b_X9_gain_17 {G : hk_G} {d cb sb : Nat} {h : hk_H} {Q : hk_O → hk_H → Prop} {s0 : Int32} {o0 : Option Value} {o1 : Option Value} {o2 : Option Value} {o3 : Option Value} {o4 : Option Value} {o5 : Option Value} {o6 : Option Value} {o7 : Option Value} (kt : s0 = 0 → hk_S G m_X9_gain (d + 1) cb sb 37 [o0, o1, o2, o3, o4, o5, o6, o7] [] h Q) (kf : ¬ s0 = 0 → hk_S G m_X9_gain (d + 1) cb sb 20 [o0, o1, o2, o3, o4, o5, o6, o7] [] h Q) : hk_S G m_X9_gain (d + 1) cb sb 17 [o0, o1, o2, o3, o4, o5, o6, o7] [.int s0] h Q := by
  exact hs_if_eq dX9_gain_17 (by decide) kt kf
theorem b_X9_gain_20 {G : hk_G} {d cb sb : Nat} {h : hk_H} {Q : hk_O → hk_H → Prop} {r0 : Nat} {x3 : Int32} {fs_ : List Value} {o1 : Option Value} {o2 : Option Value} {o4 : Option Value} {o5 : Option Value} {o6 : Option Value} {o7 : Option Value} (hrec : h.2 r0 = some (.inr (9, fs_))) (hc : hk_Ci G m_X9_isPerson d 0 0 [.ref r0, .int x3] h (fun z h' => hk_S G m_X9_gain (d + 1) cb sb 25 [some (.ref r0), o1, o2, some (.int x3), o4, o5, o6, o7] [.int z] h' Q)) : hk_S G m_X9_gain (d + 1) cb sb 20 [some (.ref r0), o1, o2, some (.int x3), o4, o5, o6, o7] [] h Q := by
  refine hs_aload_n dX9_gain_20 rfl ?_
  refine hs_iload_n dX9_gain_21 rfl ?_
  exact hk_z0 (hs_vir (M' := m_X9_isPerson) (vs := [.int x3]) (c1 := 0) (s1 := 0) dX9_gain_22 wd_375 vi_X9_isPerson hrec rfl (Nat.le_of_ble_eq_true rfl) hc hq_i (hc_i (fun z h9 k9 => k9)))
theorem b_X9_gain_25 {G : hk_G} {d cb sb : Nat} {h : hk_H} {Q : hk_O → hk_H → Prop} {s0 : Int32} {o0 : Option Value} {o1 : Option Value} {o2 : Option Value} {o3 : Option Value} {o4 : Option Value} {o5 : Option Value} {o6 : Option Value} {o7 : Option Value} (kt : s0 = 0 → hk_S G m_X9_gain (d + 1) cb sb 37 [o0, o1, o2, o3, o4, o5, o6, o7] [] h Q) (kf : ¬ s0 = 0 → hk_S G m_X9_gain (d + 1) cb sb 28 [o0, o1, o2, o3, o4, o5, o6, o7] [] h Q) : hk_S G m_X9_gain (d + 1) cb sb 25 [o0, o1, o2, o3, o4, o5, o6, o7] [.int s0] h Q := by
  exact hs_if_eq dX9_gain_25 (by decide) kt kf
theorem b_X9_gain_28 {G : hk_G} {d cb sb : Nat} {h : hk_H} {Q : hk_O → hk_H → Prop} {r0 : Nat} {x4 : Int32} {fs_ : List Value} {o1 : Option Value} {o2 : Option Value} {o3 : Option Value} {o5 : Option Value} {o6 : Option Value} {o7 : Option Value} (hrec : h.2 r0 = some (.inr (9, fs_))) (hc : hk_Ci G m_X9_isWish d 0 0 [.ref r0, .int x4] h (fun z h' => hk_S G m_X9_gain (d + 1) cb sb 34 [some (.ref r0), o1, o2, o3, some (.int x4), o5, o6, o7] [.int z] h' Q)) : hk_S G m_X9_gain (d + 1) cb sb 28 [some (.ref r0), o1, o2, o3, some (.int x4), o5, o6, o7] [] h Q := by
  refine hs_aload_n dX9_gain_28 rfl ?_
  refine hs_iload dX9_gain_29 rfl ?_
  exact hk_z0 (hs_vir (M' := m_X9_isWish) (vs := [.int x4]) (c1 := 0) (s1 := 0) dX9_gain_31 wd_236 vi_X9_isWish hrec rfl (Nat.le_of_ble_eq_true rfl) hc hq_i (hc_i (fun z h9 k9 => k9)))
theorem b_X9_gain_34 {G : hk_G} {d cb sb : Nat} {h : hk_H} {Q : hk_O → hk_H → Prop} {s0 : Int32} {o0 : Option Value} {o1 : Option Value} {o2 : Option Value} {o3 : Option Value} {o4 : Option Value} {o5 : Option Value} {o6 : Option Value} {o7 : Option Value} (kt : ¬ s0 = 0 → hk_S G m_X9_gain (d + 1) cb sb 47 [o0, o1, o2, o3, o4, o5, o6, o7] [] h Q) (kf : s0 = 0 → hk_S G m_X9_gain (d + 1) cb sb 37 [o0, o1, o2, o3, o4, o5, o6, o7] [] h Q) : hk_S G m_X9_gain (d + 1) cb sb 34 [o0, o1, o2, o3, o4, o5, o6, o7] [.int s0] h Q := by
  exact hs_if_ne dX9_gain_34 (by decide) kt kf
theorem b_X9_gain_37 {G : hk_G} {d cb sb : Nat} {h : hk_H} {Q : hk_O → hk_H → Prop} {o0 : Option Value} {o1 : Option Value} {o2 : Option Value} {o3 : Option Value} {o4 : Option Value} {o5 : Option Value} {o6 : Option Value} {o7 : Option Value} (hq : Q (.inr "java/lang/IllegalArgumentException") (h.1 + 1, h.2)) : hk_S G m_X9_gain (d + 1) (cb + 1) (sb + 6) 37 [o0, o1, o2, o3, o4, o5, o6, o7] [] h Q := by
  exact hs_throw (text := "no such rule, row, person or wish") dX9_gain_37 dX9_gain_40 dX9_gain_41 dX9_gain_43 dX9_gain_46 rfl th_X9_A (by decide +kernel) rfl hq
-- b_X9_gain_46: .athrow
theorem b_X9_gain_47 {G : hk_G} {d cb sb : Nat} {h : hk_H} {Q : hk_O → hk_H → Prop} {r0 : Nat} {fs1 : List Value} {v3 : Nat} {x2 : Int32} {x3 : Int32} {fs_ : List Value} {o1 : Option Value} {o4 : Option Value} {o5 : Option Value} {o6 : Option Value} {o7 : Option Value} (hg2 : h.2 r0 = some (.inr (9, fs1))) (hv4 : fs1[2]? = some (.ref v3)) (hrec : h.2 v3 = some (.inr (8, fs_))) (hc : hk_Ci G m_X8_wishIn d 0 0 [.ref v3, .int x2, .int x3] h (fun z h' => hk_S G m_X9_gain (d + 1) cb sb 56 [some (.ref r0), o1, some (.int x2), some (.int x3), o4, o5, o6, o7] [.int z] h' Q)) : hk_S G m_X9_gain (d + 1) cb sb 47 [some (.ref r0), o1, some (.int x2), some (.int x3), o4, o5, o6, o7] [] h Q := by
  refine hs_aload_n dX9_gain_47 rfl ?_
  refine hs_get dX9_gain_48 fl_X9_27_9 hg2 hv4 ?_
  refine hs_iload_n dX9_gain_51 rfl ?_
  refine hs_iload_n dX9_gain_52 rfl ?_
  exact hk_z0 (hs_vir (M' := m_X8_wishIn) (vs := [.int x2, .int x3]) (c1 := 0) (s1 := 0) dX9_gain_53 wd_508 vi_X8_wishIn hrec rfl (Nat.le_of_ble_eq_true rfl) hc hq_i (hc_i (fun z h9 k9 => k9)))
theorem b_X9_gain_56 {G : hk_G} {d cb sb : Nat} {h : hk_H} {Q : hk_O → hk_H → Prop} {s0 : Int32} {r0 : Nat} {fs1 : List Value} {v3 : Nat} {x2 : Int32} {x3 : Int32} {x4 : Int32} {fs_ : List Value} {o1 : Option Value} {o5 : Option Value} {o6 : Option Value} {o7 : Option Value} (hg2 : h.2 r0 = some (.inr (9, fs1))) (hv4 : fs1[2]? = some (.ref v3)) (hrec : h.2 v3 = some (.inr (8, fs_))) (hc : hk_Ci G m_X8_rowSaying d 0 0 [.ref v3, .int x2, .int x3, .int x4] h (fun z h' => hk_S G m_X9_gain (d + 1) cb sb 69 [some (.ref r0), o1, some (.int x2), some (.int x3), some (.int x4), o5, some (.int s0), o7] [.int z] h' Q)) (ho5 : hk_c1 o5 := by first | exact hk_c1i | exact hk_c1r | exact hk_c10 | exact hk_c1n) : hk_S G m_X9_gain (d + 1) cb sb 56 [some (.ref r0), o1, some (.int x2), some (.int x3), some (.int x4), o5, o6, o7] [.int s0] h Q := by
  refine hs_istK dX9_gain_56 (by decide) (hk_nk1 rfl ho5) rfl ?_
  refine hs_aload_n dX9_gain_58 rfl ?_
  refine hs_get dX9_gain_59 fl_X9_27_9 hg2 hv4 ?_
  refine hs_iload_n dX9_gain_62 rfl ?_
  refine hs_iload_n dX9_gain_63 rfl ?_
  refine hs_iload dX9_gain_64 rfl ?_
  exact hk_z0 (hs_vir (M' := m_X8_rowSaying) (vs := [.int x2, .int x3, .int x4]) (c1 := 0) (s1 := 0) dX9_gain_66 wd_491 vi_X8_rowSaying hrec rfl (Nat.le_of_ble_eq_true rfl) hc hq_i (hc_i (fun z h9 k9 => k9)))
theorem b_X9_gain_69 {G : hk_G} {d cb sb : Nat} {h : hk_H} {Q : hk_O → hk_H → Prop} {s0 : Int32} {r5 : Nat} {x2 : Int32} {M' : hk_M} {ci_ : Nat} {fs_ : List Value} {o0 : Option Value} {o1 : Option Value} {o3 : Option Value} {o4 : Option Value} {o6 : Option Value} {o7 : Option Value} (hdis : hk_dis yX5_settle ci_ M' 1) (hrec : h.2 r5 = some (.inr (ci_, fs_))) (hc : hk_Cv G M' d 0 0 [.ref r5, .int x2] h (fun h' => hk_S G m_X9_gain (d + 1) cb sb 77 [o0, o1, some (.int x2), o3, o4, some (.ref r5), o6, some (.int s0)] [] h' Q)) (ho6 : hk_c1 o6 := by first | exact hk_c1i | exact hk_c1r | exact hk_c10 | exact hk_c1n) : hk_S G m_X9_gain (d + 1) cb sb 69 [o0, o1, some (.int x2), o3, o4, some (.ref r5), o6, o7] [.int s0] h Q := by
  refine hs_istK dX9_gain_69 (by decide) (hk_nk1 rfl ho6) rfl ?_
  refine hs_aload dX9_gain_71 rfl ?_
  refine hs_iload_n dX9_gain_73 rfl ?_
  exact hk_z0 (hs_dis (x := yX5_settle) (vs := [.int x2]) (c1 := 0) (s1 := 0) dX9_gain_74 wd_437 hdis hrec rfl (Nat.le_of_ble_eq_true rfl) hc hq_v (hc_v (fun h9 k9 => k9)))
theorem b_X9_gain_77 {G : hk_G} {d cb sb : Nat} {h : hk_H} {Q : hk_O → hk_H → Prop} {r5 : Nat} {x7 : Int32} {M' : hk_M} {ci_ : Nat} {fs_ : List Value} {o0 : Option Value} {o1 : Option Value} {o2 : Option Value} {o3 : Option Value} {o4 : Option Value} {o6 : Option Value} (hdis : hk_dis yX5_settle ci_ M' 1) (hrec : h.2 r5 = some (.inr (ci_, fs_))) (hc : hk_Cv G M' d 0 0 [.ref r5, .int x7] h (fun h' => hk_S G m_X9_gain (d + 1) cb sb 84 [o0, o1, o2, o3, o4, some (.ref r5), o6, some (.int x7)] [] h' Q)) : hk_S G m_X9_gain (d + 1) cb sb 77 [o0, o1, o2, o3, o4, some (.ref r5), o6, some (.int x7)] [] h Q := by
  refine hs_aload dX9_gain_77 rfl ?_
  refine hs_iload dX9_gain_79 rfl ?_
  exact hk_z0 (hs_dis (x := yX5_settle) (vs := [.int x7]) (c1 := 0) (s1 := 0) dX9_gain_81 wd_437 hdis hrec rfl (Nat.le_of_ble_eq_true rfl) hc hq_v (hc_v (fun h9 k9 => k9)))
theorem b_X9_gain_84 {G : hk_G} {d cb sb : Nat} {h : hk_H} {Q : hk_O → hk_H → Prop} {r5 : Nat} {x7 : Int32} {x3 : Int32} {x6 : Int32} {M' : hk_M} {ci_ : Nat} {fs_ : List Value} {o0 : Option Value} {o1 : Option Value} {o2 : Option Value} {o4 : Option Value} (hdis : hk_dis yX5_profit ci_ M' 3) (hrec : h.2 r5 = some (.inr (ci_, fs_))) (hc : hk_Ci G M' d 0 0 [.ref r5, .int x7, .int x3, .int x6] h (fun z h' => hk_S G m_X9_gain (d + 1) cb sb 94 [o0, o1, o2, some (.int x3), o4, some (.ref r5), some (.int x6), some (.int x7)] [.int z] h' Q)) : hk_S G m_X9_gain (d + 1) cb sb 84 [o0, o1, o2, some (.int x3), o4, some (.ref r5), some (.int x6), some (.int x7)] [] h Q := by
  refine hs_aload dX9_gain_84 rfl ?_
  refine hs_iload dX9_gain_86 rfl ?_
  refine hs_iload_n dX9_gain_88 rfl ?_
  refine hs_iload dX9_gain_89 rfl ?_
  exact hk_z0 (hs_dis (x := yX5_profit) (vs := [.int x7, .int x3, .int x6]) (c1 := 0) (s1 := 0) dX9_gain_91 wd_509 hdis hrec rfl (Nat.le_of_ble_eq_true rfl) hc hq_i (hc_i (fun z h9 k9 => k9)))
theorem b_X9_gain_94 {G : hk_G} {d cb sb : Nat} {h : hk_H} {Q : hk_O → hk_H → Prop} {s0 : Int32} {r5 : Nat} {x2 : Int32} {x3 : Int32} {x6 : Int32} {M' : hk_M} {ci_ : Nat} {fs_ : List Value} {o0 : Option Value} {o1 : Option Value} {o4 : Option Value} {o7 : Option Value} (hdis : hk_dis yX5_profit ci_ M' 3) (hrec : h.2 r5 = some (.inr (ci_, fs_))) (hc : hk_Ci G M' d 0 0 [.ref r5, .int x2, .int x3, .int x6] h (fun z h' => hk_S G m_X9_gain (d + 1) cb sb 103 [o0, o1, some (.int x2), some (.int x3), o4, some (.ref r5), some (.int x6), o7] [.int z, .int s0] h' Q)) : hk_S G m_X9_gain (d + 1) cb sb 94 [o0, o1, some (.int x2), some (.int x3), o4, some (.ref r5), some (.int x6), o7] [.int s0] h Q := by
  refine hs_aload dX9_gain_94 rfl ?_
  refine hs_iload_n dX9_gain_96 rfl ?_
  refine hs_iload_n dX9_gain_97 rfl ?_
  refine hs_iload dX9_gain_98 rfl ?_
  exact hk_z0 (hs_dis (x := yX5_profit) (vs := [.int x2, .int x3, .int x6]) (c1 := 0) (s1 := 0) dX9_gain_100 wd_509 hdis hrec rfl (Nat.le_of_ble_eq_true rfl) hc hq_i (hc_i (fun z h9 k9 => k9)))
theorem b_X9_gain_103 {G : hk_G} {d cb sb : Nat} {h : hk_H} {Q : hk_O → hk_H → Prop} {s0 : Int32} {s1 : Int32} {o0 : Option Value} {o1 : Option Value} {o2 : Option Value} {o3 : Option Value} {o4 : Option Value} {o5 : Option Value} {o6 : Option Value} {o7 : Option Value} (hq : Q (.inl (some (.int (s0 - s1)))) h) : hk_S G m_X9_gain (d + 1) cb sb 103 [o0, o1, o2, o3, o4, o5, o6, o7] [.int s1, .int s0] h Q := by
  refine hs_isub dX9_gain_103 ?_
  exact hs_iret dX9_gain_104 rfl hq
-- HonestHouse.lie(II)I
theorem b_X9_lie_0 {G : hk_G} {d cb sb : Nat} {h : hk_H} {Q : hk_O → hk_H → Prop} {r0 : Nat} {x1 : Int32} {fs_ : List Value} {o2 : Option Value} {o3 : Option Value} (hrec : h.2 r0 = some (.inr (9, fs_))) (hc : hk_Cr G m_X9_settledRule d 0 0 [.ref r0, .int x1] h (fun z h' => hk_S G m_X9_lie (d + 1) cb sb 5 [some (.ref r0), some (.int x1), o2, o3] [hk_rf z] h' Q)) : hk_S G m_X9_lie (d + 1) cb sb 0 [some (.ref r0), some (.int x1), o2, o3] [] h Q := by
  refine hs_aload_n dX9_lie_0 rfl ?_
  refine hs_iload_n dX9_lie_1 rfl ?_
  exact hk_z0 (hs_vir (M' := m_X9_settledRule) (vs := [.int x1]) (c1 := 0) (s1 := 0) dX9_lie_2 wd_500 vi_X9_settledRule hrec rfl (Nat.le_of_ble_eq_true rfl) hc hq_r (hc_r (fun z h9 k9 => k9)))
theorem b_X9_lie_5 {G : hk_G} {d cb sb : Nat} {h : hk_H} {Q : hk_O → hk_H → Prop} {s0 : Nat} {x2 : Int32} {o0 : Option Value} {o1 : Option Value} {o3 : Option Value} (hc : hk_Ci G m_X9_isWithin d 0 0 [.int x2, .int 0, .int 3] h (fun z h' => hk_S G m_X9_lie (d + 1) cb sb 16 [o0, o1, some (.int x2), some (.ref s0)] [.int z] h' Q)) : hk_S G m_X9_lie (d + 1) cb sb 5 [o0, o1, some (.int x2), o3] [.ref s0] h Q := by
  refine hs_astK_n dX9_lie_5 (by decide) (hk_nk1 rfl hk_c1i) rfl ?_
  refine hs_aload_n dX9_lie_6 rfl ?_
  refine hs_ifnull dX9_lie_7 ?_
  refine hs_iload_n dX9_lie_10 rfl ?_
  refine hs_iconst (v := 0) dX9_lie_11 (by decide) ?_
  refine hs_iconst (v := 3) dX9_lie_12 (by decide) ?_
  exact hk_z0 (hs_sta (M' := m_X9_isWithin) (vs := [.int x2, .int 0, .int 3]) (c1 := 0) (s1 := 0) dX9_lie_13 wd_244 st_X9_isWithin rfl (Nat.le_of_ble_eq_true rfl) hc hq_i (hc_i (fun z h9 k9 => k9)))
theorem b_X9_lie_5N0 {G : hk_G} {d cb sb : Nat} {h : hk_H} {Q : hk_O → hk_H → Prop} {o0 : Option Value} {o1 : Option Value} {o2 : Option Value} {o3 : Option Value} (hq : Q (.inl (some (.int ((-1))))) h) (ho2 : hk_c1 o2 := by first | exact hk_c1i | exact hk_c1r | exact hk_c10 | exact hk_c1n) : hk_S G m_X9_lie (d + 1) cb sb 5 [o0, o1, o2, o3] [.null] h Q := by
  refine hs_astKN_n dX9_lie_5 (by decide) (hk_nk1 rfl ho2) rfl ?_
  refine hs_aload_nN dX9_lie_6 rfl ?_
  refine hs_ifnullN dX9_lie_7 (tgt := 19) (by decide) ?_
  refine hs_iconst (v := (-1)) dX9_lie_19 (by decide) ?_
  refine hs_goto dX9_lie_20 (tgt := 29) (by decide) ?_
  exact hs_iret dX9_lie_29 rfl hq
theorem b_X9_lie_10 {G : hk_G} {d cb sb : Nat} {h : hk_H} {Q : hk_O → hk_H → Prop} {x2 : Int32} {o0 : Option Value} {o1 : Option Value} {o3 : Option Value} (hc : hk_Ci G m_X9_isWithin d 0 0 [.int x2, .int 0, .int 3] h (fun z h' => hk_S G m_X9_lie (d + 1) cb sb 16 [o0, o1, some (.int x2), o3] [.int z] h' Q)) : hk_S G m_X9_lie (d + 1) cb sb 10 [o0, o1, some (.int x2), o3] [] h Q := by
  refine hs_iload_n dX9_lie_10 rfl ?_
  refine hs_iconst (v := 0) dX9_lie_11 (by decide) ?_
  refine hs_iconst (v := 3) dX9_lie_12 (by decide) ?_
  exact hk_z0 (hs_sta (M' := m_X9_isWithin) (vs := [.int x2, .int 0, .int 3]) (c1 := 0) (s1 := 0) dX9_lie_13 wd_244 st_X9_isWithin rfl (Nat.le_of_ble_eq_true rfl) hc hq_i (hc_i (fun z h9 k9 => k9)))
theorem b_X9_lie_16 {G : hk_G} {d cb sb : Nat} {h : hk_H} {Q : hk_O → hk_H → Prop} {s0 : Int32} {o0 : Option Value} {o1 : Option Value} {o2 : Option Value} {o3 : Option Value} (kt : ¬ s0 = 0 → hk_S G m_X9_lie (d + 1) cb sb 23 [o0, o1, o2, o3] [] h Q) (kf : s0 = 0 → hk_S G m_X9_lie (d + 1) cb sb 19 [o0, o1, o2, o3] [] h Q) : hk_S G m_X9_lie (d + 1) cb sb 16 [o0, o1, o2, o3] [.int s0] h Q := by
  exact hs_if_ne dX9_lie_16 (by decide) kt kf
theorem b_X9_lie_19 {G : hk_G} {d cb sb : Nat} {h : hk_H} {Q : hk_O → hk_H → Prop} {o0 : Option Value} {o1 : Option Value} {o2 : Option Value} {o3 : Option Value} (hq : Q (.inl (some (.int ((-1))))) h) : hk_S G m_X9_lie (d + 1) cb sb 19 [o0, o1, o2, o3] [] h Q := by
  refine hs_iconst (v := (-1)) dX9_lie_19 (by decide) ?_
  refine hs_goto dX9_lie_20 (tgt := 29) (by decide) ?_
  exact hs_iret dX9_lie_29 rfl hq
theorem b_X9_lie_23 {G : hk_G} {d cb sb : Nat} {h : hk_H} {Q : hk_O → hk_H → Prop} {r0 : Nat} {r3 : Nat} {x2 : Int32} {fs_ : List Value} {o1 : Option Value} (hrec : h.2 r0 = some (.inr (9, fs_))) (hc : hk_Ci G m_X9_firstLie d 0 0 [.ref r0, .ref r3, .int x2] h (fun z h' => hk_S G m_X9_lie (d + 1) cb sb 29 [some (.ref r0), o1, some (.int x2), some (.ref r3)] [.int z] h' Q)) : hk_S G m_X9_lie (d + 1) cb sb 23 [some (.ref r0), o1, some (.int x2), some (.ref r3)] [] h Q := by
  refine hs_aload_n dX9_lie_23 rfl ?_
  refine hs_aload_n dX9_lie_24 rfl ?_
  refine hs_iload_n dX9_lie_25 rfl ?_
  exact hk_z0 (hs_vir (M' := m_X9_firstLie) (vs := [.ref r3, .int x2]) (c1 := 0) (s1 := 0) dX9_lie_26 wd_504 vi_X9_firstLie hrec rfl (Nat.le_of_ble_eq_true rfl) hc hq_i (hc_i (fun z h9 k9 => k9)))
theorem b_X9_lie_29 {G : hk_G} {d cb sb : Nat} {h : hk_H} {Q : hk_O → hk_H → Prop} {s0 : Int32} {o0 : Option Value} {o1 : Option Value} {o2 : Option Value} {o3 : Option Value} (hq : Q (.inl (some (.int s0))) h) : hk_S G m_X9_lie (d + 1) cb sb 29 [o0, o1, o2, o3] [.int s0] h Q := by
  exact hs_iret dX9_lie_29 rfl hq
-- HonestHouse.lies(I)I
theorem b_X9_lies_0 {G : hk_G} {d cb sb : Nat} {h : hk_H} {Q : hk_O → hk_H → Prop} {r0 : Nat} {x1 : Int32} {fs_ : List Value} {o2 : Option Value} {o3 : Option Value} {o4 : Option Value} {o5 : Option Value} (hrec : h.2 r0 = some (.inr (9, fs_))) (hc : hk_Cr G m_X9_settledRule d 0 0 [.ref r0, .int x1] h (fun z h' => hk_S G m_X9_lies (d + 1) cb sb 5 [some (.ref r0), some (.int x1), o2, o3, o4, o5] [hk_rf z] h' Q)) : hk_S G m_X9_lies (d + 1) cb sb 0 [some (.ref r0), some (.int x1), o2, o3, o4, o5] [] h Q := by
  refine hs_aload_n dX9_lies_0 rfl ?_
  refine hs_iload_n dX9_lies_1 rfl ?_
  exact hk_z0 (hs_vir (M' := m_X9_settledRule) (vs := [.int x1]) (c1 := 0) (s1 := 0) dX9_lies_2 wd_500 vi_X9_settledRule hrec rfl (Nat.le_of_ble_eq_true rfl) hc hq_r (hc_r (fun z h9 k9 => k9)))
theorem b_X9_lies_5 {G : hk_G} {d cb sb : Nat} {h : hk_H} {Q : hk_O → hk_H → Prop} {s0 : Nat} {o0 : Option Value} {o1 : Option Value} {o2 : Option Value} {o3 : Option Value} {o4 : Option Value} {o5 : Option Value} (k : hk_S G m_X9_lies (d + 1) cb sb 17 [o0, o1, some (.ref s0), some (.int 0), some (.int 0), o5] [] h Q) (ho1 : hk_c1 o1 := by first | exact hk_c1i | exact hk_c1r | exact hk_c10 | exact hk_c1n) : hk_S G m_X9_lies (d + 1) cb sb 5 [o0, o1, o2, o3, o4, o5] [.ref s0] h Q := by
  refine hs_astK_n dX9_lies_5 (by decide) (hk_nk1 rfl ho1) rfl ?_
  refine hs_aload_n dX9_lies_6 rfl ?_
  refine hs_ifnonnull dX9_lies_7 (tgt := 12) (by decide) ?_
  refine hs_iconst (v := 0) dX9_lies_12 (by decide) ?_
  refine hs_istK_n dX9_lies_13 (by decide) (hk_nk1 rfl hk_c1r) rfl ?_
  refine hs_iconst (v := 0) dX9_lies_14 (by decide) ?_
  refine hs_istK dX9_lies_15 (by decide) (hk_nk1 rfl hk_c1i) rfl ?_
  exact k
theorem b_X9_lies_5N0 {G : hk_G} {d cb sb : Nat} {h : hk_H} {Q : hk_O → hk_H → Prop} {o0 : Option Value} {o1 : Option Value} {o2 : Option Value} {o3 : Option Value} {o4 : Option Value} {o5 : Option Value} (hq : Q (.inl (some (.int ((-1))))) h) (ho1 : hk_c1 o1 := by first | exact hk_c1i | exact hk_c1r | exact hk_c10 | exact hk_c1n) : hk_S G m_X9_lies (d + 1) cb sb 5 [o0, o1, o2, o3, o4, o5] [.null] h Q := by
  refine hs_astKN_n dX9_lies_5 (by decide) (hk_nk1 rfl ho1) rfl ?_
  refine hs_aload_nN dX9_lies_6 rfl ?_
  refine hs_ifnonnullN dX9_lies_7 ?_
  refine hs_iconst (v := (-1)) dX9_lies_10 (by decide) ?_
  exact hs_iret dX9_lies_11 rfl hq
theorem b_X9_lies_10 {G : hk_G} {d cb sb : Nat} {h : hk_H} {Q : hk_O → hk_H → Prop} {o0 : Option Value} {o1 : Option Value} {o2 : Option Value} {o3 : Option Value} {o4 : Option Value} {o5 : Option Value} (hq : Q (.inl (some (.int ((-1))))) h) : hk_S G m_X9_lies (d + 1) cb sb 10 [o0, o1, o2, o3, o4, o5] [] h Q := by
  refine hs_iconst (v := (-1)) dX9_lies_10 (by decide) ?_
  exact hs_iret dX9_lies_11 rfl hq
theorem b_X9_lies_12 {G : hk_G} {d cb sb : Nat} {h : hk_H} {Q : hk_O → hk_H → Prop} {o0 : Option Value} {o1 : Option Value} {o2 : Option Value} {o3 : Option Value} {o4 : Option Value} {o5 : Option Value} (k : hk_S G m_X9_lies (d + 1) cb sb 17 [o0, o1, o2, some (.int 0), some (.int 0), o5] [] h Q) (ho2 : hk_c1 o2 := by first | exact hk_c1i | exact hk_c1r | exact hk_c10 | exact hk_c1n) : hk_S G m_X9_lies (d + 1) cb sb 12 [o0, o1, o2, o3, o4, o5] [] h Q := by
  refine hs_iconst (v := 0) dX9_lies_12 (by decide) ?_
  refine hs_istK_n dX9_lies_13 (by decide) (hk_nk1 rfl ho2) rfl ?_
  refine hs_iconst (v := 0) dX9_lies_14 (by decide) ?_
  refine hs_istK dX9_lies_15 (by decide) (hk_nk1 rfl hk_c1i) rfl ?_
  exact k
theorem b_X9_lies_17 {G : hk_G} {d cb sb : Nat} {h : hk_H} {Q : hk_O → hk_H → Prop} {x4 : Int32} {r0 : Nat} {fs1 : List Value} {v3 : Nat} {fs5 : List Value} {v7 : Int32} {o1 : Option Value} {o2 : Option Value} {o3 : Option Value} {o5 : Option Value} (hg2 : h.2 r0 = some (.inr (9, fs1))) (hv4 : fs1[2]? = some (.ref v3)) (hg6 : h.2 v3 = some (.inr (8, fs5))) (hv8 : fs5[5]? = some (.int v7)) (kt : v7 ≤ x4 → hk_S G m_X9_lies (d + 1) cb sb 65 [some (.ref r0), o1, o2, o3, some (.int x4), o5] [] h Q) (kf : ¬ v7 ≤ x4 → hk_S G m_X9_lies (d + 1) cb sb 29 [some (.ref r0), o1, o2, o3, some (.int x4), o5] [] h Q) : hk_S G m_X9_lies (d + 1) cb sb 17 [some (.ref r0), o1, o2, o3, some (.int x4), o5] [] h Q := by
  refine hs_iload dX9_lies_17 rfl ?_
  refine hs_aload_n dX9_lies_19 rfl ?_
  refine hs_get dX9_lies_20 fl_X9_27_9 hg2 hv4 ?_
  refine hs_get dX9_lies_23 fl_X9_162_8 hg6 hv8 ?_
  exact hs_icmp_ge dX9_lies_26 (by decide) kt kf
theorem b_X9_lies_29 {G : hk_G} {d cb sb : Nat} {h : hk_H} {Q : hk_O → hk_H → Prop} {o0 : Option Value} {o1 : Option Value} {o2 : Option Value} {o3 : Option Value} {o4 : Option Value} {o5 : Option Value} (k : hk_S G m_X9_lies (d + 1) cb sb 32 [o0, o1, o2, o3, o4, some (.int 0)] [] h Q) (ho4 : hk_c1 o4 := by first | exact hk_c1i | exact hk_c1r | exact hk_c10 | exact hk_c1n) : hk_S G m_X9_lies (d + 1) cb sb 29 [o0, o1, o2, o3, o4, o5] [] h Q := by
  refine hs_iconst (v := 0) dX9_lies_29 (by decide) ?_
  refine hs_istK dX9_lies_30 (by decide) (hk_nk1 rfl ho4) rfl ?_
  exact k
theorem b_X9_lies_32 {G : hk_G} {d cb sb : Nat} {h : hk_H} {Q : hk_O → hk_H → Prop} {x5 : Int32} {r0 : Nat} {fs1 : List Value} {v3 : Int32} {o1 : Option Value} {o2 : Option Value} {o3 : Option Value} {o4 : Option Value} (hg2 : h.2 r0 = some (.inr (9, fs1))) (hv4 : fs1[0]? = some (.int v3)) (kt : v3 ≤ x5 → hk_S G m_X9_lies (d + 1) cb sb 59 [some (.ref r0), o1, o2, o3, o4, some (.int x5)] [] h Q) (kf : ¬ v3 ≤ x5 → hk_S G m_X9_lies (d + 1) cb sb 41 [some (.ref r0), o1, o2, o3, o4, some (.int x5)] [] h Q) : hk_S G m_X9_lies (d + 1) cb sb 32 [some (.ref r0), o1, o2, o3, o4, some (.int x5)] [] h Q := by
  refine hs_iload dX9_lies_32 rfl ?_
  refine hs_aload_n dX9_lies_34 rfl ?_
  refine hs_get dX9_lies_35 fl_X9_18_9 hg2 hv4 ?_
  exact hs_icmp_ge dX9_lies_38 (by decide) kt kf
theorem b_X9_lies_41 {G : hk_G} {d cb sb : Nat} {h : hk_H} {Q : hk_O → hk_H → Prop} {x3 : Int32} {r0 : Nat} {r2 : Nat} {x4 : Int32} {x5 : Int32} {fs_ : List Value} {o1 : Option Value} (hrec : h.2 r0 = some (.inr (9, fs_))) (hc : hk_Ci G m_X9_liesAt d 0 0 [.ref r0, .ref r2, .int x4, .int x5] h (fun z h' => hk_S G m_X9_lies (d + 1) cb sb 51 [some (.ref r0), o1, some (.ref r2), some (.int x3), some (.int x4), some (.int x5)] [.int z, .int x3] h' Q)) : hk_S G m_X9_lies (d + 1) cb sb 41 [some (.ref r0), o1, some (.ref r2), some (.int x3), some (.int x4), some (.int x5)] [] h Q := by
  refine hs_iload_n dX9_lies_41 rfl ?_
  refine hs_aload_n dX9_lies_42 rfl ?_
  refine hs_aload_n dX9_lies_43 rfl ?_
  refine hs_iload dX9_lies_44 rfl ?_
  refine hs_iload dX9_lies_46 rfl ?_
  exact hk_z0 (hs_vir (M' := m_X9_liesAt) (vs := [.ref r2, .int x4, .int x5]) (c1 := 0) (s1 := 0) dX9_lies_48 wd_536 vi_X9_liesAt hrec rfl (Nat.le_of_ble_eq_true rfl) hc hq_i (hc_i (fun z h9 k9 => k9)))
theorem b_X9_lies_51 {G : hk_G} {d cb sb : Nat} {h : hk_H} {Q : hk_O → hk_H → Prop} {s0 : Int32} {s1 : Int32} {x5 : Int32} {o0 : Option Value} {o1 : Option Value} {o2 : Option Value} {o3 : Option Value} {o4 : Option Value} (k : hk_S G m_X9_lies (d + 1) cb sb 32 [o0, o1, o2, some (.int (s0 + s1)), o4, some (.int (x5 + 1))] [] h Q) (ho2 : hk_c1 o2 := by first | exact hk_c1i | exact hk_c1r | exact hk_c10 | exact hk_c1n) (ho4 : hk_c1 o4 := by first | exact hk_c1i | exact hk_c1r | exact hk_c10 | exact hk_c1n) : hk_S G m_X9_lies (d + 1) cb sb 51 [o0, o1, o2, o3, o4, some (.int x5)] [.int s1, .int s0] h Q := by
  refine hs_iadd dX9_lies_51 ?_
  refine hs_istK_n dX9_lies_52 (by decide) (hk_nk1 rfl ho2) rfl ?_
  refine hs_iincK (v := 1) dX9_lies_53 rfl (by decide) (by decide) (hk_nk1 rfl ho4) rfl ?_
  refine hs_goto dX9_lies_56 (tgt := 32) (by decide) ?_
  exact k
theorem b_X9_lies_59 {G : hk_G} {d cb sb : Nat} {h : hk_H} {Q : hk_O → hk_H → Prop} {x4 : Int32} {o0 : Option Value} {o1 : Option Value} {o2 : Option Value} {o3 : Option Value} {o5 : Option Value} (k : hk_S G m_X9_lies (d + 1) cb sb 17 [o0, o1, o2, o3, some (.int (x4 + 1)), o5] [] h Q) (ho3 : hk_c1 o3 := by first | exact hk_c1i | exact hk_c1r | exact hk_c10 | exact hk_c1n) : hk_S G m_X9_lies (d + 1) cb sb 59 [o0, o1, o2, o3, some (.int x4), o5] [] h Q := by
  refine hs_iincK (v := 1) dX9_lies_59 rfl (by decide) (by decide) (hk_nk1 rfl ho3) rfl ?_
  refine hs_goto dX9_lies_62 (tgt := 17) (by decide) ?_
  exact k
theorem b_X9_lies_65 {G : hk_G} {d cb sb : Nat} {h : hk_H} {Q : hk_O → hk_H → Prop} {x3 : Int32} {o0 : Option Value} {o1 : Option Value} {o2 : Option Value} {o4 : Option Value} {o5 : Option Value} (hq : Q (.inl (some (.int x3))) h) : hk_S G m_X9_lies (d + 1) cb sb 65 [o0, o1, o2, some (.int x3), o4, o5] [] h Q := by
  refine hs_iload_n dX9_lies_65 rfl ?_
  exact hs_iret dX9_lies_66 rfl hq
-- HonestHouse.heap(IIZ)I
theorem b_X9_heap_0 {G : hk_G} {d cb sb : Nat} {h : hk_H} {Q : hk_O → hk_H → Prop} {r0 : Nat} {x1 : Int32} {fs_ : List Value} {o2 : Option Value} {o3 : Option Value} {o4 : Option Value} {o5 : Option Value} (hrec : h.2 r0 = some (.inr (9, fs_))) (hc : hk_Cr G m_X9_settledRule d 0 0 [.ref r0, .int x1] h (fun z h' => hk_S G m_X9_heap (d + 1) cb sb 5 [some (.ref r0), some (.int x1), o2, o3, o4, o5] [hk_rf z] h' Q)) : hk_S G m_X9_heap (d + 1) cb sb 0 [some (.ref r0), some (.int x1), o2, o3, o4, o5] [] h Q := by
  refine hs_aload_n dX9_heap_0 rfl ?_
  refine hs_iload_n dX9_heap_1 rfl ?_
  exact hk_z0 (hs_vir (M' := m_X9_settledRule) (vs := [.int x1]) (c1 := 0) (s1 := 0) dX9_heap_2 wd_500 vi_X9_settledRule hrec rfl (Nat.le_of_ble_eq_true rfl) hc hq_r (hc_r (fun z h9 k9 => k9)))
theorem b_X9_heap_5 {G : hk_G} {d cb sb : Nat} {h : hk_H} {Q : hk_O → hk_H → Prop} {s0 : Nat} {x2 : Int32} {r0 : Nat} {fs1 : List Value} {v3 : Int32} {o1 : Option Value} {o3 : Option Value} {o4 : Option Value} {o5 : Option Value} (hg2 : h.2 r0 = some (.inr (9, fs1))) (hv4 : fs1[0]? = some (.int v3)) (hc : hk_Ci G m_X9_isWithin d 0 0 [.int x2, .int 1, .int ((1 <<< (v3 &&& 31)) - 1)] h (fun z h' => hk_S G m_X9_heap (d + 1) cb sb 25 [some (.ref r0), o1, some (.int x2), o3, some (.ref s0), o5] [.int z] h' Q)) (ho3 : hk_c1 o3 := by first | exact hk_c1i | exact hk_c1r | exact hk_c10 | exact hk_c1n) : hk_S G m_X9_heap (d + 1) cb sb 5 [some (.ref r0), o1, some (.int x2), o3, o4, o5] [.ref s0] h Q := by
  refine hs_astK dX9_heap_5 (by decide) (hk_nk1 rfl ho3) rfl ?_
  refine hs_aload dX9_heap_7 rfl ?_
  refine hs_ifnull dX9_heap_9 ?_
  refine hs_iload_n dX9_heap_12 rfl ?_
  refine hs_iconst (v := 1) dX9_heap_13 (by decide) ?_
  refine hs_iconst (v := 1) dX9_heap_14 (by decide) ?_
  refine hs_aload_n dX9_heap_15 rfl ?_
  refine hs_get dX9_heap_16 fl_X9_18_9 hg2 hv4 ?_
  refine hs_ishl dX9_heap_19 ?_
  refine hs_iconst (v := 1) dX9_heap_20 (by decide) ?_
  refine hs_isub dX9_heap_21 ?_
  exact hk_z0 (hs_sta (M' := m_X9_isWithin) (vs := [.int x2, .int 1, .int ((1 <<< (v3 &&& 31)) - 1)]) (c1 := 0) (s1 := 0) dX9_heap_22 wd_244 st_X9_isWithin rfl (Nat.le_of_ble_eq_true rfl) hc hq_i (hc_i (fun z h9 k9 => k9)))
theorem b_X9_heap_5N0 {G : hk_G} {d cb sb : Nat} {h : hk_H} {Q : hk_O → hk_H → Prop} {o0 : Option Value} {o1 : Option Value} {o2 : Option Value} {o3 : Option Value} {o4 : Option Value} {o5 : Option Value} (hq : Q (.inl (some (.int ((-1))))) h) (ho3 : hk_c1 o3 := by first | exact hk_c1i | exact hk_c1r | exact hk_c10 | exact hk_c1n) : hk_S G m_X9_heap (d + 1) cb sb 5 [o0, o1, o2, o3, o4, o5] [.null] h Q := by
  refine hs_astKN dX9_heap_5 (by decide) (hk_nk1 rfl ho3) rfl ?_
  refine hs_aloadN dX9_heap_7 rfl ?_
  refine hs_ifnullN dX9_heap_9 (tgt := 28) (by decide) ?_
  refine hs_iconst (v := (-1)) dX9_heap_28 (by decide) ?_
  exact hs_iret dX9_heap_29 rfl hq
theorem b_X9_heap_12 {G : hk_G} {d cb sb : Nat} {h : hk_H} {Q : hk_O → hk_H → Prop} {x2 : Int32} {r0 : Nat} {fs1 : List Value} {v3 : Int32} {o1 : Option Value} {o3 : Option Value} {o4 : Option Value} {o5 : Option Value} (hg2 : h.2 r0 = some (.inr (9, fs1))) (hv4 : fs1[0]? = some (.int v3)) (hc : hk_Ci G m_X9_isWithin d 0 0 [.int x2, .int 1, .int ((1 <<< (v3 &&& 31)) - 1)] h (fun z h' => hk_S G m_X9_heap (d + 1) cb sb 25 [some (.ref r0), o1, some (.int x2), o3, o4, o5] [.int z] h' Q)) : hk_S G m_X9_heap (d + 1) cb sb 12 [some (.ref r0), o1, some (.int x2), o3, o4, o5] [] h Q := by
  refine hs_iload_n dX9_heap_12 rfl ?_
  refine hs_iconst (v := 1) dX9_heap_13 (by decide) ?_
  refine hs_iconst (v := 1) dX9_heap_14 (by decide) ?_
  refine hs_aload_n dX9_heap_15 rfl ?_
  refine hs_get dX9_heap_16 fl_X9_18_9 hg2 hv4 ?_
  refine hs_ishl dX9_heap_19 ?_
  refine hs_iconst (v := 1) dX9_heap_20 (by decide) ?_
  refine hs_isub dX9_heap_21 ?_
  exact hk_z0 (hs_sta (M' := m_X9_isWithin) (vs := [.int x2, .int 1, .int ((1 <<< (v3 &&& 31)) - 1)]) (c1 := 0) (s1 := 0) dX9_heap_22 wd_244 st_X9_isWithin rfl (Nat.le_of_ble_eq_true rfl) hc hq_i (hc_i (fun z h9 k9 => k9)))
theorem b_X9_heap_25 {G : hk_G} {d cb sb : Nat} {h : hk_H} {Q : hk_O → hk_H → Prop} {s0 : Int32} {o0 : Option Value} {o1 : Option Value} {o2 : Option Value} {o3 : Option Value} {o4 : Option Value} {o5 : Option Value} (kt : ¬ s0 = 0 → hk_S G m_X9_heap (d + 1) cb sb 30 [o0, o1, o2, o3, o4, o5] [] h Q) (kf : s0 = 0 → hk_S G m_X9_heap (d + 1) cb sb 28 [o0, o1, o2, o3, o4, o5] [] h Q) : hk_S G m_X9_heap (d + 1) cb sb 25 [o0, o1, o2, o3, o4, o5] [.int s0] h Q := by
  exact hs_if_ne dX9_heap_25 (by decide) kt kf
theorem b_X9_heap_28 {G : hk_G} {d cb sb : Nat} {h : hk_H} {Q : hk_O → hk_H → Prop} {o0 : Option Value} {o1 : Option Value} {o2 : Option Value} {o3 : Option Value} {o4 : Option Value} {o5 : Option Value} (hq : Q (.inl (some (.int ((-1))))) h) : hk_S G m_X9_heap (d + 1) cb sb 28 [o0, o1, o2, o3, o4, o5] [] h Q := by
  refine hs_iconst (v := (-1)) dX9_heap_28 (by decide) ?_
  exact hs_iret dX9_heap_29 rfl hq
theorem b_X9_heap_30 {G : hk_G} {d cb sb : Nat} {h : hk_H} {Q : hk_O → hk_H → Prop} {r0 : Nat} {fs1 : List Value} {v3 : Nat} {r4 : Nat} {x2 : Int32} {fs_ : List Value} {o1 : Option Value} {o3 : Option Value} {o5 : Option Value} (hg2 : h.2 r0 = some (.inr (9, fs1))) (hv4 : fs1[5]? = some (.ref v3)) (hrec : h.2 v3 = some (.inr (0, fs_))) (hc : hk_Ci G m_X0_firstRow d 0 0 [.ref v3, .ref r4, .int x2] h (fun z h' => hk_S G m_X9_heap (d + 1) cb sb 40 [some (.ref r0), o1, some (.int x2), o3, some (.ref r4), o5] [.int z] h' Q)) : hk_S G m_X9_heap (d + 1) cb sb 30 [some (.ref r0), o1, some (.int x2), o3, some (.ref r4), o5] [] h Q := by
  refine hs_aload_n dX9_heap_30 rfl ?_
  refine hs_get dX9_heap_31 fl_X9_42_9 hg2 hv4 ?_
  refine hs_aload dX9_heap_34 rfl ?_
  refine hs_iload_n dX9_heap_36 rfl ?_
  exact hk_z0 (hs_vir (M' := m_X0_firstRow) (vs := [.ref r4, .int x2]) (c1 := 0) (s1 := 0) dX9_heap_37 wd_544 vi_X0_firstRow hrec rfl (Nat.le_of_ble_eq_true rfl) hc hq_i (hc_i (fun z h9 k9 => k9)))
theorem b_X9_heap_40 {G : hk_G} {d cb sb : Nat} {h : hk_H} {Q : hk_O → hk_H → Prop} {s0 : Int32} {r0 : Nat} {fs1 : List Value} {v3 : Nat} {fs5 : List Value} {v7 : Int32} {o1 : Option Value} {o2 : Option Value} {o3 : Option Value} {o4 : Option Value} {o5 : Option Value} (hg2 : h.2 r0 = some (.inr (9, fs1))) (hv4 : fs1[2]? = some (.ref v3)) (hg6 : h.2 v3 = some (.inr (8, fs5))) (hv8 : fs5[5]? = some (.int v7)) (kt : s0 < v7 → hk_S G m_X9_heap (d + 1) cb sb 57 [some (.ref r0), o1, o2, o3, o4, some (.int s0)] [] h Q) (kf : ¬ s0 < v7 → hk_S G m_X9_heap (d + 1) cb sb 54 [some (.ref r0), o1, o2, o3, o4, some (.int s0)] [] h Q) (ho4 : hk_c1 o4 := by first | exact hk_c1i | exact hk_c1r | exact hk_c10 | exact hk_c1n) : hk_S G m_X9_heap (d + 1) cb sb 40 [some (.ref r0), o1, o2, o3, o4, o5] [.int s0] h Q := by
  refine hs_istK dX9_heap_40 (by decide) (hk_nk1 rfl ho4) rfl ?_
  refine hs_iload dX9_heap_42 rfl ?_
  refine hs_aload_n dX9_heap_44 rfl ?_
  refine hs_get dX9_heap_45 fl_X9_27_9 hg2 hv4 ?_
  refine hs_get dX9_heap_48 fl_X9_162_8 hg6 hv8 ?_
  exact hs_icmp_lt dX9_heap_51 (by decide) kt kf
theorem b_X9_heap_54 {G : hk_G} {d cb sb : Nat} {h : hk_H} {Q : hk_O → hk_H → Prop} {o0 : Option Value} {o1 : Option Value} {o2 : Option Value} {o3 : Option Value} {o4 : Option Value} {o5 : Option Value} (hq : Q (.inl (some (.int ((-2))))) h) : hk_S G m_X9_heap (d + 1) cb sb 54 [o0, o1, o2, o3, o4, o5] [] h Q := by
  refine hs_bipush (v := (-2)) dX9_heap_54 (by decide) ?_
  exact hs_iret dX9_heap_56 rfl hq
theorem b_X9_heap_57 {G : hk_G} {d cb sb : Nat} {h : hk_H} {Q : hk_O → hk_H → Prop} {x3 : Int32} {o0 : Option Value} {o1 : Option Value} {o2 : Option Value} {o4 : Option Value} {o5 : Option Value} (kt : x3 = 0 → hk_S G m_X9_heap (d + 1) cb sb 75 [o0, o1, o2, some (.int x3), o4, o5] [] h Q) (kf : ¬ x3 = 0 → hk_S G m_X9_heap (d + 1) cb sb 61 [o0, o1, o2, some (.int x3), o4, o5] [] h Q) : hk_S G m_X9_heap (d + 1) cb sb 57 [o0, o1, o2, some (.int x3), o4, o5] [] h Q := by
  refine hs_iload_n dX9_heap_57 rfl ?_
  exact hs_if_eq dX9_heap_58 (by decide) kt kf
theorem b_X9_heap_61 {G : hk_G} {d cb sb : Nat} {h : hk_H} {Q : hk_O → hk_H → Prop} {r0 : Nat} {fs1 : List Value} {v3 : Nat} {r4 : Nat} {x5 : Int32} {fs_ : List Value} {o1 : Option Value} {o2 : Option Value} {o3 : Option Value} (hg2 : h.2 r0 = some (.inr (9, fs1))) (hv4 : fs1[5]? = some (.ref v3)) (hrec : h.2 v3 = some (.inr (0, fs_))) (hc : hk_Ci G m_X0_leastSaid d 0 0 [.ref v3, .ref r4, .int x5] h (fun z h' => hk_S G m_X9_heap (d + 1) cb sb 72 [some (.ref r0), o1, o2, o3, some (.ref r4), some (.int x5)] [.int z] h' Q)) : hk_S G m_X9_heap (d + 1) cb sb 61 [some (.ref r0), o1, o2, o3, some (.ref r4), some (.int x5)] [] h Q := by
  refine hs_aload_n dX9_heap_61 rfl ?_
  refine hs_get dX9_heap_62 fl_X9_42_9 hg2 hv4 ?_
  refine hs_aload dX9_heap_65 rfl ?_
  refine hs_iload dX9_heap_67 rfl ?_
  exact hk_z0 (hs_vir (M' := m_X0_leastSaid) (vs := [.ref r4, .int x5]) (c1 := 0) (s1 := 0) dX9_heap_69 wd_605 vi_X0_leastSaid hrec rfl (Nat.le_of_ble_eq_true rfl) hc hq_i (hc_i (fun z h9 k9 => k9)))
theorem b_X9_heap_72 {G : hk_G} {d cb sb : Nat} {h : hk_H} {Q : hk_O → hk_H → Prop} {s0 : Int32} {o0 : Option Value} {o1 : Option Value} {o2 : Option Value} {o3 : Option Value} {o4 : Option Value} {o5 : Option Value} (hq : Q (.inl (some (.int s0))) h) : hk_S G m_X9_heap (d + 1) cb sb 72 [o0, o1, o2, o3, o4, o5] [.int s0] h Q := by
  refine hs_goto dX9_heap_72 (tgt := 77) (by decide) ?_
  exact hs_iret dX9_heap_77 rfl hq
theorem b_X9_heap_75 {G : hk_G} {d cb sb : Nat} {h : hk_H} {Q : hk_O → hk_H → Prop} {x5 : Int32} {o0 : Option Value} {o1 : Option Value} {o2 : Option Value} {o3 : Option Value} {o4 : Option Value} (hq : Q (.inl (some (.int x5))) h) : hk_S G m_X9_heap (d + 1) cb sb 75 [o0, o1, o2, o3, o4, some (.int x5)] [] h Q := by
  refine hs_iload dX9_heap_75 rfl ?_
  exact hs_iret dX9_heap_77 rfl hq
theorem b_X9_heap_77 {G : hk_G} {d cb sb : Nat} {h : hk_H} {Q : hk_O → hk_H → Prop} {s0 : Int32} {o0 : Option Value} {o1 : Option Value} {o2 : Option Value} {o3 : Option Value} {o4 : Option Value} {o5 : Option Value} (hq : Q (.inl (some (.int s0))) h) : hk_S G m_X9_heap (d + 1) cb sb 77 [o0, o1, o2, o3, o4, o5] [.int s0] h Q := by
  exact hs_iret dX9_heap_77 rfl hq
-- HonestHouse.onto(I)I
theorem b_X9_onto_0 {G : hk_G} {d cb sb : Nat} {h : hk_H} {Q : hk_O → hk_H → Prop} {r0 : Nat} {x1 : Int32} {fs_ : List Value} {o2 : Option Value} {o3 : Option Value} {o4 : Option Value} (hrec : h.2 r0 = some (.inr (9, fs_))) (hc : hk_Cr G m_X9_settledRule d 0 0 [.ref r0, .int x1] h (fun z h' => hk_S G m_X9_onto (d + 1) cb sb 5 [some (.ref r0), some (.int x1), o2, o3, o4] [hk_rf z] h' Q)) : hk_S G m_X9_onto (d + 1) cb sb 0 [some (.ref r0), some (.int x1), o2, o3, o4] [] h Q := by
  refine hs_aload_n dX9_onto_0 rfl ?_
  refine hs_iload_n dX9_onto_1 rfl ?_
  exact hk_z0 (hs_vir (M' := m_X9_settledRule) (vs := [.int x1]) (c1 := 0) (s1 := 0) dX9_onto_2 wd_500 vi_X9_settledRule hrec rfl (Nat.le_of_ble_eq_true rfl) hc hq_r (hc_r (fun z h9 k9 => k9)))
theorem b_X9_onto_5 {G : hk_G} {d cb sb : Nat} {h : hk_H} {Q : hk_O → hk_H → Prop} {s0 : Nat} {o0 : Option Value} {o1 : Option Value} {o2 : Option Value} {o3 : Option Value} {o4 : Option Value} (k : hk_S G m_X9_onto (d + 1) cb sb 17 [o0, o1, some (.ref s0), some (.int 0), some (.int 0)] [] h Q) (ho1 : hk_c1 o1 := by first | exact hk_c1i | exact hk_c1r | exact hk_c10 | exact hk_c1n) : hk_S G m_X9_onto (d + 1) cb sb 5 [o0, o1, o2, o3, o4] [.ref s0] h Q := by
  refine hs_astK_n dX9_onto_5 (by decide) (hk_nk1 rfl ho1) rfl ?_
  refine hs_aload_n dX9_onto_6 rfl ?_
  refine hs_ifnonnull dX9_onto_7 (tgt := 12) (by decide) ?_
  refine hs_iconst (v := 0) dX9_onto_12 (by decide) ?_
  refine hs_istK_n dX9_onto_13 (by decide) (hk_nk1 rfl hk_c1r) rfl ?_
  refine hs_iconst (v := 0) dX9_onto_14 (by decide) ?_
  refine hs_istK dX9_onto_15 (by decide) (hk_nk1 rfl hk_c1i) rfl ?_
  exact k
theorem b_X9_onto_5N0 {G : hk_G} {d cb sb : Nat} {h : hk_H} {Q : hk_O → hk_H → Prop} {o0 : Option Value} {o1 : Option Value} {o2 : Option Value} {o3 : Option Value} {o4 : Option Value} (hq : Q (.inl (some (.int ((-1))))) h) (ho1 : hk_c1 o1 := by first | exact hk_c1i | exact hk_c1r | exact hk_c10 | exact hk_c1n) : hk_S G m_X9_onto (d + 1) cb sb 5 [o0, o1, o2, o3, o4] [.null] h Q := by
  refine hs_astKN_n dX9_onto_5 (by decide) (hk_nk1 rfl ho1) rfl ?_
  refine hs_aload_nN dX9_onto_6 rfl ?_
  refine hs_ifnonnullN dX9_onto_7 ?_
  refine hs_iconst (v := (-1)) dX9_onto_10 (by decide) ?_
  exact hs_iret dX9_onto_11 rfl hq
theorem b_X9_onto_10 {G : hk_G} {d cb sb : Nat} {h : hk_H} {Q : hk_O → hk_H → Prop} {o0 : Option Value} {o1 : Option Value} {o2 : Option Value} {o3 : Option Value} {o4 : Option Value} (hq : Q (.inl (some (.int ((-1))))) h) : hk_S G m_X9_onto (d + 1) cb sb 10 [o0, o1, o2, o3, o4] [] h Q := by
  refine hs_iconst (v := (-1)) dX9_onto_10 (by decide) ?_
  exact hs_iret dX9_onto_11 rfl hq
theorem b_X9_onto_12 {G : hk_G} {d cb sb : Nat} {h : hk_H} {Q : hk_O → hk_H → Prop} {o0 : Option Value} {o1 : Option Value} {o2 : Option Value} {o3 : Option Value} {o4 : Option Value} (k : hk_S G m_X9_onto (d + 1) cb sb 17 [o0, o1, o2, some (.int 0), some (.int 0)] [] h Q) (ho2 : hk_c1 o2 := by first | exact hk_c1i | exact hk_c1r | exact hk_c10 | exact hk_c1n) : hk_S G m_X9_onto (d + 1) cb sb 12 [o0, o1, o2, o3, o4] [] h Q := by
  refine hs_iconst (v := 0) dX9_onto_12 (by decide) ?_
  refine hs_istK_n dX9_onto_13 (by decide) (hk_nk1 rfl ho2) rfl ?_
  refine hs_iconst (v := 0) dX9_onto_14 (by decide) ?_
  refine hs_istK dX9_onto_15 (by decide) (hk_nk1 rfl hk_c1i) rfl ?_
  exact k
theorem b_X9_onto_17 {G : hk_G} {d cb sb : Nat} {h : hk_H} {Q : hk_O → hk_H → Prop} {x4 : Int32} {r0 : Nat} {fs1 : List Value} {v3 : Nat} {fs5 : List Value} {v7 : Int32} {o1 : Option Value} {o2 : Option Value} {o3 : Option Value} (hg2 : h.2 r0 = some (.inr (9, fs1))) (hv4 : fs1[2]? = some (.ref v3)) (hg6 : h.2 v3 = some (.inr (8, fs5))) (hv8 : fs5[5]? = some (.int v7)) (kt : v7 ≤ x4 → hk_S G m_X9_onto (d + 1) cb sb 46 [some (.ref r0), o1, o2, o3, some (.int x4)] [] h Q) (kf : ¬ v7 ≤ x4 → hk_S G m_X9_onto (d + 1) cb sb 29 [some (.ref r0), o1, o2, o3, some (.int x4)] [] h Q) : hk_S G m_X9_onto (d + 1) cb sb 17 [some (.ref r0), o1, o2, o3, some (.int x4)] [] h Q := by
  refine hs_iload dX9_onto_17 rfl ?_
  refine hs_aload_n dX9_onto_19 rfl ?_
  refine hs_get dX9_onto_20 fl_X9_27_9 hg2 hv4 ?_
  refine hs_get dX9_onto_23 fl_X9_162_8 hg6 hv8 ?_
  exact hs_icmp_ge dX9_onto_26 (by decide) kt kf
theorem b_X9_onto_29 {G : hk_G} {d cb sb : Nat} {h : hk_H} {Q : hk_O → hk_H → Prop} {x3 : Int32} {r2 : Nat} {x4 : Int32} {M' : hk_M} {ci_ : Nat} {fs_ : List Value} {o0 : Option Value} {o1 : Option Value} (hdis : hk_dis yX5_endAt ci_ M' 1) (hrec : h.2 r2 = some (.inr (ci_, fs_))) (hc : hk_Ci G M' d 0 0 [.ref r2, .int x4] h (fun z h' => hk_S G m_X9_onto (d + 1) cb sb 37 [o0, o1, some (.ref r2), some (.int x3), some (.int x4)] [.int z, .int 1, .int x3] h' Q)) : hk_S G m_X9_onto (d + 1) cb sb 29 [o0, o1, some (.ref r2), some (.int x3), some (.int x4)] [] h Q := by
  refine hs_iload_n dX9_onto_29 rfl ?_
  refine hs_iconst (v := 1) dX9_onto_30 (by decide) ?_
  refine hs_aload_n dX9_onto_31 rfl ?_
  refine hs_iload dX9_onto_32 rfl ?_
  exact hk_z0 (hs_dis (x := yX5_endAt) (vs := [.int x4]) (c1 := 0) (s1 := 0) dX9_onto_34 wd_479 hdis hrec rfl (Nat.le_of_ble_eq_true rfl) hc hq_i (hc_i (fun z h9 k9 => k9)))
theorem b_X9_onto_37 {G : hk_G} {d cb sb : Nat} {h : hk_H} {Q : hk_O → hk_H → Prop} {s0 : Int32} {s1 : Int32} {s2 : Int32} {x4 : Int32} {o0 : Option Value} {o1 : Option Value} {o2 : Option Value} {o3 : Option Value} (k : hk_S G m_X9_onto (d + 1) cb sb 17 [o0, o1, o2, some (.int (s0 ||| (s1 <<< (s2 &&& 31)))), some (.int (x4 + 1))] [] h Q) (ho2 : hk_c1 o2 := by first | exact hk_c1i | exact hk_c1r | exact hk_c10 | exact hk_c1n) : hk_S G m_X9_onto (d + 1) cb sb 37 [o0, o1, o2, o3, some (.int x4)] [.int s2, .int s1, .int s0] h Q := by
  refine hs_ishl dX9_onto_37 ?_
  refine hs_ior dX9_onto_38 ?_
  refine hs_istK_n dX9_onto_39 (by decide) (hk_nk1 rfl ho2) rfl ?_
  refine hs_iincK (v := 1) dX9_onto_40 rfl (by decide) (by decide) (hk_nk1 rfl hk_c1i) rfl ?_
  refine hs_goto dX9_onto_43 (tgt := 17) (by decide) ?_
  exact k
theorem b_X9_onto_46 {G : hk_G} {d cb sb : Nat} {h : hk_H} {Q : hk_O → hk_H → Prop} {x3 : Int32} {o0 : Option Value} {o1 : Option Value} {o2 : Option Value} {o4 : Option Value} (hc : hk_Ci G m_J6_bitCount_0f7a4 d 0 0 [.int x3] h (fun z h' => hk_S G m_X9_onto (d + 1) cb sb 50 [o0, o1, o2, some (.int x3), o4] [.int z] h' Q)) : hk_S G m_X9_onto (d + 1) cb sb 46 [o0, o1, o2, some (.int x3), o4] [] h Q := by
  refine hs_iload_n dX9_onto_46 rfl ?_
  exact hk_z0 (hs_sta (M' := m_J6_bitCount_0f7a4) (vs := [.int x3]) (c1 := 0) (s1 := 0) dX9_onto_47 wd_613 st_J6_bitCount_0f7a4 rfl (Nat.le_of_ble_eq_true rfl) hc hq_i (hc_i (fun z h9 k9 => k9)))
theorem b_X9_onto_50 {G : hk_G} {d cb sb : Nat} {h : hk_H} {Q : hk_O → hk_H → Prop} {s0 : Int32} {o0 : Option Value} {o1 : Option Value} {o2 : Option Value} {o3 : Option Value} {o4 : Option Value} (hq : Q (.inl (some (.int s0))) h) : hk_S G m_X9_onto (d + 1) cb sb 50 [o0, o1, o2, o3, o4] [.int s0] h Q := by
  exact hs_iret dX9_onto_50 rfl hq
-- HonestHouse.dictator(I)I
theorem b_X9_dictator_0 {G : hk_G} {d cb sb : Nat} {h : hk_H} {Q : hk_O → hk_H → Prop} {r0 : Nat} {x1 : Int32} {fs_ : List Value} {o2 : Option Value} {o3 : Option Value} (hrec : h.2 r0 = some (.inr (9, fs_))) (hc : hk_Cr G m_X9_settledRule d 0 0 [.ref r0, .int x1] h (fun z h' => hk_S G m_X9_dictator (d + 1) cb sb 5 [some (.ref r0), some (.int x1), o2, o3] [hk_rf z] h' Q)) : hk_S G m_X9_dictator (d + 1) cb sb 0 [some (.ref r0), some (.int x1), o2, o3] [] h Q := by
  refine hs_aload_n dX9_dictator_0 rfl ?_
  refine hs_iload_n dX9_dictator_1 rfl ?_
  exact hk_z0 (hs_vir (M' := m_X9_settledRule) (vs := [.int x1]) (c1 := 0) (s1 := 0) dX9_dictator_2 wd_500 vi_X9_settledRule hrec rfl (Nat.le_of_ble_eq_true rfl) hc hq_r (hc_r (fun z h9 k9 => k9)))
theorem b_X9_dictator_5 {G : hk_G} {d cb sb : Nat} {h : hk_H} {Q : hk_O → hk_H → Prop} {s0 : Nat} {o0 : Option Value} {o1 : Option Value} {o2 : Option Value} {o3 : Option Value} (k : hk_S G m_X9_dictator (d + 1) cb sb 14 [o0, o1, some (.ref s0), some (.int 0)] [] h Q) (ho1 : hk_c1 o1 := by first | exact hk_c1i | exact hk_c1r | exact hk_c10 | exact hk_c1n) : hk_S G m_X9_dictator (d + 1) cb sb 5 [o0, o1, o2, o3] [.ref s0] h Q := by
  refine hs_astK_n dX9_dictator_5 (by decide) (hk_nk1 rfl ho1) rfl ?_
  refine hs_aload_n dX9_dictator_6 rfl ?_
  refine hs_ifnonnull dX9_dictator_7 (tgt := 12) (by decide) ?_
  refine hs_iconst (v := 0) dX9_dictator_12 (by decide) ?_
  refine hs_istK_n dX9_dictator_13 (by decide) (hk_nk1 rfl hk_c1r) rfl ?_
  exact k
theorem b_X9_dictator_5N0 {G : hk_G} {d cb sb : Nat} {h : hk_H} {Q : hk_O → hk_H → Prop} {o0 : Option Value} {o1 : Option Value} {o2 : Option Value} {o3 : Option Value} (hq : Q (.inl (some (.int ((-1))))) h) (ho1 : hk_c1 o1 := by first | exact hk_c1i | exact hk_c1r | exact hk_c10 | exact hk_c1n) : hk_S G m_X9_dictator (d + 1) cb sb 5 [o0, o1, o2, o3] [.null] h Q := by
  refine hs_astKN_n dX9_dictator_5 (by decide) (hk_nk1 rfl ho1) rfl ?_
  refine hs_aload_nN dX9_dictator_6 rfl ?_
  refine hs_ifnonnullN dX9_dictator_7 ?_
  refine hs_iconst (v := (-1)) dX9_dictator_10 (by decide) ?_
  exact hs_iret dX9_dictator_11 rfl hq
theorem b_X9_dictator_10 {G : hk_G} {d cb sb : Nat} {h : hk_H} {Q : hk_O → hk_H → Prop} {o0 : Option Value} {o1 : Option Value} {o2 : Option Value} {o3 : Option Value} (hq : Q (.inl (some (.int ((-1))))) h) : hk_S G m_X9_dictator (d + 1) cb sb 10 [o0, o1, o2, o3] [] h Q := by
  refine hs_iconst (v := (-1)) dX9_dictator_10 (by decide) ?_
  exact hs_iret dX9_dictator_11 rfl hq
theorem b_X9_dictator_12 {G : hk_G} {d cb sb : Nat} {h : hk_H} {Q : hk_O → hk_H → Prop} {o0 : Option Value} {o1 : Option Value} {o2 : Option Value} {o3 : Option Value} (k : hk_S G m_X9_dictator (d + 1) cb sb 14 [o0, o1, o2, some (.int 0)] [] h Q) (ho2 : hk_c1 o2 := by first | exact hk_c1i | exact hk_c1r | exact hk_c10 | exact hk_c1n) : hk_S G m_X9_dictator (d + 1) cb sb 12 [o0, o1, o2, o3] [] h Q := by
  refine hs_iconst (v := 0) dX9_dictator_12 (by decide) ?_
  refine hs_istK_n dX9_dictator_13 (by decide) (hk_nk1 rfl ho2) rfl ?_
  exact k
theorem b_X9_dictator_14 {G : hk_G} {d cb sb : Nat} {h : hk_H} {Q : hk_O → hk_H → Prop} {x3 : Int32} {r0 : Nat} {fs1 : List Value} {v3 : Int32} {o1 : Option Value} {o2 : Option Value} (hg2 : h.2 r0 = some (.inr (9, fs1))) (hv4 : fs1[0]? = some (.int v3)) (kt : v3 ≤ x3 → hk_S G m_X9_dictator (d + 1) cb sb 39 [some (.ref r0), o1, o2, some (.int x3)] [] h Q) (kf : ¬ v3 ≤ x3 → hk_S G m_X9_dictator (d + 1) cb sb 22 [some (.ref r0), o1, o2, some (.int x3)] [] h Q) : hk_S G m_X9_dictator (d + 1) cb sb 14 [some (.ref r0), o1, o2, some (.int x3)] [] h Q := by
  refine hs_iload_n dX9_dictator_14 rfl ?_
  refine hs_aload_n dX9_dictator_15 rfl ?_
  refine hs_get dX9_dictator_16 fl_X9_18_9 hg2 hv4 ?_
  exact hs_icmp_ge dX9_dictator_19 (by decide) kt kf
theorem b_X9_dictator_22 {G : hk_G} {d cb sb : Nat} {h : hk_H} {Q : hk_O → hk_H → Prop} {r0 : Nat} {r2 : Nat} {x3 : Int32} {fs_ : List Value} {o1 : Option Value} (hrec : h.2 r0 = some (.inr (9, fs_))) (hc : hk_Ci G m_X9_isDictator d 0 0 [.ref r0, .ref r2, .int x3] h (fun z h' => hk_S G m_X9_dictator (d + 1) cb sb 28 [some (.ref r0), o1, some (.ref r2), some (.int x3)] [.int z] h' Q)) : hk_S G m_X9_dictator (d + 1) cb sb 22 [some (.ref r0), o1, some (.ref r2), some (.int x3)] [] h Q := by
  refine hs_aload_n dX9_dictator_22 rfl ?_
  refine hs_aload_n dX9_dictator_23 rfl ?_
  refine hs_iload_n dX9_dictator_24 rfl ?_
  exact hk_z0 (hs_vir (M' := m_X9_isDictator) (vs := [.ref r2, .int x3]) (c1 := 0) (s1 := 0) dX9_dictator_25 wd_618 vi_X9_isDictator hrec rfl (Nat.le_of_ble_eq_true rfl) hc hq_i (hc_i (fun z h9 k9 => k9)))
theorem b_X9_dictator_28 {G : hk_G} {d cb sb : Nat} {h : hk_H} {Q : hk_O → hk_H → Prop} {s0 : Int32} {o0 : Option Value} {o1 : Option Value} {o2 : Option Value} {o3 : Option Value} (kt : s0 = 0 → hk_S G m_X9_dictator (d + 1) cb sb 33 [o0, o1, o2, o3] [] h Q) (kf : ¬ s0 = 0 → hk_S G m_X9_dictator (d + 1) cb sb 31 [o0, o1, o2, o3] [] h Q) : hk_S G m_X9_dictator (d + 1) cb sb 28 [o0, o1, o2, o3] [.int s0] h Q := by
  exact hs_if_eq dX9_dictator_28 (by decide) kt kf
theorem b_X9_dictator_31 {G : hk_G} {d cb sb : Nat} {h : hk_H} {Q : hk_O → hk_H → Prop} {x3 : Int32} {o0 : Option Value} {o1 : Option Value} {o2 : Option Value} (hq : Q (.inl (some (.int x3))) h) : hk_S G m_X9_dictator (d + 1) cb sb 31 [o0, o1, o2, some (.int x3)] [] h Q := by
  refine hs_iload_n dX9_dictator_31 rfl ?_
  exact hs_iret dX9_dictator_32 rfl hq
theorem b_X9_dictator_33 {G : hk_G} {d cb sb : Nat} {h : hk_H} {Q : hk_O → hk_H → Prop} {x3 : Int32} {o0 : Option Value} {o1 : Option Value} {o2 : Option Value} (k : hk_S G m_X9_dictator (d + 1) cb sb 14 [o0, o1, o2, some (.int (x3 + 1))] [] h Q) (ho2 : hk_c1 o2 := by first | exact hk_c1i | exact hk_c1r | exact hk_c10 | exact hk_c1n) : hk_S G m_X9_dictator (d + 1) cb sb 33 [o0, o1, o2, some (.int x3)] [] h Q := by
  refine hs_iincK (v := 1) dX9_dictator_33 rfl (by decide) (by decide) (hk_nk1 rfl ho2) rfl ?_
  refine hs_goto dX9_dictator_36 (tgt := 14) (by decide) ?_
  exact k
theorem b_X9_dictator_39 {G : hk_G} {d cb sb : Nat} {h : hk_H} {Q : hk_O → hk_H → Prop} {o0 : Option Value} {o1 : Option Value} {o2 : Option Value} {o3 : Option Value} (hq : Q (.inl (some (.int ((-2))))) h) : hk_S G m_X9_dictator (d + 1) cb sb 39 [o0, o1, o2, o3] [] h Q := by
  refine hs_bipush (v := (-2)) dX9_dictator_39 (by decide) ?_
  exact hs_iret dX9_dictator_41 rfl hq
-- HonestHouse.budget(IZ)J
theorem b_X9_budget_0 {G : hk_G} {d cb sb : Nat} {h : hk_H} {Q : hk_O → hk_H → Prop} {r0 : Nat} {x1 : Int32} {fs_ : List Value} {o2 : Option Value} {o3 : Option Value} {o4 : Option Value} {o5 : Option Value} {o6 : Option Value} (hrec : h.2 r0 = some (.inr (9, fs_))) (hc : hk_Cr G m_X9_settledRule d 0 0 [.ref r0, .int x1] h (fun z h' => hk_S G m_X9_budget (d + 1) cb sb 5 [some (.ref r0), some (.int x1), o2, o3, o4, o5, o6] [hk_rf z] h' Q)) : hk_S G m_X9_budget (d + 1) cb sb 0 [some (.ref r0), some (.int x1), o2, o3, o4, o5, o6] [] h Q := by
  refine hs_aload_n dX9_budget_0 rfl ?_
  refine hs_iload_n dX9_budget_1 rfl ?_
  exact hk_z0 (hs_vir (M' := m_X9_settledRule) (vs := [.int x1]) (c1 := 0) (s1 := 0) dX9_budget_2 wd_500 vi_X9_settledRule hrec rfl (Nat.le_of_ble_eq_true rfl) hc hq_r (hc_r (fun z h9 k9 => k9)))
theorem b_X9_budget_5 {G : hk_G} {d cb sb : Nat} {h : hk_H} {Q : hk_O → hk_H → Prop} {s0 : Nat} {r0 : Nat} {fs_ : List Value} {o1 : Option Value} {o2 : Option Value} {o3 : Option Value} {o4 : Option Value} {o5 : Option Value} {o6 : Option Value} (hrec : h.2 r0 = some (.inr (9, fs_))) (hc : hk_Ci G m_X9_paidByAll d 0 0 [.ref r0, .ref s0, .int 0] h (fun z h' => hk_S G m_X9_budget (d + 1) cb sb 26 [some (.ref r0), o1, o2, some (.ref s0), o4, o5, o6] [.int z] h' Q)) (ho2 : hk_c1 o2 := by first | exact hk_c1i | exact hk_c1r | exact hk_c10 | exact hk_c1n) : hk_S G m_X9_budget (d + 1) cb sb 5 [some (.ref r0), o1, o2, o3, o4, o5, o6] [.ref s0] h Q := by
  refine hs_astK_n dX9_budget_5 (by decide) (hk_nk1 rfl ho2) rfl ?_
  refine hs_aload_n dX9_budget_6 rfl ?_
  refine hs_ifnonnull dX9_budget_7 (tgt := 20) (by decide) ?_
  refine hs_aload_n dX9_budget_20 rfl ?_
  refine hs_aload_n dX9_budget_21 rfl ?_
  refine hs_iconst (v := 0) dX9_budget_22 (by decide) ?_
  exact hk_z0 (hs_vir (M' := m_X9_paidByAll) (vs := [.ref s0, .int 0]) (c1 := 0) (s1 := 0) dX9_budget_23 wd_1060 vi_X9_paidByAll hrec rfl (Nat.le_of_ble_eq_true rfl) hc hq_i (hc_i (fun z h9 k9 => k9)))
theorem b_X9_budget_5N0 {G : hk_G} {d cb sb : Nat} {h : hk_H} {Q : hk_O → hk_H → Prop} {o0 : Option Value} {o1 : Option Value} {o2 : Option Value} {o3 : Option Value} {o4 : Option Value} {o5 : Option Value} {o6 : Option Value} (hq : Q (.inr "java/lang/IllegalArgumentException") (h.1 + 1, h.2)) (ho2 : hk_c1 o2 := by first | exact hk_c1i | exact hk_c1r | exact hk_c10 | exact hk_c1n) : hk_S G m_X9_budget (d + 1) (cb + 1) (sb + 6) 5 [o0, o1, o2, o3, o4, o5, o6] [.null] h Q := by
  refine hs_astKN_n dX9_budget_5 (by decide) (hk_nk1 rfl ho2) rfl ?_
  refine hs_aload_nN dX9_budget_6 rfl ?_
  refine hs_ifnonnullN dX9_budget_7 ?_
  exact hs_throw (text := "no such rule") dX9_budget_10 dX9_budget_13 dX9_budget_14 dX9_budget_16 dX9_budget_19 rfl th_X9_A (by decide +kernel) rfl hq
theorem b_X9_budget_10 {G : hk_G} {d cb sb : Nat} {h : hk_H} {Q : hk_O → hk_H → Prop} {o0 : Option Value} {o1 : Option Value} {o2 : Option Value} {o3 : Option Value} {o4 : Option Value} {o5 : Option Value} {o6 : Option Value} (hq : Q (.inr "java/lang/IllegalArgumentException") (h.1 + 1, h.2)) : hk_S G m_X9_budget (d + 1) (cb + 1) (sb + 6) 10 [o0, o1, o2, o3, o4, o5, o6] [] h Q := by
  exact hs_throw (text := "no such rule") dX9_budget_10 dX9_budget_13 dX9_budget_14 dX9_budget_16 dX9_budget_19 rfl th_X9_A (by decide +kernel) rfl hq
-- b_X9_budget_19: .athrow
theorem b_X9_budget_20 {G : hk_G} {d cb sb : Nat} {h : hk_H} {Q : hk_O → hk_H → Prop} {r0 : Nat} {r3 : Nat} {fs_ : List Value} {o1 : Option Value} {o2 : Option Value} {o4 : Option Value} {o5 : Option Value} {o6 : Option Value} (hrec : h.2 r0 = some (.inr (9, fs_))) (hc : hk_Ci G m_X9_paidByAll d 0 0 [.ref r0, .ref r3, .int 0] h (fun z h' => hk_S G m_X9_budget (d + 1) cb sb 26 [some (.ref r0), o1, o2, some (.ref r3), o4, o5, o6] [.int z] h' Q)) : hk_S G m_X9_budget (d + 1) cb sb 20 [some (.ref r0), o1, o2, some (.ref r3), o4, o5, o6] [] h Q := by
  refine hs_aload_n dX9_budget_20 rfl ?_
  refine hs_aload_n dX9_budget_21 rfl ?_
  refine hs_iconst (v := 0) dX9_budget_22 (by decide) ?_
  exact hk_z0 (hs_vir (M' := m_X9_paidByAll) (vs := [.ref r3, .int 0]) (c1 := 0) (s1 := 0) dX9_budget_23 wd_1060 vi_X9_paidByAll hrec rfl (Nat.le_of_ble_eq_true rfl) hc hq_i (hc_i (fun z h9 k9 => k9)))
theorem b_X9_budget_26 {G : hk_G} {d cb sb : Nat} {h : hk_H} {Q : hk_O → hk_H → Prop} {s0 : Int32} {o0 : Option Value} {o1 : Option Value} {o2 : Option Value} {o3 : Option Value} {o4 : Option Value} {o5 : Option Value} {o6 : Option Value} (k : hk_S G m_X9_budget (d + 1) cb sb 31 [o0, o1, o2, o3, some (.int s0), some (.int 1), o6] [] h Q) (ho3 : hk_c1 o3 := by first | exact hk_c1i | exact hk_c1r | exact hk_c10 | exact hk_c1n) : hk_S G m_X9_budget (d + 1) cb sb 26 [o0, o1, o2, o3, o4, o5, o6] [.int s0] h Q := by
  refine hs_istK dX9_budget_26 (by decide) (hk_nk1 rfl ho3) rfl ?_
  refine hs_iconst (v := 1) dX9_budget_28 (by decide) ?_
  refine hs_istK dX9_budget_29 (by decide) (hk_nk1 rfl hk_c1i) rfl ?_
  exact k
theorem b_X9_budget_31 {G : hk_G} {d cb sb : Nat} {h : hk_H} {Q : hk_O → hk_H → Prop} {x5 : Int32} {r0 : Nat} {fs1 : List Value} {v3 : Nat} {fs5 : List Value} {v7 : Int32} {o1 : Option Value} {o2 : Option Value} {o3 : Option Value} {o4 : Option Value} {o6 : Option Value} (hg2 : h.2 r0 = some (.inr (9, fs1))) (hv4 : fs1[2]? = some (.ref v3)) (hg6 : h.2 v3 = some (.inr (8, fs5))) (hv8 : fs5[5]? = some (.int v7)) (kt : v7 ≤ x5 → hk_S G m_X9_budget (d + 1) cb sb 81 [some (.ref r0), o1, o2, o3, o4, some (.int x5), o6] [] h Q) (kf : ¬ v7 ≤ x5 → hk_S G m_X9_budget (d + 1) cb sb 43 [some (.ref r0), o1, o2, o3, o4, some (.int x5), o6] [] h Q) : hk_S G m_X9_budget (d + 1) cb sb 31 [some (.ref r0), o1, o2, o3, o4, some (.int x5), o6] [] h Q := by
  refine hs_iload dX9_budget_31 rfl ?_
  refine hs_aload_n dX9_budget_33 rfl ?_
  refine hs_get dX9_budget_34 fl_X9_27_9 hg2 hv4 ?_
  refine hs_get dX9_budget_37 fl_X9_162_8 hg6 hv8 ?_
  exact hs_icmp_ge dX9_budget_40 (by decide) kt kf
theorem b_X9_budget_43 {G : hk_G} {d cb sb : Nat} {h : hk_H} {Q : hk_O → hk_H → Prop} {r0 : Nat} {r3 : Nat} {x5 : Int32} {fs_ : List Value} {o1 : Option Value} {o2 : Option Value} {o4 : Option Value} {o6 : Option Value} (hrec : h.2 r0 = some (.inr (9, fs_))) (hc : hk_Ci G m_X9_paidByAll d 0 0 [.ref r0, .ref r3, .int x5] h (fun z h' => hk_S G m_X9_budget (d + 1) cb sb 50 [some (.ref r0), o1, o2, some (.ref r3), o4, some (.int x5), o6] [.int z] h' Q)) : hk_S G m_X9_budget (d + 1) cb sb 43 [some (.ref r0), o1, o2, some (.ref r3), o4, some (.int x5), o6] [] h Q := by
  refine hs_aload_n dX9_budget_43 rfl ?_
  refine hs_aload_n dX9_budget_44 rfl ?_
  refine hs_iload dX9_budget_45 rfl ?_
  exact hk_z0 (hs_vir (M' := m_X9_paidByAll) (vs := [.ref r3, .int x5]) (c1 := 0) (s1 := 0) dX9_budget_47 wd_1060 vi_X9_paidByAll hrec rfl (Nat.le_of_ble_eq_true rfl) hc hq_i (hc_i (fun z h9 k9 => k9)))
theorem b_X9_budget_50 {G : hk_G} {d cb sb : Nat} {h : hk_H} {Q : hk_O → hk_H → Prop} {s0 : Int32} {x2 : Int32} {o0 : Option Value} {o1 : Option Value} {o3 : Option Value} {o4 : Option Value} {o5 : Option Value} {o6 : Option Value} (kt : x2 = 0 → hk_S G m_X9_budget (d + 1) cb sb 66 [o0, o1, some (.int x2), o3, o4, o5, some (.int s0)] [] h Q) (kf : ¬ x2 = 0 → hk_S G m_X9_budget (d + 1) cb sb 56 [o0, o1, some (.int x2), o3, o4, o5, some (.int s0)] [] h Q) (ho5 : hk_c1 o5 := by first | exact hk_c1i | exact hk_c1r | exact hk_c10 | exact hk_c1n) : hk_S G m_X9_budget (d + 1) cb sb 50 [o0, o1, some (.int x2), o3, o4, o5, o6] [.int s0] h Q := by
  refine hs_istK dX9_budget_50 (by decide) (hk_nk1 rfl ho5) rfl ?_
  refine hs_iload_n dX9_budget_52 rfl ?_
  exact hs_if_eq dX9_budget_53 (by decide) kt kf
theorem b_X9_budget_56 {G : hk_G} {d cb sb : Nat} {h : hk_H} {Q : hk_O → hk_H → Prop} {x4 : Int32} {x6 : Int32} {o0 : Option Value} {o1 : Option Value} {o2 : Option Value} {o3 : Option Value} {o5 : Option Value} (hc : hk_Ci G m_J9_max_7cf53 d 0 0 [.int x4, .int x6] h (fun z h' => hk_S G m_X9_budget (d + 1) cb sb 63 [o0, o1, o2, o3, some (.int x4), o5, some (.int x6)] [.int z] h' Q)) : hk_S G m_X9_budget (d + 1) cb sb 56 [o0, o1, o2, o3, some (.int x4), o5, some (.int x6)] [] h Q := by
  refine hs_iload dX9_budget_56 rfl ?_
  refine hs_iload dX9_budget_58 rfl ?_
  exact hk_z0 (hs_sta (M' := m_J9_max_7cf53) (vs := [.int x4, .int x6]) (c1 := 0) (s1 := 0) dX9_budget_60 wd_1064 st_J9_max_7cf53 rfl (Nat.le_of_ble_eq_true rfl) hc hq_i (hc_i (fun z h9 k9 => k9)))
theorem b_X9_budget_63 {G : hk_G} {d cb sb : Nat} {h : hk_H} {Q : hk_O → hk_H → Prop} {s0 : Int32} {x5 : Int32} {o0 : Option Value} {o1 : Option Value} {o2 : Option Value} {o3 : Option Value} {o4 : Option Value} {o6 : Option Value} (k : hk_S G m_X9_budget (d + 1) cb sb 31 [o0, o1, o2, o3, some (.int s0), some (.int (x5 + 1)), o6] [] h Q) (ho3 : hk_c1 o3 := by first | exact hk_c1i | exact hk_c1r | exact hk_c10 | exact hk_c1n) : hk_S G m_X9_budget (d + 1) cb sb 63 [o0, o1, o2, o3, o4, some (.int x5), o6] [.int s0] h Q := by
  refine hs_goto dX9_budget_63 (tgt := 73) (by decide) ?_
  refine hs_istK dX9_budget_73 (by decide) (hk_nk1 rfl ho3) rfl ?_
  refine hs_iincK (v := 1) dX9_budget_75 rfl (by decide) (by decide) (hk_nk1 rfl hk_c1i) rfl ?_
  refine hs_goto dX9_budget_78 (tgt := 31) (by decide) ?_
  exact k
theorem b_X9_budget_66 {G : hk_G} {d cb sb : Nat} {h : hk_H} {Q : hk_O → hk_H → Prop} {x4 : Int32} {x6 : Int32} {o0 : Option Value} {o1 : Option Value} {o2 : Option Value} {o3 : Option Value} {o5 : Option Value} (hc : hk_Ci G m_J9_min_7cf53 d 0 0 [.int x4, .int x6] h (fun z h' => hk_S G m_X9_budget (d + 1) cb sb 73 [o0, o1, o2, o3, some (.int x4), o5, some (.int x6)] [.int z] h' Q)) : hk_S G m_X9_budget (d + 1) cb sb 66 [o0, o1, o2, o3, some (.int x4), o5, some (.int x6)] [] h Q := by
  refine hs_iload dX9_budget_66 rfl ?_
  refine hs_iload dX9_budget_68 rfl ?_
  exact hk_z0 (hs_sta (M' := m_J9_min_7cf53) (vs := [.int x4, .int x6]) (c1 := 0) (s1 := 0) dX9_budget_70 wd_890 st_J9_min_7cf53 rfl (Nat.le_of_ble_eq_true rfl) hc hq_i (hc_i (fun z h9 k9 => k9)))
theorem b_X9_budget_73 {G : hk_G} {d cb sb : Nat} {h : hk_H} {Q : hk_O → hk_H → Prop} {s0 : Int32} {x5 : Int32} {o0 : Option Value} {o1 : Option Value} {o2 : Option Value} {o3 : Option Value} {o4 : Option Value} {o6 : Option Value} (k : hk_S G m_X9_budget (d + 1) cb sb 31 [o0, o1, o2, o3, some (.int s0), some (.int (x5 + 1)), o6] [] h Q) (ho3 : hk_c1 o3 := by first | exact hk_c1i | exact hk_c1r | exact hk_c10 | exact hk_c1n) : hk_S G m_X9_budget (d + 1) cb sb 73 [o0, o1, o2, o3, o4, some (.int x5), o6] [.int s0] h Q := by
  refine hs_istK dX9_budget_73 (by decide) (hk_nk1 rfl ho3) rfl ?_
  refine hs_iincK (v := 1) dX9_budget_75 rfl (by decide) (by decide) (hk_nk1 rfl hk_c1i) rfl ?_
  refine hs_goto dX9_budget_78 (tgt := 31) (by decide) ?_
  exact k
theorem b_X9_budget_81 {G : hk_G} {d cb sb : Nat} {h : hk_H} {Q : hk_O → hk_H → Prop} {x4 : Int32} {o0 : Option Value} {o1 : Option Value} {o2 : Option Value} {o3 : Option Value} {o5 : Option Value} {o6 : Option Value} (hq : Q (.inl (some (.long x4.toInt64))) h) : hk_S G m_X9_budget (d + 1) cb sb 81 [o0, o1, o2, o3, some (.int x4), o5, o6] [] h Q := by
  refine hs_iload dX9_budget_81 rfl ?_
  refine hs_i2l dX9_budget_83 ?_
  exact hs_lret dX9_budget_84 rfl hq
-- HonestHouse.welfare(I)J
theorem b_X9_welfare_0 {G : hk_G} {d cb sb : Nat} {h : hk_H} {Q : hk_O → hk_H → Prop} {r0 : Nat} {x1 : Int32} {fs_ : List Value} {o2 : Option Value} {o3 : Option Value} {o4 : Option Value} {o5 : Option Value} {o6 : Option Value} {o7 : Option Value} (hrec : h.2 r0 = some (.inr (9, fs_))) (hc : hk_Cr G m_X9_settledRule d 0 0 [.ref r0, .int x1] h (fun z h' => hk_S G m_X9_welfare (d + 1) cb sb 5 [some (.ref r0), some (.int x1), o2, o3, o4, o5, o6, o7] [hk_rf z] h' Q)) : hk_S G m_X9_welfare (d + 1) cb sb 0 [some (.ref r0), some (.int x1), o2, o3, o4, o5, o6, o7] [] h Q := by
  refine hs_aload_n dX9_welfare_0 rfl ?_
  refine hs_iload_n dX9_welfare_1 rfl ?_
  exact hk_z0 (hs_vir (M' := m_X9_settledRule) (vs := [.int x1]) (c1 := 0) (s1 := 0) dX9_welfare_2 wd_500 vi_X9_settledRule hrec rfl (Nat.le_of_ble_eq_true rfl) hc hq_r (hc_r (fun z h9 k9 => k9)))
theorem b_X9_welfare_5 {G : hk_G} {d cb sb : Nat} {h : hk_H} {Q : hk_O → hk_H → Prop} {s0 : Nat} {o0 : Option Value} {o1 : Option Value} {o2 : Option Value} {o3 : Option Value} {o4 : Option Value} {o5 : Option Value} {o6 : Option Value} {o7 : Option Value} (k : hk_S G m_X9_welfare (d + 1) cb sb 25 [o0, o1, some (.ref s0), some (.long 0), none, some (.int 0), o6, o7] [] h Q) (ho1 : hk_c1 o1 := by first | exact hk_c1i | exact hk_c1r | exact hk_c10 | exact hk_c1n) : hk_S G m_X9_welfare (d + 1) cb sb 5 [o0, o1, o2, o3, o4, o5, o6, o7] [.ref s0] h Q := by
  refine hs_astK_n dX9_welfare_5 (by decide) (hk_nk1 rfl ho1) rfl ?_
  refine hs_aload_n dX9_welfare_6 rfl ?_
  refine hs_ifnonnull dX9_welfare_7 (tgt := 20) (by decide) ?_
  refine hs_lconst (v := 0) dX9_welfare_20 (by decide) ?_
  refine hs_lstK_n dX9_welfare_21 (by decide) (hk_nk1 rfl hk_c1r) rfl ?_
  refine hs_iconst (v := 0) dX9_welfare_22 (by decide) ?_
  refine hs_istK dX9_welfare_23 (by decide) (hk_nk1 rfl hk_c10) rfl ?_
  exact k
theorem b_X9_welfare_5N0 {G : hk_G} {d cb sb : Nat} {h : hk_H} {Q : hk_O → hk_H → Prop} {o0 : Option Value} {o1 : Option Value} {o2 : Option Value} {o3 : Option Value} {o4 : Option Value} {o5 : Option Value} {o6 : Option Value} {o7 : Option Value} (hq : Q (.inr "java/lang/IllegalArgumentException") (h.1 + 1, h.2)) (ho1 : hk_c1 o1 := by first | exact hk_c1i | exact hk_c1r | exact hk_c10 | exact hk_c1n) : hk_S G m_X9_welfare (d + 1) (cb + 1) (sb + 6) 5 [o0, o1, o2, o3, o4, o5, o6, o7] [.null] h Q := by
  refine hs_astKN_n dX9_welfare_5 (by decide) (hk_nk1 rfl ho1) rfl ?_
  refine hs_aload_nN dX9_welfare_6 rfl ?_
  refine hs_ifnonnullN dX9_welfare_7 ?_
  exact hs_throw (text := "no such rule") dX9_welfare_10 dX9_welfare_13 dX9_welfare_14 dX9_welfare_16 dX9_welfare_19 rfl th_X9_A (by decide +kernel) rfl hq
theorem b_X9_welfare_10 {G : hk_G} {d cb sb : Nat} {h : hk_H} {Q : hk_O → hk_H → Prop} {o0 : Option Value} {o1 : Option Value} {o2 : Option Value} {o3 : Option Value} {o4 : Option Value} {o5 : Option Value} {o6 : Option Value} {o7 : Option Value} (hq : Q (.inr "java/lang/IllegalArgumentException") (h.1 + 1, h.2)) : hk_S G m_X9_welfare (d + 1) (cb + 1) (sb + 6) 10 [o0, o1, o2, o3, o4, o5, o6, o7] [] h Q := by
  exact hs_throw (text := "no such rule") dX9_welfare_10 dX9_welfare_13 dX9_welfare_14 dX9_welfare_16 dX9_welfare_19 rfl th_X9_A (by decide +kernel) rfl hq
-- b_X9_welfare_19: .athrow
theorem b_X9_welfare_20 {G : hk_G} {d cb sb : Nat} {h : hk_H} {Q : hk_O → hk_H → Prop} {o0 : Option Value} {o1 : Option Value} {o2 : Option Value} {o3 : Option Value} {o4 : Option Value} {o5 : Option Value} {o6 : Option Value} {o7 : Option Value} (k : hk_S G m_X9_welfare (d + 1) cb sb 25 [o0, o1, o2, some (.long 0), none, some (.int 0), o6, o7] [] h Q) (ho2 : hk_c1 o2 := by first | exact hk_c1i | exact hk_c1r | exact hk_c10 | exact hk_c1n) : hk_S G m_X9_welfare (d + 1) cb sb 20 [o0, o1, o2, o3, o4, o5, o6, o7] [] h Q := by
  refine hs_lconst (v := 0) dX9_welfare_20 (by decide) ?_
  refine hs_lstK_n dX9_welfare_21 (by decide) (hk_nk1 rfl ho2) rfl ?_
  refine hs_iconst (v := 0) dX9_welfare_22 (by decide) ?_
  refine hs_istK dX9_welfare_23 (by decide) (hk_nk1 rfl hk_c10) rfl ?_
  exact k
theorem b_X9_welfare_25 {G : hk_G} {d cb sb : Nat} {h : hk_H} {Q : hk_O → hk_H → Prop} {x5 : Int32} {r0 : Nat} {fs1 : List Value} {v3 : Nat} {fs5 : List Value} {v7 : Int32} {o1 : Option Value} {o2 : Option Value} {o3 : Option Value} {o4 : Option Value} {o6 : Option Value} {o7 : Option Value} (hg2 : h.2 r0 = some (.inr (9, fs1))) (hv4 : fs1[2]? = some (.ref v3)) (hg6 : h.2 v3 = some (.inr (8, fs5))) (hv8 : fs5[5]? = some (.int v7)) (kt : v7 ≤ x5 → hk_S G m_X9_welfare (d + 1) cb sb 93 [some (.ref r0), o1, o2, o3, o4, some (.int x5), o6, o7] [] h Q) (kf : ¬ v7 ≤ x5 → hk_S G m_X9_welfare (d + 1) cb sb 37 [some (.ref r0), o1, o2, o3, o4, some (.int x5), o6, o7] [] h Q) : hk_S G m_X9_welfare (d + 1) cb sb 25 [some (.ref r0), o1, o2, o3, o4, some (.int x5), o6, o7] [] h Q := by
  refine hs_iload dX9_welfare_25 rfl ?_
  refine hs_aload_n dX9_welfare_27 rfl ?_
  refine hs_get dX9_welfare_28 fl_X9_27_9 hg2 hv4 ?_
  refine hs_get dX9_welfare_31 fl_X9_162_8 hg6 hv8 ?_
  exact hs_icmp_ge dX9_welfare_34 (by decide) kt kf
theorem b_X9_welfare_37 {G : hk_G} {d cb sb : Nat} {h : hk_H} {Q : hk_O → hk_H → Prop} {r2 : Nat} {x5 : Int32} {M' : hk_M} {ci_ : Nat} {fs_ : List Value} {o0 : Option Value} {o1 : Option Value} {o3 : Option Value} {o4 : Option Value} {o6 : Option Value} {o7 : Option Value} (hdis : hk_dis yX5_endAt ci_ M' 1) (hrec : h.2 r2 = some (.inr (ci_, fs_))) (hc : hk_Ci G M' d 0 0 [.ref r2, .int x5] h (fun z h' => hk_S G m_X9_welfare (d + 1) cb sb 43 [o0, o1, some (.ref r2), o3, o4, some (.int x5), o6, o7] [.int z] h' Q)) : hk_S G m_X9_welfare (d + 1) cb sb 37 [o0, o1, some (.ref r2), o3, o4, some (.int x5), o6, o7] [] h Q := by
  refine hs_aload_n dX9_welfare_37 rfl ?_
  refine hs_iload dX9_welfare_38 rfl ?_
  exact hk_z0 (hs_dis (x := yX5_endAt) (vs := [.int x5]) (c1 := 0) (s1 := 0) dX9_welfare_40 wd_479 hdis hrec rfl (Nat.le_of_ble_eq_true rfl) hc hq_i (hc_i (fun z h9 k9 => k9)))
theorem b_X9_welfare_43 {G : hk_G} {d cb sb : Nat} {h : hk_H} {Q : hk_O → hk_H → Prop} {s0 : Int32} {o0 : Option Value} {o1 : Option Value} {o2 : Option Value} {o3 : Option Value} {o4 : Option Value} {o5 : Option Value} {o6 : Option Value} {o7 : Option Value} (k : hk_S G m_X9_welfare (d + 1) cb sb 48 [o0, o1, o2, o3, o4, o5, some (.int s0), some (.int 0)] [] h Q) (ho5 : hk_c1 o5 := by first | exact hk_c1i | exact hk_c1r | exact hk_c10 | exact hk_c1n) : hk_S G m_X9_welfare (d + 1) cb sb 43 [o0, o1, o2, o3, o4, o5, o6, o7] [.int s0] h Q := by
  refine hs_istK dX9_welfare_43 (by decide) (hk_nk1 rfl ho5) rfl ?_
  refine hs_iconst (v := 0) dX9_welfare_45 (by decide) ?_
  refine hs_istK dX9_welfare_46 (by decide) (hk_nk1 rfl hk_c1i) rfl ?_
  exact k
theorem b_X9_welfare_48 {G : hk_G} {d cb sb : Nat} {h : hk_H} {Q : hk_O → hk_H → Prop} {x7 : Int32} {r0 : Nat} {fs1 : List Value} {v3 : Int32} {o1 : Option Value} {o2 : Option Value} {o3 : Option Value} {o4 : Option Value} {o5 : Option Value} {o6 : Option Value} (hg2 : h.2 r0 = some (.inr (9, fs1))) (hv4 : fs1[0]? = some (.int v3)) (kt : v3 ≤ x7 → hk_S G m_X9_welfare (d + 1) cb sb 87 [some (.ref r0), o1, o2, o3, o4, o5, o6, some (.int x7)] [] h Q) (kf : ¬ v3 ≤ x7 → hk_S G m_X9_welfare (d + 1) cb sb 57 [some (.ref r0), o1, o2, o3, o4, o5, o6, some (.int x7)] [] h Q) : hk_S G m_X9_welfare (d + 1) cb sb 48 [some (.ref r0), o1, o2, o3, o4, o5, o6, some (.int x7)] [] h Q := by
  refine hs_iload dX9_welfare_48 rfl ?_
  refine hs_aload_n dX9_welfare_50 rfl ?_
  refine hs_get dX9_welfare_51 fl_X9_18_9 hg2 hv4 ?_
  exact hs_icmp_ge dX9_welfare_54 (by decide) kt kf
theorem b_X9_welfare_57 {G : hk_G} {d cb sb : Nat} {h : hk_H} {Q : hk_O → hk_H → Prop} {l3 : Int64} {r0 : Nat} {fs1 : List Value} {v3 : Nat} {x5 : Int32} {x7 : Int32} {fs_ : List Value} {o1 : Option Value} {o2 : Option Value} {o4 : Option Value} {o6 : Option Value} (hg2 : h.2 r0 = some (.inr (9, fs1))) (hv4 : fs1[2]? = some (.ref v3)) (hrec : h.2 v3 = some (.inr (8, fs_))) (hc : hk_Ci G m_X8_wishIn d 0 0 [.ref v3, .int x5, .int x7] h (fun z h' => hk_S G m_X9_welfare (d + 1) cb sb 73 [some (.ref r0), o1, o2, some (.long l3), o4, some (.int x5), o6, some (.int x7)] [.int z, .ref v3, .long l3] h' Q)) : hk_S G m_X9_welfare (d + 1) cb sb 57 [some (.ref r0), o1, o2, some (.long l3), o4, some (.int x5), o6, some (.int x7)] [] h Q := by
  refine hs_lload_n dX9_welfare_57 rfl ?_
  refine hs_aload_n dX9_welfare_58 rfl ?_
  refine hs_get dX9_welfare_59 fl_X9_27_9 hg2 hv4 ?_
  refine hs_aload_n dX9_welfare_62 rfl ?_
  refine hs_get dX9_welfare_63 fl_X9_27_9 hg2 hv4 ?_
  refine hs_iload dX9_welfare_66 rfl ?_
  refine hs_iload dX9_welfare_68 rfl ?_
  exact hk_z0 (hs_vir (M' := m_X8_wishIn) (vs := [.int x5, .int x7]) (c1 := 0) (s1 := 0) dX9_welfare_70 wd_508 vi_X8_wishIn hrec rfl (Nat.le_of_ble_eq_true rfl) hc hq_i (hc_i (fun z h9 k9 => k9)))
theorem b_X9_welfare_73 {G : hk_G} {d cb sb : Nat} {h : hk_H} {Q : hk_O → hk_H → Prop} {s0 : Int64} {s1 : Nat} {s2 : Int32} {x6 : Int32} {fs_ : List Value} {o0 : Option Value} {o1 : Option Value} {o2 : Option Value} {o3 : Option Value} {o4 : Option Value} {o5 : Option Value} {o7 : Option Value} (hrec : h.2 s1 = some (.inr (8, fs_))) (hc : hk_Ci G m_X8_number d 0 0 [.ref s1, .int s2, .int x6] h (fun z h' => hk_S G m_X9_welfare (d + 1) cb sb 78 [o0, o1, o2, o3, o4, o5, some (.int x6), o7] [.int z, .long s0] h' Q)) : hk_S G m_X9_welfare (d + 1) cb sb 73 [o0, o1, o2, o3, o4, o5, some (.int x6), o7] [.int s2, .ref s1, .long s0] h Q := by
  refine hs_iload dX9_welfare_73 rfl ?_
  exact hk_z0 (hs_vir (M' := m_X8_number) (vs := [.int s2, .int x6]) (c1 := 0) (s1 := 0) dX9_welfare_75 wd_902 vi_X8_number hrec rfl (Nat.le_of_ble_eq_true rfl) hc hq_i (hc_i (fun z h9 k9 => k9)))
theorem b_X9_welfare_78 {G : hk_G} {d cb sb : Nat} {h : hk_H} {Q : hk_O → hk_H → Prop} {s0 : Int64} {s1 : Int32} {x7 : Int32} {o0 : Option Value} {o1 : Option Value} {o2 : Option Value} {o3 : Option Value} {o4 : Option Value} {o5 : Option Value} {o6 : Option Value} (k : hk_S G m_X9_welfare (d + 1) cb sb 48 [o0, o1, o2, some (.long (s0 + s1.toInt64)), none, o5, o6, some (.int (x7 + 1))] [] h Q) (ho2 : hk_c1 o2 := by first | exact hk_c1i | exact hk_c1r | exact hk_c10 | exact hk_c1n) (ho6 : hk_c1 o6 := by first | exact hk_c1i | exact hk_c1r | exact hk_c10 | exact hk_c1n) : hk_S G m_X9_welfare (d + 1) cb sb 78 [o0, o1, o2, o3, o4, o5, o6, some (.int x7)] [.int s1, .long s0] h Q := by
  refine hs_i2l dX9_welfare_78 ?_
  refine hs_ladd dX9_welfare_79 ?_
  refine hs_lstK_n dX9_welfare_80 (by decide) (hk_nk1 rfl ho2) rfl ?_
  refine hs_iincK (v := 1) dX9_welfare_81 rfl (by decide) (by decide) (hk_nk1 rfl ho6) rfl ?_
  refine hs_goto dX9_welfare_84 (tgt := 48) (by decide) ?_
  exact k
theorem b_X9_welfare_87 {G : hk_G} {d cb sb : Nat} {h : hk_H} {Q : hk_O → hk_H → Prop} {x5 : Int32} {o0 : Option Value} {o1 : Option Value} {o2 : Option Value} {o3 : Option Value} {o4 : Option Value} {o6 : Option Value} {o7 : Option Value} (k : hk_S G m_X9_welfare (d + 1) cb sb 25 [o0, o1, o2, o3, o4, some (.int (x5 + 1)), o6, o7] [] h Q) (ho4 : hk_c1 o4 := by first | exact hk_c1i | exact hk_c1r | exact hk_c10 | exact hk_c1n) : hk_S G m_X9_welfare (d + 1) cb sb 87 [o0, o1, o2, o3, o4, some (.int x5), o6, o7] [] h Q := by
  refine hs_iincK (v := 1) dX9_welfare_87 rfl (by decide) (by decide) (hk_nk1 rfl ho4) rfl ?_
  refine hs_goto dX9_welfare_90 (tgt := 25) (by decide) ?_
  exact k
theorem b_X9_welfare_93 {G : hk_G} {d cb sb : Nat} {h : hk_H} {Q : hk_O → hk_H → Prop} {l3 : Int64} {o0 : Option Value} {o1 : Option Value} {o2 : Option Value} {o4 : Option Value} {o5 : Option Value} {o6 : Option Value} {o7 : Option Value} (hq : Q (.inl (some (.long l3))) h) : hk_S G m_X9_welfare (d + 1) cb sb 93 [o0, o1, o2, some (.long l3), o4, o5, o6, o7] [] h Q := by
  refine hs_lload_n dX9_welfare_93 rfl ?_
  exact hs_lret dX9_welfare_94 rfl hq
-- HonestHouse.span(IIIII)I
theorem b_X9_span_0 {G : hk_G} {d cb sb : Nat} {h : hk_H} {Q : hk_O → hk_H → Prop} {r0 : Nat} {x1 : Int32} {fs_ : List Value} {o2 : Option Value} {o3 : Option Value} {o4 : Option Value} {o5 : Option Value} {o6 : Option Value} (hrec : h.2 r0 = some (.inr (9, fs_))) (hc : hk_Cr G m_X9_ruleAt d 0 0 [.ref r0, .int x1] h (fun z h' => hk_S G m_X9_span (d + 1) cb sb 5 [some (.ref r0), some (.int x1), o2, o3, o4, o5, o6] [hk_rf z] h' Q)) : hk_S G m_X9_span (d + 1) cb sb 0 [some (.ref r0), some (.int x1), o2, o3, o4, o5, o6] [] h Q := by
  refine hs_aload_n dX9_span_0 rfl ?_
  refine hs_iload_n dX9_span_1 rfl ?_
  exact hk_z0 (hs_vir (M' := m_X9_ruleAt) (vs := [.int x1]) (c1 := 0) (s1 := 0) dX9_span_2 wd_351 vi_X9_ruleAt hrec rfl (Nat.le_of_ble_eq_true rfl) hc hq_r (hc_r (fun z h9 k9 => k9)))
theorem b_X9_span_5 {G : hk_G} {d cb sb : Nat} {h : hk_H} {Q : hk_O → hk_H → Prop} {s0 : Nat} {r0 : Nat} {x2 : Int32} {fs_ : List Value} {o1 : Option Value} {o3 : Option Value} {o4 : Option Value} {o5 : Option Value} {o6 : Option Value} (hrec : h.2 r0 = some (.inr (9, fs_))) (hc : hk_Ci G m_X9_isRow d 0 0 [.ref r0, .int x2] h (fun z h' => hk_S G m_X9_span (d + 1) cb sb 17 [some (.ref r0), o1, some (.int x2), o3, o4, o5, some (.ref s0)] [.int z] h' Q)) (ho5 : hk_c1 o5 := by first | exact hk_c1i | exact hk_c1r | exact hk_c10 | exact hk_c1n) : hk_S G m_X9_span (d + 1) cb sb 5 [some (.ref r0), o1, some (.int x2), o3, o4, o5, o6] [.ref s0] h Q := by
  refine hs_astK dX9_span_5 (by decide) (hk_nk1 rfl ho5) rfl ?_
  refine hs_aload dX9_span_7 rfl ?_
  refine hs_ifnull dX9_span_9 ?_
  refine hs_aload_n dX9_span_12 rfl ?_
  refine hs_iload_n dX9_span_13 rfl ?_
  exact hk_z0 (hs_vir (M' := m_X9_isRow) (vs := [.int x2]) (c1 := 0) (s1 := 0) dX9_span_14 wd_355 vi_X9_isRow hrec rfl (Nat.le_of_ble_eq_true rfl) hc hq_i (hc_i (fun z h9 k9 => k9)))
theorem b_X9_span_5N0 {G : hk_G} {d cb sb : Nat} {h : hk_H} {Q : hk_O → hk_H → Prop} {o0 : Option Value} {o1 : Option Value} {o2 : Option Value} {o3 : Option Value} {o4 : Option Value} {o5 : Option Value} {o6 : Option Value} (hq : Q (.inr "java/lang/IllegalArgumentException") (h.1 + 1, h.2)) (ho5 : hk_c1 o5 := by first | exact hk_c1i | exact hk_c1r | exact hk_c10 | exact hk_c1n) : hk_S G m_X9_span (d + 1) (cb + 1) (sb + 6) 5 [o0, o1, o2, o3, o4, o5, o6] [.null] h Q := by
  refine hs_astKN dX9_span_5 (by decide) (hk_nk1 rfl ho5) rfl ?_
  refine hs_aloadN dX9_span_7 rfl ?_
  refine hs_ifnullN dX9_span_9 (tgt := 46) (by decide) ?_
  exact hs_throw (text := "no such rule, row, person or end") dX9_span_46 dX9_span_49 dX9_span_50 dX9_span_52 dX9_span_55 rfl th_X9_A (by decide +kernel) rfl hq
theorem b_X9_span_12 {G : hk_G} {d cb sb : Nat} {h : hk_H} {Q : hk_O → hk_H → Prop} {r0 : Nat} {x2 : Int32} {fs_ : List Value} {o1 : Option Value} {o3 : Option Value} {o4 : Option Value} {o5 : Option Value} {o6 : Option Value} (hrec : h.2 r0 = some (.inr (9, fs_))) (hc : hk_Ci G m_X9_isRow d 0 0 [.ref r0, .int x2] h (fun z h' => hk_S G m_X9_span (d + 1) cb sb 17 [some (.ref r0), o1, some (.int x2), o3, o4, o5, o6] [.int z] h' Q)) : hk_S G m_X9_span (d + 1) cb sb 12 [some (.ref r0), o1, some (.int x2), o3, o4, o5, o6] [] h Q := by
  refine hs_aload_n dX9_span_12 rfl ?_
  refine hs_iload_n dX9_span_13 rfl ?_
  exact hk_z0 (hs_vir (M' := m_X9_isRow) (vs := [.int x2]) (c1 := 0) (s1 := 0) dX9_span_14 wd_355 vi_X9_isRow hrec rfl (Nat.le_of_ble_eq_true rfl) hc hq_i (hc_i (fun z h9 k9 => k9)))
theorem b_X9_span_17 {G : hk_G} {d cb sb : Nat} {h : hk_H} {Q : hk_O → hk_H → Prop} {s0 : Int32} {o0 : Option Value} {o1 : Option Value} {o2 : Option Value} {o3 : Option Value} {o4 : Option Value} {o5 : Option Value} {o6 : Option Value} (kt : s0 = 0 → hk_S G m_X9_span (d + 1) cb sb 46 [o0, o1, o2, o3, o4, o5, o6] [] h Q) (kf : ¬ s0 = 0 → hk_S G m_X9_span (d + 1) cb sb 20 [o0, o1, o2, o3, o4, o5, o6] [] h Q) : hk_S G m_X9_span (d + 1) cb sb 17 [o0, o1, o2, o3, o4, o5, o6] [.int s0] h Q := by
  exact hs_if_eq dX9_span_17 (by decide) kt kf
theorem b_X9_span_20 {G : hk_G} {d cb sb : Nat} {h : hk_H} {Q : hk_O → hk_H → Prop} {r0 : Nat} {x3 : Int32} {fs_ : List Value} {o1 : Option Value} {o2 : Option Value} {o4 : Option Value} {o5 : Option Value} {o6 : Option Value} (hrec : h.2 r0 = some (.inr (9, fs_))) (hc : hk_Ci G m_X9_isPerson d 0 0 [.ref r0, .int x3] h (fun z h' => hk_S G m_X9_span (d + 1) cb sb 25 [some (.ref r0), o1, o2, some (.int x3), o4, o5, o6] [.int z] h' Q)) : hk_S G m_X9_span (d + 1) cb sb 20 [some (.ref r0), o1, o2, some (.int x3), o4, o5, o6] [] h Q := by
  refine hs_aload_n dX9_span_20 rfl ?_
  refine hs_iload_n dX9_span_21 rfl ?_
  exact hk_z0 (hs_vir (M' := m_X9_isPerson) (vs := [.int x3]) (c1 := 0) (s1 := 0) dX9_span_22 wd_375 vi_X9_isPerson hrec rfl (Nat.le_of_ble_eq_true rfl) hc hq_i (hc_i (fun z h9 k9 => k9)))
theorem b_X9_span_25 {G : hk_G} {d cb sb : Nat} {h : hk_H} {Q : hk_O → hk_H → Prop} {s0 : Int32} {o0 : Option Value} {o1 : Option Value} {o2 : Option Value} {o3 : Option Value} {o4 : Option Value} {o5 : Option Value} {o6 : Option Value} (kt : s0 = 0 → hk_S G m_X9_span (d + 1) cb sb 46 [o0, o1, o2, o3, o4, o5, o6] [] h Q) (kf : ¬ s0 = 0 → hk_S G m_X9_span (d + 1) cb sb 28 [o0, o1, o2, o3, o4, o5, o6] [] h Q) : hk_S G m_X9_span (d + 1) cb sb 25 [o0, o1, o2, o3, o4, o5, o6] [.int s0] h Q := by
  exact hs_if_eq dX9_span_25 (by decide) kt kf
theorem b_X9_span_28 {G : hk_G} {d cb sb : Nat} {h : hk_H} {Q : hk_O → hk_H → Prop} {r0 : Nat} {x4 : Int32} {fs_ : List Value} {o1 : Option Value} {o2 : Option Value} {o3 : Option Value} {o5 : Option Value} {o6 : Option Value} (hrec : h.2 r0 = some (.inr (9, fs_))) (hc : hk_Ci G m_X9_isEnd d 0 0 [.ref r0, .int x4] h (fun z h' => hk_S G m_X9_span (d + 1) cb sb 34 [some (.ref r0), o1, o2, o3, some (.int x4), o5, o6] [.int z] h' Q)) : hk_S G m_X9_span (d + 1) cb sb 28 [some (.ref r0), o1, o2, o3, some (.int x4), o5, o6] [] h Q := by
  refine hs_aload_n dX9_span_28 rfl ?_
  refine hs_iload dX9_span_29 rfl ?_
  exact hk_z0 (hs_vir (M' := m_X9_isEnd) (vs := [.int x4]) (c1 := 0) (s1 := 0) dX9_span_31 wd_240 vi_X9_isEnd hrec rfl (Nat.le_of_ble_eq_true rfl) hc hq_i (hc_i (fun z h9 k9 => k9)))
theorem b_X9_span_34 {G : hk_G} {d cb sb : Nat} {h : hk_H} {Q : hk_O → hk_H → Prop} {s0 : Int32} {o0 : Option Value} {o1 : Option Value} {o2 : Option Value} {o3 : Option Value} {o4 : Option Value} {o5 : Option Value} {o6 : Option Value} (kt : s0 = 0 → hk_S G m_X9_span (d + 1) cb sb 46 [o0, o1, o2, o3, o4, o5, o6] [] h Q) (kf : ¬ s0 = 0 → hk_S G m_X9_span (d + 1) cb sb 37 [o0, o1, o2, o3, o4, o5, o6] [] h Q) : hk_S G m_X9_span (d + 1) cb sb 34 [o0, o1, o2, o3, o4, o5, o6] [.int s0] h Q := by
  exact hs_if_eq dX9_span_34 (by decide) kt kf
theorem b_X9_span_37 {G : hk_G} {d cb sb : Nat} {h : hk_H} {Q : hk_O → hk_H → Prop} {r0 : Nat} {x5 : Int32} {fs_ : List Value} {o1 : Option Value} {o2 : Option Value} {o3 : Option Value} {o4 : Option Value} {o6 : Option Value} (hrec : h.2 r0 = some (.inr (9, fs_))) (hc : hk_Ci G m_X9_isEnd d 0 0 [.ref r0, .int x5] h (fun z h' => hk_S G m_X9_span (d + 1) cb sb 43 [some (.ref r0), o1, o2, o3, o4, some (.int x5), o6] [.int z] h' Q)) : hk_S G m_X9_span (d + 1) cb sb 37 [some (.ref r0), o1, o2, o3, o4, some (.int x5), o6] [] h Q := by
  refine hs_aload_n dX9_span_37 rfl ?_
  refine hs_iload dX9_span_38 rfl ?_
  exact hk_z0 (hs_vir (M' := m_X9_isEnd) (vs := [.int x5]) (c1 := 0) (s1 := 0) dX9_span_40 wd_240 vi_X9_isEnd hrec rfl (Nat.le_of_ble_eq_true rfl) hc hq_i (hc_i (fun z h9 k9 => k9)))
theorem b_X9_span_43 {G : hk_G} {d cb sb : Nat} {h : hk_H} {Q : hk_O → hk_H → Prop} {s0 : Int32} {o0 : Option Value} {o1 : Option Value} {o2 : Option Value} {o3 : Option Value} {o4 : Option Value} {o5 : Option Value} {o6 : Option Value} (kt : ¬ s0 = 0 → hk_S G m_X9_span (d + 1) cb sb 56 [o0, o1, o2, o3, o4, o5, o6] [] h Q) (kf : s0 = 0 → hk_S G m_X9_span (d + 1) cb sb 46 [o0, o1, o2, o3, o4, o5, o6] [] h Q) : hk_S G m_X9_span (d + 1) cb sb 43 [o0, o1, o2, o3, o4, o5, o6] [.int s0] h Q := by
  exact hs_if_ne dX9_span_43 (by decide) kt kf
theorem b_X9_span_46 {G : hk_G} {d cb sb : Nat} {h : hk_H} {Q : hk_O → hk_H → Prop} {o0 : Option Value} {o1 : Option Value} {o2 : Option Value} {o3 : Option Value} {o4 : Option Value} {o5 : Option Value} {o6 : Option Value} (hq : Q (.inr "java/lang/IllegalArgumentException") (h.1 + 1, h.2)) : hk_S G m_X9_span (d + 1) (cb + 1) (sb + 6) 46 [o0, o1, o2, o3, o4, o5, o6] [] h Q := by
  exact hs_throw (text := "no such rule, row, person or end") dX9_span_46 dX9_span_49 dX9_span_50 dX9_span_52 dX9_span_55 rfl th_X9_A (by decide +kernel) rfl hq
-- b_X9_span_55: .athrow
theorem b_X9_span_56 {G : hk_G} {d cb sb : Nat} {h : hk_H} {Q : hk_O → hk_H → Prop} {r0 : Nat} {r6 : Nat} {x2 : Int32} {x3 : Int32} {fs_ : List Value} {o1 : Option Value} {o4 : Option Value} {o5 : Option Value} (hrec : h.2 r0 = some (.inr (9, fs_))) (hc : hk_Cv G m_X9_settleFor d 0 0 [.ref r0, .ref r6, .int x2, .int x3] h (fun h' => hk_S G m_X9_span (d + 1) cb sb 64 [some (.ref r0), o1, some (.int x2), some (.int x3), o4, o5, some (.ref r6)] [] h' Q)) : hk_S G m_X9_span (d + 1) cb sb 56 [some (.ref r0), o1, some (.int x2), some (.int x3), o4, o5, some (.ref r6)] [] h Q := by
  refine hs_aload_n dX9_span_56 rfl ?_
  refine hs_aload dX9_span_57 rfl ?_
  refine hs_iload_n dX9_span_59 rfl ?_
  refine hs_iload_n dX9_span_60 rfl ?_
  exact hk_z0 (hs_vir (M' := m_X9_settleFor) (vs := [.ref r6, .int x2, .int x3]) (c1 := 0) (s1 := 0) dX9_span_61 wd_1081 vi_X9_settleFor hrec rfl (Nat.le_of_ble_eq_true rfl) hc hq_v (hc_v (fun h9 k9 => k9)))
theorem b_X9_span_64 {G : hk_G} {d cb sb : Nat} {h : hk_H} {Q : hk_O → hk_H → Prop} {r0 : Nat} {fs1 : List Value} {v3 : Nat} {r6 : Nat} {x2 : Int32} {x3 : Int32} {fs_ : List Value} {o1 : Option Value} {o4 : Option Value} {o5 : Option Value} (hg2 : h.2 r0 = some (.inr (9, fs1))) (hv4 : fs1[6]? = some (.ref v3)) (hrec : h.2 v3 = some (.inr (6, fs_))) (hc : hk_Cv G m_X6_look d 0 0 [.ref v3, .ref r6, .int x2, .int x3] h (fun h' => hk_S G m_X9_span (d + 1) cb sb 75 [some (.ref r0), o1, some (.int x2), some (.int x3), o4, o5, some (.ref r6)] [] h' Q)) : hk_S G m_X9_span (d + 1) cb sb 64 [some (.ref r0), o1, some (.int x2), some (.int x3), o4, o5, some (.ref r6)] [] h Q := by
  refine hs_aload_n dX9_span_64 rfl ?_
  refine hs_get dX9_span_65 fl_X9_49_9 hg2 hv4 ?_
  refine hs_aload dX9_span_68 rfl ?_
  refine hs_iload_n dX9_span_70 rfl ?_
  refine hs_iload_n dX9_span_71 rfl ?_
  exact hk_z0 (hs_vir (M' := m_X6_look) (vs := [.ref r6, .int x2, .int x3]) (c1 := 0) (s1 := 0) dX9_span_72 wd_635 vi_X6_look hrec rfl (Nat.le_of_ble_eq_true rfl) hc hq_v (hc_v (fun h9 k9 => k9)))
theorem b_X9_span_75 {G : hk_G} {d cb sb : Nat} {h : hk_H} {Q : hk_O → hk_H → Prop} {r0 : Nat} {fs1 : List Value} {v3 : Nat} {fs5 : List Value} {v7 : Nat} {x4 : Int32} {n9 : Nat} {f10 : Nat → Int32} {o1 : Option Value} {o2 : Option Value} {o3 : Option Value} {o5 : Option Value} {o6 : Option Value} (hg2 : h.2 r0 = some (.inr (9, fs1))) (hv4 : fs1[6]? = some (.ref v3)) (hg6 : h.2 v3 = some (.inr (6, fs5))) (hv8 : fs5[1]? = some (.ref v7)) (ha11 : h.2 v7 = some (.inl (2, n9, .inl f10))) (j12 : Nat) (hi13 : (x4 : Int32).toInt = (j12 : Int)) (hj14 : j12 < n9) (kt : (f10 j12) = 0 → hk_S G m_X9_span (d + 1) cb sb 101 [some (.ref r0), o1, o2, o3, some (.int x4), o5, o6] [] h Q) (kf : ¬ (f10 j12) = 0 → hk_S G m_X9_span (d + 1) cb sb 88 [some (.ref r0), o1, o2, o3, some (.int x4), o5, o6] [] h Q) : hk_S G m_X9_span (d + 1) cb sb 75 [some (.ref r0), o1, o2, o3, some (.int x4), o5, o6] [] h Q := by
  refine hs_aload_n dX9_span_75 rfl ?_
  refine hs_get dX9_span_76 fl_X9_49_9 hg2 hv4 ?_
  refine hs_get dX9_span_79 fl_X9_207_6 hg6 hv8 ?_
  refine hs_iload dX9_span_82 rfl ?_
  refine hs_zald j12 dX9_span_84 ha11 hi13 hj14 ?_
  exact hs_if_eq dX9_span_85 (by decide) kt kf
theorem b_X9_span_88 {G : hk_G} {d cb sb : Nat} {h : hk_H} {Q : hk_O → hk_H → Prop} {r0 : Nat} {fs1 : List Value} {v3 : Nat} {fs5 : List Value} {v7 : Nat} {x5 : Int32} {n9 : Nat} {f10 : Nat → Int32} {o1 : Option Value} {o2 : Option Value} {o3 : Option Value} {o4 : Option Value} {o6 : Option Value} (hg2 : h.2 r0 = some (.inr (9, fs1))) (hv4 : fs1[6]? = some (.ref v3)) (hg6 : h.2 v3 = some (.inr (6, fs5))) (hv8 : fs5[1]? = some (.ref v7)) (ha11 : h.2 v7 = some (.inl (2, n9, .inl f10))) (j12 : Nat) (hi13 : (x5 : Int32).toInt = (j12 : Int)) (hj14 : j12 < n9) (kt : ¬ (f10 j12) = 0 → hk_S G m_X9_span (d + 1) cb sb 111 [some (.ref r0), o1, o2, o3, o4, some (.int x5), o6] [] h Q) (kf : (f10 j12) = 0 → hk_S G m_X9_span (d + 1) cb sb 101 [some (.ref r0), o1, o2, o3, o4, some (.int x5), o6] [] h Q) : hk_S G m_X9_span (d + 1) cb sb 88 [some (.ref r0), o1, o2, o3, o4, some (.int x5), o6] [] h Q := by
  refine hs_aload_n dX9_span_88 rfl ?_
  refine hs_get dX9_span_89 fl_X9_49_9 hg2 hv4 ?_
  refine hs_get dX9_span_92 fl_X9_207_6 hg6 hv8 ?_
  refine hs_iload dX9_span_95 rfl ?_
  refine hs_zald j12 dX9_span_97 ha11 hi13 hj14 ?_
  exact hs_if_ne dX9_span_98 (by decide) kt kf
theorem b_X9_span_101 {G : hk_G} {d cb sb : Nat} {h : hk_H} {Q : hk_O → hk_H → Prop} {o0 : Option Value} {o1 : Option Value} {o2 : Option Value} {o3 : Option Value} {o4 : Option Value} {o5 : Option Value} {o6 : Option Value} (hq : Q (.inr "java/lang/IllegalStateException") (h.1 + 1, h.2)) : hk_S G m_X9_span (d + 1) (cb + 1) (sb + 6) 101 [o0, o1, o2, o3, o4, o5, o6] [] h Q := by
  exact hs_throw (text := "an end that does not come about") dX9_span_101 dX9_span_104 dX9_span_105 dX9_span_107 dX9_span_110 rfl th_X9_S (by decide +kernel) rfl hq
-- b_X9_span_110: .athrow
theorem b_X9_span_111 {G : hk_G} {d cb sb : Nat} {h : hk_H} {Q : hk_O → hk_H → Prop} {r0 : Nat} {fs1 : List Value} {v3 : Nat} {x4 : Int32} {x5 : Int32} {fs_ : List Value} {o1 : Option Value} {o2 : Option Value} {o3 : Option Value} {o6 : Option Value} (hg2 : h.2 r0 = some (.inr (9, fs1))) (hv4 : fs1[6]? = some (.ref v3)) (hrec : h.2 v3 = some (.inr (6, fs_))) (hc : hk_Ci G m_X6_lengthOf d 0 0 [.ref v3, .int x4, .int x5] h (fun z h' => hk_S G m_X9_span (d + 1) cb sb 122 [some (.ref r0), o1, o2, o3, some (.int x4), some (.int x5), o6] [.int z] h' Q)) : hk_S G m_X9_span (d + 1) cb sb 111 [some (.ref r0), o1, o2, o3, some (.int x4), some (.int x5), o6] [] h Q := by
  refine hs_aload_n dX9_span_111 rfl ?_
  refine hs_get dX9_span_112 fl_X9_49_9 hg2 hv4 ?_
  refine hs_iload dX9_span_115 rfl ?_
  refine hs_iload dX9_span_117 rfl ?_
  exact hk_z0 (hs_vir (M' := m_X6_lengthOf) (vs := [.int x4, .int x5]) (c1 := 0) (s1 := 0) dX9_span_119 wd_1087 vi_X6_lengthOf hrec rfl (Nat.le_of_ble_eq_true rfl) hc hq_i (hc_i (fun z h9 k9 => k9)))
theorem b_X9_span_122 {G : hk_G} {d cb sb : Nat} {h : hk_H} {Q : hk_O → hk_H → Prop} {s0 : Int32} {o0 : Option Value} {o1 : Option Value} {o2 : Option Value} {o3 : Option Value} {o4 : Option Value} {o5 : Option Value} {o6 : Option Value} (hq : Q (.inl (some (.int s0))) h) : hk_S G m_X9_span (d + 1) cb sb 122 [o0, o1, o2, o3, o4, o5, o6] [.int s0] h Q := by
  exact hs_iret dX9_span_122 rfl hq
-- HonestHouse.round(II)I
theorem b_X9_round_0 {G : hk_G} {d cb sb : Nat} {h : hk_H} {Q : hk_O → hk_H → Prop} {r0 : Nat} {x1 : Int32} {fs_ : List Value} {o2 : Option Value} {o3 : Option Value} (hrec : h.2 r0 = some (.inr (9, fs_))) (hc : hk_Cr G m_X9_settledRule d 0 0 [.ref r0, .int x1] h (fun z h' => hk_S G m_X9_round (d + 1) cb sb 5 [some (.ref r0), some (.int x1), o2, o3] [hk_rf z] h' Q)) : hk_S G m_X9_round (d + 1) cb sb 0 [some (.ref r0), some (.int x1), o2, o3] [] h Q := by
  refine hs_aload_n dX9_round_0 rfl ?_
  refine hs_iload_n dX9_round_1 rfl ?_
  exact hk_z0 (hs_vir (M' := m_X9_settledRule) (vs := [.int x1]) (c1 := 0) (s1 := 0) dX9_round_2 wd_500 vi_X9_settledRule hrec rfl (Nat.le_of_ble_eq_true rfl) hc hq_r (hc_r (fun z h9 k9 => k9)))
theorem b_X9_round_5 {G : hk_G} {d cb sb : Nat} {h : hk_H} {Q : hk_O → hk_H → Prop} {s0 : Nat} {x2 : Int32} {o0 : Option Value} {o1 : Option Value} {o3 : Option Value} (hc : hk_Ci G m_X9_isWithin d 0 0 [.int x2, .int 0, .int 2] h (fun z h' => hk_S G m_X9_round (d + 1) cb sb 16 [o0, o1, some (.int x2), some (.ref s0)] [.int z] h' Q)) : hk_S G m_X9_round (d + 1) cb sb 5 [o0, o1, some (.int x2), o3] [.ref s0] h Q := by
  refine hs_astK_n dX9_round_5 (by decide) (hk_nk1 rfl hk_c1i) rfl ?_
  refine hs_aload_n dX9_round_6 rfl ?_
  refine hs_ifnull dX9_round_7 ?_
  refine hs_iload_n dX9_round_10 rfl ?_
  refine hs_iconst (v := 0) dX9_round_11 (by decide) ?_
  refine hs_iconst (v := 2) dX9_round_12 (by decide) ?_
  exact hk_z0 (hs_sta (M' := m_X9_isWithin) (vs := [.int x2, .int 0, .int 2]) (c1 := 0) (s1 := 0) dX9_round_13 wd_244 st_X9_isWithin rfl (Nat.le_of_ble_eq_true rfl) hc hq_i (hc_i (fun z h9 k9 => k9)))
theorem b_X9_round_5N0 {G : hk_G} {d cb sb : Nat} {h : hk_H} {Q : hk_O → hk_H → Prop} {o0 : Option Value} {o1 : Option Value} {o2 : Option Value} {o3 : Option Value} (hq : Q (.inl (some (.int ((-1))))) h) (ho2 : hk_c1 o2 := by first | exact hk_c1i | exact hk_c1r | exact hk_c10 | exact hk_c1n) : hk_S G m_X9_round (d + 1) cb sb 5 [o0, o1, o2, o3] [.null] h Q := by
  refine hs_astKN_n dX9_round_5 (by decide) (hk_nk1 rfl ho2) rfl ?_
  refine hs_aload_nN dX9_round_6 rfl ?_
  refine hs_ifnullN dX9_round_7 (tgt := 19) (by decide) ?_
  refine hs_iconst (v := (-1)) dX9_round_19 (by decide) ?_
  refine hs_goto dX9_round_20 (tgt := 29) (by decide) ?_
  exact hs_iret dX9_round_29 rfl hq
theorem b_X9_round_10 {G : hk_G} {d cb sb : Nat} {h : hk_H} {Q : hk_O → hk_H → Prop} {x2 : Int32} {o0 : Option Value} {o1 : Option Value} {o3 : Option Value} (hc : hk_Ci G m_X9_isWithin d 0 0 [.int x2, .int 0, .int 2] h (fun z h' => hk_S G m_X9_round (d + 1) cb sb 16 [o0, o1, some (.int x2), o3] [.int z] h' Q)) : hk_S G m_X9_round (d + 1) cb sb 10 [o0, o1, some (.int x2), o3] [] h Q := by
  refine hs_iload_n dX9_round_10 rfl ?_
  refine hs_iconst (v := 0) dX9_round_11 (by decide) ?_
  refine hs_iconst (v := 2) dX9_round_12 (by decide) ?_
  exact hk_z0 (hs_sta (M' := m_X9_isWithin) (vs := [.int x2, .int 0, .int 2]) (c1 := 0) (s1 := 0) dX9_round_13 wd_244 st_X9_isWithin rfl (Nat.le_of_ble_eq_true rfl) hc hq_i (hc_i (fun z h9 k9 => k9)))
theorem b_X9_round_16 {G : hk_G} {d cb sb : Nat} {h : hk_H} {Q : hk_O → hk_H → Prop} {s0 : Int32} {o0 : Option Value} {o1 : Option Value} {o2 : Option Value} {o3 : Option Value} (kt : ¬ s0 = 0 → hk_S G m_X9_round (d + 1) cb sb 23 [o0, o1, o2, o3] [] h Q) (kf : s0 = 0 → hk_S G m_X9_round (d + 1) cb sb 19 [o0, o1, o2, o3] [] h Q) : hk_S G m_X9_round (d + 1) cb sb 16 [o0, o1, o2, o3] [.int s0] h Q := by
  exact hs_if_ne dX9_round_16 (by decide) kt kf
theorem b_X9_round_19 {G : hk_G} {d cb sb : Nat} {h : hk_H} {Q : hk_O → hk_H → Prop} {o0 : Option Value} {o1 : Option Value} {o2 : Option Value} {o3 : Option Value} (hq : Q (.inl (some (.int ((-1))))) h) : hk_S G m_X9_round (d + 1) cb sb 19 [o0, o1, o2, o3] [] h Q := by
  refine hs_iconst (v := (-1)) dX9_round_19 (by decide) ?_
  refine hs_goto dX9_round_20 (tgt := 29) (by decide) ?_
  exact hs_iret dX9_round_29 rfl hq
theorem b_X9_round_23 {G : hk_G} {d cb sb : Nat} {h : hk_H} {Q : hk_O → hk_H → Prop} {r0 : Nat} {r3 : Nat} {x2 : Int32} {fs_ : List Value} {o1 : Option Value} (hrec : h.2 r0 = some (.inr (9, fs_))) (hc : hk_Ci G m_X9_firstRound d 0 0 [.ref r0, .ref r3, .int x2] h (fun z h' => hk_S G m_X9_round (d + 1) cb sb 29 [some (.ref r0), o1, some (.int x2), some (.ref r3)] [.int z] h' Q)) : hk_S G m_X9_round (d + 1) cb sb 23 [some (.ref r0), o1, some (.int x2), some (.ref r3)] [] h Q := by
  refine hs_aload_n dX9_round_23 rfl ?_
  refine hs_aload_n dX9_round_24 rfl ?_
  refine hs_iload_n dX9_round_25 rfl ?_
  exact hk_z0 (hs_vir (M' := m_X9_firstRound) (vs := [.ref r3, .int x2]) (c1 := 0) (s1 := 0) dX9_round_26 wd_627 vi_X9_firstRound hrec rfl (Nat.le_of_ble_eq_true rfl) hc hq_i (hc_i (fun z h9 k9 => k9)))
theorem b_X9_round_29 {G : hk_G} {d cb sb : Nat} {h : hk_H} {Q : hk_O → hk_H → Prop} {s0 : Int32} {o0 : Option Value} {o1 : Option Value} {o2 : Option Value} {o3 : Option Value} (hq : Q (.inl (some (.int s0))) h) : hk_S G m_X9_round (d + 1) cb sb 29 [o0, o1, o2, o3] [.int s0] h Q := by
  exact hs_iret dX9_round_29 rfl hq
-- HonestHouse.price(IIII)I
theorem b_X9_price_0 {G : hk_G} {d cb sb : Nat} {h : hk_H} {Q : hk_O → hk_H → Prop} {r0 : Nat} {x1 : Int32} {fs_ : List Value} {o2 : Option Value} {o3 : Option Value} {o4 : Option Value} {o5 : Option Value} (hrec : h.2 r0 = some (.inr (9, fs_))) (hc : hk_Cr G m_X9_ruleAt d 0 0 [.ref r0, .int x1] h (fun z h' => hk_S G m_X9_price (d + 1) cb sb 5 [some (.ref r0), some (.int x1), o2, o3, o4, o5] [hk_rf z] h' Q)) : hk_S G m_X9_price (d + 1) cb sb 0 [some (.ref r0), some (.int x1), o2, o3, o4, o5] [] h Q := by
  refine hs_aload_n dX9_price_0 rfl ?_
  refine hs_iload_n dX9_price_1 rfl ?_
  exact hk_z0 (hs_vir (M' := m_X9_ruleAt) (vs := [.int x1]) (c1 := 0) (s1 := 0) dX9_price_2 wd_351 vi_X9_ruleAt hrec rfl (Nat.le_of_ble_eq_true rfl) hc hq_r (hc_r (fun z h9 k9 => k9)))
theorem b_X9_price_5 {G : hk_G} {d cb sb : Nat} {h : hk_H} {Q : hk_O → hk_H → Prop} {s0 : Nat} {r0 : Nat} {x2 : Int32} {fs_ : List Value} {o1 : Option Value} {o3 : Option Value} {o4 : Option Value} {o5 : Option Value} (hrec : h.2 r0 = some (.inr (9, fs_))) (hc : hk_Ci G m_X9_isRow d 0 0 [.ref r0, .int x2] h (fun z h' => hk_S G m_X9_price (d + 1) cb sb 17 [some (.ref r0), o1, some (.int x2), o3, o4, some (.ref s0)] [.int z] h' Q)) (ho4 : hk_c1 o4 := by first | exact hk_c1i | exact hk_c1r | exact hk_c10 | exact hk_c1n) : hk_S G m_X9_price (d + 1) cb sb 5 [some (.ref r0), o1, some (.int x2), o3, o4, o5] [.ref s0] h Q := by
  refine hs_astK dX9_price_5 (by decide) (hk_nk1 rfl ho4) rfl ?_
  refine hs_aload dX9_price_7 rfl ?_
  refine hs_ifnull dX9_price_9 ?_
  refine hs_aload_n dX9_price_12 rfl ?_
  refine hs_iload_n dX9_price_13 rfl ?_
  exact hk_z0 (hs_vir (M' := m_X9_isRow) (vs := [.int x2]) (c1 := 0) (s1 := 0) dX9_price_14 wd_355 vi_X9_isRow hrec rfl (Nat.le_of_ble_eq_true rfl) hc hq_i (hc_i (fun z h9 k9 => k9)))
theorem b_X9_price_5N0 {G : hk_G} {d cb sb : Nat} {h : hk_H} {Q : hk_O → hk_H → Prop} {o0 : Option Value} {o1 : Option Value} {o2 : Option Value} {o3 : Option Value} {o4 : Option Value} {o5 : Option Value} (hq : Q (.inr "java/lang/IllegalArgumentException") (h.1 + 1, h.2)) (ho4 : hk_c1 o4 := by first | exact hk_c1i | exact hk_c1r | exact hk_c10 | exact hk_c1n) : hk_S G m_X9_price (d + 1) (cb + 1) (sb + 6) 5 [o0, o1, o2, o3, o4, o5] [.null] h Q := by
  refine hs_astKN dX9_price_5 (by decide) (hk_nk1 rfl ho4) rfl ?_
  refine hs_aloadN dX9_price_7 rfl ?_
  refine hs_ifnullN dX9_price_9 (tgt := 37) (by decide) ?_
  exact hs_throw (text := "no such rule, row, person or end") dX9_price_37 dX9_price_40 dX9_price_41 dX9_price_43 dX9_price_46 rfl th_X9_A (by decide +kernel) rfl hq
theorem b_X9_price_12 {G : hk_G} {d cb sb : Nat} {h : hk_H} {Q : hk_O → hk_H → Prop} {r0 : Nat} {x2 : Int32} {fs_ : List Value} {o1 : Option Value} {o3 : Option Value} {o4 : Option Value} {o5 : Option Value} (hrec : h.2 r0 = some (.inr (9, fs_))) (hc : hk_Ci G m_X9_isRow d 0 0 [.ref r0, .int x2] h (fun z h' => hk_S G m_X9_price (d + 1) cb sb 17 [some (.ref r0), o1, some (.int x2), o3, o4, o5] [.int z] h' Q)) : hk_S G m_X9_price (d + 1) cb sb 12 [some (.ref r0), o1, some (.int x2), o3, o4, o5] [] h Q := by
  refine hs_aload_n dX9_price_12 rfl ?_
  refine hs_iload_n dX9_price_13 rfl ?_
  exact hk_z0 (hs_vir (M' := m_X9_isRow) (vs := [.int x2]) (c1 := 0) (s1 := 0) dX9_price_14 wd_355 vi_X9_isRow hrec rfl (Nat.le_of_ble_eq_true rfl) hc hq_i (hc_i (fun z h9 k9 => k9)))
theorem b_X9_price_17 {G : hk_G} {d cb sb : Nat} {h : hk_H} {Q : hk_O → hk_H → Prop} {s0 : Int32} {o0 : Option Value} {o1 : Option Value} {o2 : Option Value} {o3 : Option Value} {o4 : Option Value} {o5 : Option Value} (kt : s0 = 0 → hk_S G m_X9_price (d + 1) cb sb 37 [o0, o1, o2, o3, o4, o5] [] h Q) (kf : ¬ s0 = 0 → hk_S G m_X9_price (d + 1) cb sb 20 [o0, o1, o2, o3, o4, o5] [] h Q) : hk_S G m_X9_price (d + 1) cb sb 17 [o0, o1, o2, o3, o4, o5] [.int s0] h Q := by
  exact hs_if_eq dX9_price_17 (by decide) kt kf
theorem b_X9_price_20 {G : hk_G} {d cb sb : Nat} {h : hk_H} {Q : hk_O → hk_H → Prop} {r0 : Nat} {x3 : Int32} {fs_ : List Value} {o1 : Option Value} {o2 : Option Value} {o4 : Option Value} {o5 : Option Value} (hrec : h.2 r0 = some (.inr (9, fs_))) (hc : hk_Ci G m_X9_isPerson d 0 0 [.ref r0, .int x3] h (fun z h' => hk_S G m_X9_price (d + 1) cb sb 25 [some (.ref r0), o1, o2, some (.int x3), o4, o5] [.int z] h' Q)) : hk_S G m_X9_price (d + 1) cb sb 20 [some (.ref r0), o1, o2, some (.int x3), o4, o5] [] h Q := by
  refine hs_aload_n dX9_price_20 rfl ?_
  refine hs_iload_n dX9_price_21 rfl ?_
  exact hk_z0 (hs_vir (M' := m_X9_isPerson) (vs := [.int x3]) (c1 := 0) (s1 := 0) dX9_price_22 wd_375 vi_X9_isPerson hrec rfl (Nat.le_of_ble_eq_true rfl) hc hq_i (hc_i (fun z h9 k9 => k9)))
theorem b_X9_price_25 {G : hk_G} {d cb sb : Nat} {h : hk_H} {Q : hk_O → hk_H → Prop} {s0 : Int32} {o0 : Option Value} {o1 : Option Value} {o2 : Option Value} {o3 : Option Value} {o4 : Option Value} {o5 : Option Value} (kt : s0 = 0 → hk_S G m_X9_price (d + 1) cb sb 37 [o0, o1, o2, o3, o4, o5] [] h Q) (kf : ¬ s0 = 0 → hk_S G m_X9_price (d + 1) cb sb 28 [o0, o1, o2, o3, o4, o5] [] h Q) : hk_S G m_X9_price (d + 1) cb sb 25 [o0, o1, o2, o3, o4, o5] [.int s0] h Q := by
  exact hs_if_eq dX9_price_25 (by decide) kt kf
theorem b_X9_price_28 {G : hk_G} {d cb sb : Nat} {h : hk_H} {Q : hk_O → hk_H → Prop} {r0 : Nat} {x4 : Int32} {fs_ : List Value} {o1 : Option Value} {o2 : Option Value} {o3 : Option Value} {o5 : Option Value} (hrec : h.2 r0 = some (.inr (9, fs_))) (hc : hk_Ci G m_X9_isEnd d 0 0 [.ref r0, .int x4] h (fun z h' => hk_S G m_X9_price (d + 1) cb sb 34 [some (.ref r0), o1, o2, o3, some (.int x4), o5] [.int z] h' Q)) : hk_S G m_X9_price (d + 1) cb sb 28 [some (.ref r0), o1, o2, o3, some (.int x4), o5] [] h Q := by
  refine hs_aload_n dX9_price_28 rfl ?_
  refine hs_iload dX9_price_29 rfl ?_
  exact hk_z0 (hs_vir (M' := m_X9_isEnd) (vs := [.int x4]) (c1 := 0) (s1 := 0) dX9_price_31 wd_240 vi_X9_isEnd hrec rfl (Nat.le_of_ble_eq_true rfl) hc hq_i (hc_i (fun z h9 k9 => k9)))
theorem b_X9_price_34 {G : hk_G} {d cb sb : Nat} {h : hk_H} {Q : hk_O → hk_H → Prop} {s0 : Int32} {o0 : Option Value} {o1 : Option Value} {o2 : Option Value} {o3 : Option Value} {o4 : Option Value} {o5 : Option Value} (kt : ¬ s0 = 0 → hk_S G m_X9_price (d + 1) cb sb 47 [o0, o1, o2, o3, o4, o5] [] h Q) (kf : s0 = 0 → hk_S G m_X9_price (d + 1) cb sb 37 [o0, o1, o2, o3, o4, o5] [] h Q) : hk_S G m_X9_price (d + 1) cb sb 34 [o0, o1, o2, o3, o4, o5] [.int s0] h Q := by
  exact hs_if_ne dX9_price_34 (by decide) kt kf
theorem b_X9_price_37 {G : hk_G} {d cb sb : Nat} {h : hk_H} {Q : hk_O → hk_H → Prop} {o0 : Option Value} {o1 : Option Value} {o2 : Option Value} {o3 : Option Value} {o4 : Option Value} {o5 : Option Value} (hq : Q (.inr "java/lang/IllegalArgumentException") (h.1 + 1, h.2)) : hk_S G m_X9_price (d + 1) (cb + 1) (sb + 6) 37 [o0, o1, o2, o3, o4, o5] [] h Q := by
  exact hs_throw (text := "no such rule, row, person or end") dX9_price_37 dX9_price_40 dX9_price_41 dX9_price_43 dX9_price_46 rfl th_X9_A (by decide +kernel) rfl hq
-- b_X9_price_46: .athrow
theorem b_X9_price_47 {G : hk_G} {d cb sb : Nat} {h : hk_H} {Q : hk_O → hk_H → Prop} {r0 : Nat} {r5 : Nat} {x2 : Int32} {x3 : Int32} {fs_ : List Value} {o1 : Option Value} {o4 : Option Value} (hrec : h.2 r0 = some (.inr (9, fs_))) (hc : hk_Cv G m_X9_settleFor d 0 0 [.ref r0, .ref r5, .int x2, .int x3] h (fun h' => hk_S G m_X9_price (d + 1) cb sb 55 [some (.ref r0), o1, some (.int x2), some (.int x3), o4, some (.ref r5)] [] h' Q)) : hk_S G m_X9_price (d + 1) cb sb 47 [some (.ref r0), o1, some (.int x2), some (.int x3), o4, some (.ref r5)] [] h Q := by
  refine hs_aload_n dX9_price_47 rfl ?_
  refine hs_aload dX9_price_48 rfl ?_
  refine hs_iload_n dX9_price_50 rfl ?_
  refine hs_iload_n dX9_price_51 rfl ?_
  exact hk_z0 (hs_vir (M' := m_X9_settleFor) (vs := [.ref r5, .int x2, .int x3]) (c1 := 0) (s1 := 0) dX9_price_52 wd_1081 vi_X9_settleFor hrec rfl (Nat.le_of_ble_eq_true rfl) hc hq_v (hc_v (fun h9 k9 => k9)))
theorem b_X9_price_55 {G : hk_G} {d cb sb : Nat} {h : hk_H} {Q : hk_O → hk_H → Prop} {r0 : Nat} {fs1 : List Value} {v3 : Nat} {r5 : Nat} {x2 : Int32} {x3 : Int32} {fs_ : List Value} {o1 : Option Value} {o4 : Option Value} (hg2 : h.2 r0 = some (.inr (9, fs1))) (hv4 : fs1[6]? = some (.ref v3)) (hrec : h.2 v3 = some (.inr (6, fs_))) (hc : hk_Cv G m_X6_look d 0 0 [.ref v3, .ref r5, .int x2, .int x3] h (fun h' => hk_S G m_X9_price (d + 1) cb sb 66 [some (.ref r0), o1, some (.int x2), some (.int x3), o4, some (.ref r5)] [] h' Q)) : hk_S G m_X9_price (d + 1) cb sb 55 [some (.ref r0), o1, some (.int x2), some (.int x3), o4, some (.ref r5)] [] h Q := by
  refine hs_aload_n dX9_price_55 rfl ?_
  refine hs_get dX9_price_56 fl_X9_49_9 hg2 hv4 ?_
  refine hs_aload dX9_price_59 rfl ?_
  refine hs_iload_n dX9_price_61 rfl ?_
  refine hs_iload_n dX9_price_62 rfl ?_
  exact hk_z0 (hs_vir (M' := m_X6_look) (vs := [.ref r5, .int x2, .int x3]) (c1 := 0) (s1 := 0) dX9_price_63 wd_635 vi_X6_look hrec rfl (Nat.le_of_ble_eq_true rfl) hc hq_v (hc_v (fun h9 k9 => k9)))
theorem b_X9_price_66 {G : hk_G} {d cb sb : Nat} {h : hk_H} {Q : hk_O → hk_H → Prop} {r0 : Nat} {fs1 : List Value} {v3 : Nat} {fs5 : List Value} {v7 : Nat} {x4 : Int32} {n9 : Nat} {f10 : Nat → Int32} {o1 : Option Value} {o2 : Option Value} {o3 : Option Value} {o5 : Option Value} (hg2 : h.2 r0 = some (.inr (9, fs1))) (hv4 : fs1[6]? = some (.ref v3)) (hg6 : h.2 v3 = some (.inr (6, fs5))) (hv8 : fs5[1]? = some (.ref v7)) (ha11 : h.2 v7 = some (.inl (2, n9, .inl f10))) (j12 : Nat) (hi13 : (x4 : Int32).toInt = (j12 : Int)) (hj14 : j12 < n9) (kt : (f10 j12) = 0 → hk_S G m_X9_price (d + 1) cb sb 89 [some (.ref r0), o1, o2, o3, some (.int x4), o5] [] h Q) (kf : ¬ (f10 j12) = 0 → hk_S G m_X9_price (d + 1) cb sb 79 [some (.ref r0), o1, o2, o3, some (.int x4), o5] [] h Q) : hk_S G m_X9_price (d + 1) cb sb 66 [some (.ref r0), o1, o2, o3, some (.int x4), o5] [] h Q := by
  refine hs_aload_n dX9_price_66 rfl ?_
  refine hs_get dX9_price_67 fl_X9_49_9 hg2 hv4 ?_
  refine hs_get dX9_price_70 fl_X9_207_6 hg6 hv8 ?_
  refine hs_iload dX9_price_73 rfl ?_
  refine hs_zald j12 dX9_price_75 ha11 hi13 hj14 ?_
  exact hs_if_eq dX9_price_76 (by decide) kt kf
theorem b_X9_price_79 {G : hk_G} {d cb sb : Nat} {h : hk_H} {Q : hk_O → hk_H → Prop} {r0 : Nat} {fs1 : List Value} {v3 : Nat} {fs_ : List Value} {o1 : Option Value} {o2 : Option Value} {o3 : Option Value} {o4 : Option Value} {o5 : Option Value} (hg2 : h.2 r0 = some (.inr (9, fs1))) (hv4 : fs1[6]? = some (.ref v3)) (hrec : h.2 v3 = some (.inr (6, fs_))) (hc : hk_Ci G m_X6_hasRound d 0 0 [.ref v3] h (fun z h' => hk_S G m_X9_price (d + 1) cb sb 86 [some (.ref r0), o1, o2, o3, o4, o5] [.int z] h' Q)) : hk_S G m_X9_price (d + 1) cb sb 79 [some (.ref r0), o1, o2, o3, o4, o5] [] h Q := by
  refine hs_aload_n dX9_price_79 rfl ?_
  refine hs_get dX9_price_80 fl_X9_49_9 hg2 hv4 ?_
  exact hk_z0 (hs_vir (M' := m_X6_hasRound) (vs := []) (c1 := 0) (s1 := 0) dX9_price_83 wd_652 vi_X6_hasRound hrec rfl (Nat.le_of_ble_eq_true rfl) hc hq_i (hc_i (fun z h9 k9 => k9)))
theorem b_X9_price_86 {G : hk_G} {d cb sb : Nat} {h : hk_H} {Q : hk_O → hk_H → Prop} {s0 : Int32} {o0 : Option Value} {o1 : Option Value} {o2 : Option Value} {o3 : Option Value} {o4 : Option Value} {o5 : Option Value} (kt : s0 = 0 → hk_S G m_X9_price (d + 1) cb sb 99 [o0, o1, o2, o3, o4, o5] [] h Q) (kf : ¬ s0 = 0 → hk_S G m_X9_price (d + 1) cb sb 89 [o0, o1, o2, o3, o4, o5] [] h Q) : hk_S G m_X9_price (d + 1) cb sb 86 [o0, o1, o2, o3, o4, o5] [.int s0] h Q := by
  exact hs_if_eq dX9_price_86 (by decide) kt kf
theorem b_X9_price_89 {G : hk_G} {d cb sb : Nat} {h : hk_H} {Q : hk_O → hk_H → Prop} {o0 : Option Value} {o1 : Option Value} {o2 : Option Value} {o3 : Option Value} {o4 : Option Value} {o5 : Option Value} (hq : Q (.inr "java/lang/IllegalStateException") (h.1 + 1, h.2)) : hk_S G m_X9_price (d + 1) (cb + 1) (sb + 6) 89 [o0, o1, o2, o3, o4, o5] [] h Q := by
  exact hs_throw (text := "an end that does not come about, or a round below 0") dX9_price_89 dX9_price_92 dX9_price_93 dX9_price_95 dX9_price_98 rfl th_X9_S (by decide +kernel) rfl hq
-- b_X9_price_98: .athrow
theorem b_X9_price_99 {G : hk_G} {d cb sb : Nat} {h : hk_H} {Q : hk_O → hk_H → Prop} {r0 : Nat} {fs1 : List Value} {v3 : Nat} {x4 : Int32} {fs_ : List Value} {o1 : Option Value} {o2 : Option Value} {o3 : Option Value} {o5 : Option Value} (hg2 : h.2 r0 = some (.inr (9, fs1))) (hv4 : fs1[6]? = some (.ref v3)) (hrec : h.2 v3 = some (.inr (6, fs_))) (hc : hk_Ci G m_X6_priceOf d 0 0 [.ref v3, .int x4] h (fun z h' => hk_S G m_X9_price (d + 1) cb sb 108 [some (.ref r0), o1, o2, o3, some (.int x4), o5] [.int z] h' Q)) : hk_S G m_X9_price (d + 1) cb sb 99 [some (.ref r0), o1, o2, o3, some (.int x4), o5] [] h Q := by
  refine hs_aload_n dX9_price_99 rfl ?_
  refine hs_get dX9_price_100 fl_X9_49_9 hg2 hv4 ?_
  refine hs_iload dX9_price_103 rfl ?_
  exact hk_z0 (hs_vir (M' := m_X6_priceOf) (vs := [.int x4]) (c1 := 0) (s1 := 0) dX9_price_105 wd_707 vi_X6_priceOf hrec rfl (Nat.le_of_ble_eq_true rfl) hc hq_i (hc_i (fun z h9 k9 => k9)))
theorem b_X9_price_108 {G : hk_G} {d cb sb : Nat} {h : hk_H} {Q : hk_O → hk_H → Prop} {s0 : Int32} {o0 : Option Value} {o1 : Option Value} {o2 : Option Value} {o3 : Option Value} {o4 : Option Value} {o5 : Option Value} (hq : Q (.inl (some (.int s0))) h) : hk_S G m_X9_price (d + 1) cb sb 108 [o0, o1, o2, o3, o4, o5] [.int s0] h Q := by
  exact hs_iret dX9_price_108 rfl hq
-- HonestHouse.honest(I)I
theorem b_X9_honest_0 {G : hk_G} {d cb sb : Nat} {h : hk_H} {Q : hk_O → hk_H → Prop} {r0 : Nat} {x1 : Int32} {fs_ : List Value} {o2 : Option Value} (hrec : h.2 r0 = some (.inr (9, fs_))) (hc : hk_Cr G m_X9_settledRule d 0 0 [.ref r0, .int x1] h (fun z h' => hk_S G m_X9_honest (d + 1) cb sb 5 [some (.ref r0), some (.int x1), o2] [hk_rf z] h' Q)) : hk_S G m_X9_honest (d + 1) cb sb 0 [some (.ref r0), some (.int x1), o2] [] h Q := by
  refine hs_aload_n dX9_honest_0 rfl ?_
  refine hs_iload_n dX9_honest_1 rfl ?_
  exact hk_z0 (hs_vir (M' := m_X9_settledRule) (vs := [.int x1]) (c1 := 0) (s1 := 0) dX9_honest_2 wd_500 vi_X9_settledRule hrec rfl (Nat.le_of_ble_eq_true rfl) hc hq_r (hc_r (fun z h9 k9 => k9)))
theorem b_X9_honest_5 {G : hk_G} {d cb sb : Nat} {h : hk_H} {Q : hk_O → hk_H → Prop} {s0 : Nat} {r0 : Nat} {fs1 : List Value} {v3 : Int32} {o1 : Option Value} {o2 : Option Value} (hg2 : h.2 r0 = some (.inr (9, fs1))) (hv4 : fs1[4]? = some (.int v3)) (kt : v3 < 8 → hk_S G m_X9_honest (d + 1) cb sb 24 [some (.ref r0), o1, some (.ref s0)] [] h Q) (kf : ¬ v3 < 8 → hk_S G m_X9_honest (d + 1) cb sb 21 [some (.ref r0), o1, some (.ref s0)] [] h Q) (ho1 : hk_c1 o1 := by first | exact hk_c1i | exact hk_c1r | exact hk_c10 | exact hk_c1n) : hk_S G m_X9_honest (d + 1) cb sb 5 [some (.ref r0), o1, o2] [.ref s0] h Q := by
  refine hs_astK_n dX9_honest_5 (by decide) (hk_nk1 rfl ho1) rfl ?_
  refine hs_aload_n dX9_honest_6 rfl ?_
  refine hs_ifnonnull dX9_honest_7 (tgt := 12) (by decide) ?_
  refine hs_aload_n dX9_honest_12 rfl ?_
  refine hs_get dX9_honest_13 fl_X9_72_9 hg2 hv4 ?_
  refine hs_bipush (v := 8) dX9_honest_16 (by decide) ?_
  exact hs_icmp_lt dX9_honest_18 (by decide) kt kf
theorem b_X9_honest_5N0 {G : hk_G} {d cb sb : Nat} {h : hk_H} {Q : hk_O → hk_H → Prop} {o0 : Option Value} {o1 : Option Value} {o2 : Option Value} (hq : Q (.inl (some (.int ((-1))))) h) (ho1 : hk_c1 o1 := by first | exact hk_c1i | exact hk_c1r | exact hk_c10 | exact hk_c1n) : hk_S G m_X9_honest (d + 1) cb sb 5 [o0, o1, o2] [.null] h Q := by
  refine hs_astKN_n dX9_honest_5 (by decide) (hk_nk1 rfl ho1) rfl ?_
  refine hs_aload_nN dX9_honest_6 rfl ?_
  refine hs_ifnonnullN dX9_honest_7 ?_
  refine hs_iconst (v := (-1)) dX9_honest_10 (by decide) ?_
  exact hs_iret dX9_honest_11 rfl hq
theorem b_X9_honest_10 {G : hk_G} {d cb sb : Nat} {h : hk_H} {Q : hk_O → hk_H → Prop} {o0 : Option Value} {o1 : Option Value} {o2 : Option Value} (hq : Q (.inl (some (.int ((-1))))) h) : hk_S G m_X9_honest (d + 1) cb sb 10 [o0, o1, o2] [] h Q := by
  refine hs_iconst (v := (-1)) dX9_honest_10 (by decide) ?_
  exact hs_iret dX9_honest_11 rfl hq
theorem b_X9_honest_12 {G : hk_G} {d cb sb : Nat} {h : hk_H} {Q : hk_O → hk_H → Prop} {r0 : Nat} {fs1 : List Value} {v3 : Int32} {o1 : Option Value} {o2 : Option Value} (hg2 : h.2 r0 = some (.inr (9, fs1))) (hv4 : fs1[4]? = some (.int v3)) (kt : v3 < 8 → hk_S G m_X9_honest (d + 1) cb sb 24 [some (.ref r0), o1, o2] [] h Q) (kf : ¬ v3 < 8 → hk_S G m_X9_honest (d + 1) cb sb 21 [some (.ref r0), o1, o2] [] h Q) : hk_S G m_X9_honest (d + 1) cb sb 12 [some (.ref r0), o1, o2] [] h Q := by
  refine hs_aload_n dX9_honest_12 rfl ?_
  refine hs_get dX9_honest_13 fl_X9_72_9 hg2 hv4 ?_
  refine hs_bipush (v := 8) dX9_honest_16 (by decide) ?_
  exact hs_icmp_lt dX9_honest_18 (by decide) kt kf
theorem b_X9_honest_21 {G : hk_G} {d cb sb : Nat} {h : hk_H} {Q : hk_O → hk_H → Prop} {o0 : Option Value} {o1 : Option Value} {o2 : Option Value} (hq : Q (.inl (some (.int ((-2))))) h) : hk_S G m_X9_honest (d + 1) cb sb 21 [o0, o1, o2] [] h Q := by
  refine hs_bipush (v := (-2)) dX9_honest_21 (by decide) ?_
  exact hs_iret dX9_honest_23 rfl hq
theorem b_X9_honest_24 {G : hk_G} {d cb sb : Nat} {h : hk_H} {Q : hk_O → hk_H → Prop} {r0 : Nat} {r2 : Nat} {fs_ : List Value} {o1 : Option Value} (hrec : h.2 r0 = some (.inr (9, fs_))) (hc : hk_Ci G m_X9_firstRound d 0 0 [.ref r0, .ref r2, .int 0] h (fun z h' => hk_S G m_X9_honest (d + 1) cb sb 30 [some (.ref r0), o1, some (.ref r2)] [.int z] h' Q)) : hk_S G m_X9_honest (d + 1) cb sb 24 [some (.ref r0), o1, some (.ref r2)] [] h Q := by
  refine hs_aload_n dX9_honest_24 rfl ?_
  refine hs_aload_n dX9_honest_25 rfl ?_
  refine hs_iconst (v := 0) dX9_honest_26 (by decide) ?_
  exact hk_z0 (hs_vir (M' := m_X9_firstRound) (vs := [.ref r2, .int 0]) (c1 := 0) (s1 := 0) dX9_honest_27 wd_627 vi_X9_firstRound hrec rfl (Nat.le_of_ble_eq_true rfl) hc hq_i (hc_i (fun z h9 k9 => k9)))
theorem b_X9_honest_30 {G : hk_G} {d cb sb : Nat} {h : hk_H} {Q : hk_O → hk_H → Prop} {s0 : Int32} {o0 : Option Value} {o1 : Option Value} {o2 : Option Value} (kt : ¬ s0 = ((-2)) → hk_S G m_X9_honest (d + 1) cb sb 47 [o0, o1, o2] [] h Q) (kf : s0 = ((-2)) → hk_S G m_X9_honest (d + 1) cb sb 35 [o0, o1, o2] [] h Q) : hk_S G m_X9_honest (d + 1) cb sb 30 [o0, o1, o2] [.int s0] h Q := by
  refine hs_bipush (v := (-2)) dX9_honest_30 (by decide) ?_
  exact hs_icmp_ne dX9_honest_32 (by decide) kt kf
theorem b_X9_honest_35 {G : hk_G} {d cb sb : Nat} {h : hk_H} {Q : hk_O → hk_H → Prop} {r0 : Nat} {r2 : Nat} {cq : Nat} {sq : Nat} {fs_ : List Value} {o1 : Option Value} (hrec : h.2 r0 = some (.inr (9, fs_))) (hc : hk_Cr G m_X9_pricedRule d cq sq [.ref r0, .ref r2] h (fun z h' => hk_S G m_X9_honest (d + 1) cb sb 41 [some (.ref r0), o1, some (.ref r2)] [hk_rf z, .ref r0] h' Q)) : hk_S G m_X9_honest (d + 1) (cq + cb) (sq + sb) 35 [some (.ref r0), o1, some (.ref r2)] [] h Q := by
  refine hs_aload_n dX9_honest_35 rfl ?_
  refine hs_aload_n dX9_honest_36 rfl ?_
  refine hs_aload_n dX9_honest_37 rfl ?_
  exact hs_vir (M' := m_X9_pricedRule) (vs := [.ref r2]) dX9_honest_38 wd_688 vi_X9_pricedRule hrec rfl (Nat.le_of_ble_eq_true rfl) hc hq_r (hc_r (fun z h9 k9 => k9))
theorem b_X9_honest_41 {G : hk_G} {d cb sb : Nat} {h : hk_H} {Q : hk_O → hk_H → Prop} {s0 : Nat} {s1 : Nat} {fs_ : List Value} {o0 : Option Value} {o1 : Option Value} {o2 : Option Value} (hrec : h.2 s0 = some (.inr (9, fs_))) (hc : hk_Ci G m_X9_add d 0 0 [.ref s0, .ref s1] h (fun z h' => hk_S G m_X9_honest (d + 1) cb sb 44 [o0, o1, o2] [.int z] h' Q)) : hk_S G m_X9_honest (d + 1) cb sb 41 [o0, o1, o2] [.ref s1, .ref s0] h Q := by
  exact hk_z0 (hs_vir (M' := m_X9_add) (vs := [.ref s1]) (c1 := 0) (s1 := 0) dX9_honest_41 wd_343 vi_X9_add hrec rfl (Nat.le_of_ble_eq_true rfl) hc hq_i (hc_i (fun z h9 k9 => k9)))
theorem b_X9_honest_44 {G : hk_G} {d cb sb : Nat} {h : hk_H} {Q : hk_O → hk_H → Prop} {s0 : Int32} {o0 : Option Value} {o1 : Option Value} {o2 : Option Value} (hq : Q (.inl (some (.int s0))) h) : hk_S G m_X9_honest (d + 1) cb sb 44 [o0, o1, o2] [.int s0] h Q := by
  refine hs_goto dX9_honest_44 (tgt := 49) (by decide) ?_
  exact hs_iret dX9_honest_49 rfl hq
theorem b_X9_honest_47 {G : hk_G} {d cb sb : Nat} {h : hk_H} {Q : hk_O → hk_H → Prop} {o0 : Option Value} {o1 : Option Value} {o2 : Option Value} (hq : Q (.inl (some (.int ((-3))))) h) : hk_S G m_X9_honest (d + 1) cb sb 47 [o0, o1, o2] [] h Q := by
  refine hs_bipush (v := (-3)) dX9_honest_47 (by decide) ?_
  exact hs_iret dX9_honest_49 rfl hq
theorem b_X9_honest_49 {G : hk_G} {d cb sb : Nat} {h : hk_H} {Q : hk_O → hk_H → Prop} {s0 : Int32} {o0 : Option Value} {o1 : Option Value} {o2 : Option Value} (hq : Q (.inl (some (.int s0))) h) : hk_S G m_X9_honest (d + 1) cb sb 49 [o0, o1, o2] [.int s0] h Q := by
  exact hs_iret dX9_honest_49 rfl hq
-- HonestHouse.same(II)I
theorem b_X9_same_0 {G : hk_G} {d cb sb : Nat} {h : hk_H} {Q : hk_O → hk_H → Prop} {r0 : Nat} {x1 : Int32} {fs_ : List Value} {o2 : Option Value} {o3 : Option Value} {o4 : Option Value} {o5 : Option Value} (hrec : h.2 r0 = some (.inr (9, fs_))) (hc : hk_Cr G m_X9_settledRule d 0 0 [.ref r0, .int x1] h (fun z h' => hk_S G m_X9_same (d + 1) cb sb 5 [some (.ref r0), some (.int x1), o2, o3, o4, o5] [hk_rf z] h' Q)) : hk_S G m_X9_same (d + 1) cb sb 0 [some (.ref r0), some (.int x1), o2, o3, o4, o5] [] h Q := by
  refine hs_aload_n dX9_same_0 rfl ?_
  refine hs_iload_n dX9_same_1 rfl ?_
  exact hk_z0 (hs_vir (M' := m_X9_settledRule) (vs := [.int x1]) (c1 := 0) (s1 := 0) dX9_same_2 wd_500 vi_X9_settledRule hrec rfl (Nat.le_of_ble_eq_true rfl) hc hq_r (hc_r (fun z h9 k9 => k9)))
theorem b_X9_same_5 {G : hk_G} {d cb sb : Nat} {h : hk_H} {Q : hk_O → hk_H → Prop} {s0 : Nat} {r0 : Nat} {x2 : Int32} {fs_ : List Value} {o1 : Option Value} {o3 : Option Value} {o4 : Option Value} {o5 : Option Value} (hrec : h.2 r0 = some (.inr (9, fs_))) (hc : hk_Cr G m_X9_settledRule d 0 0 [.ref r0, .int x2] h (fun z h' => hk_S G m_X9_same (d + 1) cb sb 11 [some (.ref r0), o1, some (.int x2), some (.ref s0), o4, o5] [hk_rf z] h' Q)) : hk_S G m_X9_same (d + 1) cb sb 5 [some (.ref r0), o1, some (.int x2), o3, o4, o5] [.ref s0] h Q := by
  refine hs_astK_n dX9_same_5 (by decide) (hk_nk1 rfl hk_c1i) rfl ?_
  refine hs_aload_n dX9_same_6 rfl ?_
  refine hs_iload_n dX9_same_7 rfl ?_
  exact hk_z0 (hs_vir (M' := m_X9_settledRule) (vs := [.int x2]) (c1 := 0) (s1 := 0) dX9_same_8 wd_500 vi_X9_settledRule hrec rfl (Nat.le_of_ble_eq_true rfl) hc hq_r (hc_r (fun z h9 k9 => k9)))
theorem b_X9_same_5N0 {G : hk_G} {d cb sb : Nat} {h : hk_H} {Q : hk_O → hk_H → Prop} {r0 : Nat} {x2 : Int32} {fs_ : List Value} {o1 : Option Value} {o3 : Option Value} {o4 : Option Value} {o5 : Option Value} (hrec : h.2 r0 = some (.inr (9, fs_))) (hc : hk_Cr G m_X9_settledRule d 0 0 [.ref r0, .int x2] h (fun z h' => hk_S G m_X9_same (d + 1) cb sb 11 [some (.ref r0), o1, some (.int x2), some (.null), o4, o5] [hk_rf z] h' Q)) : hk_S G m_X9_same (d + 1) cb sb 5 [some (.ref r0), o1, some (.int x2), o3, o4, o5] [.null] h Q := by
  refine hs_astKN_n dX9_same_5 (by decide) (hk_nk1 rfl hk_c1i) rfl ?_
  refine hs_aload_n dX9_same_6 rfl ?_
  refine hs_iload_n dX9_same_7 rfl ?_
  exact hk_z0 (hs_vir (M' := m_X9_settledRule) (vs := [.int x2]) (c1 := 0) (s1 := 0) dX9_same_8 wd_500 vi_X9_settledRule hrec rfl (Nat.le_of_ble_eq_true rfl) hc hq_r (hc_r (fun z h9 k9 => k9)))
theorem b_X9_same_11 {G : hk_G} {d cb sb : Nat} {h : hk_H} {Q : hk_O → hk_H → Prop} {s0 : Nat} {r3 : Nat} {o0 : Option Value} {o1 : Option Value} {o2 : Option Value} {o4 : Option Value} {o5 : Option Value} (k : hk_S G m_X9_same (d + 1) cb sb 27 [o0, o1, o2, some (.ref r3), some (.ref s0), some (.int 0)] [] h Q) : hk_S G m_X9_same (d + 1) cb sb 11 [o0, o1, o2, some (.ref r3), o4, o5] [.ref s0] h Q := by
  refine hs_astK dX9_same_11 (by decide) (hk_nk1 rfl hk_c1r) rfl ?_
  refine hs_aload_n dX9_same_13 rfl ?_
  refine hs_ifnull dX9_same_14 ?_
  refine hs_aload dX9_same_17 rfl ?_
  refine hs_ifnonnull dX9_same_19 (tgt := 24) (by decide) ?_
  refine hs_iconst (v := 0) dX9_same_24 (by decide) ?_
  refine hs_istK dX9_same_25 (by decide) (hk_nk1 rfl hk_c1r) rfl ?_
  exact k
theorem b_X9_same_11N0 {G : hk_G} {d cb sb : Nat} {h : hk_H} {Q : hk_O → hk_H → Prop} {r3 : Nat} {o0 : Option Value} {o1 : Option Value} {o2 : Option Value} {o4 : Option Value} {o5 : Option Value} (hq : Q (.inl (some (.int ((-1))))) h) : hk_S G m_X9_same (d + 1) cb sb 11 [o0, o1, o2, some (.ref r3), o4, o5] [.null] h Q := by
  refine hs_astKN dX9_same_11 (by decide) (hk_nk1 rfl hk_c1r) rfl ?_
  refine hs_aload_n dX9_same_13 rfl ?_
  refine hs_ifnull dX9_same_14 ?_
  refine hs_aloadN dX9_same_17 rfl ?_
  refine hs_ifnonnullN dX9_same_19 ?_
  refine hs_iconst (v := (-1)) dX9_same_22 (by decide) ?_
  exact hs_iret dX9_same_23 rfl hq
theorem b_X9_same_17 {G : hk_G} {d cb sb : Nat} {h : hk_H} {Q : hk_O → hk_H → Prop} {r4 : Nat} {o0 : Option Value} {o1 : Option Value} {o2 : Option Value} {o3 : Option Value} {o5 : Option Value} (k : hk_S G m_X9_same (d + 1) cb sb 27 [o0, o1, o2, o3, some (.ref r4), some (.int 0)] [] h Q) : hk_S G m_X9_same (d + 1) cb sb 17 [o0, o1, o2, o3, some (.ref r4), o5] [] h Q := by
  refine hs_aload dX9_same_17 rfl ?_
  refine hs_ifnonnull dX9_same_19 (tgt := 24) (by decide) ?_
  refine hs_iconst (v := 0) dX9_same_24 (by decide) ?_
  refine hs_istK dX9_same_25 (by decide) (hk_nk1 rfl hk_c1r) rfl ?_
  exact k
theorem b_X9_same_17N {G : hk_G} {d cb sb : Nat} {h : hk_H} {Q : hk_O → hk_H → Prop} {o0 : Option Value} {o1 : Option Value} {o2 : Option Value} {o3 : Option Value} {o5 : Option Value} (hq : Q (.inl (some (.int ((-1))))) h) : hk_S G m_X9_same (d + 1) cb sb 17 [o0, o1, o2, o3, some (.null), o5] [] h Q := by
  refine hs_aloadN dX9_same_17 rfl ?_
  refine hs_ifnonnullN dX9_same_19 ?_
  refine hs_iconst (v := (-1)) dX9_same_22 (by decide) ?_
  exact hs_iret dX9_same_23 rfl hq
theorem b_X9_same_22 {G : hk_G} {d cb sb : Nat} {h : hk_H} {Q : hk_O → hk_H → Prop} {o0 : Option Value} {o1 : Option Value} {o2 : Option Value} {o3 : Option Value} {o4 : Option Value} {o5 : Option Value} (hq : Q (.inl (some (.int ((-1))))) h) : hk_S G m_X9_same (d + 1) cb sb 22 [o0, o1, o2, o3, o4, o5] [] h Q := by
  refine hs_iconst (v := (-1)) dX9_same_22 (by decide) ?_
  exact hs_iret dX9_same_23 rfl hq
theorem b_X9_same_24 {G : hk_G} {d cb sb : Nat} {h : hk_H} {Q : hk_O → hk_H → Prop} {o0 : Option Value} {o1 : Option Value} {o2 : Option Value} {o3 : Option Value} {o4 : Option Value} {o5 : Option Value} (k : hk_S G m_X9_same (d + 1) cb sb 27 [o0, o1, o2, o3, o4, some (.int 0)] [] h Q) (ho4 : hk_c1 o4 := by first | exact hk_c1i | exact hk_c1r | exact hk_c10 | exact hk_c1n) : hk_S G m_X9_same (d + 1) cb sb 24 [o0, o1, o2, o3, o4, o5] [] h Q := by
  refine hs_iconst (v := 0) dX9_same_24 (by decide) ?_
  refine hs_istK dX9_same_25 (by decide) (hk_nk1 rfl ho4) rfl ?_
  exact k
theorem b_X9_same_27 {G : hk_G} {d cb sb : Nat} {h : hk_H} {Q : hk_O → hk_H → Prop} {x5 : Int32} {r0 : Nat} {fs1 : List Value} {v3 : Nat} {fs5 : List Value} {v7 : Int32} {o1 : Option Value} {o2 : Option Value} {o3 : Option Value} {o4 : Option Value} (hg2 : h.2 r0 = some (.inr (9, fs1))) (hv4 : fs1[2]? = some (.ref v3)) (hg6 : h.2 v3 = some (.inr (8, fs5))) (hv8 : fs5[5]? = some (.int v7)) (kt : v7 ≤ x5 → hk_S G m_X9_same (d + 1) cb sb 59 [some (.ref r0), o1, o2, o3, o4, some (.int x5)] [] h Q) (kf : ¬ v7 ≤ x5 → hk_S G m_X9_same (d + 1) cb sb 39 [some (.ref r0), o1, o2, o3, o4, some (.int x5)] [] h Q) : hk_S G m_X9_same (d + 1) cb sb 27 [some (.ref r0), o1, o2, o3, o4, some (.int x5)] [] h Q := by
  refine hs_iload dX9_same_27 rfl ?_
  refine hs_aload_n dX9_same_29 rfl ?_
  refine hs_get dX9_same_30 fl_X9_27_9 hg2 hv4 ?_
  refine hs_get dX9_same_33 fl_X9_162_8 hg6 hv8 ?_
  exact hs_icmp_ge dX9_same_36 (by decide) kt kf
theorem b_X9_same_39 {G : hk_G} {d cb sb : Nat} {h : hk_H} {Q : hk_O → hk_H → Prop} {r0 : Nat} {r3 : Nat} {r4 : Nat} {x5 : Int32} {fs_ : List Value} {o1 : Option Value} {o2 : Option Value} (hrec : h.2 r0 = some (.inr (9, fs_))) (hc : hk_Ci G m_X9_isSameAt d 0 0 [.ref r0, .ref r3, .ref r4, .int x5] h (fun z h' => hk_S G m_X9_same (d + 1) cb sb 48 [some (.ref r0), o1, o2, some (.ref r3), some (.ref r4), some (.int x5)] [.int z] h' Q)) : hk_S G m_X9_same (d + 1) cb sb 39 [some (.ref r0), o1, o2, some (.ref r3), some (.ref r4), some (.int x5)] [] h Q := by
  refine hs_aload_n dX9_same_39 rfl ?_
  refine hs_aload_n dX9_same_40 rfl ?_
  refine hs_aload dX9_same_41 rfl ?_
  refine hs_iload dX9_same_43 rfl ?_
  exact hk_z0 (hs_vir (M' := m_X9_isSameAt) (vs := [.ref r3, .ref r4, .int x5]) (c1 := 0) (s1 := 0) dX9_same_45 wd_716 vi_X9_isSameAt hrec rfl (Nat.le_of_ble_eq_true rfl) hc hq_i (hc_i (fun z h9 k9 => k9)))
theorem b_X9_same_48 {G : hk_G} {d cb sb : Nat} {h : hk_H} {Q : hk_O → hk_H → Prop} {s0 : Int32} {o0 : Option Value} {o1 : Option Value} {o2 : Option Value} {o3 : Option Value} {o4 : Option Value} {o5 : Option Value} (kt : ¬ s0 = 0 → hk_S G m_X9_same (d + 1) cb sb 53 [o0, o1, o2, o3, o4, o5] [] h Q) (kf : s0 = 0 → hk_S G m_X9_same (d + 1) cb sb 51 [o0, o1, o2, o3, o4, o5] [] h Q) : hk_S G m_X9_same (d + 1) cb sb 48 [o0, o1, o2, o3, o4, o5] [.int s0] h Q := by
  exact hs_if_ne dX9_same_48 (by decide) kt kf
theorem b_X9_same_51 {G : hk_G} {d cb sb : Nat} {h : hk_H} {Q : hk_O → hk_H → Prop} {o0 : Option Value} {o1 : Option Value} {o2 : Option Value} {o3 : Option Value} {o4 : Option Value} {o5 : Option Value} (hq : Q (.inl (some (.int 0))) h) : hk_S G m_X9_same (d + 1) cb sb 51 [o0, o1, o2, o3, o4, o5] [] h Q := by
  refine hs_iconst (v := 0) dX9_same_51 (by decide) ?_
  exact hs_iret dX9_same_52 rfl hq
theorem b_X9_same_53 {G : hk_G} {d cb sb : Nat} {h : hk_H} {Q : hk_O → hk_H → Prop} {x5 : Int32} {o0 : Option Value} {o1 : Option Value} {o2 : Option Value} {o3 : Option Value} {o4 : Option Value} (k : hk_S G m_X9_same (d + 1) cb sb 27 [o0, o1, o2, o3, o4, some (.int (x5 + 1))] [] h Q) (ho4 : hk_c1 o4 := by first | exact hk_c1i | exact hk_c1r | exact hk_c10 | exact hk_c1n) : hk_S G m_X9_same (d + 1) cb sb 53 [o0, o1, o2, o3, o4, some (.int x5)] [] h Q := by
  refine hs_iincK (v := 1) dX9_same_53 rfl (by decide) (by decide) (hk_nk1 rfl ho4) rfl ?_
  refine hs_goto dX9_same_56 (tgt := 27) (by decide) ?_
  exact k
theorem b_X9_same_59 {G : hk_G} {d cb sb : Nat} {h : hk_H} {Q : hk_O → hk_H → Prop} {o0 : Option Value} {o1 : Option Value} {o2 : Option Value} {o3 : Option Value} {o4 : Option Value} {o5 : Option Value} (hq : Q (.inl (some (.int 1))) h) : hk_S G m_X9_same (d + 1) cb sb 59 [o0, o1, o2, o3, o4, o5] [] h Q := by
  refine hs_iconst (v := 1) dX9_same_59 (by decide) ?_
  exact hs_iret dX9_same_60 rfl hq
-- HonestHouse.fair(I)I
theorem b_X9_fair_0 {G : hk_G} {d cb sb : Nat} {h : hk_H} {Q : hk_O → hk_H → Prop} {r0 : Nat} {x1 : Int32} {fs_ : List Value} {o2 : Option Value} {o3 : Option Value} (hrec : h.2 r0 = some (.inr (9, fs_))) (hc : hk_Cr G m_X9_settledRule d 0 0 [.ref r0, .int x1] h (fun z h' => hk_S G m_X9_fair (d + 1) cb sb 5 [some (.ref r0), some (.int x1), o2, o3] [hk_rf z] h' Q)) : hk_S G m_X9_fair (d + 1) cb sb 0 [some (.ref r0), some (.int x1), o2, o3] [] h Q := by
  refine hs_aload_n dX9_fair_0 rfl ?_
  refine hs_iload_n dX9_fair_1 rfl ?_
  exact hk_z0 (hs_vir (M' := m_X9_settledRule) (vs := [.int x1]) (c1 := 0) (s1 := 0) dX9_fair_2 wd_500 vi_X9_settledRule hrec rfl (Nat.le_of_ble_eq_true rfl) hc hq_r (hc_r (fun z h9 k9 => k9)))
theorem b_X9_fair_5 {G : hk_G} {d cb sb : Nat} {h : hk_H} {Q : hk_O → hk_H → Prop} {s0 : Nat} {o0 : Option Value} {o1 : Option Value} {o2 : Option Value} {o3 : Option Value} (k : hk_S G m_X9_fair (d + 1) cb sb 14 [o0, o1, some (.ref s0), some (.int 0)] [] h Q) (ho1 : hk_c1 o1 := by first | exact hk_c1i | exact hk_c1r | exact hk_c10 | exact hk_c1n) : hk_S G m_X9_fair (d + 1) cb sb 5 [o0, o1, o2, o3] [.ref s0] h Q := by
  refine hs_astK_n dX9_fair_5 (by decide) (hk_nk1 rfl ho1) rfl ?_
  refine hs_aload_n dX9_fair_6 rfl ?_
  refine hs_ifnonnull dX9_fair_7 (tgt := 12) (by decide) ?_
  refine hs_iconst (v := 0) dX9_fair_12 (by decide) ?_
  refine hs_istK_n dX9_fair_13 (by decide) (hk_nk1 rfl hk_c1r) rfl ?_
  exact k
theorem b_X9_fair_5N0 {G : hk_G} {d cb sb : Nat} {h : hk_H} {Q : hk_O → hk_H → Prop} {o0 : Option Value} {o1 : Option Value} {o2 : Option Value} {o3 : Option Value} (hq : Q (.inl (some (.int ((-1))))) h) (ho1 : hk_c1 o1 := by first | exact hk_c1i | exact hk_c1r | exact hk_c10 | exact hk_c1n) : hk_S G m_X9_fair (d + 1) cb sb 5 [o0, o1, o2, o3] [.null] h Q := by
  refine hs_astKN_n dX9_fair_5 (by decide) (hk_nk1 rfl ho1) rfl ?_
  refine hs_aload_nN dX9_fair_6 rfl ?_
  refine hs_ifnonnullN dX9_fair_7 ?_
  refine hs_iconst (v := (-1)) dX9_fair_10 (by decide) ?_
  exact hs_iret dX9_fair_11 rfl hq
theorem b_X9_fair_10 {G : hk_G} {d cb sb : Nat} {h : hk_H} {Q : hk_O → hk_H → Prop} {o0 : Option Value} {o1 : Option Value} {o2 : Option Value} {o3 : Option Value} (hq : Q (.inl (some (.int ((-1))))) h) : hk_S G m_X9_fair (d + 1) cb sb 10 [o0, o1, o2, o3] [] h Q := by
  refine hs_iconst (v := (-1)) dX9_fair_10 (by decide) ?_
  exact hs_iret dX9_fair_11 rfl hq
theorem b_X9_fair_12 {G : hk_G} {d cb sb : Nat} {h : hk_H} {Q : hk_O → hk_H → Prop} {o0 : Option Value} {o1 : Option Value} {o2 : Option Value} {o3 : Option Value} (k : hk_S G m_X9_fair (d + 1) cb sb 14 [o0, o1, o2, some (.int 0)] [] h Q) (ho2 : hk_c1 o2 := by first | exact hk_c1i | exact hk_c1r | exact hk_c10 | exact hk_c1n) : hk_S G m_X9_fair (d + 1) cb sb 12 [o0, o1, o2, o3] [] h Q := by
  refine hs_iconst (v := 0) dX9_fair_12 (by decide) ?_
  refine hs_istK_n dX9_fair_13 (by decide) (hk_nk1 rfl ho2) rfl ?_
  exact k
theorem b_X9_fair_14 {G : hk_G} {d cb sb : Nat} {h : hk_H} {Q : hk_O → hk_H → Prop} {x3 : Int32} {r0 : Nat} {fs1 : List Value} {v3 : Nat} {fs5 : List Value} {v7 : Int32} {o1 : Option Value} {o2 : Option Value} (hg2 : h.2 r0 = some (.inr (9, fs1))) (hv4 : fs1[2]? = some (.ref v3)) (hg6 : h.2 v3 = some (.inr (8, fs5))) (hv8 : fs5[5]? = some (.int v7)) (kt : v7 ≤ x3 → hk_S G m_X9_fair (d + 1) cb sb 42 [some (.ref r0), o1, o2, some (.int x3)] [] h Q) (kf : ¬ v7 ≤ x3 → hk_S G m_X9_fair (d + 1) cb sb 25 [some (.ref r0), o1, o2, some (.int x3)] [] h Q) : hk_S G m_X9_fair (d + 1) cb sb 14 [some (.ref r0), o1, o2, some (.int x3)] [] h Q := by
  refine hs_iload_n dX9_fair_14 rfl ?_
  refine hs_aload_n dX9_fair_15 rfl ?_
  refine hs_get dX9_fair_16 fl_X9_27_9 hg2 hv4 ?_
  refine hs_get dX9_fair_19 fl_X9_162_8 hg6 hv8 ?_
  exact hs_icmp_ge dX9_fair_22 (by decide) kt kf
theorem b_X9_fair_25 {G : hk_G} {d cb sb : Nat} {h : hk_H} {Q : hk_O → hk_H → Prop} {r0 : Nat} {r2 : Nat} {x3 : Int32} {fs_ : List Value} {o1 : Option Value} (hrec : h.2 r0 = some (.inr (9, fs_))) (hc : hk_Ci G m_X9_isFairAt d 0 0 [.ref r0, .ref r2, .int x3] h (fun z h' => hk_S G m_X9_fair (d + 1) cb sb 31 [some (.ref r0), o1, some (.ref r2), some (.int x3)] [.int z] h' Q)) : hk_S G m_X9_fair (d + 1) cb sb 25 [some (.ref r0), o1, some (.ref r2), some (.int x3)] [] h Q := by
  refine hs_aload_n dX9_fair_25 rfl ?_
  refine hs_aload_n dX9_fair_26 rfl ?_
  refine hs_iload_n dX9_fair_27 rfl ?_
  exact hk_z0 (hs_vir (M' := m_X9_isFairAt) (vs := [.ref r2, .int x3]) (c1 := 0) (s1 := 0) dX9_fair_28 wd_725 vi_X9_isFairAt hrec rfl (Nat.le_of_ble_eq_true rfl) hc hq_i (hc_i (fun z h9 k9 => k9)))
theorem b_X9_fair_31 {G : hk_G} {d cb sb : Nat} {h : hk_H} {Q : hk_O → hk_H → Prop} {s0 : Int32} {o0 : Option Value} {o1 : Option Value} {o2 : Option Value} {o3 : Option Value} (kt : ¬ s0 = 0 → hk_S G m_X9_fair (d + 1) cb sb 36 [o0, o1, o2, o3] [] h Q) (kf : s0 = 0 → hk_S G m_X9_fair (d + 1) cb sb 34 [o0, o1, o2, o3] [] h Q) : hk_S G m_X9_fair (d + 1) cb sb 31 [o0, o1, o2, o3] [.int s0] h Q := by
  exact hs_if_ne dX9_fair_31 (by decide) kt kf
theorem b_X9_fair_34 {G : hk_G} {d cb sb : Nat} {h : hk_H} {Q : hk_O → hk_H → Prop} {o0 : Option Value} {o1 : Option Value} {o2 : Option Value} {o3 : Option Value} (hq : Q (.inl (some (.int 0))) h) : hk_S G m_X9_fair (d + 1) cb sb 34 [o0, o1, o2, o3] [] h Q := by
  refine hs_iconst (v := 0) dX9_fair_34 (by decide) ?_
  exact hs_iret dX9_fair_35 rfl hq
theorem b_X9_fair_36 {G : hk_G} {d cb sb : Nat} {h : hk_H} {Q : hk_O → hk_H → Prop} {x3 : Int32} {o0 : Option Value} {o1 : Option Value} {o2 : Option Value} (k : hk_S G m_X9_fair (d + 1) cb sb 14 [o0, o1, o2, some (.int (x3 + 1))] [] h Q) (ho2 : hk_c1 o2 := by first | exact hk_c1i | exact hk_c1r | exact hk_c10 | exact hk_c1n) : hk_S G m_X9_fair (d + 1) cb sb 36 [o0, o1, o2, some (.int x3)] [] h Q := by
  refine hs_iincK (v := 1) dX9_fair_36 rfl (by decide) (by decide) (hk_nk1 rfl ho2) rfl ?_
  refine hs_goto dX9_fair_39 (tgt := 14) (by decide) ?_
  exact k
theorem b_X9_fair_42 {G : hk_G} {d cb sb : Nat} {h : hk_H} {Q : hk_O → hk_H → Prop} {o0 : Option Value} {o1 : Option Value} {o2 : Option Value} {o3 : Option Value} (hq : Q (.inl (some (.int 1))) h) : hk_S G m_X9_fair (d + 1) cb sb 42 [o0, o1, o2, o3] [] h Q := by
  refine hs_iconst (v := 1) dX9_fair_42 (by decide) ?_
  exact hs_iret dX9_fair_43 rfl hq
-- HonestHouse.likes(II)I
theorem b_X9_likes_0 {G : hk_G} {d cb sb : Nat} {h : hk_H} {Q : hk_O → hk_H → Prop} {r0 : Nat} {x1 : Int32} {fs_ : List Value} {o2 : Option Value} (hrec : h.2 r0 = some (.inr (9, fs_))) (hc : hk_Ci G m_X9_isPerson d 0 0 [.ref r0, .int x1] h (fun z h' => hk_S G m_X9_likes (d + 1) cb sb 5 [some (.ref r0), some (.int x1), o2] [.int z] h' Q)) : hk_S G m_X9_likes (d + 1) cb sb 0 [some (.ref r0), some (.int x1), o2] [] h Q := by
  refine hs_aload_n dX9_likes_0 rfl ?_
  refine hs_iload_n dX9_likes_1 rfl ?_
  exact hk_z0 (hs_vir (M' := m_X9_isPerson) (vs := [.int x1]) (c1 := 0) (s1 := 0) dX9_likes_2 wd_375 vi_X9_isPerson hrec rfl (Nat.le_of_ble_eq_true rfl) hc hq_i (hc_i (fun z h9 k9 => k9)))
theorem b_X9_likes_5 {G : hk_G} {d cb sb : Nat} {h : hk_H} {Q : hk_O → hk_H → Prop} {s0 : Int32} {o0 : Option Value} {o1 : Option Value} {o2 : Option Value} (kt : s0 = 0 → hk_S G m_X9_likes (d + 1) cb sb 19 [o0, o1, o2] [] h Q) (kf : ¬ s0 = 0 → hk_S G m_X9_likes (d + 1) cb sb 8 [o0, o1, o2] [] h Q) : hk_S G m_X9_likes (d + 1) cb sb 5 [o0, o1, o2] [.int s0] h Q := by
  exact hs_if_eq dX9_likes_5 (by decide) kt kf
theorem b_X9_likes_8 {G : hk_G} {d cb sb : Nat} {h : hk_H} {Q : hk_O → hk_H → Prop} {r0 : Nat} {fs1 : List Value} {v3 : Nat} {x2 : Int32} {fs_ : List Value} {o1 : Option Value} (hg2 : h.2 r0 = some (.inr (9, fs1))) (hv4 : fs1[7]? = some (.ref v3)) (hrec : h.2 v3 = some (.inr (1, fs_))) (hc : hk_Ci G m_X1_isOrder d 0 0 [.ref v3, .int x2] h (fun z h' => hk_S G m_X9_likes (d + 1) cb sb 16 [some (.ref r0), o1, some (.int x2)] [.int z] h' Q)) : hk_S G m_X9_likes (d + 1) cb sb 8 [some (.ref r0), o1, some (.int x2)] [] h Q := by
  refine hs_aload_n dX9_likes_8 rfl ?_
  refine hs_get dX9_likes_9 fl_X9_58_9 hg2 hv4 ?_
  refine hs_iload_n dX9_likes_12 rfl ?_
  exact hk_z0 (hs_vir (M' := m_X1_isOrder) (vs := [.int x2]) (c1 := 0) (s1 := 0) dX9_likes_13 wd_733 vi_X1_isOrder hrec rfl (Nat.le_of_ble_eq_true rfl) hc hq_i (hc_i (fun z h9 k9 => k9)))
theorem b_X9_likes_16 {G : hk_G} {d cb sb : Nat} {h : hk_H} {Q : hk_O → hk_H → Prop} {s0 : Int32} {o0 : Option Value} {o1 : Option Value} {o2 : Option Value} (kt : ¬ s0 = 0 → hk_S G m_X9_likes (d + 1) cb sb 21 [o0, o1, o2] [] h Q) (kf : s0 = 0 → hk_S G m_X9_likes (d + 1) cb sb 19 [o0, o1, o2] [] h Q) : hk_S G m_X9_likes (d + 1) cb sb 16 [o0, o1, o2] [.int s0] h Q := by
  exact hs_if_ne dX9_likes_16 (by decide) kt kf
theorem b_X9_likes_19 {G : hk_G} {d cb sb : Nat} {h : hk_H} {Q : hk_O → hk_H → Prop} {o0 : Option Value} {o1 : Option Value} {o2 : Option Value} (hq : Q (.inl (some (.int ((-1))))) h) : hk_S G m_X9_likes (d + 1) cb sb 19 [o0, o1, o2] [] h Q := by
  refine hs_iconst (v := (-1)) dX9_likes_19 (by decide) ?_
  exact hs_iret dX9_likes_20 rfl hq
theorem b_X9_likes_21 {G : hk_G} {d cb sb : Nat} {h : hk_H} {Q : hk_O → hk_H → Prop} {r0 : Nat} {fs1 : List Value} {v3 : Nat} {x1 : Int32} {x2 : Int32} {fs_ : List Value} (hg2 : h.2 r0 = some (.inr (9, fs1))) (hv4 : fs1[7]? = some (.ref v3)) (hrec : h.2 v3 = some (.inr (1, fs_))) (hc : hk_Cv G m_X1_learn d 0 0 [.ref v3, .int x1, .int x2] h (fun h' => hk_S G m_X9_likes (d + 1) cb sb 30 [some (.ref r0), some (.int x1), some (.int x2)] [] h' Q)) : hk_S G m_X9_likes (d + 1) cb sb 21 [some (.ref r0), some (.int x1), some (.int x2)] [] h Q := by
  refine hs_aload_n dX9_likes_21 rfl ?_
  refine hs_get dX9_likes_22 fl_X9_58_9 hg2 hv4 ?_
  refine hs_iload_n dX9_likes_25 rfl ?_
  refine hs_iload_n dX9_likes_26 rfl ?_
  exact hk_z0 (hs_vir (M' := m_X1_learn) (vs := [.int x1, .int x2]) (c1 := 0) (s1 := 0) dX9_likes_27 wd_737 vi_X1_learn hrec rfl (Nat.le_of_ble_eq_true rfl) hc hq_v (hc_v (fun h9 k9 => k9)))
theorem b_X9_likes_30 {G : hk_G} {d cb sb : Nat} {h : hk_H} {Q : hk_O → hk_H → Prop} {o0 : Option Value} {o1 : Option Value} {o2 : Option Value} (hq : Q (.inl (some (.int 0))) h) : hk_S G m_X9_likes (d + 1) cb sb 30 [o0, o1, o2] [] h Q := by
  refine hs_iconst (v := 0) dX9_likes_30 (by decide) ?_
  exact hs_iret dX9_likes_31 rfl hq
-- HonestHouse.rings()I
theorem b_X9_rings_0 {G : hk_G} {d cb sb : Nat} {h : hk_H} {Q : hk_O → hk_H → Prop} {r0 : Nat} {fs1 : List Value} {v3 : Nat} {fs_ : List Value} (hg2 : h.2 r0 = some (.inr (9, fs1))) (hv4 : fs1[7]? = some (.ref v3)) (hrec : h.2 v3 = some (.inr (1, fs_))) (hc : hk_Ci G m_X1_tradeByRings d 0 0 [.ref v3] h (fun z h' => hk_S G m_X9_rings (d + 1) cb sb 7 [some (.ref r0)] [.int z] h' Q)) : hk_S G m_X9_rings (d + 1) cb sb 0 [some (.ref r0)] [] h Q := by
  refine hs_aload_n dX9_rings_0 rfl ?_
  refine hs_get dX9_rings_1 fl_X9_58_9 hg2 hv4 ?_
  exact hk_z0 (hs_vir (M' := m_X1_tradeByRings) (vs := []) (c1 := 0) (s1 := 0) dX9_rings_4 wd_749 vi_X1_tradeByRings hrec rfl (Nat.le_of_ble_eq_true rfl) hc hq_i (hc_i (fun z h9 k9 => k9)))
theorem b_X9_rings_7 {G : hk_G} {d cb sb : Nat} {h : hk_H} {Q : hk_O → hk_H → Prop} {s0 : Int32} {o0 : Option Value} (hq : Q (.inl (some (.int s0))) h) : hk_S G m_X9_rings (d + 1) cb sb 7 [o0] [.int s0] h Q := by
  exact hs_iret dX9_rings_7 rfl hq
-- HonestHouse.leaves(I)I
theorem b_X9_leaves_0 {G : hk_G} {d cb sb : Nat} {h : hk_H} {Q : hk_O → hk_H → Prop} {r0 : Nat} {x1 : Int32} {fs_ : List Value} (hrec : h.2 r0 = some (.inr (9, fs_))) (hc : hk_Ci G m_X9_isPerson d 0 0 [.ref r0, .int x1] h (fun z h' => hk_S G m_X9_leaves (d + 1) cb sb 5 [some (.ref r0), some (.int x1)] [.int z] h' Q)) : hk_S G m_X9_leaves (d + 1) cb sb 0 [some (.ref r0), some (.int x1)] [] h Q := by
  refine hs_aload_n dX9_leaves_0 rfl ?_
  refine hs_iload_n dX9_leaves_1 rfl ?_
  exact hk_z0 (hs_vir (M' := m_X9_isPerson) (vs := [.int x1]) (c1 := 0) (s1 := 0) dX9_leaves_2 wd_375 vi_X9_isPerson hrec rfl (Nat.le_of_ble_eq_true rfl) hc hq_i (hc_i (fun z h9 k9 => k9)))
theorem b_X9_leaves_5 {G : hk_G} {d cb sb : Nat} {h : hk_H} {Q : hk_O → hk_H → Prop} {s0 : Int32} {o0 : Option Value} {o1 : Option Value} (kt : ¬ s0 = 0 → hk_S G m_X9_leaves (d + 1) cb sb 10 [o0, o1] [] h Q) (kf : s0 = 0 → hk_S G m_X9_leaves (d + 1) cb sb 8 [o0, o1] [] h Q) : hk_S G m_X9_leaves (d + 1) cb sb 5 [o0, o1] [.int s0] h Q := by
  exact hs_if_ne dX9_leaves_5 (by decide) kt kf
theorem b_X9_leaves_8 {G : hk_G} {d cb sb : Nat} {h : hk_H} {Q : hk_O → hk_H → Prop} {o0 : Option Value} {o1 : Option Value} (hq : Q (.inl (some (.int ((-1))))) h) : hk_S G m_X9_leaves (d + 1) cb sb 8 [o0, o1] [] h Q := by
  refine hs_iconst (v := (-1)) dX9_leaves_8 (by decide) ?_
  exact hs_iret dX9_leaves_9 rfl hq
theorem b_X9_leaves_10 {G : hk_G} {d cb sb : Nat} {h : hk_H} {Q : hk_O → hk_H → Prop} {r0 : Nat} {fs1 : List Value} {v3 : Nat} {fs_ : List Value} {o1 : Option Value} (hg2 : h.2 r0 = some (.inr (9, fs1))) (hv4 : fs1[7]? = some (.ref v3)) (hrec : h.2 v3 = some (.inr (1, fs_))) (hc : hk_Ci G m_X1_tradeByRings d 0 0 [.ref v3] h (fun z h' => hk_S G m_X9_leaves (d + 1) cb sb 17 [some (.ref r0), o1] [.int z] h' Q)) : hk_S G m_X9_leaves (d + 1) cb sb 10 [some (.ref r0), o1] [] h Q := by
  refine hs_aload_n dX9_leaves_10 rfl ?_
  refine hs_get dX9_leaves_11 fl_X9_58_9 hg2 hv4 ?_
  exact hk_z0 (hs_vir (M' := m_X1_tradeByRings) (vs := []) (c1 := 0) (s1 := 0) dX9_leaves_14 wd_749 vi_X1_tradeByRings hrec rfl (Nat.le_of_ble_eq_true rfl) hc hq_i (hc_i (fun z h9 k9 => k9)))
theorem b_X9_leaves_17 {G : hk_G} {d cb sb : Nat} {h : hk_H} {Q : hk_O → hk_H → Prop} {s0 : Int32} {r0 : Nat} {fs1 : List Value} {v3 : Nat} {fs5 : List Value} {v7 : Nat} {x1 : Int32} {n9 : Nat} {f10 : Nat → Int32} (hg2 : h.2 r0 = some (.inr (9, fs1))) (hv4 : fs1[7]? = some (.ref v3)) (hg6 : h.2 v3 = some (.inr (1, fs5))) (hv8 : fs5[6]? = some (.ref v7)) (ha11 : h.2 v7 = some (.inl (0, n9, .inl f10))) (j12 : Nat) (hi13 : (x1 : Int32).toInt = (j12 : Int)) (hj14 : j12 < n9) (hq : Q (.inl (some (.int (f10 j12)))) h) : hk_S G m_X9_leaves (d + 1) cb sb 17 [some (.ref r0), some (.int x1)] [.int s0] h Q := by
  refine hs_pop dX9_leaves_17 rfl ?_
  refine hs_aload_n dX9_leaves_18 rfl ?_
  refine hs_get dX9_leaves_19 fl_X9_58_9 hg2 hv4 ?_
  refine hs_get dX9_leaves_22 fl_X9_251_1 hg6 hv8 ?_
  refine hs_iload_n dX9_leaves_25 rfl ?_
  refine hs_iald j12 dX9_leaves_26 ha11 hi13 hj14 ?_
  exact hs_iret dX9_leaves_27 rfl hq
-- HonestHouse.turns(I)I
theorem b_X9_turns_0 {G : hk_G} {d cb sb : Nat} {h : hk_H} {Q : hk_O → hk_H → Prop} {r0 : Nat} {fs1 : List Value} {v3 : Nat} {x1 : Int32} {fs_ : List Value} (hg2 : h.2 r0 = some (.inr (9, fs1))) (hv4 : fs1[7]? = some (.ref v3)) (hrec : h.2 v3 = some (.inr (1, fs_))) (hc : hk_Ci G m_X1_isOrder d 0 0 [.ref v3, .int x1] h (fun z h' => hk_S G m_X9_turns (d + 1) cb sb 8 [some (.ref r0), some (.int x1)] [.int z] h' Q)) : hk_S G m_X9_turns (d + 1) cb sb 0 [some (.ref r0), some (.int x1)] [] h Q := by
  refine hs_aload_n dX9_turns_0 rfl ?_
  refine hs_get dX9_turns_1 fl_X9_58_9 hg2 hv4 ?_
  refine hs_iload_n dX9_turns_4 rfl ?_
  exact hk_z0 (hs_vir (M' := m_X1_isOrder) (vs := [.int x1]) (c1 := 0) (s1 := 0) dX9_turns_5 wd_733 vi_X1_isOrder hrec rfl (Nat.le_of_ble_eq_true rfl) hc hq_i (hc_i (fun z h9 k9 => k9)))
theorem b_X9_turns_8 {G : hk_G} {d cb sb : Nat} {h : hk_H} {Q : hk_O → hk_H → Prop} {s0 : Int32} {o0 : Option Value} {o1 : Option Value} (kt : s0 = 0 → hk_S G m_X9_turns (d + 1) cb sb 22 [o0, o1] [] h Q) (kf : ¬ s0 = 0 → hk_S G m_X9_turns (d + 1) cb sb 11 [o0, o1] [] h Q) : hk_S G m_X9_turns (d + 1) cb sb 8 [o0, o1] [.int s0] h Q := by
  exact hs_if_eq dX9_turns_8 (by decide) kt kf
theorem b_X9_turns_11 {G : hk_G} {d cb sb : Nat} {h : hk_H} {Q : hk_O → hk_H → Prop} {r0 : Nat} {fs1 : List Value} {v3 : Nat} {x1 : Int32} {fs_ : List Value} (hg2 : h.2 r0 = some (.inr (9, fs1))) (hv4 : fs1[7]? = some (.ref v3)) (hrec : h.2 v3 = some (.inr (1, fs_))) (hc : hk_Ci G m_X1_tradeByTurns d 0 0 [.ref v3, .int x1] h (fun z h' => hk_S G m_X9_turns (d + 1) cb sb 19 [some (.ref r0), some (.int x1)] [.int z] h' Q)) : hk_S G m_X9_turns (d + 1) cb sb 11 [some (.ref r0), some (.int x1)] [] h Q := by
  refine hs_aload_n dX9_turns_11 rfl ?_
  refine hs_get dX9_turns_12 fl_X9_58_9 hg2 hv4 ?_
  refine hs_iload_n dX9_turns_15 rfl ?_
  exact hk_z0 (hs_vir (M' := m_X1_tradeByTurns) (vs := [.int x1]) (c1 := 0) (s1 := 0) dX9_turns_16 wd_777 vi_X1_tradeByTurns hrec rfl (Nat.le_of_ble_eq_true rfl) hc hq_i (hc_i (fun z h9 k9 => k9)))
theorem b_X9_turns_19 {G : hk_G} {d cb sb : Nat} {h : hk_H} {Q : hk_O → hk_H → Prop} {s0 : Int32} {o0 : Option Value} {o1 : Option Value} (hq : Q (.inl (some (.int s0))) h) : hk_S G m_X9_turns (d + 1) cb sb 19 [o0, o1] [.int s0] h Q := by
  refine hs_goto dX9_turns_19 (tgt := 23) (by decide) ?_
  exact hs_iret dX9_turns_23 rfl hq
theorem b_X9_turns_22 {G : hk_G} {d cb sb : Nat} {h : hk_H} {Q : hk_O → hk_H → Prop} {o0 : Option Value} {o1 : Option Value} (hq : Q (.inl (some (.int ((-1))))) h) : hk_S G m_X9_turns (d + 1) cb sb 22 [o0, o1] [] h Q := by
  refine hs_iconst (v := (-1)) dX9_turns_22 (by decide) ?_
  exact hs_iret dX9_turns_23 rfl hq
theorem b_X9_turns_23 {G : hk_G} {d cb sb : Nat} {h : hk_H} {Q : hk_O → hk_H → Prop} {s0 : Int32} {o0 : Option Value} {o1 : Option Value} (hq : Q (.inl (some (.int s0))) h) : hk_S G m_X9_turns (d + 1) cb sb 23 [o0, o1] [.int s0] h Q := by
  exact hs_iret dX9_turns_23 rfl hq
-- HonestHouse.blocks(I)I
theorem b_X9_blocks_0 {G : hk_G} {d cb sb : Nat} {h : hk_H} {Q : hk_O → hk_H → Prop} {r0 : Nat} {fs1 : List Value} {v3 : Nat} {x1 : Int32} {fs_ : List Value} {o2 : Option Value} (hg2 : h.2 r0 = some (.inr (9, fs1))) (hv4 : fs1[7]? = some (.ref v3)) (hrec : h.2 v3 = some (.inr (1, fs_))) (hc : hk_Ci G m_X1_isOrder d 0 0 [.ref v3, .int x1] h (fun z h' => hk_S G m_X9_blocks (d + 1) cb sb 8 [some (.ref r0), some (.int x1), o2] [.int z] h' Q)) : hk_S G m_X9_blocks (d + 1) cb sb 0 [some (.ref r0), some (.int x1), o2] [] h Q := by
  refine hs_aload_n dX9_blocks_0 rfl ?_
  refine hs_get dX9_blocks_1 fl_X9_58_9 hg2 hv4 ?_
  refine hs_iload_n dX9_blocks_4 rfl ?_
  exact hk_z0 (hs_vir (M' := m_X1_isOrder) (vs := [.int x1]) (c1 := 0) (s1 := 0) dX9_blocks_5 wd_733 vi_X1_isOrder hrec rfl (Nat.le_of_ble_eq_true rfl) hc hq_i (hc_i (fun z h9 k9 => k9)))
theorem b_X9_blocks_8 {G : hk_G} {d cb sb : Nat} {h : hk_H} {Q : hk_O → hk_H → Prop} {s0 : Int32} {o0 : Option Value} {o1 : Option Value} {o2 : Option Value} (kt : ¬ s0 = 0 → hk_S G m_X9_blocks (d + 1) cb sb 13 [o0, o1, o2] [] h Q) (kf : s0 = 0 → hk_S G m_X9_blocks (d + 1) cb sb 11 [o0, o1, o2] [] h Q) : hk_S G m_X9_blocks (d + 1) cb sb 8 [o0, o1, o2] [.int s0] h Q := by
  exact hs_if_ne dX9_blocks_8 (by decide) kt kf
theorem b_X9_blocks_11 {G : hk_G} {d cb sb : Nat} {h : hk_H} {Q : hk_O → hk_H → Prop} {o0 : Option Value} {o1 : Option Value} {o2 : Option Value} (hq : Q (.inl (some (.int ((-1))))) h) : hk_S G m_X9_blocks (d + 1) cb sb 11 [o0, o1, o2] [] h Q := by
  refine hs_iconst (v := (-1)) dX9_blocks_11 (by decide) ?_
  exact hs_iret dX9_blocks_12 rfl hq
theorem b_X9_blocks_13 {G : hk_G} {d cb sb : Nat} {h : hk_H} {Q : hk_O → hk_H → Prop} {r0 : Nat} {fs1 : List Value} {v3 : Nat} {x1 : Int32} {fs_ : List Value} {o2 : Option Value} (hg2 : h.2 r0 = some (.inr (9, fs1))) (hv4 : fs1[7]? = some (.ref v3)) (hrec : h.2 v3 = some (.inr (1, fs_))) (hc : hk_Ci G m_X1_leastBlocking d 0 0 [.ref v3, .int x1] h (fun z h' => hk_S G m_X9_blocks (d + 1) cb sb 21 [some (.ref r0), some (.int x1), o2] [.int z] h' Q)) : hk_S G m_X9_blocks (d + 1) cb sb 13 [some (.ref r0), some (.int x1), o2] [] h Q := by
  refine hs_aload_n dX9_blocks_13 rfl ?_
  refine hs_get dX9_blocks_14 fl_X9_58_9 hg2 hv4 ?_
  refine hs_iload_n dX9_blocks_17 rfl ?_
  exact hk_z0 (hs_vir (M' := m_X1_leastBlocking) (vs := [.int x1]) (c1 := 0) (s1 := 0) dX9_blocks_18 wd_785 vi_X1_leastBlocking hrec rfl (Nat.le_of_ble_eq_true rfl) hc hq_i (hc_i (fun z h9 k9 => k9)))
theorem b_X9_blocks_21 {G : hk_G} {d cb sb : Nat} {h : hk_H} {Q : hk_O → hk_H → Prop} {s0 : Int32} {o0 : Option Value} {o1 : Option Value} {o2 : Option Value} (kt : ¬ s0 = 0 → hk_S G m_X9_blocks (d + 1) cb sb 31 [o0, o1, some (.int s0)] [] h Q) (kf : s0 = 0 → hk_S G m_X9_blocks (d + 1) cb sb 26 [o0, o1, some (.int s0)] [] h Q) (ho1 : hk_c1 o1 := by first | exact hk_c1i | exact hk_c1r | exact hk_c10 | exact hk_c1n) : hk_S G m_X9_blocks (d + 1) cb sb 21 [o0, o1, o2] [.int s0] h Q := by
  refine hs_istK_n dX9_blocks_21 (by decide) (hk_nk1 rfl ho1) rfl ?_
  refine hs_iload_n dX9_blocks_22 rfl ?_
  exact hs_if_ne dX9_blocks_23 (by decide) kt kf
theorem b_X9_blocks_26 {G : hk_G} {d cb sb : Nat} {h : hk_H} {Q : hk_O → hk_H → Prop} {o0 : Option Value} {o1 : Option Value} {o2 : Option Value} (hq : Q (.inl (some (.int ((-2))))) h) : hk_S G m_X9_blocks (d + 1) cb sb 26 [o0, o1, o2] [] h Q := by
  refine hs_bipush (v := (-2)) dX9_blocks_26 (by decide) ?_
  refine hs_goto dX9_blocks_28 (tgt := 32) (by decide) ?_
  exact hs_iret dX9_blocks_32 rfl hq
theorem b_X9_blocks_31 {G : hk_G} {d cb sb : Nat} {h : hk_H} {Q : hk_O → hk_H → Prop} {x2 : Int32} {o0 : Option Value} {o1 : Option Value} (hq : Q (.inl (some (.int x2))) h) : hk_S G m_X9_blocks (d + 1) cb sb 31 [o0, o1, some (.int x2)] [] h Q := by
  refine hs_iload_n dX9_blocks_31 rfl ?_
  exact hs_iret dX9_blocks_32 rfl hq
theorem b_X9_blocks_32 {G : hk_G} {d cb sb : Nat} {h : hk_H} {Q : hk_O → hk_H → Prop} {s0 : Int32} {o0 : Option Value} {o1 : Option Value} {o2 : Option Value} (hq : Q (.inl (some (.int s0))) h) : hk_S G m_X9_blocks (d + 1) cb sb 32 [o0, o1, o2] [.int s0] h Q := by
  exact hs_iret dX9_blocks_32 rfl hq
-- HonestHouse.core(I)I
theorem b_X9_core_0 {G : hk_G} {d cb sb : Nat} {h : hk_H} {Q : hk_O → hk_H → Prop} {x1 : Int32} {o0 : Option Value} {o2 : Option Value} {o3 : Option Value} {o4 : Option Value} {o5 : Option Value} {o6 : Option Value} (kt : 0 ≤ x1 → hk_S G m_X9_core (d + 1) cb sb 6 [o0, some (.int x1), o2, o3, o4, o5, o6] [] h Q) (kf : ¬ 0 ≤ x1 → hk_S G m_X9_core (d + 1) cb sb 4 [o0, some (.int x1), o2, o3, o4, o5, o6] [] h Q) : hk_S G m_X9_core (d + 1) cb sb 0 [o0, some (.int x1), o2, o3, o4, o5, o6] [] h Q := by
  refine hs_iload_n dX9_core_0 rfl ?_
  exact hs_if_ge dX9_core_1 (by decide) kt kf
theorem b_X9_core_4 {G : hk_G} {d cb sb : Nat} {h : hk_H} {Q : hk_O → hk_H → Prop} {o0 : Option Value} {o1 : Option Value} {o2 : Option Value} {o3 : Option Value} {o4 : Option Value} {o5 : Option Value} {o6 : Option Value} (hq : Q (.inl (some (.int ((-1))))) h) : hk_S G m_X9_core (d + 1) cb sb 4 [o0, o1, o2, o3, o4, o5, o6] [] h Q := by
  refine hs_iconst (v := (-1)) dX9_core_4 (by decide) ?_
  exact hs_iret dX9_core_5 rfl hq
theorem b_X9_core_6 {G : hk_G} {d cb sb : Nat} {h : hk_H} {Q : hk_O → hk_H → Prop} {r0 : Nat} {fs1 : List Value} {v3 : Nat} {fs5 : List Value} {v7 : Nat} {n9 : Nat} {t11 : Nat} {x10 : (Nat → Int32) ⊕ (Nat → Int64) ⊕ (Nat → UInt32) ⊕ (Nat → UInt64) ⊕ (Nat → Option Nat)} {o1 : Option Value} {o2 : Option Value} {o3 : Option Value} {o4 : Option Value} {o5 : Option Value} {o6 : Option Value} (hg2 : h.2 r0 = some (.inr (9, fs1))) (hv4 : fs1[7]? = some (.ref v3)) (hg6 : h.2 v3 = some (.inr (1, fs5))) (hv8 : fs5[1]? = some (.ref v7)) (ha12 : h.2 v7 = some (.inl (t11, n9, x10))) (ht13 : t11 < 5) (k : hk_S G m_X9_core (d + 1) cb sb 23 [some (.ref r0), o1, some (.int 0), some (.ref v7), some (.int (Int32.ofNat n9)), some (.int 0), o6] [] h Q) (ho1 : hk_c1 o1 := by first | exact hk_c1i | exact hk_c1r | exact hk_c10 | exact hk_c1n) : hk_S G m_X9_core (d + 1) cb sb 6 [some (.ref r0), o1, o2, o3, o4, o5, o6] [] h Q := by
  refine hs_iconst (v := 0) dX9_core_6 (by decide) ?_
  refine hs_istK_n dX9_core_7 (by decide) (hk_nk1 rfl ho1) rfl ?_
  refine hs_aload_n dX9_core_8 rfl ?_
  refine hs_get dX9_core_9 fl_X9_58_9 hg2 hv4 ?_
  refine hs_get dX9_core_12 fl_X9_261_1 hg6 hv8 ?_
  refine hs_astK_n dX9_core_15 (by decide) (hk_nk1 rfl hk_c1i) rfl ?_
  refine hs_aload_n dX9_core_16 rfl ?_
  refine hs_alen dX9_core_17 ha12 ht13 ?_
  refine hs_istK dX9_core_18 (by decide) (hk_nk1 rfl hk_c1r) rfl ?_
  refine hs_iconst (v := 0) dX9_core_20 (by decide) ?_
  refine hs_istK dX9_core_21 (by decide) (hk_nk1 rfl hk_c1i) rfl ?_
  exact k
theorem b_X9_core_23 {G : hk_G} {d cb sb : Nat} {h : hk_H} {Q : hk_O → hk_H → Prop} {x5 : Int32} {x4 : Int32} {o0 : Option Value} {o1 : Option Value} {o2 : Option Value} {o3 : Option Value} {o6 : Option Value} (kt : x4 ≤ x5 → hk_S G m_X9_core (d + 1) cb sb 65 [o0, o1, o2, o3, some (.int x4), some (.int x5), o6] [] h Q) (kf : ¬ x4 ≤ x5 → hk_S G m_X9_core (d + 1) cb sb 30 [o0, o1, o2, o3, some (.int x4), some (.int x5), o6] [] h Q) : hk_S G m_X9_core (d + 1) cb sb 23 [o0, o1, o2, o3, some (.int x4), some (.int x5), o6] [] h Q := by
  refine hs_iload dX9_core_23 rfl ?_
  refine hs_iload dX9_core_25 rfl ?_
  exact hs_icmp_ge dX9_core_27 (by decide) kt kf
theorem b_X9_core_30 {G : hk_G} {d cb sb : Nat} {h : hk_H} {Q : hk_O → hk_H → Prop} {r3 : Nat} {x5 : Int32} {n1 : Nat} {f2 : Nat → Int32} {r0 : Nat} {fs7 : List Value} {v9 : Nat} {fs_ : List Value} {o1 : Option Value} {o2 : Option Value} {o4 : Option Value} {o6 : Option Value} (ha3 : h.2 r3 = some (.inl (0, n1, .inl f2))) (j4 : Nat) (hi5 : (x5 : Int32).toInt = (j4 : Int)) (hj6 : j4 < n1) (hg8 : h.2 r0 = some (.inr (9, fs7))) (hv10 : fs7[7]? = some (.ref v9)) (hrec : h.2 v9 = some (.inr (1, fs_))) (hc : hk_Ci G m_X1_leastBlocking d 0 0 [.ref v9, .int (f2 j4)] h (fun z h' => hk_S G m_X9_core (d + 1) cb sb 45 [some (.ref r0), o1, o2, some (.ref r3), o4, some (.int x5), some (.int (f2 j4))] [.int z] h' Q)) : hk_S G m_X9_core (d + 1) cb sb 30 [some (.ref r0), o1, o2, some (.ref r3), o4, some (.int x5), o6] [] h Q := by
  refine hs_aload_n dX9_core_30 rfl ?_
  refine hs_iload dX9_core_31 rfl ?_
  refine hs_iald j4 dX9_core_33 ha3 hi5 hj6 ?_
  refine hs_istK dX9_core_34 (by decide) (hk_nk1 rfl hk_c1i) rfl ?_
  refine hs_aload_n dX9_core_36 rfl ?_
  refine hs_get dX9_core_37 fl_X9_58_9 hg8 hv10 ?_
  refine hs_iload dX9_core_40 rfl ?_
  exact hk_z0 (hs_vir (M' := m_X1_leastBlocking) (vs := [.int (f2 j4)]) (c1 := 0) (s1 := 0) dX9_core_42 wd_785 vi_X1_leastBlocking hrec rfl (Nat.le_of_ble_eq_true rfl) hc hq_i (hc_i (fun z h9 k9 => k9)))
theorem b_X9_core_45 {G : hk_G} {d cb sb : Nat} {h : hk_H} {Q : hk_O → hk_H → Prop} {s0 : Int32} {o0 : Option Value} {o1 : Option Value} {o2 : Option Value} {o3 : Option Value} {o4 : Option Value} {o5 : Option Value} {o6 : Option Value} (kt : ¬ s0 = 0 → hk_S G m_X9_core (d + 1) cb sb 59 [o0, o1, o2, o3, o4, o5, o6] [] h Q) (kf : s0 = 0 → hk_S G m_X9_core (d + 1) cb sb 48 [o0, o1, o2, o3, o4, o5, o6] [] h Q) : hk_S G m_X9_core (d + 1) cb sb 45 [o0, o1, o2, o3, o4, o5, o6] [.int s0] h Q := by
  exact hs_if_ne dX9_core_45 (by decide) kt kf
theorem b_X9_core_48 {G : hk_G} {d cb sb : Nat} {h : hk_H} {Q : hk_O → hk_H → Prop} {x2 : Int32} {x1 : Int32} {o0 : Option Value} {o3 : Option Value} {o4 : Option Value} {o5 : Option Value} {o6 : Option Value} (kt : ¬ x2 = x1 → hk_S G m_X9_core (d + 1) cb sb 56 [o0, some (.int x1), some (.int x2), o3, o4, o5, o6] [] h Q) (kf : x2 = x1 → hk_S G m_X9_core (d + 1) cb sb 53 [o0, some (.int x1), some (.int x2), o3, o4, o5, o6] [] h Q) : hk_S G m_X9_core (d + 1) cb sb 48 [o0, some (.int x1), some (.int x2), o3, o4, o5, o6] [] h Q := by
  refine hs_iload_n dX9_core_48 rfl ?_
  refine hs_iload_n dX9_core_49 rfl ?_
  exact hs_icmp_ne dX9_core_50 (by decide) kt kf
theorem b_X9_core_53 {G : hk_G} {d cb sb : Nat} {h : hk_H} {Q : hk_O → hk_H → Prop} {x6 : Int32} {o0 : Option Value} {o1 : Option Value} {o2 : Option Value} {o3 : Option Value} {o4 : Option Value} {o5 : Option Value} (hq : Q (.inl (some (.int x6))) h) : hk_S G m_X9_core (d + 1) cb sb 53 [o0, o1, o2, o3, o4, o5, some (.int x6)] [] h Q := by
  refine hs_iload dX9_core_53 rfl ?_
  exact hs_iret dX9_core_55 rfl hq
theorem b_X9_core_56 {G : hk_G} {d cb sb : Nat} {h : hk_H} {Q : hk_O → hk_H → Prop} {x2 : Int32} {x5 : Int32} {o0 : Option Value} {o1 : Option Value} {o3 : Option Value} {o4 : Option Value} {o6 : Option Value} (k : hk_S G m_X9_core (d + 1) cb sb 23 [o0, o1, some (.int (x2 + 1)), o3, o4, some (.int (x5 + 1)), o6] [] h Q) (ho1 : hk_c1 o1 := by first | exact hk_c1i | exact hk_c1r | exact hk_c10 | exact hk_c1n) (ho4 : hk_c1 o4 := by first | exact hk_c1i | exact hk_c1r | exact hk_c10 | exact hk_c1n) : hk_S G m_X9_core (d + 1) cb sb 56 [o0, o1, some (.int x2), o3, o4, some (.int x5), o6] [] h Q := by
  refine hs_iincK (v := 1) dX9_core_56 rfl (by decide) (by decide) (hk_nk1 rfl ho1) rfl ?_
  refine hs_iincK (v := 1) dX9_core_59 rfl (by decide) (by decide) (hk_nk1 rfl ho4) rfl ?_
  refine hs_goto dX9_core_62 (tgt := 23) (by decide) ?_
  exact k
theorem b_X9_core_59 {G : hk_G} {d cb sb : Nat} {h : hk_H} {Q : hk_O → hk_H → Prop} {x5 : Int32} {o0 : Option Value} {o1 : Option Value} {o2 : Option Value} {o3 : Option Value} {o4 : Option Value} {o6 : Option Value} (k : hk_S G m_X9_core (d + 1) cb sb 23 [o0, o1, o2, o3, o4, some (.int (x5 + 1)), o6] [] h Q) (ho4 : hk_c1 o4 := by first | exact hk_c1i | exact hk_c1r | exact hk_c10 | exact hk_c1n) : hk_S G m_X9_core (d + 1) cb sb 59 [o0, o1, o2, o3, o4, some (.int x5), o6] [] h Q := by
  refine hs_iincK (v := 1) dX9_core_59 rfl (by decide) (by decide) (hk_nk1 rfl ho4) rfl ?_
  refine hs_goto dX9_core_62 (tgt := 23) (by decide) ?_
  exact k
theorem b_X9_core_65 {G : hk_G} {d cb sb : Nat} {h : hk_H} {Q : hk_O → hk_H → Prop} {o0 : Option Value} {o1 : Option Value} {o2 : Option Value} {o3 : Option Value} {o4 : Option Value} {o5 : Option Value} {o6 : Option Value} (hq : Q (.inl (some (.int ((-2))))) h) : hk_S G m_X9_core (d + 1) cb sb 65 [o0, o1, o2, o3, o4, o5, o6] [] h Q := by
  refine hs_bipush (v := (-2)) dX9_core_65 (by decide) ?_
  exact hs_iret dX9_core_67 rfl hq
-- HonestHouse.good(I)I
theorem b_X9_good_0 {G : hk_G} {d cb sb : Nat} {h : hk_H} {Q : hk_O → hk_H → Prop} {r0 : Nat} {fs1 : List Value} {v3 : Nat} {x1 : Int32} {fs_ : List Value} (hg2 : h.2 r0 = some (.inr (9, fs1))) (hv4 : fs1[7]? = some (.ref v3)) (hrec : h.2 v3 = some (.inr (1, fs_))) (hc : hk_Ci G m_X1_isOrder d 0 0 [.ref v3, .int x1] h (fun z h' => hk_S G m_X9_good (d + 1) cb sb 8 [some (.ref r0), some (.int x1)] [.int z] h' Q)) : hk_S G m_X9_good (d + 1) cb sb 0 [some (.ref r0), some (.int x1)] [] h Q := by
  refine hs_aload_n dX9_good_0 rfl ?_
  refine hs_get dX9_good_1 fl_X9_58_9 hg2 hv4 ?_
  refine hs_iload_n dX9_good_4 rfl ?_
  exact hk_z0 (hs_vir (M' := m_X1_isOrder) (vs := [.int x1]) (c1 := 0) (s1 := 0) dX9_good_5 wd_733 vi_X1_isOrder hrec rfl (Nat.le_of_ble_eq_true rfl) hc hq_i (hc_i (fun z h9 k9 => k9)))
theorem b_X9_good_8 {G : hk_G} {d cb sb : Nat} {h : hk_H} {Q : hk_O → hk_H → Prop} {s0 : Int32} {o0 : Option Value} {o1 : Option Value} (kt : ¬ s0 = 0 → hk_S G m_X9_good (d + 1) cb sb 13 [o0, o1] [] h Q) (kf : s0 = 0 → hk_S G m_X9_good (d + 1) cb sb 11 [o0, o1] [] h Q) : hk_S G m_X9_good (d + 1) cb sb 8 [o0, o1] [.int s0] h Q := by
  exact hs_if_ne dX9_good_8 (by decide) kt kf
theorem b_X9_good_11 {G : hk_G} {d cb sb : Nat} {h : hk_H} {Q : hk_O → hk_H → Prop} {o0 : Option Value} {o1 : Option Value} (hq : Q (.inl (some (.int ((-1))))) h) : hk_S G m_X9_good (d + 1) cb sb 11 [o0, o1] [] h Q := by
  refine hs_iconst (v := (-1)) dX9_good_11 (by decide) ?_
  exact hs_iret dX9_good_12 rfl hq
theorem b_X9_good_13 {G : hk_G} {d cb sb : Nat} {h : hk_H} {Q : hk_O → hk_H → Prop} {r0 : Nat} {fs1 : List Value} {v3 : Nat} {x1 : Int32} {fs_ : List Value} (hg2 : h.2 r0 = some (.inr (9, fs1))) (hv4 : fs1[7]? = some (.ref v3)) (hrec : h.2 v3 = some (.inr (1, fs_))) (hc : hk_Ci G m_X1_isBettered d 0 0 [.ref v3, .int x1] h (fun z h' => hk_S G m_X9_good (d + 1) cb sb 21 [some (.ref r0), some (.int x1)] [.int z] h' Q)) : hk_S G m_X9_good (d + 1) cb sb 13 [some (.ref r0), some (.int x1)] [] h Q := by
  refine hs_aload_n dX9_good_13 rfl ?_
  refine hs_get dX9_good_14 fl_X9_58_9 hg2 hv4 ?_
  refine hs_iload_n dX9_good_17 rfl ?_
  exact hk_z0 (hs_vir (M' := m_X1_isBettered) (vs := [.int x1]) (c1 := 0) (s1 := 0) dX9_good_18 wd_809 vi_X1_isBettered hrec rfl (Nat.le_of_ble_eq_true rfl) hc hq_i (hc_i (fun z h9 k9 => k9)))
theorem b_X9_good_21 {G : hk_G} {d cb sb : Nat} {h : hk_H} {Q : hk_O → hk_H → Prop} {s0 : Int32} {o0 : Option Value} {o1 : Option Value} (kt : s0 = 0 → hk_S G m_X9_good (d + 1) cb sb 28 [o0, o1] [] h Q) (kf : ¬ s0 = 0 → hk_S G m_X9_good (d + 1) cb sb 24 [o0, o1] [] h Q) : hk_S G m_X9_good (d + 1) cb sb 21 [o0, o1] [.int s0] h Q := by
  exact hs_if_eq dX9_good_21 (by decide) kt kf
theorem b_X9_good_24 {G : hk_G} {d cb sb : Nat} {h : hk_H} {Q : hk_O → hk_H → Prop} {o0 : Option Value} {o1 : Option Value} (hq : Q (.inl (some (.int 0))) h) : hk_S G m_X9_good (d + 1) cb sb 24 [o0, o1] [] h Q := by
  refine hs_iconst (v := 0) dX9_good_24 (by decide) ?_
  refine hs_goto dX9_good_25 (tgt := 29) (by decide) ?_
  exact hs_iret dX9_good_29 rfl hq
theorem b_X9_good_28 {G : hk_G} {d cb sb : Nat} {h : hk_H} {Q : hk_O → hk_H → Prop} {o0 : Option Value} {o1 : Option Value} (hq : Q (.inl (some (.int 1))) h) : hk_S G m_X9_good (d + 1) cb sb 28 [o0, o1] [] h Q := by
  refine hs_iconst (v := 1) dX9_good_28 (by decide) ?_
  exact hs_iret dX9_good_29 rfl hq
theorem b_X9_good_29 {G : hk_G} {d cb sb : Nat} {h : hk_H} {Q : hk_O → hk_H → Prop} {s0 : Int32} {o0 : Option Value} {o1 : Option Value} (hq : Q (.inl (some (.int s0))) h) : hk_S G m_X9_good (d + 1) cb sb 29 [o0, o1] [.int s0] h Q := by
  exact hs_iret dX9_good_29 rfl hq
-- HonestHouse.by(I)I
theorem b_X9_by_0 {G : hk_G} {d cb sb : Nat} {h : hk_H} {Q : hk_O → hk_H → Prop} {r0 : Nat} {fs1 : List Value} {v3 : Nat} {x1 : Int32} {fs_ : List Value} {o2 : Option Value} {o3 : Option Value} {o4 : Option Value} {o5 : Option Value} (hg2 : h.2 r0 = some (.inr (9, fs1))) (hv4 : fs1[7]? = some (.ref v3)) (hrec : h.2 v3 = some (.inr (1, fs_))) (hc : hk_Ci G m_X1_isOrder d 0 0 [.ref v3, .int x1] h (fun z h' => hk_S G m_X9_by (d + 1) cb sb 8 [some (.ref r0), some (.int x1), o2, o3, o4, o5] [.int z] h' Q)) : hk_S G m_X9_by (d + 1) cb sb 0 [some (.ref r0), some (.int x1), o2, o3, o4, o5] [] h Q := by
  refine hs_aload_n dX9_by_0 rfl ?_
  refine hs_get dX9_by_1 fl_X9_58_9 hg2 hv4 ?_
  refine hs_iload_n dX9_by_4 rfl ?_
  exact hk_z0 (hs_vir (M' := m_X1_isOrder) (vs := [.int x1]) (c1 := 0) (s1 := 0) dX9_by_5 wd_733 vi_X1_isOrder hrec rfl (Nat.le_of_ble_eq_true rfl) hc hq_i (hc_i (fun z h9 k9 => k9)))
theorem b_X9_by_8 {G : hk_G} {d cb sb : Nat} {h : hk_H} {Q : hk_O → hk_H → Prop} {s0 : Int32} {o0 : Option Value} {o1 : Option Value} {o2 : Option Value} {o3 : Option Value} {o4 : Option Value} {o5 : Option Value} (kt : ¬ s0 = 0 → hk_S G m_X9_by (d + 1) cb sb 13 [o0, o1, o2, o3, o4, o5] [] h Q) (kf : s0 = 0 → hk_S G m_X9_by (d + 1) cb sb 11 [o0, o1, o2, o3, o4, o5] [] h Q) : hk_S G m_X9_by (d + 1) cb sb 8 [o0, o1, o2, o3, o4, o5] [.int s0] h Q := by
  exact hs_if_ne dX9_by_8 (by decide) kt kf
theorem b_X9_by_11 {G : hk_G} {d cb sb : Nat} {h : hk_H} {Q : hk_O → hk_H → Prop} {o0 : Option Value} {o1 : Option Value} {o2 : Option Value} {o3 : Option Value} {o4 : Option Value} {o5 : Option Value} (hq : Q (.inl (some (.int ((-1))))) h) : hk_S G m_X9_by (d + 1) cb sb 11 [o0, o1, o2, o3, o4, o5] [] h Q := by
  refine hs_iconst (v := (-1)) dX9_by_11 (by decide) ?_
  exact hs_iret dX9_by_12 rfl hq
theorem b_X9_by_13 {G : hk_G} {d cb sb : Nat} {h : hk_H} {Q : hk_O → hk_H → Prop} {r0 : Nat} {fs1 : List Value} {v3 : Nat} {fs5 : List Value} {v7 : Nat} {n9 : Nat} {t11 : Nat} {x10 : (Nat → Int32) ⊕ (Nat → Int64) ⊕ (Nat → UInt32) ⊕ (Nat → UInt64) ⊕ (Nat → Option Nat)} {o1 : Option Value} {o2 : Option Value} {o3 : Option Value} {o4 : Option Value} {o5 : Option Value} (hg2 : h.2 r0 = some (.inr (9, fs1))) (hv4 : fs1[7]? = some (.ref v3)) (hg6 : h.2 v3 = some (.inr (1, fs5))) (hv8 : fs5[1]? = some (.ref v7)) (ha12 : h.2 v7 = some (.inl (t11, n9, x10))) (ht13 : t11 < 5) (k : hk_S G m_X9_by (d + 1) cb sb 27 [some (.ref r0), o1, some (.ref v7), some (.int (Int32.ofNat n9)), some (.int 0), o5] [] h Q) (ho1 : hk_c1 o1 := by first | exact hk_c1i | exact hk_c1r | exact hk_c10 | exact hk_c1n) : hk_S G m_X9_by (d + 1) cb sb 13 [some (.ref r0), o1, o2, o3, o4, o5] [] h Q := by
  refine hs_aload_n dX9_by_13 rfl ?_
  refine hs_get dX9_by_14 fl_X9_58_9 hg2 hv4 ?_
  refine hs_get dX9_by_17 fl_X9_261_1 hg6 hv8 ?_
  refine hs_astK_n dX9_by_20 (by decide) (hk_nk1 rfl ho1) rfl ?_
  refine hs_aload_n dX9_by_21 rfl ?_
  refine hs_alen dX9_by_22 ha12 ht13 ?_
  refine hs_istK_n dX9_by_23 (by decide) (hk_nk1 rfl hk_c1r) rfl ?_
  refine hs_iconst (v := 0) dX9_by_24 (by decide) ?_
  refine hs_istK dX9_by_25 (by decide) (hk_nk1 rfl hk_c1i) rfl ?_
  exact k
theorem b_X9_by_27 {G : hk_G} {d cb sb : Nat} {h : hk_H} {Q : hk_O → hk_H → Prop} {x4 : Int32} {x3 : Int32} {o0 : Option Value} {o1 : Option Value} {o2 : Option Value} {o5 : Option Value} (kt : x3 ≤ x4 → hk_S G m_X9_by (d + 1) cb sb 61 [o0, o1, o2, some (.int x3), some (.int x4), o5] [] h Q) (kf : ¬ x3 ≤ x4 → hk_S G m_X9_by (d + 1) cb sb 33 [o0, o1, o2, some (.int x3), some (.int x4), o5] [] h Q) : hk_S G m_X9_by (d + 1) cb sb 27 [o0, o1, o2, some (.int x3), some (.int x4), o5] [] h Q := by
  refine hs_iload dX9_by_27 rfl ?_
  refine hs_iload_n dX9_by_29 rfl ?_
  exact hs_icmp_ge dX9_by_30 (by decide) kt kf
theorem b_X9_by_33 {G : hk_G} {d cb sb : Nat} {h : hk_H} {Q : hk_O → hk_H → Prop} {r2 : Nat} {x4 : Int32} {n1 : Nat} {f2 : Nat → Int32} {r0 : Nat} {fs7 : List Value} {v9 : Nat} {fs_ : List Value} {o1 : Option Value} {o3 : Option Value} {o5 : Option Value} (ha3 : h.2 r2 = some (.inl (0, n1, .inl f2))) (j4 : Nat) (hi5 : (x4 : Int32).toInt = (j4 : Int)) (hj6 : j4 < n1) (hg8 : h.2 r0 = some (.inr (9, fs7))) (hv10 : fs7[7]? = some (.ref v9)) (hrec : h.2 v9 = some (.inr (1, fs_))) (hc : hk_Ci G m_X1_tradeByTurns d 0 0 [.ref v9, .int (f2 j4)] h (fun z h' => hk_S G m_X9_by (d + 1) cb sb 48 [some (.ref r0), o1, some (.ref r2), o3, some (.int x4), some (.int (f2 j4))] [.int z] h' Q)) : hk_S G m_X9_by (d + 1) cb sb 33 [some (.ref r0), o1, some (.ref r2), o3, some (.int x4), o5] [] h Q := by
  refine hs_aload_n dX9_by_33 rfl ?_
  refine hs_iload dX9_by_34 rfl ?_
  refine hs_iald j4 dX9_by_36 ha3 hi5 hj6 ?_
  refine hs_istK dX9_by_37 (by decide) (hk_nk1 rfl hk_c1i) rfl ?_
  refine hs_aload_n dX9_by_39 rfl ?_
  refine hs_get dX9_by_40 fl_X9_58_9 hg8 hv10 ?_
  refine hs_iload dX9_by_43 rfl ?_
  exact hk_z0 (hs_vir (M' := m_X1_tradeByTurns) (vs := [.int (f2 j4)]) (c1 := 0) (s1 := 0) dX9_by_45 wd_777 vi_X1_tradeByTurns hrec rfl (Nat.le_of_ble_eq_true rfl) hc hq_i (hc_i (fun z h9 k9 => k9)))
theorem b_X9_by_48 {G : hk_G} {d cb sb : Nat} {h : hk_H} {Q : hk_O → hk_H → Prop} {s0 : Int32} {x1 : Int32} {o0 : Option Value} {o2 : Option Value} {o3 : Option Value} {o4 : Option Value} {o5 : Option Value} (kt : ¬ s0 = x1 → hk_S G m_X9_by (d + 1) cb sb 55 [o0, some (.int x1), o2, o3, o4, o5] [] h Q) (kf : s0 = x1 → hk_S G m_X9_by (d + 1) cb sb 52 [o0, some (.int x1), o2, o3, o4, o5] [] h Q) : hk_S G m_X9_by (d + 1) cb sb 48 [o0, some (.int x1), o2, o3, o4, o5] [.int s0] h Q := by
  refine hs_iload_n dX9_by_48 rfl ?_
  exact hs_icmp_ne dX9_by_49 (by decide) kt kf
theorem b_X9_by_52 {G : hk_G} {d cb sb : Nat} {h : hk_H} {Q : hk_O → hk_H → Prop} {x5 : Int32} {o0 : Option Value} {o1 : Option Value} {o2 : Option Value} {o3 : Option Value} {o4 : Option Value} (hq : Q (.inl (some (.int x5))) h) : hk_S G m_X9_by (d + 1) cb sb 52 [o0, o1, o2, o3, o4, some (.int x5)] [] h Q := by
  refine hs_iload dX9_by_52 rfl ?_
  exact hs_iret dX9_by_54 rfl hq
theorem b_X9_by_55 {G : hk_G} {d cb sb : Nat} {h : hk_H} {Q : hk_O → hk_H → Prop} {x4 : Int32} {o0 : Option Value} {o1 : Option Value} {o2 : Option Value} {o3 : Option Value} {o5 : Option Value} (k : hk_S G m_X9_by (d + 1) cb sb 27 [o0, o1, o2, o3, some (.int (x4 + 1)), o5] [] h Q) (ho3 : hk_c1 o3 := by first | exact hk_c1i | exact hk_c1r | exact hk_c10 | exact hk_c1n) : hk_S G m_X9_by (d + 1) cb sb 55 [o0, o1, o2, o3, some (.int x4), o5] [] h Q := by
  refine hs_iincK (v := 1) dX9_by_55 rfl (by decide) (by decide) (hk_nk1 rfl ho3) rfl ?_
  refine hs_goto dX9_by_58 (tgt := 27) (by decide) ?_
  exact k
theorem b_X9_by_61 {G : hk_G} {d cb sb : Nat} {h : hk_H} {Q : hk_O → hk_H → Prop} {o0 : Option Value} {o1 : Option Value} {o2 : Option Value} {o3 : Option Value} {o4 : Option Value} {o5 : Option Value} (hq : Q (.inl (some (.int ((-2))))) h) : hk_S G m_X9_by (d + 1) cb sb 61 [o0, o1, o2, o3, o4, o5] [] h Q := by
  refine hs_bipush (v := (-2)) dX9_by_61 (by decide) ?_
  exact hs_iret dX9_by_63 rfl hq
-- HonestHouse.wrong(I)I
theorem b_X9_wrong_0 {G : hk_G} {d cb sb : Nat} {h : hk_H} {Q : hk_O → hk_H → Prop} {r0 : Nat} {x1 : Int32} {fs_ : List Value} (hrec : h.2 r0 = some (.inr (9, fs_))) (hc : hk_Ci G m_X9_isPerson d 0 0 [.ref r0, .int x1] h (fun z h' => hk_S G m_X9_wrong (d + 1) cb sb 5 [some (.ref r0), some (.int x1)] [.int z] h' Q)) : hk_S G m_X9_wrong (d + 1) cb sb 0 [some (.ref r0), some (.int x1)] [] h Q := by
  refine hs_aload_n dX9_wrong_0 rfl ?_
  refine hs_iload_n dX9_wrong_1 rfl ?_
  exact hk_z0 (hs_vir (M' := m_X9_isPerson) (vs := [.int x1]) (c1 := 0) (s1 := 0) dX9_wrong_2 wd_375 vi_X9_isPerson hrec rfl (Nat.le_of_ble_eq_true rfl) hc hq_i (hc_i (fun z h9 k9 => k9)))
theorem b_X9_wrong_5 {G : hk_G} {d cb sb : Nat} {h : hk_H} {Q : hk_O → hk_H → Prop} {s0 : Int32} {o0 : Option Value} {o1 : Option Value} (kt : s0 = 0 → hk_S G m_X9_wrong (d + 1) cb sb 19 [o0, o1] [] h Q) (kf : ¬ s0 = 0 → hk_S G m_X9_wrong (d + 1) cb sb 8 [o0, o1] [] h Q) : hk_S G m_X9_wrong (d + 1) cb sb 5 [o0, o1] [.int s0] h Q := by
  exact hs_if_eq dX9_wrong_5 (by decide) kt kf
theorem b_X9_wrong_8 {G : hk_G} {d cb sb : Nat} {h : hk_H} {Q : hk_O → hk_H → Prop} {r0 : Nat} {fs1 : List Value} {v3 : Nat} {x1 : Int32} {fs_ : List Value} (hg2 : h.2 r0 = some (.inr (9, fs1))) (hv4 : fs1[7]? = some (.ref v3)) (hrec : h.2 v3 = some (.inr (1, fs_))) (hc : hk_Ci G m_X1_leastLie d 0 0 [.ref v3, .int x1] h (fun z h' => hk_S G m_X9_wrong (d + 1) cb sb 16 [some (.ref r0), some (.int x1)] [.int z] h' Q)) : hk_S G m_X9_wrong (d + 1) cb sb 8 [some (.ref r0), some (.int x1)] [] h Q := by
  refine hs_aload_n dX9_wrong_8 rfl ?_
  refine hs_get dX9_wrong_9 fl_X9_58_9 hg2 hv4 ?_
  refine hs_iload_n dX9_wrong_12 rfl ?_
  exact hk_z0 (hs_vir (M' := m_X1_leastLie) (vs := [.int x1]) (c1 := 0) (s1 := 0) dX9_wrong_13 wd_821 vi_X1_leastLie hrec rfl (Nat.le_of_ble_eq_true rfl) hc hq_i (hc_i (fun z h9 k9 => k9)))
theorem b_X9_wrong_16 {G : hk_G} {d cb sb : Nat} {h : hk_H} {Q : hk_O → hk_H → Prop} {s0 : Int32} {o0 : Option Value} {o1 : Option Value} (hq : Q (.inl (some (.int s0))) h) : hk_S G m_X9_wrong (d + 1) cb sb 16 [o0, o1] [.int s0] h Q := by
  refine hs_goto dX9_wrong_16 (tgt := 20) (by decide) ?_
  exact hs_iret dX9_wrong_20 rfl hq
theorem b_X9_wrong_19 {G : hk_G} {d cb sb : Nat} {h : hk_H} {Q : hk_O → hk_H → Prop} {o0 : Option Value} {o1 : Option Value} (hq : Q (.inl (some (.int ((-1))))) h) : hk_S G m_X9_wrong (d + 1) cb sb 19 [o0, o1] [] h Q := by
  refine hs_iconst (v := (-1)) dX9_wrong_19 (by decide) ?_
  exact hs_iret dX9_wrong_20 rfl hq
theorem b_X9_wrong_20 {G : hk_G} {d cb sb : Nat} {h : hk_H} {Q : hk_O → hk_H → Prop} {s0 : Int32} {o0 : Option Value} {o1 : Option Value} (hq : Q (.inl (some (.int s0))) h) : hk_S G m_X9_wrong (d + 1) cb sb 20 [o0, o1] [.int s0] h Q := by
  exact hs_iret dX9_wrong_20 rfl hq
-- HonestHouse.count(I)I
theorem b_X9_count_0 {G : hk_G} {d cb sb : Nat} {h : hk_H} {Q : hk_O → hk_H → Prop} {x1 : Int32} {o0 : Option Value} (k0 : x1 = 0 → hk_S G m_X9_count (d + 1) cb sb 44 [o0, some (.int x1)] [] h Q) (k1 : x1 = 1 → hk_S G m_X9_count (d + 1) cb sb 49 [o0, some (.int x1)] [] h Q) (k2 : x1 = 2 → hk_S G m_X9_count (d + 1) cb sb 54 [o0, some (.int x1)] [] h Q) (k3 : x1 = 3 → hk_S G m_X9_count (d + 1) cb sb 62 [o0, some (.int x1)] [] h Q) (k4 : x1 = 4 → hk_S G m_X9_count (d + 1) cb sb 67 [o0, some (.int x1)] [] h Q) (k5 : x1 = 5 → hk_S G m_X9_count (d + 1) cb sb 75 [o0, some (.int x1)] [] h Q) (k6 : x1 = 6 → hk_S G m_X9_count (d + 1) cb sb 83 [o0, some (.int x1)] [] h Q) (kd : ¬ x1 = 0 → ¬ x1 = 1 → ¬ x1 = 2 → ¬ x1 = 3 → ¬ x1 = 4 → ¬ x1 = 5 → ¬ x1 = 6 → hk_S G m_X9_count (d + 1) cb sb 91 [o0, some (.int x1)] [] h Q) : hk_S G m_X9_count (d + 1) cb sb 0 [o0, some (.int x1)] [] h Q := by
  refine hs_iload_n dX9_count_0 rfl ?_
  by_cases c0 : x1 = 0
  · exact hs_tableIn dX9_count_1 (by rw [c0]; decide) (by rw [c0]; decide) (off := 43) (by rw [c0]; rfl) (by decide) (k0 c0)
  by_cases c1 : x1 = 1
  · exact hs_tableIn dX9_count_1 (by rw [c1]; decide) (by rw [c1]; decide) (off := 48) (by rw [c1]; rfl) (by decide) (k1 c1)
  by_cases c2 : x1 = 2
  · exact hs_tableIn dX9_count_1 (by rw [c2]; decide) (by rw [c2]; decide) (off := 53) (by rw [c2]; rfl) (by decide) (k2 c2)
  by_cases c3 : x1 = 3
  · exact hs_tableIn dX9_count_1 (by rw [c3]; decide) (by rw [c3]; decide) (off := 61) (by rw [c3]; rfl) (by decide) (k3 c3)
  by_cases c4 : x1 = 4
  · exact hs_tableIn dX9_count_1 (by rw [c4]; decide) (by rw [c4]; decide) (off := 66) (by rw [c4]; rfl) (by decide) (k4 c4)
  by_cases c5 : x1 = 5
  · exact hs_tableIn dX9_count_1 (by rw [c5]; decide) (by rw [c5]; decide) (off := 74) (by rw [c5]; rfl) (by decide) (k5 c5)
  by_cases c6 : x1 = 6
  · exact hs_tableIn dX9_count_1 (by rw [c6]; decide) (by rw [c6]; decide) (off := 82) (by rw [c6]; rfl) (by decide) (k6 c6)
  have n0 := lv_neT (a := 0) c0 rfl
  have n1 := lv_neT (a := 1) c1 rfl
  have n2 := lv_neT (a := 2) c2 rfl
  have n3 := lv_neT (a := 3) c3 rfl
  have n4 := lv_neT (a := 4) c4 rfl
  have n5 := lv_neT (a := 5) c5 rfl
  have n6 := lv_neT (a := 6) c6 rfl
  exact hs_tableOut dX9_count_1 (by omega) (by decide) (kd c0 c1 c2 c3 c4 c5 c6)
theorem b_X9_count_44 {G : hk_G} {d cb sb : Nat} {h : hk_H} {Q : hk_O → hk_H → Prop} {r0 : Nat} {fs1 : List Value} {v3 : Int32} {o1 : Option Value} (hg2 : h.2 r0 = some (.inr (9, fs1))) (hv4 : fs1[0]? = some (.int v3)) (hq : Q (.inl (some (.int v3))) h) : hk_S G m_X9_count (d + 1) cb sb 44 [some (.ref r0), o1] [] h Q := by
  refine hs_aload_n dX9_count_44 rfl ?_
  refine hs_get dX9_count_45 fl_X9_18_9 hg2 hv4 ?_
  exact hs_iret dX9_count_48 rfl hq
theorem b_X9_count_49 {G : hk_G} {d cb sb : Nat} {h : hk_H} {Q : hk_O → hk_H → Prop} {r0 : Nat} {fs1 : List Value} {v3 : Int32} {o1 : Option Value} (hg2 : h.2 r0 = some (.inr (9, fs1))) (hv4 : fs1[1]? = some (.int v3)) (hq : Q (.inl (some (.int v3))) h) : hk_S G m_X9_count (d + 1) cb sb 49 [some (.ref r0), o1] [] h Q := by
  refine hs_aload_n dX9_count_49 rfl ?_
  refine hs_get dX9_count_50 fl_X9_24_9 hg2 hv4 ?_
  exact hs_iret dX9_count_53 rfl hq
theorem b_X9_count_54 {G : hk_G} {d cb sb : Nat} {h : hk_H} {Q : hk_O → hk_H → Prop} {r0 : Nat} {fs1 : List Value} {v3 : Nat} {fs5 : List Value} {v7 : Int32} {o1 : Option Value} (hg2 : h.2 r0 = some (.inr (9, fs1))) (hv4 : fs1[2]? = some (.ref v3)) (hg6 : h.2 v3 = some (.inr (8, fs5))) (hv8 : fs5[4]? = some (.int v7)) (hq : Q (.inl (some (.int v7))) h) : hk_S G m_X9_count (d + 1) cb sb 54 [some (.ref r0), o1] [] h Q := by
  refine hs_aload_n dX9_count_54 rfl ?_
  refine hs_get dX9_count_55 fl_X9_27_9 hg2 hv4 ?_
  refine hs_get dX9_count_58 fl_X9_69_8 hg6 hv8 ?_
  exact hs_iret dX9_count_61 rfl hq
theorem b_X9_count_62 {G : hk_G} {d cb sb : Nat} {h : hk_H} {Q : hk_O → hk_H → Prop} {r0 : Nat} {fs1 : List Value} {v3 : Int32} {o1 : Option Value} (hg2 : h.2 r0 = some (.inr (9, fs1))) (hv4 : fs1[4]? = some (.int v3)) (hq : Q (.inl (some (.int v3))) h) : hk_S G m_X9_count (d + 1) cb sb 62 [some (.ref r0), o1] [] h Q := by
  refine hs_aload_n dX9_count_62 rfl ?_
  refine hs_get dX9_count_63 fl_X9_72_9 hg2 hv4 ?_
  exact hs_iret dX9_count_66 rfl hq
theorem b_X9_count_67 {G : hk_G} {d cb sb : Nat} {h : hk_H} {Q : hk_O → hk_H → Prop} {r0 : Nat} {fs1 : List Value} {v3 : Nat} {fs5 : List Value} {v7 : Int32} {o1 : Option Value} (hg2 : h.2 r0 = some (.inr (9, fs1))) (hv4 : fs1[2]? = some (.ref v3)) (hg6 : h.2 v3 = some (.inr (8, fs5))) (hv8 : fs5[5]? = some (.int v7)) (hq : Q (.inl (some (.int v7))) h) : hk_S G m_X9_count (d + 1) cb sb 67 [some (.ref r0), o1] [] h Q := by
  refine hs_aload_n dX9_count_67 rfl ?_
  refine hs_get dX9_count_68 fl_X9_27_9 hg2 hv4 ?_
  refine hs_get dX9_count_71 fl_X9_162_8 hg6 hv8 ?_
  exact hs_iret dX9_count_74 rfl hq
theorem b_X9_count_75 {G : hk_G} {d cb sb : Nat} {h : hk_H} {Q : hk_O → hk_H → Prop} {r0 : Nat} {fs1 : List Value} {v3 : Nat} {fs_ : List Value} {o1 : Option Value} (hg2 : h.2 r0 = some (.inr (9, fs1))) (hv4 : fs1[7]? = some (.ref v3)) (hrec : h.2 v3 = some (.inr (1, fs_))) (hc : hk_Ci G m_X1_goodTrades d 0 0 [.ref v3] h (fun z h' => hk_S G m_X9_count (d + 1) cb sb 82 [some (.ref r0), o1] [.int z] h' Q)) : hk_S G m_X9_count (d + 1) cb sb 75 [some (.ref r0), o1] [] h Q := by
  refine hs_aload_n dX9_count_75 rfl ?_
  refine hs_get dX9_count_76 fl_X9_58_9 hg2 hv4 ?_
  exact hk_z0 (hs_vir (M' := m_X1_goodTrades) (vs := []) (c1 := 0) (s1 := 0) dX9_count_79 wd_839 vi_X1_goodTrades hrec rfl (Nat.le_of_ble_eq_true rfl) hc hq_i (hc_i (fun z h9 k9 => k9)))
theorem b_X9_count_82 {G : hk_G} {d cb sb : Nat} {h : hk_H} {Q : hk_O → hk_H → Prop} {s0 : Int32} {o0 : Option Value} {o1 : Option Value} (hq : Q (.inl (some (.int s0))) h) : hk_S G m_X9_count (d + 1) cb sb 82 [o0, o1] [.int s0] h Q := by
  exact hs_iret dX9_count_82 rfl hq
theorem b_X9_count_83 {G : hk_G} {d cb sb : Nat} {h : hk_H} {Q : hk_O → hk_H → Prop} {r0 : Nat} {fs1 : List Value} {v3 : Nat} {fs_ : List Value} {o1 : Option Value} (hg2 : h.2 r0 = some (.inr (9, fs1))) (hv4 : fs1[7]? = some (.ref v3)) (hrec : h.2 v3 = some (.inr (1, fs_))) (hc : hk_Ci G m_X1_coreTrades d 0 0 [.ref v3] h (fun z h' => hk_S G m_X9_count (d + 1) cb sb 90 [some (.ref r0), o1] [.int z] h' Q)) : hk_S G m_X9_count (d + 1) cb sb 83 [some (.ref r0), o1] [] h Q := by
  refine hs_aload_n dX9_count_83 rfl ?_
  refine hs_get dX9_count_84 fl_X9_58_9 hg2 hv4 ?_
  exact hk_z0 (hs_vir (M' := m_X1_coreTrades) (vs := []) (c1 := 0) (s1 := 0) dX9_count_87 wd_844 vi_X1_coreTrades hrec rfl (Nat.le_of_ble_eq_true rfl) hc hq_i (hc_i (fun z h9 k9 => k9)))
theorem b_X9_count_90 {G : hk_G} {d cb sb : Nat} {h : hk_H} {Q : hk_O → hk_H → Prop} {s0 : Int32} {o0 : Option Value} {o1 : Option Value} (hq : Q (.inl (some (.int s0))) h) : hk_S G m_X9_count (d + 1) cb sb 90 [o0, o1] [.int s0] h Q := by
  exact hs_iret dX9_count_90 rfl hq
theorem b_X9_count_91 {G : hk_G} {d cb sb : Nat} {h : hk_H} {Q : hk_O → hk_H → Prop} {o0 : Option Value} {o1 : Option Value} (hq : Q (.inl (some (.int ((-1))))) h) : hk_S G m_X9_count (d + 1) cb sb 91 [o0, o1] [] h Q := by
  refine hs_iconst (v := (-1)) dX9_count_91 (by decide) ?_
  exact hs_iret dX9_count_92 rfl hq
-- HonestHouse.keep(III)I
theorem b_X9_keep_0 {G : hk_G} {d cb sb : Nat} {h : hk_H} {Q : hk_O → hk_H → Prop} {r0 : Nat} {x1 : Int32} {fs_ : List Value} {o2 : Option Value} {o3 : Option Value} {o4 : Option Value} (hrec : h.2 r0 = some (.inr (9, fs_))) (hc : hk_Cr G m_X9_shelfAt d 0 0 [.ref r0, .int x1] h (fun z h' => hk_S G m_X9_keep (d + 1) cb sb 5 [some (.ref r0), some (.int x1), o2, o3, o4] [hk_rf z] h' Q)) : hk_S G m_X9_keep (d + 1) cb sb 0 [some (.ref r0), some (.int x1), o2, o3, o4] [] h Q := by
  refine hs_aload_n dX9_keep_0 rfl ?_
  refine hs_iload_n dX9_keep_1 rfl ?_
  exact hk_z0 (hs_vir (M' := m_X9_shelfAt) (vs := [.int x1]) (c1 := 0) (s1 := 0) dX9_keep_2 wd_853 vi_X9_shelfAt hrec rfl (Nat.le_of_ble_eq_true rfl) hc hq_r (hc_r (fun z h9 k9 => k9)))
theorem b_X9_keep_5 {G : hk_G} {d cb sb : Nat} {h : hk_H} {Q : hk_O → hk_H → Prop} {s0 : Nat} {x2 : Int32} {o0 : Option Value} {o1 : Option Value} {o3 : Option Value} {o4 : Option Value} (k0 : x2 = 0 → hk_S G m_X9_keep (d + 1) cb sb 48 [o0, o1, some (.int x2), o3, some (.ref s0)] [] h Q) (k1 : x2 = 1 → hk_S G m_X9_keep (d + 1) cb sb 55 [o0, o1, some (.int x2), o3, some (.ref s0)] [] h Q) (k2 : x2 = 2 → hk_S G m_X9_keep (d + 1) cb sb 79 [o0, o1, some (.int x2), o3, some (.ref s0)] [] h Q) (k3 : x2 = 3 → hk_S G m_X9_keep (d + 1) cb sb 63 [o0, o1, some (.int x2), o3, some (.ref s0)] [] h Q) (k4 : x2 = 4 → hk_S G m_X9_keep (d + 1) cb sb 71 [o0, o1, some (.int x2), o3, some (.ref s0)] [] h Q) (kd : ¬ x2 = 0 → ¬ x2 = 1 → ¬ x2 = 2 → ¬ x2 = 3 → ¬ x2 = 4 → hk_S G m_X9_keep (d + 1) cb sb 79 [o0, o1, some (.int x2), o3, some (.ref s0)] [] h Q) (ho3 : hk_c1 o3 := by first | exact hk_c1i | exact hk_c1r | exact hk_c10 | exact hk_c1n) : hk_S G m_X9_keep (d + 1) cb sb 5 [o0, o1, some (.int x2), o3, o4] [.ref s0] h Q := by
  refine hs_astK dX9_keep_5 (by decide) (hk_nk1 rfl ho3) rfl ?_
  refine hs_aload dX9_keep_7 rfl ?_
  refine hs_ifnonnull dX9_keep_9 (tgt := 14) (by decide) ?_
  refine hs_iload_n dX9_keep_14 rfl ?_
  by_cases c0 : x2 = 0
  · exact hs_tableIn dX9_keep_15 (by rw [c0]; decide) (by rw [c0]; decide) (off := 33) (by rw [c0]; rfl) (by decide) (k0 c0)
  by_cases c1 : x2 = 1
  · exact hs_tableIn dX9_keep_15 (by rw [c1]; decide) (by rw [c1]; decide) (off := 40) (by rw [c1]; rfl) (by decide) (k1 c1)
  by_cases c2 : x2 = 2
  · exact hs_tableIn dX9_keep_15 (by rw [c2]; decide) (by rw [c2]; decide) (off := 64) (by rw [c2]; rfl) (by decide) (k2 c2)
  by_cases c3 : x2 = 3
  · exact hs_tableIn dX9_keep_15 (by rw [c3]; decide) (by rw [c3]; decide) (off := 48) (by rw [c3]; rfl) (by decide) (k3 c3)
  by_cases c4 : x2 = 4
  · exact hs_tableIn dX9_keep_15 (by rw [c4]; decide) (by rw [c4]; decide) (off := 56) (by rw [c4]; rfl) (by decide) (k4 c4)
  have n0 := lv_neT (a := 0) c0 rfl
  have n1 := lv_neT (a := 1) c1 rfl
  have n2 := lv_neT (a := 2) c2 rfl
  have n3 := lv_neT (a := 3) c3 rfl
  have n4 := lv_neT (a := 4) c4 rfl
  exact hs_tableOut dX9_keep_15 (by omega) (by decide) (kd c0 c1 c2 c3 c4)
theorem b_X9_keep_5N0 {G : hk_G} {d cb sb : Nat} {h : hk_H} {Q : hk_O → hk_H → Prop} {o0 : Option Value} {o1 : Option Value} {o2 : Option Value} {o3 : Option Value} {o4 : Option Value} (hq : Q (.inl (some (.int ((-1))))) h) (ho3 : hk_c1 o3 := by first | exact hk_c1i | exact hk_c1r | exact hk_c10 | exact hk_c1n) : hk_S G m_X9_keep (d + 1) cb sb 5 [o0, o1, o2, o3, o4] [.null] h Q := by
  refine hs_astKN dX9_keep_5 (by decide) (hk_nk1 rfl ho3) rfl ?_
  refine hs_aloadN dX9_keep_7 rfl ?_
  refine hs_ifnonnullN dX9_keep_9 ?_
  refine hs_iconst (v := (-1)) dX9_keep_12 (by decide) ?_
  exact hs_iret dX9_keep_13 rfl hq
theorem b_X9_keep_12 {G : hk_G} {d cb sb : Nat} {h : hk_H} {Q : hk_O → hk_H → Prop} {o0 : Option Value} {o1 : Option Value} {o2 : Option Value} {o3 : Option Value} {o4 : Option Value} (hq : Q (.inl (some (.int ((-1))))) h) : hk_S G m_X9_keep (d + 1) cb sb 12 [o0, o1, o2, o3, o4] [] h Q := by
  refine hs_iconst (v := (-1)) dX9_keep_12 (by decide) ?_
  exact hs_iret dX9_keep_13 rfl hq
theorem b_X9_keep_14 {G : hk_G} {d cb sb : Nat} {h : hk_H} {Q : hk_O → hk_H → Prop} {x2 : Int32} {o0 : Option Value} {o1 : Option Value} {o3 : Option Value} {o4 : Option Value} (k0 : x2 = 0 → hk_S G m_X9_keep (d + 1) cb sb 48 [o0, o1, some (.int x2), o3, o4] [] h Q) (k1 : x2 = 1 → hk_S G m_X9_keep (d + 1) cb sb 55 [o0, o1, some (.int x2), o3, o4] [] h Q) (k2 : x2 = 2 → hk_S G m_X9_keep (d + 1) cb sb 79 [o0, o1, some (.int x2), o3, o4] [] h Q) (k3 : x2 = 3 → hk_S G m_X9_keep (d + 1) cb sb 63 [o0, o1, some (.int x2), o3, o4] [] h Q) (k4 : x2 = 4 → hk_S G m_X9_keep (d + 1) cb sb 71 [o0, o1, some (.int x2), o3, o4] [] h Q) (kd : ¬ x2 = 0 → ¬ x2 = 1 → ¬ x2 = 2 → ¬ x2 = 3 → ¬ x2 = 4 → hk_S G m_X9_keep (d + 1) cb sb 79 [o0, o1, some (.int x2), o3, o4] [] h Q) : hk_S G m_X9_keep (d + 1) cb sb 14 [o0, o1, some (.int x2), o3, o4] [] h Q := by
  refine hs_iload_n dX9_keep_14 rfl ?_
  by_cases c0 : x2 = 0
  · exact hs_tableIn dX9_keep_15 (by rw [c0]; decide) (by rw [c0]; decide) (off := 33) (by rw [c0]; rfl) (by decide) (k0 c0)
  by_cases c1 : x2 = 1
  · exact hs_tableIn dX9_keep_15 (by rw [c1]; decide) (by rw [c1]; decide) (off := 40) (by rw [c1]; rfl) (by decide) (k1 c1)
  by_cases c2 : x2 = 2
  · exact hs_tableIn dX9_keep_15 (by rw [c2]; decide) (by rw [c2]; decide) (off := 64) (by rw [c2]; rfl) (by decide) (k2 c2)
  by_cases c3 : x2 = 3
  · exact hs_tableIn dX9_keep_15 (by rw [c3]; decide) (by rw [c3]; decide) (off := 48) (by rw [c3]; rfl) (by decide) (k3 c3)
  by_cases c4 : x2 = 4
  · exact hs_tableIn dX9_keep_15 (by rw [c4]; decide) (by rw [c4]; decide) (off := 56) (by rw [c4]; rfl) (by decide) (k4 c4)
  have n0 := lv_neT (a := 0) c0 rfl
  have n1 := lv_neT (a := 1) c1 rfl
  have n2 := lv_neT (a := 2) c2 rfl
  have n3 := lv_neT (a := 3) c3 rfl
  have n4 := lv_neT (a := 4) c4 rfl
  exact hs_tableOut dX9_keep_15 (by omega) (by decide) (kd c0 c1 c2 c3 c4)
theorem b_X9_keep_48 {G : hk_G} {d cb sb : Nat} {h : hk_H} {Q : hk_O → hk_H → Prop} {r4 : Nat} {fs_ : List Value} {o0 : Option Value} {o1 : Option Value} {o2 : Option Value} {o3 : Option Value} (hrec : h.2 r4 = some (.inr (4, fs_))) (hc : hk_Cv G m_X4_holdNothing d 0 0 [.ref r4] h (fun h' => hk_S G m_X9_keep (d + 1) cb sb 53 [o0, o1, o2, o3, some (.ref r4)] [] h' Q)) : hk_S G m_X9_keep (d + 1) cb sb 48 [o0, o1, o2, o3, some (.ref r4)] [] h Q := by
  refine hs_aload dX9_keep_48 rfl ?_
  exact hk_z0 (hs_vir (M' := m_X4_holdNothing) (vs := []) (c1 := 0) (s1 := 0) dX9_keep_50 wd_857 vi_X4_holdNothing hrec rfl (Nat.le_of_ble_eq_true rfl) hc hq_v (hc_v (fun h9 k9 => k9)))
theorem b_X9_keep_53 {G : hk_G} {d cb sb : Nat} {h : hk_H} {Q : hk_O → hk_H → Prop} {o0 : Option Value} {o1 : Option Value} {o2 : Option Value} {o3 : Option Value} {o4 : Option Value} (hq : Q (.inl (some (.int 0))) h) : hk_S G m_X9_keep (d + 1) cb sb 53 [o0, o1, o2, o3, o4] [] h Q := by
  refine hs_iconst (v := 0) dX9_keep_53 (by decide) ?_
  exact hs_iret dX9_keep_54 rfl hq
theorem b_X9_keep_55 {G : hk_G} {d cb sb : Nat} {h : hk_H} {Q : hk_O → hk_H → Prop} {r0 : Nat} {r4 : Nat} {x3 : Int32} {fs_ : List Value} {o1 : Option Value} {o2 : Option Value} (hrec : h.2 r0 = some (.inr (9, fs_))) (hc : hk_Ci G m_X9_keepRule d 0 0 [.ref r0, .ref r4, .int x3] h (fun z h' => hk_S G m_X9_keep (d + 1) cb sb 62 [some (.ref r0), o1, o2, some (.int x3), some (.ref r4)] [.int z] h' Q)) : hk_S G m_X9_keep (d + 1) cb sb 55 [some (.ref r0), o1, o2, some (.int x3), some (.ref r4)] [] h Q := by
  refine hs_aload_n dX9_keep_55 rfl ?_
  refine hs_aload dX9_keep_56 rfl ?_
  refine hs_iload_n dX9_keep_58 rfl ?_
  exact hk_z0 (hs_vir (M' := m_X9_keepRule) (vs := [.ref r4, .int x3]) (c1 := 0) (s1 := 0) dX9_keep_59 wd_861 vi_X9_keepRule hrec rfl (Nat.le_of_ble_eq_true rfl) hc hq_i (hc_i (fun z h9 k9 => k9)))
theorem b_X9_keep_62 {G : hk_G} {d cb sb : Nat} {h : hk_H} {Q : hk_O → hk_H → Prop} {s0 : Int32} {o0 : Option Value} {o1 : Option Value} {o2 : Option Value} {o3 : Option Value} {o4 : Option Value} (hq : Q (.inl (some (.int s0))) h) : hk_S G m_X9_keep (d + 1) cb sb 62 [o0, o1, o2, o3, o4] [.int s0] h Q := by
  exact hs_iret dX9_keep_62 rfl hq
theorem b_X9_keep_63 {G : hk_G} {d cb sb : Nat} {h : hk_H} {Q : hk_O → hk_H → Prop} {r0 : Nat} {r4 : Nat} {x3 : Int32} {fs_ : List Value} {o1 : Option Value} {o2 : Option Value} (hrec : h.2 r0 = some (.inr (9, fs_))) (hc : hk_Ci G m_X9_keepEnds d 0 0 [.ref r0, .ref r4, .int x3] h (fun z h' => hk_S G m_X9_keep (d + 1) cb sb 70 [some (.ref r0), o1, o2, some (.int x3), some (.ref r4)] [.int z] h' Q)) : hk_S G m_X9_keep (d + 1) cb sb 63 [some (.ref r0), o1, o2, some (.int x3), some (.ref r4)] [] h Q := by
  refine hs_aload_n dX9_keep_63 rfl ?_
  refine hs_aload dX9_keep_64 rfl ?_
  refine hs_iload_n dX9_keep_66 rfl ?_
  exact hk_z0 (hs_vir (M' := m_X9_keepEnds) (vs := [.ref r4, .int x3]) (c1 := 0) (s1 := 0) dX9_keep_67 wd_886 vi_X9_keepEnds hrec rfl (Nat.le_of_ble_eq_true rfl) hc hq_i (hc_i (fun z h9 k9 => k9)))
theorem b_X9_keep_70 {G : hk_G} {d cb sb : Nat} {h : hk_H} {Q : hk_O → hk_H → Prop} {s0 : Int32} {o0 : Option Value} {o1 : Option Value} {o2 : Option Value} {o3 : Option Value} {o4 : Option Value} (hq : Q (.inl (some (.int s0))) h) : hk_S G m_X9_keep (d + 1) cb sb 70 [o0, o1, o2, o3, o4] [.int s0] h Q := by
  exact hs_iret dX9_keep_70 rfl hq
theorem b_X9_keep_71 {G : hk_G} {d cb sb : Nat} {h : hk_H} {Q : hk_O → hk_H → Prop} {r0 : Nat} {r4 : Nat} {x3 : Int32} {fs_ : List Value} {o1 : Option Value} {o2 : Option Value} (hrec : h.2 r0 = some (.inr (9, fs_))) (hc : hk_Ci G m_X9_keepNumbers d 0 0 [.ref r0, .ref r4, .int x3] h (fun z h' => hk_S G m_X9_keep (d + 1) cb sb 78 [some (.ref r0), o1, o2, some (.int x3), some (.ref r4)] [.int z] h' Q)) : hk_S G m_X9_keep (d + 1) cb sb 71 [some (.ref r0), o1, o2, some (.int x3), some (.ref r4)] [] h Q := by
  refine hs_aload_n dX9_keep_71 rfl ?_
  refine hs_aload dX9_keep_72 rfl ?_
  refine hs_iload_n dX9_keep_74 rfl ?_
  exact hk_z0 (hs_vir (M' := m_X9_keepNumbers) (vs := [.ref r4, .int x3]) (c1 := 0) (s1 := 0) dX9_keep_75 wd_898 vi_X9_keepNumbers hrec rfl (Nat.le_of_ble_eq_true rfl) hc hq_i (hc_i (fun z h9 k9 => k9)))
theorem b_X9_keep_78 {G : hk_G} {d cb sb : Nat} {h : hk_H} {Q : hk_O → hk_H → Prop} {s0 : Int32} {o0 : Option Value} {o1 : Option Value} {o2 : Option Value} {o3 : Option Value} {o4 : Option Value} (hq : Q (.inl (some (.int s0))) h) : hk_S G m_X9_keep (d + 1) cb sb 78 [o0, o1, o2, o3, o4] [.int s0] h Q := by
  exact hs_iret dX9_keep_78 rfl hq
theorem b_X9_keep_79 {G : hk_G} {d cb sb : Nat} {h : hk_H} {Q : hk_O → hk_H → Prop} {o0 : Option Value} {o1 : Option Value} {o2 : Option Value} {o3 : Option Value} {o4 : Option Value} (hq : Q (.inl (some (.int ((-1))))) h) : hk_S G m_X9_keep (d + 1) cb sb 79 [o0, o1, o2, o3, o4] [] h Q := by
  refine hs_iconst (v := (-1)) dX9_keep_79 (by decide) ?_
  exact hs_iret dX9_keep_80 rfl hq
-- HonestHouse.make(III)I
theorem b_X9_make_0 {G : hk_G} {d cb sb : Nat} {h : hk_H} {Q : hk_O → hk_H → Prop} {r0 : Nat} {x1 : Int32} {fs_ : List Value} {o2 : Option Value} {o3 : Option Value} {o4 : Option Value} (hrec : h.2 r0 = some (.inr (9, fs_))) (hc : hk_Cr G m_X9_shelfAt d 0 0 [.ref r0, .int x1] h (fun z h' => hk_S G m_X9_make (d + 1) cb sb 5 [some (.ref r0), some (.int x1), o2, o3, o4] [hk_rf z] h' Q)) : hk_S G m_X9_make (d + 1) cb sb 0 [some (.ref r0), some (.int x1), o2, o3, o4] [] h Q := by
  refine hs_aload_n dX9_make_0 rfl ?_
  refine hs_iload_n dX9_make_1 rfl ?_
  exact hk_z0 (hs_vir (M' := m_X9_shelfAt) (vs := [.int x1]) (c1 := 0) (s1 := 0) dX9_make_2 wd_853 vi_X9_shelfAt hrec rfl (Nat.le_of_ble_eq_true rfl) hc hq_r (hc_r (fun z h9 k9 => k9)))
theorem b_X9_make_5 {G : hk_G} {d cb sb : Nat} {h : hk_H} {Q : hk_O → hk_H → Prop} {s0 : Nat} {x2 : Int32} {o0 : Option Value} {o1 : Option Value} {o3 : Option Value} {o4 : Option Value} (hc : hk_Ci G m_X9_isWithin d 0 0 [.int x2, .int 3, .int 4] h (fun z h' => hk_S G m_X9_make (d + 1) cb sb 18 [o0, o1, some (.int x2), o3, some (.ref s0)] [.int z] h' Q)) (ho3 : hk_c1 o3 := by first | exact hk_c1i | exact hk_c1r | exact hk_c10 | exact hk_c1n) : hk_S G m_X9_make (d + 1) cb sb 5 [o0, o1, some (.int x2), o3, o4] [.ref s0] h Q := by
  refine hs_astK dX9_make_5 (by decide) (hk_nk1 rfl ho3) rfl ?_
  refine hs_aload dX9_make_7 rfl ?_
  refine hs_ifnull dX9_make_9 ?_
  refine hs_iload_n dX9_make_12 rfl ?_
  refine hs_iconst (v := 3) dX9_make_13 (by decide) ?_
  refine hs_iconst (v := 4) dX9_make_14 (by decide) ?_
  exact hk_z0 (hs_sta (M' := m_X9_isWithin) (vs := [.int x2, .int 3, .int 4]) (c1 := 0) (s1 := 0) dX9_make_15 wd_244 st_X9_isWithin rfl (Nat.le_of_ble_eq_true rfl) hc hq_i (hc_i (fun z h9 k9 => k9)))
theorem b_X9_make_5N0 {G : hk_G} {d cb sb : Nat} {h : hk_H} {Q : hk_O → hk_H → Prop} {o0 : Option Value} {o1 : Option Value} {o2 : Option Value} {o3 : Option Value} {o4 : Option Value} (hq : Q (.inl (some (.int ((-1))))) h) (ho3 : hk_c1 o3 := by first | exact hk_c1i | exact hk_c1r | exact hk_c10 | exact hk_c1n) : hk_S G m_X9_make (d + 1) cb sb 5 [o0, o1, o2, o3, o4] [.null] h Q := by
  refine hs_astKN dX9_make_5 (by decide) (hk_nk1 rfl ho3) rfl ?_
  refine hs_aloadN dX9_make_7 rfl ?_
  refine hs_ifnullN dX9_make_9 (tgt := 27) (by decide) ?_
  refine hs_iconst (v := (-1)) dX9_make_27 (by decide) ?_
  exact hs_iret dX9_make_28 rfl hq
theorem b_X9_make_12 {G : hk_G} {d cb sb : Nat} {h : hk_H} {Q : hk_O → hk_H → Prop} {x2 : Int32} {o0 : Option Value} {o1 : Option Value} {o3 : Option Value} {o4 : Option Value} (hc : hk_Ci G m_X9_isWithin d 0 0 [.int x2, .int 3, .int 4] h (fun z h' => hk_S G m_X9_make (d + 1) cb sb 18 [o0, o1, some (.int x2), o3, o4] [.int z] h' Q)) : hk_S G m_X9_make (d + 1) cb sb 12 [o0, o1, some (.int x2), o3, o4] [] h Q := by
  refine hs_iload_n dX9_make_12 rfl ?_
  refine hs_iconst (v := 3) dX9_make_13 (by decide) ?_
  refine hs_iconst (v := 4) dX9_make_14 (by decide) ?_
  exact hk_z0 (hs_sta (M' := m_X9_isWithin) (vs := [.int x2, .int 3, .int 4]) (c1 := 0) (s1 := 0) dX9_make_15 wd_244 st_X9_isWithin rfl (Nat.le_of_ble_eq_true rfl) hc hq_i (hc_i (fun z h9 k9 => k9)))
theorem b_X9_make_18 {G : hk_G} {d cb sb : Nat} {h : hk_H} {Q : hk_O → hk_H → Prop} {s0 : Int32} {o0 : Option Value} {o1 : Option Value} {o2 : Option Value} {o3 : Option Value} {o4 : Option Value} (kt : s0 = 0 → hk_S G m_X9_make (d + 1) cb sb 27 [o0, o1, o2, o3, o4] [] h Q) (kf : ¬ s0 = 0 → hk_S G m_X9_make (d + 1) cb sb 21 [o0, o1, o2, o3, o4] [] h Q) : hk_S G m_X9_make (d + 1) cb sb 18 [o0, o1, o2, o3, o4] [.int s0] h Q := by
  exact hs_if_eq dX9_make_18 (by decide) kt kf
theorem b_X9_make_21 {G : hk_G} {d cb sb : Nat} {h : hk_H} {Q : hk_O → hk_H → Prop} {x3 : Int32} {o0 : Option Value} {o1 : Option Value} {o2 : Option Value} {o4 : Option Value} (kt : x3 ≤ 60 → hk_S G m_X9_make (d + 1) cb sb 29 [o0, o1, o2, some (.int x3), o4] [] h Q) (kf : ¬ x3 ≤ 60 → hk_S G m_X9_make (d + 1) cb sb 27 [o0, o1, o2, some (.int x3), o4] [] h Q) : hk_S G m_X9_make (d + 1) cb sb 21 [o0, o1, o2, some (.int x3), o4] [] h Q := by
  refine hs_iload_n dX9_make_21 rfl ?_
  refine hs_bipush (v := 60) dX9_make_22 (by decide) ?_
  exact hs_icmp_le dX9_make_24 (by decide) kt kf
theorem b_X9_make_27 {G : hk_G} {d cb sb : Nat} {h : hk_H} {Q : hk_O → hk_H → Prop} {o0 : Option Value} {o1 : Option Value} {o2 : Option Value} {o3 : Option Value} {o4 : Option Value} (hq : Q (.inl (some (.int ((-1))))) h) : hk_S G m_X9_make (d + 1) cb sb 27 [o0, o1, o2, o3, o4] [] h Q := by
  refine hs_iconst (v := (-1)) dX9_make_27 (by decide) ?_
  exact hs_iret dX9_make_28 rfl hq
theorem b_X9_make_29 {G : hk_G} {d cb sb : Nat} {h : hk_H} {Q : hk_O → hk_H → Prop} {x3 : Int32} {o0 : Option Value} {o1 : Option Value} {o2 : Option Value} {o4 : Option Value} (kt : 0 ≤ x3 → hk_S G m_X9_make (d + 1) cb sb 36 [o0, o1, o2, some (.int x3), o4] [] h Q) (kf : ¬ 0 ≤ x3 → hk_S G m_X9_make (d + 1) cb sb 33 [o0, o1, o2, some (.int x3), o4] [] h Q) : hk_S G m_X9_make (d + 1) cb sb 29 [o0, o1, o2, some (.int x3), o4] [] h Q := by
  refine hs_iload_n dX9_make_29 rfl ?_
  exact hs_if_ge dX9_make_30 (by decide) kt kf
theorem b_X9_make_33 {G : hk_G} {d cb sb : Nat} {h : hk_H} {Q : hk_O → hk_H → Prop} {o0 : Option Value} {o1 : Option Value} {o2 : Option Value} {o3 : Option Value} {o4 : Option Value} (hq : Q (.inl (some (.int ((-14))))) h) : hk_S G m_X9_make (d + 1) cb sb 33 [o0, o1, o2, o3, o4] [] h Q := by
  refine hs_bipush (v := (-14)) dX9_make_33 (by decide) ?_
  exact hs_iret dX9_make_35 rfl hq
theorem b_X9_make_36 {G : hk_G} {d cb sb : Nat} {h : hk_H} {Q : hk_O → hk_H → Prop} {r4 : Nat} {x2 : Int32} {x3 : Int32} {fs_ : List Value} {o0 : Option Value} {o1 : Option Value} (hrec : h.2 r4 = some (.inr (4, fs_))) (hc : hk_Cv G m_X4_holdRow d 0 0 [.ref r4, .int x2, .int x3] h (fun h' => hk_S G m_X9_make (d + 1) cb sb 43 [o0, o1, some (.int x2), some (.int x3), some (.ref r4)] [] h' Q)) : hk_S G m_X9_make (d + 1) cb sb 36 [o0, o1, some (.int x2), some (.int x3), some (.ref r4)] [] h Q := by
  refine hs_aload dX9_make_36 rfl ?_
  refine hs_iload_n dX9_make_38 rfl ?_
  refine hs_iload_n dX9_make_39 rfl ?_
  exact hk_z0 (hs_vir (M' := m_X4_holdRow) (vs := [.int x2, .int x3]) (c1 := 0) (s1 := 0) dX9_make_40 wd_891 vi_X4_holdRow hrec rfl (Nat.le_of_ble_eq_true rfl) hc hq_v (hc_v (fun h9 k9 => k9)))
theorem b_X9_make_43 {G : hk_G} {d cb sb : Nat} {h : hk_H} {Q : hk_O → hk_H → Prop} {o0 : Option Value} {o1 : Option Value} {o2 : Option Value} {o3 : Option Value} {o4 : Option Value} (hq : Q (.inl (some (.int 0))) h) : hk_S G m_X9_make (d + 1) cb sb 43 [o0, o1, o2, o3, o4] [] h Q := by
  refine hs_iconst (v := 0) dX9_make_43 (by decide) ?_
  exact hs_iret dX9_make_44 rfl hq
-- HonestHouse.element(II)J
theorem b_X9_element_0 {G : hk_G} {d cb sb : Nat} {h : hk_H} {Q : hk_O → hk_H → Prop} {r0 : Nat} {x1 : Int32} {fs_ : List Value} {o2 : Option Value} {o3 : Option Value} (hrec : h.2 r0 = some (.inr (9, fs_))) (hc : hk_Cr G m_X9_shelfAt d 0 0 [.ref r0, .int x1] h (fun z h' => hk_S G m_X9_element (d + 1) cb sb 5 [some (.ref r0), some (.int x1), o2, o3] [hk_rf z] h' Q)) : hk_S G m_X9_element (d + 1) cb sb 0 [some (.ref r0), some (.int x1), o2, o3] [] h Q := by
  refine hs_aload_n dX9_element_0 rfl ?_
  refine hs_iload_n dX9_element_1 rfl ?_
  exact hk_z0 (hs_vir (M' := m_X9_shelfAt) (vs := [.int x1]) (c1 := 0) (s1 := 0) dX9_element_2 wd_853 vi_X9_shelfAt hrec rfl (Nat.le_of_ble_eq_true rfl) hc hq_r (hc_r (fun z h9 k9 => k9)))
theorem b_X9_element_5 {G : hk_G} {d cb sb : Nat} {h : hk_H} {Q : hk_O → hk_H → Prop} {s0 : Nat} {fs_ : List Value} {o0 : Option Value} {o1 : Option Value} {o2 : Option Value} {o3 : Option Value} (hrec : h.2 s0 = some (.inr (4, fs_))) (hc : hk_Ci G m_X4_holdsRow d 0 0 [.ref s0] h (fun z h' => hk_S G m_X9_element (d + 1) cb sb 25 [o0, o1, o2, some (.ref s0)] [.int z] h' Q)) (ho2 : hk_c1 o2 := by first | exact hk_c1i | exact hk_c1r | exact hk_c10 | exact hk_c1n) : hk_S G m_X9_element (d + 1) cb sb 5 [o0, o1, o2, o3] [.ref s0] h Q := by
  refine hs_astK_n dX9_element_5 (by decide) (hk_nk1 rfl ho2) rfl ?_
  refine hs_aload_n dX9_element_6 rfl ?_
  refine hs_ifnonnull dX9_element_7 (tgt := 21) (by decide) ?_
  refine hs_aload_n dX9_element_21 rfl ?_
  exact hk_z0 (hs_vir (M' := m_X4_holdsRow) (vs := []) (c1 := 0) (s1 := 0) dX9_element_22 wd_911 vi_X4_holdsRow hrec rfl (Nat.le_of_ble_eq_true rfl) hc hq_i (hc_i (fun z h9 k9 => k9)))
theorem b_X9_element_5N0 {G : hk_G} {d cb sb : Nat} {h : hk_H} {Q : hk_O → hk_H → Prop} {o0 : Option Value} {o1 : Option Value} {o2 : Option Value} {o3 : Option Value} (hq : Q (.inr "java/lang/IllegalArgumentException") (h.1 + 1, h.2)) (ho2 : hk_c1 o2 := by first | exact hk_c1i | exact hk_c1r | exact hk_c10 | exact hk_c1n) : hk_S G m_X9_element (d + 1) (cb + 1) (sb + 6) 5 [o0, o1, o2, o3] [.null] h Q := by
  refine hs_astKN_n dX9_element_5 (by decide) (hk_nk1 rfl ho2) rfl ?_
  refine hs_aload_nN dX9_element_6 rfl ?_
  refine hs_ifnonnullN dX9_element_7 ?_
  exact hs_throwW (text := "no such shelf") dX9_element_10 dX9_element_13 dX9_element_14 dX9_element_17 dX9_element_20 rfl th_X9_A (by decide +kernel) rfl hq
theorem b_X9_element_10 {G : hk_G} {d cb sb : Nat} {h : hk_H} {Q : hk_O → hk_H → Prop} {o0 : Option Value} {o1 : Option Value} {o2 : Option Value} {o3 : Option Value} (hq : Q (.inr "java/lang/IllegalArgumentException") (h.1 + 1, h.2)) : hk_S G m_X9_element (d + 1) (cb + 1) (sb + 6) 10 [o0, o1, o2, o3] [] h Q := by
  exact hs_throwW (text := "no such shelf") dX9_element_10 dX9_element_13 dX9_element_14 dX9_element_17 dX9_element_20 rfl th_X9_A (by decide +kernel) rfl hq
-- b_X9_element_20: .athrow
theorem b_X9_element_21 {G : hk_G} {d cb sb : Nat} {h : hk_H} {Q : hk_O → hk_H → Prop} {r3 : Nat} {fs_ : List Value} {o0 : Option Value} {o1 : Option Value} {o2 : Option Value} (hrec : h.2 r3 = some (.inr (4, fs_))) (hc : hk_Ci G m_X4_holdsRow d 0 0 [.ref r3] h (fun z h' => hk_S G m_X9_element (d + 1) cb sb 25 [o0, o1, o2, some (.ref r3)] [.int z] h' Q)) : hk_S G m_X9_element (d + 1) cb sb 21 [o0, o1, o2, some (.ref r3)] [] h Q := by
  refine hs_aload_n dX9_element_21 rfl ?_
  exact hk_z0 (hs_vir (M' := m_X4_holdsRow) (vs := []) (c1 := 0) (s1 := 0) dX9_element_22 wd_911 vi_X4_holdsRow hrec rfl (Nat.le_of_ble_eq_true rfl) hc hq_i (hc_i (fun z h9 k9 => k9)))
theorem b_X9_element_25 {G : hk_G} {d cb sb : Nat} {h : hk_H} {Q : hk_O → hk_H → Prop} {s0 : Int32} {o0 : Option Value} {o1 : Option Value} {o2 : Option Value} {o3 : Option Value} (kt : s0 = 0 → hk_S G m_X9_element (d + 1) cb sb 42 [o0, o1, o2, o3] [] h Q) (kf : ¬ s0 = 0 → hk_S G m_X9_element (d + 1) cb sb 28 [o0, o1, o2, o3] [] h Q) : hk_S G m_X9_element (d + 1) cb sb 25 [o0, o1, o2, o3] [.int s0] h Q := by
  exact hs_if_eq dX9_element_25 (by decide) kt kf
theorem b_X9_element_28 {G : hk_G} {d cb sb : Nat} {h : hk_H} {Q : hk_O → hk_H → Prop} {x2 : Int32} {r3 : Nat} {fs1 : List Value} {v3 : Int32} {o0 : Option Value} {o1 : Option Value} (hg2 : h.2 r3 = some (.inr (4, fs1))) (hv4 : fs1[3]? = some (.int v3)) (hc : hk_Ci G m_X9_isWithin d 0 0 [.int x2, .int 0, .int (v3 - 1)] h (fun z h' => hk_S G m_X9_element (d + 1) cb sb 39 [o0, o1, some (.int x2), some (.ref r3)] [.int z] h' Q)) : hk_S G m_X9_element (d + 1) cb sb 28 [o0, o1, some (.int x2), some (.ref r3)] [] h Q := by
  refine hs_iload_n dX9_element_28 rfl ?_
  refine hs_iconst (v := 0) dX9_element_29 (by decide) ?_
  refine hs_aload_n dX9_element_30 rfl ?_
  refine hs_get dX9_element_31 fl_X9_301_4 hg2 hv4 ?_
  refine hs_iconst (v := 1) dX9_element_34 (by decide) ?_
  refine hs_isub dX9_element_35 ?_
  exact hk_z0 (hs_sta (M' := m_X9_isWithin) (vs := [.int x2, .int 0, .int (v3 - 1)]) (c1 := 0) (s1 := 0) dX9_element_36 wd_244 st_X9_isWithin rfl (Nat.le_of_ble_eq_true rfl) hc hq_i (hc_i (fun z h9 k9 => k9)))
theorem b_X9_element_39 {G : hk_G} {d cb sb : Nat} {h : hk_H} {Q : hk_O → hk_H → Prop} {s0 : Int32} {o0 : Option Value} {o1 : Option Value} {o2 : Option Value} {o3 : Option Value} (kt : ¬ s0 = 0 → hk_S G m_X9_element (d + 1) cb sb 53 [o0, o1, o2, o3] [] h Q) (kf : s0 = 0 → hk_S G m_X9_element (d + 1) cb sb 42 [o0, o1, o2, o3] [] h Q) : hk_S G m_X9_element (d + 1) cb sb 39 [o0, o1, o2, o3] [.int s0] h Q := by
  exact hs_if_ne dX9_element_39 (by decide) kt kf
theorem b_X9_element_42 {G : hk_G} {d cb sb : Nat} {h : hk_H} {Q : hk_O → hk_H → Prop} {o0 : Option Value} {o1 : Option Value} {o2 : Option Value} {o3 : Option Value} (hq : Q (.inr "java/lang/IllegalStateException") (h.1 + 1, h.2)) : hk_S G m_X9_element (d + 1) (cb + 1) (sb + 6) 42 [o0, o1, o2, o3] [] h Q := by
  exact hs_throwW (text := "no row, or no such place in it") dX9_element_42 dX9_element_45 dX9_element_46 dX9_element_49 dX9_element_52 rfl th_X9_S (by decide +kernel) rfl hq
-- b_X9_element_52: .athrow
theorem b_X9_element_53 {G : hk_G} {d cb sb : Nat} {h : hk_H} {Q : hk_O → hk_H → Prop} {r3 : Nat} {fs1 : List Value} {v3 : Nat} {x2 : Int32} {n5 : Nat} {f6 : Nat → Int64} {o0 : Option Value} {o1 : Option Value} (hg2 : h.2 r3 = some (.inr (4, fs1))) (hv4 : fs1[4]? = some (.ref v3)) (ha7 : h.2 v3 = some (.inl (1, n5, .inr (.inl f6)))) (j8 : Nat) (hi9 : (x2 : Int32).toInt = (j8 : Int)) (hj10 : j8 < n5) (hq : Q (.inl (some (.long (f6 j8)))) h) : hk_S G m_X9_element (d + 1) cb sb 53 [o0, o1, some (.int x2), some (.ref r3)] [] h Q := by
  refine hs_aload_n dX9_element_53 rfl ?_
  refine hs_get dX9_element_54 fl_X9_306_4 hg2 hv4 ?_
  refine hs_iload_n dX9_element_57 rfl ?_
  refine hs_lald j8 dX9_element_58 ha7 hi9 hj10 ?_
  exact hs_lret dX9_element_59 rfl hq
-- HonestHouse.copy(IIIII)I
theorem b_X9_copy_0 {G : hk_G} {d cb sb : Nat} {h : hk_H} {Q : hk_O → hk_H → Prop} {r0 : Nat} {x1 : Int32} {fs_ : List Value} {o2 : Option Value} {o3 : Option Value} {o4 : Option Value} {o5 : Option Value} {o6 : Option Value} {o7 : Option Value} (hrec : h.2 r0 = some (.inr (9, fs_))) (hc : hk_Cr G m_X9_shelfAt d 0 0 [.ref r0, .int x1] h (fun z h' => hk_S G m_X9_copy (d + 1) cb sb 5 [some (.ref r0), some (.int x1), o2, o3, o4, o5, o6, o7] [hk_rf z] h' Q)) : hk_S G m_X9_copy (d + 1) cb sb 0 [some (.ref r0), some (.int x1), o2, o3, o4, o5, o6, o7] [] h Q := by
  refine hs_aload_n dX9_copy_0 rfl ?_
  refine hs_iload_n dX9_copy_1 rfl ?_
  exact hk_z0 (hs_vir (M' := m_X9_shelfAt) (vs := [.int x1]) (c1 := 0) (s1 := 0) dX9_copy_2 wd_853 vi_X9_shelfAt hrec rfl (Nat.le_of_ble_eq_true rfl) hc hq_r (hc_r (fun z h9 k9 => k9)))
theorem b_X9_copy_5 {G : hk_G} {d cb sb : Nat} {h : hk_H} {Q : hk_O → hk_H → Prop} {s0 : Nat} {r0 : Nat} {x3 : Int32} {fs_ : List Value} {o1 : Option Value} {o2 : Option Value} {o4 : Option Value} {o5 : Option Value} {o6 : Option Value} {o7 : Option Value} (hrec : h.2 r0 = some (.inr (9, fs_))) (hc : hk_Cr G m_X9_shelfAt d 0 0 [.ref r0, .int x3] h (fun z h' => hk_S G m_X9_copy (d + 1) cb sb 12 [some (.ref r0), o1, o2, some (.int x3), o4, o5, some (.ref s0), o7] [hk_rf z] h' Q)) (ho5 : hk_c1 o5 := by first | exact hk_c1i | exact hk_c1r | exact hk_c10 | exact hk_c1n) : hk_S G m_X9_copy (d + 1) cb sb 5 [some (.ref r0), o1, o2, some (.int x3), o4, o5, o6, o7] [.ref s0] h Q := by
  refine hs_astK dX9_copy_5 (by decide) (hk_nk1 rfl ho5) rfl ?_
  refine hs_aload_n dX9_copy_7 rfl ?_
  refine hs_iload_n dX9_copy_8 rfl ?_
  exact hk_z0 (hs_vir (M' := m_X9_shelfAt) (vs := [.int x3]) (c1 := 0) (s1 := 0) dX9_copy_9 wd_853 vi_X9_shelfAt hrec rfl (Nat.le_of_ble_eq_true rfl) hc hq_r (hc_r (fun z h9 k9 => k9)))
theorem b_X9_copy_5N0 {G : hk_G} {d cb sb : Nat} {h : hk_H} {Q : hk_O → hk_H → Prop} {r0 : Nat} {x3 : Int32} {fs_ : List Value} {o1 : Option Value} {o2 : Option Value} {o4 : Option Value} {o5 : Option Value} {o6 : Option Value} {o7 : Option Value} (hrec : h.2 r0 = some (.inr (9, fs_))) (hc : hk_Cr G m_X9_shelfAt d 0 0 [.ref r0, .int x3] h (fun z h' => hk_S G m_X9_copy (d + 1) cb sb 12 [some (.ref r0), o1, o2, some (.int x3), o4, o5, some (.null), o7] [hk_rf z] h' Q)) (ho5 : hk_c1 o5 := by first | exact hk_c1i | exact hk_c1r | exact hk_c10 | exact hk_c1n) : hk_S G m_X9_copy (d + 1) cb sb 5 [some (.ref r0), o1, o2, some (.int x3), o4, o5, o6, o7] [.null] h Q := by
  refine hs_astKN dX9_copy_5 (by decide) (hk_nk1 rfl ho5) rfl ?_
  refine hs_aload_n dX9_copy_7 rfl ?_
  refine hs_iload_n dX9_copy_8 rfl ?_
  exact hk_z0 (hs_vir (M' := m_X9_shelfAt) (vs := [.int x3]) (c1 := 0) (s1 := 0) dX9_copy_9 wd_853 vi_X9_shelfAt hrec rfl (Nat.le_of_ble_eq_true rfl) hc hq_r (hc_r (fun z h9 k9 => k9)))
theorem b_X9_copy_12 {G : hk_G} {d cb sb : Nat} {h : hk_H} {Q : hk_O → hk_H → Prop} {s0 : Nat} {r6 : Nat} {fs1 : List Value} {v3 : Int32} {o0 : Option Value} {o1 : Option Value} {o2 : Option Value} {o3 : Option Value} {o4 : Option Value} {o5 : Option Value} {o7 : Option Value} (hg2 : h.2 r6 = some (.inr (4, fs1))) (hv4 : fs1[0]? = some (.int v3)) (kt : v3 = 0 → hk_S G m_X9_copy (d + 1) cb sb 42 [o0, o1, o2, o3, o4, o5, some (.ref r6), some (.ref s0)] [] h Q) (kf : ¬ v3 = 0 → hk_S G m_X9_copy (d + 1) cb sb 34 [o0, o1, o2, o3, o4, o5, some (.ref r6), some (.ref s0)] [] h Q) : hk_S G m_X9_copy (d + 1) cb sb 12 [o0, o1, o2, o3, o4, o5, some (.ref r6), o7] [.ref s0] h Q := by
  refine hs_astK dX9_copy_12 (by decide) (hk_nk1 rfl hk_c1r) rfl ?_
  refine hs_aload dX9_copy_14 rfl ?_
  refine hs_ifnull dX9_copy_16 ?_
  refine hs_aload dX9_copy_19 rfl ?_
  refine hs_ifnonnull dX9_copy_21 (tgt := 26) (by decide) ?_
  refine hs_aload dX9_copy_26 rfl ?_
  refine hs_get dX9_copy_28 fl_X9_310_4 hg2 hv4 ?_
  exact hs_if_eq dX9_copy_31 (by decide) kt kf
theorem b_X9_copy_12N0 {G : hk_G} {d cb sb : Nat} {h : hk_H} {Q : hk_O → hk_H → Prop} {r6 : Nat} {o0 : Option Value} {o1 : Option Value} {o2 : Option Value} {o3 : Option Value} {o4 : Option Value} {o5 : Option Value} {o7 : Option Value} (hq : Q (.inl (some (.int ((-1))))) h) : hk_S G m_X9_copy (d + 1) cb sb 12 [o0, o1, o2, o3, o4, o5, some (.ref r6), o7] [.null] h Q := by
  refine hs_astKN dX9_copy_12 (by decide) (hk_nk1 rfl hk_c1r) rfl ?_
  refine hs_aload dX9_copy_14 rfl ?_
  refine hs_ifnull dX9_copy_16 ?_
  refine hs_aloadN dX9_copy_19 rfl ?_
  refine hs_ifnonnullN dX9_copy_21 ?_
  refine hs_iconst (v := (-1)) dX9_copy_24 (by decide) ?_
  exact hs_iret dX9_copy_25 rfl hq
theorem b_X9_copy_19 {G : hk_G} {d cb sb : Nat} {h : hk_H} {Q : hk_O → hk_H → Prop} {r7 : Nat} {r6 : Nat} {fs1 : List Value} {v3 : Int32} {o0 : Option Value} {o1 : Option Value} {o2 : Option Value} {o3 : Option Value} {o4 : Option Value} {o5 : Option Value} (hg2 : h.2 r6 = some (.inr (4, fs1))) (hv4 : fs1[0]? = some (.int v3)) (kt : v3 = 0 → hk_S G m_X9_copy (d + 1) cb sb 42 [o0, o1, o2, o3, o4, o5, some (.ref r6), some (.ref r7)] [] h Q) (kf : ¬ v3 = 0 → hk_S G m_X9_copy (d + 1) cb sb 34 [o0, o1, o2, o3, o4, o5, some (.ref r6), some (.ref r7)] [] h Q) : hk_S G m_X9_copy (d + 1) cb sb 19 [o0, o1, o2, o3, o4, o5, some (.ref r6), some (.ref r7)] [] h Q := by
  refine hs_aload dX9_copy_19 rfl ?_
  refine hs_ifnonnull dX9_copy_21 (tgt := 26) (by decide) ?_
  refine hs_aload dX9_copy_26 rfl ?_
  refine hs_get dX9_copy_28 fl_X9_310_4 hg2 hv4 ?_
  exact hs_if_eq dX9_copy_31 (by decide) kt kf
theorem b_X9_copy_19N {G : hk_G} {d cb sb : Nat} {h : hk_H} {Q : hk_O → hk_H → Prop} {o0 : Option Value} {o1 : Option Value} {o2 : Option Value} {o3 : Option Value} {o4 : Option Value} {o5 : Option Value} {o6 : Option Value} (hq : Q (.inl (some (.int ((-1))))) h) : hk_S G m_X9_copy (d + 1) cb sb 19 [o0, o1, o2, o3, o4, o5, o6, some (.null)] [] h Q := by
  refine hs_aloadN dX9_copy_19 rfl ?_
  refine hs_ifnonnullN dX9_copy_21 ?_
  refine hs_iconst (v := (-1)) dX9_copy_24 (by decide) ?_
  exact hs_iret dX9_copy_25 rfl hq
theorem b_X9_copy_24 {G : hk_G} {d cb sb : Nat} {h : hk_H} {Q : hk_O → hk_H → Prop} {o0 : Option Value} {o1 : Option Value} {o2 : Option Value} {o3 : Option Value} {o4 : Option Value} {o5 : Option Value} {o6 : Option Value} {o7 : Option Value} (hq : Q (.inl (some (.int ((-1))))) h) : hk_S G m_X9_copy (d + 1) cb sb 24 [o0, o1, o2, o3, o4, o5, o6, o7] [] h Q := by
  refine hs_iconst (v := (-1)) dX9_copy_24 (by decide) ?_
  exact hs_iret dX9_copy_25 rfl hq
theorem b_X9_copy_26 {G : hk_G} {d cb sb : Nat} {h : hk_H} {Q : hk_O → hk_H → Prop} {r6 : Nat} {fs1 : List Value} {v3 : Int32} {o0 : Option Value} {o1 : Option Value} {o2 : Option Value} {o3 : Option Value} {o4 : Option Value} {o5 : Option Value} {o7 : Option Value} (hg2 : h.2 r6 = some (.inr (4, fs1))) (hv4 : fs1[0]? = some (.int v3)) (kt : v3 = 0 → hk_S G m_X9_copy (d + 1) cb sb 42 [o0, o1, o2, o3, o4, o5, some (.ref r6), o7] [] h Q) (kf : ¬ v3 = 0 → hk_S G m_X9_copy (d + 1) cb sb 34 [o0, o1, o2, o3, o4, o5, some (.ref r6), o7] [] h Q) : hk_S G m_X9_copy (d + 1) cb sb 26 [o0, o1, o2, o3, o4, o5, some (.ref r6), o7] [] h Q := by
  refine hs_aload dX9_copy_26 rfl ?_
  refine hs_get dX9_copy_28 fl_X9_310_4 hg2 hv4 ?_
  exact hs_if_eq dX9_copy_31 (by decide) kt kf
theorem b_X9_copy_34 {G : hk_G} {d cb sb : Nat} {h : hk_H} {Q : hk_O → hk_H → Prop} {r7 : Nat} {fs1 : List Value} {v3 : Int32} {o0 : Option Value} {o1 : Option Value} {o2 : Option Value} {o3 : Option Value} {o4 : Option Value} {o5 : Option Value} {o6 : Option Value} (hg2 : h.2 r7 = some (.inr (4, fs1))) (hv4 : fs1[0]? = some (.int v3)) (kt : ¬ v3 = 0 → hk_S G m_X9_copy (d + 1) cb sb 45 [o0, o1, o2, o3, o4, o5, o6, some (.ref r7)] [] h Q) (kf : v3 = 0 → hk_S G m_X9_copy (d + 1) cb sb 42 [o0, o1, o2, o3, o4, o5, o6, some (.ref r7)] [] h Q) : hk_S G m_X9_copy (d + 1) cb sb 34 [o0, o1, o2, o3, o4, o5, o6, some (.ref r7)] [] h Q := by
  refine hs_aload dX9_copy_34 rfl ?_
  refine hs_get dX9_copy_36 fl_X9_310_4 hg2 hv4 ?_
  exact hs_if_ne dX9_copy_39 (by decide) kt kf
theorem b_X9_copy_42 {G : hk_G} {d cb sb : Nat} {h : hk_H} {Q : hk_O → hk_H → Prop} {o0 : Option Value} {o1 : Option Value} {o2 : Option Value} {o3 : Option Value} {o4 : Option Value} {o5 : Option Value} {o6 : Option Value} {o7 : Option Value} (hq : Q (.inl (some (.int ((-11))))) h) : hk_S G m_X9_copy (d + 1) cb sb 42 [o0, o1, o2, o3, o4, o5, o6, o7] [] h Q := by
  refine hs_bipush (v := (-11)) dX9_copy_42 (by decide) ?_
  exact hs_iret dX9_copy_44 rfl hq
theorem b_X9_copy_45 {G : hk_G} {d cb sb : Nat} {h : hk_H} {Q : hk_O → hk_H → Prop} {r6 : Nat} {fs_ : List Value} {o0 : Option Value} {o1 : Option Value} {o2 : Option Value} {o3 : Option Value} {o4 : Option Value} {o5 : Option Value} {o7 : Option Value} (hrec : h.2 r6 = some (.inr (4, fs_))) (hc : hk_Ci G m_X4_holdsRow d 0 0 [.ref r6] h (fun z h' => hk_S G m_X9_copy (d + 1) cb sb 50 [o0, o1, o2, o3, o4, o5, some (.ref r6), o7] [.int z] h' Q)) : hk_S G m_X9_copy (d + 1) cb sb 45 [o0, o1, o2, o3, o4, o5, some (.ref r6), o7] [] h Q := by
  refine hs_aload dX9_copy_45 rfl ?_
  exact hk_z0 (hs_vir (M' := m_X4_holdsRow) (vs := []) (c1 := 0) (s1 := 0) dX9_copy_47 wd_911 vi_X4_holdsRow hrec rfl (Nat.le_of_ble_eq_true rfl) hc hq_i (hc_i (fun z h9 k9 => k9)))
theorem b_X9_copy_50 {G : hk_G} {d cb sb : Nat} {h : hk_H} {Q : hk_O → hk_H → Prop} {s0 : Int32} {o0 : Option Value} {o1 : Option Value} {o2 : Option Value} {o3 : Option Value} {o4 : Option Value} {o5 : Option Value} {o6 : Option Value} {o7 : Option Value} (kt : s0 = 0 → hk_S G m_X9_copy (d + 1) cb sb 66 [o0, o1, o2, o3, o4, o5, o6, o7] [] h Q) (kf : ¬ s0 = 0 → hk_S G m_X9_copy (d + 1) cb sb 53 [o0, o1, o2, o3, o4, o5, o6, o7] [] h Q) : hk_S G m_X9_copy (d + 1) cb sb 50 [o0, o1, o2, o3, o4, o5, o6, o7] [.int s0] h Q := by
  exact hs_if_eq dX9_copy_50 (by decide) kt kf
theorem b_X9_copy_53 {G : hk_G} {d cb sb : Nat} {h : hk_H} {Q : hk_O → hk_H → Prop} {r6 : Nat} {fs1 : List Value} {v3 : Int32} {r7 : Nat} {fs5 : List Value} {v7 : Int32} {o0 : Option Value} {o1 : Option Value} {o2 : Option Value} {o3 : Option Value} {o4 : Option Value} {o5 : Option Value} (hg2 : h.2 r6 = some (.inr (4, fs1))) (hv4 : fs1[0]? = some (.int v3)) (hg6 : h.2 r7 = some (.inr (4, fs5))) (hv8 : fs5[0]? = some (.int v7)) (kt : v3 = v7 → hk_S G m_X9_copy (d + 1) cb sb 69 [o0, o1, o2, o3, o4, o5, some (.ref r6), some (.ref r7)] [] h Q) (kf : ¬ v3 = v7 → hk_S G m_X9_copy (d + 1) cb sb 66 [o0, o1, o2, o3, o4, o5, some (.ref r6), some (.ref r7)] [] h Q) : hk_S G m_X9_copy (d + 1) cb sb 53 [o0, o1, o2, o3, o4, o5, some (.ref r6), some (.ref r7)] [] h Q := by
  refine hs_aload dX9_copy_53 rfl ?_
  refine hs_get dX9_copy_55 fl_X9_310_4 hg2 hv4 ?_
  refine hs_aload dX9_copy_58 rfl ?_
  refine hs_get dX9_copy_60 fl_X9_310_4 hg6 hv8 ?_
  exact hs_icmp_eq dX9_copy_63 (by decide) kt kf
theorem b_X9_copy_66 {G : hk_G} {d cb sb : Nat} {h : hk_H} {Q : hk_O → hk_H → Prop} {o0 : Option Value} {o1 : Option Value} {o2 : Option Value} {o3 : Option Value} {o4 : Option Value} {o5 : Option Value} {o6 : Option Value} {o7 : Option Value} (hq : Q (.inl (some (.int ((-12))))) h) : hk_S G m_X9_copy (d + 1) cb sb 66 [o0, o1, o2, o3, o4, o5, o6, o7] [] h Q := by
  refine hs_bipush (v := (-12)) dX9_copy_66 (by decide) ?_
  exact hs_iret dX9_copy_68 rfl hq
theorem b_X9_copy_69 {G : hk_G} {d cb sb : Nat} {h : hk_H} {Q : hk_O → hk_H → Prop} {r6 : Nat} {x2 : Int32} {x5 : Int32} {fs_ : List Value} {o0 : Option Value} {o1 : Option Value} {o3 : Option Value} {o4 : Option Value} {o7 : Option Value} (hrec : h.2 r6 = some (.inr (4, fs_))) (hc : hk_Ci G m_X4_hasPlaces d 0 0 [.ref r6, .int x2, .int x5] h (fun z h' => hk_S G m_X9_copy (d + 1) cb sb 77 [o0, o1, some (.int x2), o3, o4, some (.int x5), some (.ref r6), o7] [.int z] h' Q)) : hk_S G m_X9_copy (d + 1) cb sb 69 [o0, o1, some (.int x2), o3, o4, some (.int x5), some (.ref r6), o7] [] h Q := by
  refine hs_aload dX9_copy_69 rfl ?_
  refine hs_iload_n dX9_copy_71 rfl ?_
  refine hs_iload dX9_copy_72 rfl ?_
  exact hk_z0 (hs_vir (M' := m_X4_hasPlaces) (vs := [.int x2, .int x5]) (c1 := 0) (s1 := 0) dX9_copy_74 wd_915 vi_X4_hasPlaces hrec rfl (Nat.le_of_ble_eq_true rfl) hc hq_i (hc_i (fun z h9 k9 => k9)))
theorem b_X9_copy_77 {G : hk_G} {d cb sb : Nat} {h : hk_H} {Q : hk_O → hk_H → Prop} {s0 : Int32} {o0 : Option Value} {o1 : Option Value} {o2 : Option Value} {o3 : Option Value} {o4 : Option Value} {o5 : Option Value} {o6 : Option Value} {o7 : Option Value} (kt : s0 = 0 → hk_S G m_X9_copy (d + 1) cb sb 92 [o0, o1, o2, o3, o4, o5, o6, o7] [] h Q) (kf : ¬ s0 = 0 → hk_S G m_X9_copy (d + 1) cb sb 80 [o0, o1, o2, o3, o4, o5, o6, o7] [] h Q) : hk_S G m_X9_copy (d + 1) cb sb 77 [o0, o1, o2, o3, o4, o5, o6, o7] [.int s0] h Q := by
  exact hs_if_eq dX9_copy_77 (by decide) kt kf
theorem b_X9_copy_80 {G : hk_G} {d cb sb : Nat} {h : hk_H} {Q : hk_O → hk_H → Prop} {r7 : Nat} {x4 : Int32} {x5 : Int32} {fs_ : List Value} {o0 : Option Value} {o1 : Option Value} {o2 : Option Value} {o3 : Option Value} {o6 : Option Value} (hrec : h.2 r7 = some (.inr (4, fs_))) (hc : hk_Ci G m_X4_hasPlaces d 0 0 [.ref r7, .int x4, .int x5] h (fun z h' => hk_S G m_X9_copy (d + 1) cb sb 89 [o0, o1, o2, o3, some (.int x4), some (.int x5), o6, some (.ref r7)] [.int z] h' Q)) : hk_S G m_X9_copy (d + 1) cb sb 80 [o0, o1, o2, o3, some (.int x4), some (.int x5), o6, some (.ref r7)] [] h Q := by
  refine hs_aload dX9_copy_80 rfl ?_
  refine hs_iload dX9_copy_82 rfl ?_
  refine hs_iload dX9_copy_84 rfl ?_
  exact hk_z0 (hs_vir (M' := m_X4_hasPlaces) (vs := [.int x4, .int x5]) (c1 := 0) (s1 := 0) dX9_copy_86 wd_915 vi_X4_hasPlaces hrec rfl (Nat.le_of_ble_eq_true rfl) hc hq_i (hc_i (fun z h9 k9 => k9)))
theorem b_X9_copy_89 {G : hk_G} {d cb sb : Nat} {h : hk_H} {Q : hk_O → hk_H → Prop} {s0 : Int32} {o0 : Option Value} {o1 : Option Value} {o2 : Option Value} {o3 : Option Value} {o4 : Option Value} {o5 : Option Value} {o6 : Option Value} {o7 : Option Value} (kt : ¬ s0 = 0 → hk_S G m_X9_copy (d + 1) cb sb 95 [o0, o1, o2, o3, o4, o5, o6, o7] [] h Q) (kf : s0 = 0 → hk_S G m_X9_copy (d + 1) cb sb 92 [o0, o1, o2, o3, o4, o5, o6, o7] [] h Q) : hk_S G m_X9_copy (d + 1) cb sb 89 [o0, o1, o2, o3, o4, o5, o6, o7] [.int s0] h Q := by
  exact hs_if_ne dX9_copy_89 (by decide) kt kf
theorem b_X9_copy_92 {G : hk_G} {d cb sb : Nat} {h : hk_H} {Q : hk_O → hk_H → Prop} {o0 : Option Value} {o1 : Option Value} {o2 : Option Value} {o3 : Option Value} {o4 : Option Value} {o5 : Option Value} {o6 : Option Value} {o7 : Option Value} (hq : Q (.inl (some (.int ((-13))))) h) : hk_S G m_X9_copy (d + 1) cb sb 92 [o0, o1, o2, o3, o4, o5, o6, o7] [] h Q := by
  refine hs_bipush (v := (-13)) dX9_copy_92 (by decide) ?_
  exact hs_iret dX9_copy_94 rfl hq
theorem b_X9_copy_95 {G : hk_G} {d cb sb : Nat} {h : hk_H} {Q : hk_O → hk_H → Prop} {r6 : Nat} {fs1 : List Value} {v3 : Nat} {x2 : Int32} {r7 : Nat} {fs5 : List Value} {v7 : Nat} {x4 : Int32} {x5 : Int32} {n9 : Nat} {n10 : Nat} {f11 : Nat → Int64} {f12 : Nat → Int64} {h_1 : hk_H} {o0 : Option Value} {o1 : Option Value} {o3 : Option Value} (hg2 : h.2 r6 = some (.inr (4, fs1))) (hv4 : fs1[4]? = some (.ref v3)) (hg6 : h.2 r7 = some (.inr (4, fs5))) (hv8 : fs5[4]? = some (.ref v7)) (spN : Nat) (dpN : Nat) (nN : Nat) (hc0 : h.2 v3 = some (.inl (1, n9, .inr (.inl f11)))) (hc1 : h.2 v7 = some (.inl (1, n10, .inr (.inl f12)))) (h4c : 4 ≤ v7) (e1 : (x2 : Int32).toInt = (spN : Int)) (e2 : (x4 : Int32).toInt = (dpN : Int)) (e3 : (x5 : Int32).toInt = (nN : Int)) (hle0 : spN + nN ≤ n9) (hle1 : dpN + nN ≤ n10) (e_1 : (hk_set h v7 (.inl (1, n10, .inr (.inl (va_cpy f11 f12 spN dpN nN))))) = h_1) (hq : Q (.inl (some (.int x5))) h_1) : hk_S G m_X9_copy (d + 1) cb sb 95 [o0, o1, some (.int x2), o3, some (.int x4), some (.int x5), some (.ref r6), some (.ref r7)] [] h Q := by
  subst e_1
  refine hs_aload dX9_copy_95 rfl ?_
  refine hs_get dX9_copy_97 fl_X9_306_4 hg2 hv4 ?_
  refine hs_iload_n dX9_copy_100 rfl ?_
  refine hs_aload dX9_copy_101 rfl ?_
  refine hs_get dX9_copy_103 fl_X9_306_4 hg6 hv8 ?_
  refine hs_iload dX9_copy_106 rfl ?_
  refine hs_iload dX9_copy_108 rfl ?_
  refine hs_copyl spN dpN nN dX9_copy_110 ⟨wd_919, wd_662, wd_661, wd_20⟩ hc0 hc1 h4c e1 e2 e3 hle0 hle1 (Nat.le_of_ble_eq_true rfl) ?_
  refine hs_iload dX9_copy_113 rfl ?_
  exact hs_iret dX9_copy_115 rfl hq
-- HonestHouse.weight(I)I
theorem b_X9_weight_0 {G : hk_G} {d cb sb : Nat} {h : hk_H} {Q : hk_O → hk_H → Prop} {r0 : Nat} {x1 : Int32} {fs_ : List Value} {o2 : Option Value} {o3 : Option Value} (hrec : h.2 r0 = some (.inr (9, fs_))) (hc : hk_Cr G m_X9_shelfAt d 0 0 [.ref r0, .int x1] h (fun z h' => hk_S G m_X9_weight (d + 1) cb sb 5 [some (.ref r0), some (.int x1), o2, o3] [hk_rf z] h' Q)) : hk_S G m_X9_weight (d + 1) cb sb 0 [some (.ref r0), some (.int x1), o2, o3] [] h Q := by
  refine hs_aload_n dX9_weight_0 rfl ?_
  refine hs_iload_n dX9_weight_1 rfl ?_
  exact hk_z0 (hs_vir (M' := m_X9_shelfAt) (vs := [.int x1]) (c1 := 0) (s1 := 0) dX9_weight_2 wd_853 vi_X9_shelfAt hrec rfl (Nat.le_of_ble_eq_true rfl) hc hq_r (hc_r (fun z h9 k9 => k9)))
theorem b_X9_weight_5 {G : hk_G} {d cb sb : Nat} {h : hk_H} {Q : hk_O → hk_H → Prop} {s0 : Nat} {o0 : Option Value} {o1 : Option Value} {o2 : Option Value} {o3 : Option Value} (hc : hk_Ci G m_X9_refusalOfRule d 0 0 [.ref s0] h (fun z h' => hk_S G m_X9_weight (d + 1) cb sb 10 [o0, o1, some (.ref s0), o3] [.int z] h' Q)) (ho1 : hk_c1 o1 := by first | exact hk_c1i | exact hk_c1r | exact hk_c10 | exact hk_c1n) : hk_S G m_X9_weight (d + 1) cb sb 5 [o0, o1, o2, o3] [.ref s0] h Q := by
  refine hs_astK_n dX9_weight_5 (by decide) (hk_nk1 rfl ho1) rfl ?_
  refine hs_aload_n dX9_weight_6 rfl ?_
  exact hk_z0 (hs_sta (M' := m_X9_refusalOfRule) (vs := [.ref s0]) (c1 := 0) (s1 := 0) dX9_weight_7 wd_924 st_X9_refusalOfRule rfl (Nat.le_of_ble_eq_true rfl) hc hq_i (hc_i (fun z h9 k9 => k9)))
theorem b_X9_weight_5N0 {G : hk_G} {d cb sb : Nat} {h : hk_H} {Q : hk_O → hk_H → Prop} {o0 : Option Value} {o1 : Option Value} {o2 : Option Value} {o3 : Option Value} (hc : hk_Ci G m_X9_refusalOfRule d 0 0 [.null] h (fun z h' => hk_S G m_X9_weight (d + 1) cb sb 10 [o0, o1, some (.null), o3] [.int z] h' Q)) (ho1 : hk_c1 o1 := by first | exact hk_c1i | exact hk_c1r | exact hk_c10 | exact hk_c1n) : hk_S G m_X9_weight (d + 1) cb sb 5 [o0, o1, o2, o3] [.null] h Q := by
  refine hs_astKN_n dX9_weight_5 (by decide) (hk_nk1 rfl ho1) rfl ?_
  refine hs_aload_nN dX9_weight_6 rfl ?_
  exact hk_z0 (hs_sta (M' := m_X9_refusalOfRule) (vs := [.null]) (c1 := 0) (s1 := 0) dX9_weight_7 wd_924 st_X9_refusalOfRule rfl (Nat.le_of_ble_eq_true rfl) hc hq_i (hc_i (fun z h9 k9 => k9)))
theorem b_X9_weight_10 {G : hk_G} {d cb sb : Nat} {h : hk_H} {Q : hk_O → hk_H → Prop} {s0 : Int32} {r2 : Nat} {o0 : Option Value} {o1 : Option Value} {o3 : Option Value} (kt : s0 = 0 → hk_S G m_X9_weight (d + 1) cb sb 23 [o0, o1, some (.ref r2), some (.int s0)] [] h Q) (kf : ¬ s0 = 0 → hk_S G m_X9_weight (d + 1) cb sb 19 [o0, o1, some (.ref r2), some (.int s0)] [] h Q) : hk_S G m_X9_weight (d + 1) cb sb 10 [o0, o1, some (.ref r2), o3] [.int s0] h Q := by
  refine hs_istK_n dX9_weight_10 (by decide) (hk_nk1 rfl hk_c1r) rfl ?_
  refine hs_aload_n dX9_weight_11 rfl ?_
  refine hs_ifnull dX9_weight_12 ?_
  refine hs_iload_n dX9_weight_15 rfl ?_
  exact hs_if_eq dX9_weight_16 (by decide) kt kf
theorem b_X9_weight_15 {G : hk_G} {d cb sb : Nat} {h : hk_H} {Q : hk_O → hk_H → Prop} {x3 : Int32} {o0 : Option Value} {o1 : Option Value} {o2 : Option Value} (kt : x3 = 0 → hk_S G m_X9_weight (d + 1) cb sb 23 [o0, o1, o2, some (.int x3)] [] h Q) (kf : ¬ x3 = 0 → hk_S G m_X9_weight (d + 1) cb sb 19 [o0, o1, o2, some (.int x3)] [] h Q) : hk_S G m_X9_weight (d + 1) cb sb 15 [o0, o1, o2, some (.int x3)] [] h Q := by
  refine hs_iload_n dX9_weight_15 rfl ?_
  exact hs_if_eq dX9_weight_16 (by decide) kt kf
theorem b_X9_weight_19 {G : hk_G} {d cb sb : Nat} {h : hk_H} {Q : hk_O → hk_H → Prop} {x3 : Int32} {o0 : Option Value} {o1 : Option Value} {o2 : Option Value} (hq : Q (.inl (some (.int x3))) h) : hk_S G m_X9_weight (d + 1) cb sb 19 [o0, o1, o2, some (.int x3)] [] h Q := by
  refine hs_iload_n dX9_weight_19 rfl ?_
  refine hs_goto dX9_weight_20 (tgt := 27) (by decide) ?_
  exact hs_iret dX9_weight_27 rfl hq
theorem b_X9_weight_23 {G : hk_G} {d cb sb : Nat} {h : hk_H} {Q : hk_O → hk_H → Prop} {r2 : Nat} {fs1 : List Value} {v3 : Int32} {o0 : Option Value} {o1 : Option Value} {o3 : Option Value} (hg2 : h.2 r2 = some (.inr (4, fs1))) (hv4 : fs1[2]? = some (.int v3)) (hq : Q (.inl (some (.int v3))) h) : hk_S G m_X9_weight (d + 1) cb sb 23 [o0, o1, some (.ref r2), o3] [] h Q := by
  refine hs_aload_n dX9_weight_23 rfl ?_
  refine hs_get dX9_weight_24 fl_X9_327_4 hg2 hv4 ?_
  exact hs_iret dX9_weight_27 rfl hq
theorem b_X9_weight_27 {G : hk_G} {d cb sb : Nat} {h : hk_H} {Q : hk_O → hk_H → Prop} {s0 : Int32} {o0 : Option Value} {o1 : Option Value} {o2 : Option Value} {o3 : Option Value} (hq : Q (.inl (some (.int s0))) h) : hk_S G m_X9_weight (d + 1) cb sb 27 [o0, o1, o2, o3] [.int s0] h Q := by
  exact hs_iret dX9_weight_27 rfl hq
-- HonestHouse.toss(I)I
theorem b_X9_toss_0 {G : hk_G} {d cb sb : Nat} {h : hk_H} {Q : hk_O → hk_H → Prop} {r0 : Nat} {x1 : Int32} {fs_ : List Value} {o2 : Option Value} {o3 : Option Value} (hrec : h.2 r0 = some (.inr (9, fs_))) (hc : hk_Cr G m_X9_shelfAt d 0 0 [.ref r0, .int x1] h (fun z h' => hk_S G m_X9_toss (d + 1) cb sb 5 [some (.ref r0), some (.int x1), o2, o3] [hk_rf z] h' Q)) : hk_S G m_X9_toss (d + 1) cb sb 0 [some (.ref r0), some (.int x1), o2, o3] [] h Q := by
  refine hs_aload_n dX9_toss_0 rfl ?_
  refine hs_iload_n dX9_toss_1 rfl ?_
  exact hk_z0 (hs_vir (M' := m_X9_shelfAt) (vs := [.int x1]) (c1 := 0) (s1 := 0) dX9_toss_2 wd_853 vi_X9_shelfAt hrec rfl (Nat.le_of_ble_eq_true rfl) hc hq_r (hc_r (fun z h9 k9 => k9)))
theorem b_X9_toss_5 {G : hk_G} {d cb sb : Nat} {h : hk_H} {Q : hk_O → hk_H → Prop} {s0 : Nat} {o0 : Option Value} {o1 : Option Value} {o2 : Option Value} {o3 : Option Value} (hc : hk_Ci G m_X9_refusalOfRule d 0 0 [.ref s0] h (fun z h' => hk_S G m_X9_toss (d + 1) cb sb 10 [o0, o1, some (.ref s0), o3] [.int z] h' Q)) (ho1 : hk_c1 o1 := by first | exact hk_c1i | exact hk_c1r | exact hk_c10 | exact hk_c1n) : hk_S G m_X9_toss (d + 1) cb sb 5 [o0, o1, o2, o3] [.ref s0] h Q := by
  refine hs_astK_n dX9_toss_5 (by decide) (hk_nk1 rfl ho1) rfl ?_
  refine hs_aload_n dX9_toss_6 rfl ?_
  exact hk_z0 (hs_sta (M' := m_X9_refusalOfRule) (vs := [.ref s0]) (c1 := 0) (s1 := 0) dX9_toss_7 wd_924 st_X9_refusalOfRule rfl (Nat.le_of_ble_eq_true rfl) hc hq_i (hc_i (fun z h9 k9 => k9)))
theorem b_X9_toss_5N0 {G : hk_G} {d cb sb : Nat} {h : hk_H} {Q : hk_O → hk_H → Prop} {o0 : Option Value} {o1 : Option Value} {o2 : Option Value} {o3 : Option Value} (hc : hk_Ci G m_X9_refusalOfRule d 0 0 [.null] h (fun z h' => hk_S G m_X9_toss (d + 1) cb sb 10 [o0, o1, some (.null), o3] [.int z] h' Q)) (ho1 : hk_c1 o1 := by first | exact hk_c1i | exact hk_c1r | exact hk_c10 | exact hk_c1n) : hk_S G m_X9_toss (d + 1) cb sb 5 [o0, o1, o2, o3] [.null] h Q := by
  refine hs_astKN_n dX9_toss_5 (by decide) (hk_nk1 rfl ho1) rfl ?_
  refine hs_aload_nN dX9_toss_6 rfl ?_
  exact hk_z0 (hs_sta (M' := m_X9_refusalOfRule) (vs := [.null]) (c1 := 0) (s1 := 0) dX9_toss_7 wd_924 st_X9_refusalOfRule rfl (Nat.le_of_ble_eq_true rfl) hc hq_i (hc_i (fun z h9 k9 => k9)))
theorem b_X9_toss_10 {G : hk_G} {d cb sb : Nat} {h : hk_H} {Q : hk_O → hk_H → Prop} {s0 : Int32} {r2 : Nat} {o0 : Option Value} {o1 : Option Value} {o3 : Option Value} (kt : s0 = 0 → hk_S G m_X9_toss (d + 1) cb sb 23 [o0, o1, some (.ref r2), some (.int s0)] [] h Q) (kf : ¬ s0 = 0 → hk_S G m_X9_toss (d + 1) cb sb 19 [o0, o1, some (.ref r2), some (.int s0)] [] h Q) : hk_S G m_X9_toss (d + 1) cb sb 10 [o0, o1, some (.ref r2), o3] [.int s0] h Q := by
  refine hs_istK_n dX9_toss_10 (by decide) (hk_nk1 rfl hk_c1r) rfl ?_
  refine hs_aload_n dX9_toss_11 rfl ?_
  refine hs_ifnull dX9_toss_12 ?_
  refine hs_iload_n dX9_toss_15 rfl ?_
  exact hs_if_eq dX9_toss_16 (by decide) kt kf
theorem b_X9_toss_15 {G : hk_G} {d cb sb : Nat} {h : hk_H} {Q : hk_O → hk_H → Prop} {x3 : Int32} {o0 : Option Value} {o1 : Option Value} {o2 : Option Value} (kt : x3 = 0 → hk_S G m_X9_toss (d + 1) cb sb 23 [o0, o1, o2, some (.int x3)] [] h Q) (kf : ¬ x3 = 0 → hk_S G m_X9_toss (d + 1) cb sb 19 [o0, o1, o2, some (.int x3)] [] h Q) : hk_S G m_X9_toss (d + 1) cb sb 15 [o0, o1, o2, some (.int x3)] [] h Q := by
  refine hs_iload_n dX9_toss_15 rfl ?_
  exact hs_if_eq dX9_toss_16 (by decide) kt kf
theorem b_X9_toss_19 {G : hk_G} {d cb sb : Nat} {h : hk_H} {Q : hk_O → hk_H → Prop} {x3 : Int32} {o0 : Option Value} {o1 : Option Value} {o2 : Option Value} (hq : Q (.inl (some (.int x3))) h) : hk_S G m_X9_toss (d + 1) cb sb 19 [o0, o1, o2, some (.int x3)] [] h Q := by
  refine hs_iload_n dX9_toss_19 rfl ?_
  refine hs_goto dX9_toss_20 (tgt := 30) (by decide) ?_
  exact hs_iret dX9_toss_30 rfl hq
theorem b_X9_toss_23 {G : hk_G} {d cb sb : Nat} {h : hk_H} {Q : hk_O → hk_H → Prop} {r2 : Nat} {fs1 : List Value} {v3 : Nat} {cq : Nat} {sq : Nat} {o0 : Option Value} {o1 : Option Value} {o3 : Option Value} (hg2 : h.2 r2 = some (.inr (4, fs1))) (hv4 : fs1[1]? = some (.ref v3)) (hc : hk_Ci G m_X9_numberOfFailure d cq sq [.ref v3] h (fun z h' => hk_S G m_X9_toss (d + 1) cb sb 30 [o0, o1, some (.ref r2), o3] [.int z] h' Q)) : hk_S G m_X9_toss (d + 1) (cq + cb) (sq + sb) 23 [o0, o1, some (.ref r2), o3] [] h Q := by
  refine hs_aload_n dX9_toss_23 rfl ?_
  refine hs_get dX9_toss_24 fl_X9_330_4 hg2 hv4 ?_
  exact hs_callSH (M' := m_X9_numberOfFailure) (vs := [.ref v3]) dX9_toss_27 ok_X9_numberOfFailure (by decide) wd_931 wd_932 rfl (Nat.le_of_ble_eq_true rfl) hc hq_i (hc_i (fun z h9 k9 => k9))
theorem b_X9_toss_30 {G : hk_G} {d cb sb : Nat} {h : hk_H} {Q : hk_O → hk_H → Prop} {s0 : Int32} {o0 : Option Value} {o1 : Option Value} {o2 : Option Value} {o3 : Option Value} (hq : Q (.inl (some (.int s0))) h) : hk_S G m_X9_toss (d + 1) cb sb 30 [o0, o1, o2, o3] [.int s0] h Q := by
  exact hs_iret dX9_toss_30 rfl hq
-- HonestHouse.isWithin(III)Z
theorem b_X9_isWithin_0 {G : hk_G} {d cb sb : Nat} {h : hk_H} {Q : hk_O → hk_H → Prop} {x0 : Int32} {x1 : Int32} {o2 : Option Value} (kt : x0 < x1 → hk_S G m_X9_isWithin d cb sb 14 [some (.int x0), some (.int x1), o2] [] h Q) (kf : ¬ x0 < x1 → hk_S G m_X9_isWithin d cb sb 5 [some (.int x0), some (.int x1), o2] [] h Q) : hk_S G m_X9_isWithin d cb sb 0 [some (.int x0), some (.int x1), o2] [] h Q := by
  refine hs_iload_n dX9_isWithin_0 rfl ?_
  refine hs_iload_n dX9_isWithin_1 rfl ?_
  exact hs_icmp_lt dX9_isWithin_2 (by decide) kt kf
theorem b_X9_isWithin_5 {G : hk_G} {d cb sb : Nat} {h : hk_H} {Q : hk_O → hk_H → Prop} {x0 : Int32} {x2 : Int32} {o1 : Option Value} (kt : x2 < x0 → hk_S G m_X9_isWithin d cb sb 14 [some (.int x0), o1, some (.int x2)] [] h Q) (kf : ¬ x2 < x0 → hk_S G m_X9_isWithin d cb sb 10 [some (.int x0), o1, some (.int x2)] [] h Q) : hk_S G m_X9_isWithin d cb sb 5 [some (.int x0), o1, some (.int x2)] [] h Q := by
  refine hs_iload_n dX9_isWithin_5 rfl ?_
  refine hs_iload_n dX9_isWithin_6 rfl ?_
  exact hs_icmp_gt dX9_isWithin_7 (by decide) kt kf
theorem b_X9_isWithin_10 {G : hk_G} {d cb sb : Nat} {h : hk_H} {Q : hk_O → hk_H → Prop} {o0 : Option Value} {o1 : Option Value} {o2 : Option Value} (hq : Q (.inl (some (.int 1))) h) : hk_S G m_X9_isWithin d cb sb 10 [o0, o1, o2] [] h Q := by
  refine hs_iconst (v := 1) dX9_isWithin_10 (by decide) ?_
  refine hs_goto dX9_isWithin_11 (tgt := 15) (by decide) ?_
  exact hs_zret dX9_isWithin_15 rfl (by decide) hq
theorem b_X9_isWithin_14 {G : hk_G} {d cb sb : Nat} {h : hk_H} {Q : hk_O → hk_H → Prop} {o0 : Option Value} {o1 : Option Value} {o2 : Option Value} (hq : Q (.inl (some (.int 0))) h) : hk_S G m_X9_isWithin d cb sb 14 [o0, o1, o2] [] h Q := by
  refine hs_iconst (v := 0) dX9_isWithin_14 (by decide) ?_
  exact hs_zret dX9_isWithin_15 rfl (by decide) hq
theorem b_X9_isWithin_15 {G : hk_G} {d cb sb : Nat} {h : hk_H} {Q : hk_O → hk_H → Prop} {s0 : Int32} {o0 : Option Value} {o1 : Option Value} {o2 : Option Value} (hq : Q (.inl (some (.int s0))) h) (hb : s0 = 0 ∨ s0 = 1) : hk_S G m_X9_isWithin d cb sb 15 [o0, o1, o2] [.int s0] h Q := by
  exact hs_zret dX9_isWithin_15 rfl hb hq
-- HonestHouse.isPerson(I)Z
theorem b_X9_isPerson_0 {G : hk_G} {d cb sb : Nat} {h : hk_H} {Q : hk_O → hk_H → Prop} {x1 : Int32} {o0 : Option Value} (kt : x1 < 0 → hk_S G m_X9_isPerson d cb sb 16 [o0, some (.int x1)] [] h Q) (kf : ¬ x1 < 0 → hk_S G m_X9_isPerson d cb sb 4 [o0, some (.int x1)] [] h Q) : hk_S G m_X9_isPerson d cb sb 0 [o0, some (.int x1)] [] h Q := by
  refine hs_iload_n dX9_isPerson_0 rfl ?_
  exact hs_if_lt dX9_isPerson_1 (by decide) kt kf
theorem b_X9_isPerson_4 {G : hk_G} {d cb sb : Nat} {h : hk_H} {Q : hk_O → hk_H → Prop} {x1 : Int32} {r0 : Nat} {fs1 : List Value} {v3 : Int32} (hg2 : h.2 r0 = some (.inr (9, fs1))) (hv4 : fs1[0]? = some (.int v3)) (kt : v3 ≤ x1 → hk_S G m_X9_isPerson d cb sb 16 [some (.ref r0), some (.int x1)] [] h Q) (kf : ¬ v3 ≤ x1 → hk_S G m_X9_isPerson d cb sb 12 [some (.ref r0), some (.int x1)] [] h Q) : hk_S G m_X9_isPerson d cb sb 4 [some (.ref r0), some (.int x1)] [] h Q := by
  refine hs_iload_n dX9_isPerson_4 rfl ?_
  refine hs_aload_n dX9_isPerson_5 rfl ?_
  refine hs_get dX9_isPerson_6 fl_X9_18_9 hg2 hv4 ?_
  exact hs_icmp_ge dX9_isPerson_9 (by decide) kt kf
theorem b_X9_isPerson_12 {G : hk_G} {d cb sb : Nat} {h : hk_H} {Q : hk_O → hk_H → Prop} {o0 : Option Value} {o1 : Option Value} (hq : Q (.inl (some (.int 1))) h) : hk_S G m_X9_isPerson d cb sb 12 [o0, o1] [] h Q := by
  refine hs_iconst (v := 1) dX9_isPerson_12 (by decide) ?_
  refine hs_goto dX9_isPerson_13 (tgt := 17) (by decide) ?_
  exact hs_zret dX9_isPerson_17 rfl (by decide) hq
theorem b_X9_isPerson_16 {G : hk_G} {d cb sb : Nat} {h : hk_H} {Q : hk_O → hk_H → Prop} {o0 : Option Value} {o1 : Option Value} (hq : Q (.inl (some (.int 0))) h) : hk_S G m_X9_isPerson d cb sb 16 [o0, o1] [] h Q := by
  refine hs_iconst (v := 0) dX9_isPerson_16 (by decide) ?_
  exact hs_zret dX9_isPerson_17 rfl (by decide) hq
theorem b_X9_isPerson_17 {G : hk_G} {d cb sb : Nat} {h : hk_H} {Q : hk_O → hk_H → Prop} {s0 : Int32} {o0 : Option Value} {o1 : Option Value} (hq : Q (.inl (some (.int s0))) h) (hb : s0 = 0 ∨ s0 = 1) : hk_S G m_X9_isPerson d cb sb 17 [o0, o1] [.int s0] h Q := by
  exact hs_zret dX9_isPerson_17 rfl hb hq
-- HonestHouse.isEnd(I)Z
theorem b_X9_isEnd_0 {G : hk_G} {d cb sb : Nat} {h : hk_H} {Q : hk_O → hk_H → Prop} {x1 : Int32} {o0 : Option Value} (kt : x1 < 0 → hk_S G m_X9_isEnd d cb sb 16 [o0, some (.int x1)] [] h Q) (kf : ¬ x1 < 0 → hk_S G m_X9_isEnd d cb sb 4 [o0, some (.int x1)] [] h Q) : hk_S G m_X9_isEnd d cb sb 0 [o0, some (.int x1)] [] h Q := by
  refine hs_iload_n dX9_isEnd_0 rfl ?_
  exact hs_if_lt dX9_isEnd_1 (by decide) kt kf
theorem b_X9_isEnd_4 {G : hk_G} {d cb sb : Nat} {h : hk_H} {Q : hk_O → hk_H → Prop} {x1 : Int32} {r0 : Nat} {fs1 : List Value} {v3 : Int32} (hg2 : h.2 r0 = some (.inr (9, fs1))) (hv4 : fs1[1]? = some (.int v3)) (kt : v3 ≤ x1 → hk_S G m_X9_isEnd d cb sb 16 [some (.ref r0), some (.int x1)] [] h Q) (kf : ¬ v3 ≤ x1 → hk_S G m_X9_isEnd d cb sb 12 [some (.ref r0), some (.int x1)] [] h Q) : hk_S G m_X9_isEnd d cb sb 4 [some (.ref r0), some (.int x1)] [] h Q := by
  refine hs_iload_n dX9_isEnd_4 rfl ?_
  refine hs_aload_n dX9_isEnd_5 rfl ?_
  refine hs_get dX9_isEnd_6 fl_X9_24_9 hg2 hv4 ?_
  exact hs_icmp_ge dX9_isEnd_9 (by decide) kt kf
theorem b_X9_isEnd_12 {G : hk_G} {d cb sb : Nat} {h : hk_H} {Q : hk_O → hk_H → Prop} {o0 : Option Value} {o1 : Option Value} (hq : Q (.inl (some (.int 1))) h) : hk_S G m_X9_isEnd d cb sb 12 [o0, o1] [] h Q := by
  refine hs_iconst (v := 1) dX9_isEnd_12 (by decide) ?_
  refine hs_goto dX9_isEnd_13 (tgt := 17) (by decide) ?_
  exact hs_zret dX9_isEnd_17 rfl (by decide) hq
theorem b_X9_isEnd_16 {G : hk_G} {d cb sb : Nat} {h : hk_H} {Q : hk_O → hk_H → Prop} {o0 : Option Value} {o1 : Option Value} (hq : Q (.inl (some (.int 0))) h) : hk_S G m_X9_isEnd d cb sb 16 [o0, o1] [] h Q := by
  refine hs_iconst (v := 0) dX9_isEnd_16 (by decide) ?_
  exact hs_zret dX9_isEnd_17 rfl (by decide) hq
theorem b_X9_isEnd_17 {G : hk_G} {d cb sb : Nat} {h : hk_H} {Q : hk_O → hk_H → Prop} {s0 : Int32} {o0 : Option Value} {o1 : Option Value} (hq : Q (.inl (some (.int s0))) h) (hb : s0 = 0 ∨ s0 = 1) : hk_S G m_X9_isEnd d cb sb 17 [o0, o1] [.int s0] h Q := by
  exact hs_zret dX9_isEnd_17 rfl hb hq
-- HonestHouse.isWish(I)Z
theorem b_X9_isWish_0 {G : hk_G} {d cb sb : Nat} {h : hk_H} {Q : hk_O → hk_H → Prop} {x1 : Int32} {o0 : Option Value} (kt : x1 < 0 → hk_S G m_X9_isWish d cb sb 19 [o0, some (.int x1)] [] h Q) (kf : ¬ x1 < 0 → hk_S G m_X9_isWish d cb sb 4 [o0, some (.int x1)] [] h Q) : hk_S G m_X9_isWish d cb sb 0 [o0, some (.int x1)] [] h Q := by
  refine hs_iload_n dX9_isWish_0 rfl ?_
  exact hs_if_lt dX9_isWish_1 (by decide) kt kf
theorem b_X9_isWish_4 {G : hk_G} {d cb sb : Nat} {h : hk_H} {Q : hk_O → hk_H → Prop} {x1 : Int32} {r0 : Nat} {fs1 : List Value} {v3 : Nat} {fs5 : List Value} {v7 : Int32} (hg2 : h.2 r0 = some (.inr (9, fs1))) (hv4 : fs1[2]? = some (.ref v3)) (hg6 : h.2 v3 = some (.inr (8, fs5))) (hv8 : fs5[4]? = some (.int v7)) (kt : v7 ≤ x1 → hk_S G m_X9_isWish d cb sb 19 [some (.ref r0), some (.int x1)] [] h Q) (kf : ¬ v7 ≤ x1 → hk_S G m_X9_isWish d cb sb 15 [some (.ref r0), some (.int x1)] [] h Q) : hk_S G m_X9_isWish d cb sb 4 [some (.ref r0), some (.int x1)] [] h Q := by
  refine hs_iload_n dX9_isWish_4 rfl ?_
  refine hs_aload_n dX9_isWish_5 rfl ?_
  refine hs_get dX9_isWish_6 fl_X9_27_9 hg2 hv4 ?_
  refine hs_get dX9_isWish_9 fl_X9_69_8 hg6 hv8 ?_
  exact hs_icmp_ge dX9_isWish_12 (by decide) kt kf
theorem b_X9_isWish_15 {G : hk_G} {d cb sb : Nat} {h : hk_H} {Q : hk_O → hk_H → Prop} {o0 : Option Value} {o1 : Option Value} (hq : Q (.inl (some (.int 1))) h) : hk_S G m_X9_isWish d cb sb 15 [o0, o1] [] h Q := by
  refine hs_iconst (v := 1) dX9_isWish_15 (by decide) ?_
  refine hs_goto dX9_isWish_16 (tgt := 20) (by decide) ?_
  exact hs_zret dX9_isWish_20 rfl (by decide) hq
theorem b_X9_isWish_19 {G : hk_G} {d cb sb : Nat} {h : hk_H} {Q : hk_O → hk_H → Prop} {o0 : Option Value} {o1 : Option Value} (hq : Q (.inl (some (.int 0))) h) : hk_S G m_X9_isWish d cb sb 19 [o0, o1] [] h Q := by
  refine hs_iconst (v := 0) dX9_isWish_19 (by decide) ?_
  exact hs_zret dX9_isWish_20 rfl (by decide) hq
theorem b_X9_isWish_20 {G : hk_G} {d cb sb : Nat} {h : hk_H} {Q : hk_O → hk_H → Prop} {s0 : Int32} {o0 : Option Value} {o1 : Option Value} (hq : Q (.inl (some (.int s0))) h) (hb : s0 = 0 ∨ s0 = 1) : hk_S G m_X9_isWish d cb sb 20 [o0, o1] [.int s0] h Q := by
  exact hs_zret dX9_isWish_20 rfl hb hq
-- HonestHouse.isRow(I)Z
theorem b_X9_isRow_0 {G : hk_G} {d cb sb : Nat} {h : hk_H} {Q : hk_O → hk_H → Prop} {x1 : Int32} {o0 : Option Value} (kt : x1 < 0 → hk_S G m_X9_isRow d cb sb 19 [o0, some (.int x1)] [] h Q) (kf : ¬ x1 < 0 → hk_S G m_X9_isRow d cb sb 4 [o0, some (.int x1)] [] h Q) : hk_S G m_X9_isRow d cb sb 0 [o0, some (.int x1)] [] h Q := by
  refine hs_iload_n dX9_isRow_0 rfl ?_
  exact hs_if_lt dX9_isRow_1 (by decide) kt kf
theorem b_X9_isRow_4 {G : hk_G} {d cb sb : Nat} {h : hk_H} {Q : hk_O → hk_H → Prop} {x1 : Int32} {r0 : Nat} {fs1 : List Value} {v3 : Nat} {fs5 : List Value} {v7 : Int32} (hg2 : h.2 r0 = some (.inr (9, fs1))) (hv4 : fs1[2]? = some (.ref v3)) (hg6 : h.2 v3 = some (.inr (8, fs5))) (hv8 : fs5[5]? = some (.int v7)) (kt : v7 ≤ x1 → hk_S G m_X9_isRow d cb sb 19 [some (.ref r0), some (.int x1)] [] h Q) (kf : ¬ v7 ≤ x1 → hk_S G m_X9_isRow d cb sb 15 [some (.ref r0), some (.int x1)] [] h Q) : hk_S G m_X9_isRow d cb sb 4 [some (.ref r0), some (.int x1)] [] h Q := by
  refine hs_iload_n dX9_isRow_4 rfl ?_
  refine hs_aload_n dX9_isRow_5 rfl ?_
  refine hs_get dX9_isRow_6 fl_X9_27_9 hg2 hv4 ?_
  refine hs_get dX9_isRow_9 fl_X9_162_8 hg6 hv8 ?_
  exact hs_icmp_ge dX9_isRow_12 (by decide) kt kf
theorem b_X9_isRow_15 {G : hk_G} {d cb sb : Nat} {h : hk_H} {Q : hk_O → hk_H → Prop} {o0 : Option Value} {o1 : Option Value} (hq : Q (.inl (some (.int 1))) h) : hk_S G m_X9_isRow d cb sb 15 [o0, o1] [] h Q := by
  refine hs_iconst (v := 1) dX9_isRow_15 (by decide) ?_
  refine hs_goto dX9_isRow_16 (tgt := 20) (by decide) ?_
  exact hs_zret dX9_isRow_20 rfl (by decide) hq
theorem b_X9_isRow_19 {G : hk_G} {d cb sb : Nat} {h : hk_H} {Q : hk_O → hk_H → Prop} {o0 : Option Value} {o1 : Option Value} (hq : Q (.inl (some (.int 0))) h) : hk_S G m_X9_isRow d cb sb 19 [o0, o1] [] h Q := by
  refine hs_iconst (v := 0) dX9_isRow_19 (by decide) ?_
  exact hs_zret dX9_isRow_20 rfl (by decide) hq
theorem b_X9_isRow_20 {G : hk_G} {d cb sb : Nat} {h : hk_H} {Q : hk_O → hk_H → Prop} {s0 : Int32} {o0 : Option Value} {o1 : Option Value} (hq : Q (.inl (some (.int s0))) h) (hb : s0 = 0 ∨ s0 = 1) : hk_S G m_X9_isRow d cb sb 20 [o0, o1] [.int s0] h Q := by
  exact hs_zret dX9_isRow_20 rfl hb hq
-- HonestHouse.ruleAt(I)LHonestHouse$Table;
theorem b_X9_ruleAt_0 {G : hk_G} {d cb sb : Nat} {h : hk_H} {Q : hk_O → hk_H → Prop} {x1 : Int32} {o0 : Option Value} (kt : x1 < 0 → hk_S G m_X9_ruleAt d cb sb 21 [o0, some (.int x1)] [] h Q) (kf : ¬ x1 < 0 → hk_S G m_X9_ruleAt d cb sb 4 [o0, some (.int x1)] [] h Q) : hk_S G m_X9_ruleAt d cb sb 0 [o0, some (.int x1)] [] h Q := by
  refine hs_iload_n dX9_ruleAt_0 rfl ?_
  exact hs_if_lt dX9_ruleAt_1 (by decide) kt kf
theorem b_X9_ruleAt_4 {G : hk_G} {d cb sb : Nat} {h : hk_H} {Q : hk_O → hk_H → Prop} {x1 : Int32} {r0 : Nat} {fs1 : List Value} {v3 : Int32} (hg2 : h.2 r0 = some (.inr (9, fs1))) (hv4 : fs1[4]? = some (.int v3)) (kt : v3 ≤ x1 → hk_S G m_X9_ruleAt d cb sb 21 [some (.ref r0), some (.int x1)] [] h Q) (kf : ¬ v3 ≤ x1 → hk_S G m_X9_ruleAt d cb sb 12 [some (.ref r0), some (.int x1)] [] h Q) : hk_S G m_X9_ruleAt d cb sb 4 [some (.ref r0), some (.int x1)] [] h Q := by
  refine hs_iload_n dX9_ruleAt_4 rfl ?_
  refine hs_aload_n dX9_ruleAt_5 rfl ?_
  refine hs_get dX9_ruleAt_6 fl_X9_72_9 hg2 hv4 ?_
  exact hs_icmp_ge dX9_ruleAt_9 (by decide) kt kf
theorem b_X9_ruleAt_12 {G : hk_G} {d cb sb : Nat} {h : hk_H} {Q : hk_O → hk_H → Prop} {r0 : Nat} {fs1 : List Value} {v3 : Nat} {x1 : Int32} {n5 : Nat} {f6 : Nat → Option Nat} {t7 : Nat} (hg2 : h.2 r0 = some (.inr (9, fs1))) (hv4 : fs1[3]? = some (.ref v3)) (ha8 : h.2 v3 = some (.inl (t7, n5, .inr (.inr (.inr (.inr f6)))))) (ht9 : t7 = 3 ∨ t7 = 4) (j10 : Nat) (hi11 : (x1 : Int32).toInt = (j10 : Int)) (hj12 : j10 < n5) (hq : Q (.inl (some (hk_rf (f6 j10)))) h) : hk_S G m_X9_ruleAt d cb sb 12 [some (.ref r0), some (.int x1)] [] h Q := by
  refine hs_aload_n dX9_ruleAt_12 rfl ?_
  refine hs_get dX9_ruleAt_13 fl_X9_33_9 hg2 hv4 ?_
  refine hs_iload_n dX9_ruleAt_16 rfl ?_
  refine hs_aald j10 dX9_ruleAt_17 ha8 ht9 hi11 hj12 ?_
  refine hs_goto dX9_ruleAt_18 (tgt := 22) (by decide) ?_
  exact hs_aret dX9_ruleAt_22 rfl (Or.inl ⟨_, rfl⟩) (by cases f6 j10; exact Or.inl rfl; exact Or.inr ⟨_, rfl⟩) hq
theorem b_X9_ruleAt_21 {G : hk_G} {d cb sb : Nat} {h : hk_H} {Q : hk_O → hk_H → Prop} {o0 : Option Value} {o1 : Option Value} (hq : Q (.inl (some (.null))) h) : hk_S G m_X9_ruleAt d cb sb 21 [o0, o1] [] h Q := by
  refine hs_null dX9_ruleAt_21 ?_
  exact hs_aret dX9_ruleAt_22 rfl (Or.inl ⟨_, rfl⟩) (Or.inl rfl) hq
theorem b_X9_ruleAt_22 {G : hk_G} {d cb sb : Nat} {h : hk_H} {Q : hk_O → hk_H → Prop} {s0 : Nat} {o0 : Option Value} {o1 : Option Value} (hq : Q (.inl (some (.ref s0))) h) : hk_S G m_X9_ruleAt d cb sb 22 [o0, o1] [.ref s0] h Q := by
  exact hs_aret dX9_ruleAt_22 rfl (Or.inl ⟨_, rfl⟩) (Or.inr ⟨_, rfl⟩) hq
theorem b_X9_ruleAt_22N0 {G : hk_G} {d cb sb : Nat} {h : hk_H} {Q : hk_O → hk_H → Prop} {o0 : Option Value} {o1 : Option Value} (hq : Q (.inl (some (.null))) h) : hk_S G m_X9_ruleAt d cb sb 22 [o0, o1] [.null] h Q := by
  exact hs_aret dX9_ruleAt_22 rfl (Or.inl ⟨_, rfl⟩) (Or.inl rfl) hq
theorem b_X9_ruleAt_22V0 {G : hk_G} {d cb sb : Nat} {h : hk_H} {Q : hk_O → hk_H → Prop} {s0 : Value} {o0 : Option Value} {o1 : Option Value} (hq : Q (.inl (some (s0))) h) (hv : s0 = .null ∨ ∃ a, s0 = .ref a) : hk_S G m_X9_ruleAt d cb sb 22 [o0, o1] [s0] h Q := by
  exact hs_aret dX9_ruleAt_22 rfl (Or.inl ⟨_, rfl⟩) hv hq
-- HonestHouse.settledRule(I)LHonestHouse$Table;
theorem b_X9_settledRule_0 {G : hk_G} {d cb sb : Nat} {h : hk_H} {Q : hk_O → hk_H → Prop} {r0 : Nat} {x1 : Int32} {fs_ : List Value} {o2 : Option Value} {o3 : Option Value} (hrec : h.2 r0 = some (.inr (9, fs_))) (hc : hk_Cr G m_X9_ruleAt d 0 0 [.ref r0, .int x1] h (fun z h' => hk_S G m_X9_settledRule (d + 1) cb sb 5 [some (.ref r0), some (.int x1), o2, o3] [hk_rf z] h' Q)) : hk_S G m_X9_settledRule (d + 1) cb sb 0 [some (.ref r0), some (.int x1), o2, o3] [] h Q := by
  refine hs_aload_n dX9_settledRule_0 rfl ?_
  refine hs_iload_n dX9_settledRule_1 rfl ?_
  exact hk_z0 (hs_vir (M' := m_X9_ruleAt) (vs := [.int x1]) (c1 := 0) (s1 := 0) dX9_settledRule_2 wd_351 vi_X9_ruleAt hrec rfl (Nat.le_of_ble_eq_true rfl) hc hq_r (hc_r (fun z h9 k9 => k9)))
theorem b_X9_settledRule_5 {G : hk_G} {d cb sb : Nat} {h : hk_H} {Q : hk_O → hk_H → Prop} {s0 : Nat} {o0 : Option Value} {o1 : Option Value} {o2 : Option Value} {o3 : Option Value} (k : hk_S G m_X9_settledRule (d + 1) cb sb 12 [o0, o1, some (.ref s0), some (.int 0)] [] h Q) (ho1 : hk_c1 o1 := by first | exact hk_c1i | exact hk_c1r | exact hk_c10 | exact hk_c1n) : hk_S G m_X9_settledRule (d + 1) cb sb 5 [o0, o1, o2, o3] [.ref s0] h Q := by
  refine hs_astK_n dX9_settledRule_5 (by decide) (hk_nk1 rfl ho1) rfl ?_
  refine hs_aload_n dX9_settledRule_6 rfl ?_
  refine hs_ifnull dX9_settledRule_7 ?_
  refine hs_iconst (v := 0) dX9_settledRule_10 (by decide) ?_
  refine hs_istK_n dX9_settledRule_11 (by decide) (hk_nk1 rfl hk_c1r) rfl ?_
  exact k
theorem b_X9_settledRule_5N0 {G : hk_G} {d cb sb : Nat} {h : hk_H} {Q : hk_O → hk_H → Prop} {o0 : Option Value} {o1 : Option Value} {o2 : Option Value} {o3 : Option Value} (hq : Q (.inl (some (.null))) h) (ho1 : hk_c1 o1 := by first | exact hk_c1i | exact hk_c1r | exact hk_c10 | exact hk_c1n) : hk_S G m_X9_settledRule (d + 1) cb sb 5 [o0, o1, o2, o3] [.null] h Q := by
  refine hs_astKN_n dX9_settledRule_5 (by decide) (hk_nk1 rfl ho1) rfl ?_
  refine hs_aload_nN dX9_settledRule_6 rfl ?_
  refine hs_ifnullN dX9_settledRule_7 (tgt := 34) (by decide) ?_
  refine hs_aload_nN dX9_settledRule_34 rfl ?_
  exact hs_aret dX9_settledRule_35 rfl (Or.inl ⟨_, rfl⟩) (Or.inl rfl) hq
theorem b_X9_settledRule_10 {G : hk_G} {d cb sb : Nat} {h : hk_H} {Q : hk_O → hk_H → Prop} {o0 : Option Value} {o1 : Option Value} {o2 : Option Value} {o3 : Option Value} (k : hk_S G m_X9_settledRule (d + 1) cb sb 12 [o0, o1, o2, some (.int 0)] [] h Q) (ho2 : hk_c1 o2 := by first | exact hk_c1i | exact hk_c1r | exact hk_c10 | exact hk_c1n) : hk_S G m_X9_settledRule (d + 1) cb sb 10 [o0, o1, o2, o3] [] h Q := by
  refine hs_iconst (v := 0) dX9_settledRule_10 (by decide) ?_
  refine hs_istK_n dX9_settledRule_11 (by decide) (hk_nk1 rfl ho2) rfl ?_
  exact k
theorem b_X9_settledRule_12 {G : hk_G} {d cb sb : Nat} {h : hk_H} {Q : hk_O → hk_H → Prop} {x3 : Int32} {r0 : Nat} {fs1 : List Value} {v3 : Nat} {fs5 : List Value} {v7 : Int32} {o1 : Option Value} {o2 : Option Value} (hg2 : h.2 r0 = some (.inr (9, fs1))) (hv4 : fs1[2]? = some (.ref v3)) (hg6 : h.2 v3 = some (.inr (8, fs5))) (hv8 : fs5[5]? = some (.int v7)) (kt : v7 ≤ x3 → hk_S G m_X9_settledRule (d + 1) cb sb 34 [some (.ref r0), o1, o2, some (.int x3)] [] h Q) (kf : ¬ v7 ≤ x3 → hk_S G m_X9_settledRule (d + 1) cb sb 23 [some (.ref r0), o1, o2, some (.int x3)] [] h Q) : hk_S G m_X9_settledRule (d + 1) cb sb 12 [some (.ref r0), o1, o2, some (.int x3)] [] h Q := by
  refine hs_iload_n dX9_settledRule_12 rfl ?_
  refine hs_aload_n dX9_settledRule_13 rfl ?_
  refine hs_get dX9_settledRule_14 fl_X9_27_9 hg2 hv4 ?_
  refine hs_get dX9_settledRule_17 fl_X9_162_8 hg6 hv8 ?_
  exact hs_icmp_ge dX9_settledRule_20 (by decide) kt kf
theorem b_X9_settledRule_23 {G : hk_G} {d cb sb : Nat} {h : hk_H} {Q : hk_O → hk_H → Prop} {r2 : Nat} {x3 : Int32} {M' : hk_M} {ci_ : Nat} {fs_ : List Value} {o0 : Option Value} {o1 : Option Value} (hdis : hk_dis yX5_settle ci_ M' 1) (hrec : h.2 r2 = some (.inr (ci_, fs_))) (hc : hk_Cv G M' d 0 0 [.ref r2, .int x3] h (fun h' => hk_S G m_X9_settledRule (d + 1) cb sb 28 [o0, o1, some (.ref r2), some (.int x3)] [] h' Q)) : hk_S G m_X9_settledRule (d + 1) cb sb 23 [o0, o1, some (.ref r2), some (.int x3)] [] h Q := by
  refine hs_aload_n dX9_settledRule_23 rfl ?_
  refine hs_iload_n dX9_settledRule_24 rfl ?_
  exact hk_z0 (hs_dis (x := yX5_settle) (vs := [.int x3]) (c1 := 0) (s1 := 0) dX9_settledRule_25 wd_437 hdis hrec rfl (Nat.le_of_ble_eq_true rfl) hc hq_v (hc_v (fun h9 k9 => k9)))
theorem b_X9_settledRule_28 {G : hk_G} {d cb sb : Nat} {h : hk_H} {Q : hk_O → hk_H → Prop} {x3 : Int32} {o0 : Option Value} {o1 : Option Value} {o2 : Option Value} (k : hk_S G m_X9_settledRule (d + 1) cb sb 12 [o0, o1, o2, some (.int (x3 + 1))] [] h Q) (ho2 : hk_c1 o2 := by first | exact hk_c1i | exact hk_c1r | exact hk_c10 | exact hk_c1n) : hk_S G m_X9_settledRule (d + 1) cb sb 28 [o0, o1, o2, some (.int x3)] [] h Q := by
  refine hs_iincK (v := 1) dX9_settledRule_28 rfl (by decide) (by decide) (hk_nk1 rfl ho2) rfl ?_
  refine hs_goto dX9_settledRule_31 (tgt := 12) (by decide) ?_
  exact k
theorem b_X9_settledRule_34 {G : hk_G} {d cb sb : Nat} {h : hk_H} {Q : hk_O → hk_H → Prop} {r2 : Nat} {o0 : Option Value} {o1 : Option Value} {o3 : Option Value} (hq : Q (.inl (some (.ref r2))) h) : hk_S G m_X9_settledRule (d + 1) cb sb 34 [o0, o1, some (.ref r2), o3] [] h Q := by
  refine hs_aload_n dX9_settledRule_34 rfl ?_
  exact hs_aret dX9_settledRule_35 rfl (Or.inl ⟨_, rfl⟩) (Or.inr ⟨_, rfl⟩) hq
-- HonestHouse.settleFor(LHonestHouse$Table;II)V
theorem b_X9_settleFor_0 {G : hk_G} {d cb sb : Nat} {h : hk_H} {Q : hk_O → hk_H → Prop} {o0 : Option Value} {o1 : Option Value} {o2 : Option Value} {o3 : Option Value} {o4 : Option Value} (k : hk_S G m_X9_settleFor (d + 1) cb sb 3 [o0, o1, o2, o3, some (.int 0)] [] h Q) (ho3 : hk_c1 o3 := by first | exact hk_c1i | exact hk_c1r | exact hk_c10 | exact hk_c1n) : hk_S G m_X9_settleFor (d + 1) cb sb 0 [o0, o1, o2, o3, o4] [] h Q := by
  refine hs_iconst (v := 0) dX9_settleFor_0 (by decide) ?_
  refine hs_istK dX9_settleFor_1 (by decide) (hk_nk1 rfl ho3) rfl ?_
  exact k
theorem b_X9_settleFor_3 {G : hk_G} {d cb sb : Nat} {h : hk_H} {Q : hk_O → hk_H → Prop} {x4 : Int32} {r0 : Nat} {fs1 : List Value} {v3 : Nat} {fs5 : List Value} {v7 : Int32} {o1 : Option Value} {o2 : Option Value} {o3 : Option Value} (hg2 : h.2 r0 = some (.inr (9, fs1))) (hv4 : fs1[2]? = some (.ref v3)) (hg6 : h.2 v3 = some (.inr (8, fs5))) (hv8 : fs5[4]? = some (.int v7)) (kt : v7 ≤ x4 → hk_S G m_X9_settleFor (d + 1) cb sb 36 [some (.ref r0), o1, o2, o3, some (.int x4)] [] h Q) (kf : ¬ v7 ≤ x4 → hk_S G m_X9_settleFor (d + 1) cb sb 15 [some (.ref r0), o1, o2, o3, some (.int x4)] [] h Q) : hk_S G m_X9_settleFor (d + 1) cb sb 3 [some (.ref r0), o1, o2, o3, some (.int x4)] [] h Q := by
  refine hs_iload dX9_settleFor_3 rfl ?_
  refine hs_aload_n dX9_settleFor_5 rfl ?_
  refine hs_get dX9_settleFor_6 fl_X9_27_9 hg2 hv4 ?_
  refine hs_get dX9_settleFor_9 fl_X9_69_8 hg6 hv8 ?_
  exact hs_icmp_ge dX9_settleFor_12 (by decide) kt kf
theorem b_X9_settleFor_15 {G : hk_G} {d cb sb : Nat} {h : hk_H} {Q : hk_O → hk_H → Prop} {r1 : Nat} {r0 : Nat} {fs1 : List Value} {v3 : Nat} {x2 : Int32} {x3 : Int32} {x4 : Int32} {fs_ : List Value} (hg2 : h.2 r0 = some (.inr (9, fs1))) (hv4 : fs1[2]? = some (.ref v3)) (hrec : h.2 v3 = some (.inr (8, fs_))) (hc : hk_Ci G m_X8_rowSaying d 0 0 [.ref v3, .int x2, .int x3, .int x4] h (fun z h' => hk_S G m_X9_settleFor (d + 1) cb sb 27 [some (.ref r0), some (.ref r1), some (.int x2), some (.int x3), some (.int x4)] [.int z, .ref r1] h' Q)) : hk_S G m_X9_settleFor (d + 1) cb sb 15 [some (.ref r0), some (.ref r1), some (.int x2), some (.int x3), some (.int x4)] [] h Q := by
  refine hs_aload_n dX9_settleFor_15 rfl ?_
  refine hs_aload_n dX9_settleFor_16 rfl ?_
  refine hs_get dX9_settleFor_17 fl_X9_27_9 hg2 hv4 ?_
  refine hs_iload_n dX9_settleFor_20 rfl ?_
  refine hs_iload_n dX9_settleFor_21 rfl ?_
  refine hs_iload dX9_settleFor_22 rfl ?_
  exact hk_z0 (hs_vir (M' := m_X8_rowSaying) (vs := [.int x2, .int x3, .int x4]) (c1 := 0) (s1 := 0) dX9_settleFor_24 wd_491 vi_X8_rowSaying hrec rfl (Nat.le_of_ble_eq_true rfl) hc hq_i (hc_i (fun z h9 k9 => k9)))
theorem b_X9_settleFor_27 {G : hk_G} {d cb sb : Nat} {h : hk_H} {Q : hk_O → hk_H → Prop} {s0 : Nat} {s1 : Int32} {M' : hk_M} {ci_ : Nat} {fs_ : List Value} {o0 : Option Value} {o1 : Option Value} {o2 : Option Value} {o3 : Option Value} {o4 : Option Value} (hdis : hk_dis yX5_settle ci_ M' 1) (hrec : h.2 s0 = some (.inr (ci_, fs_))) (hc : hk_Cv G M' d 0 0 [.ref s0, .int s1] h (fun h' => hk_S G m_X9_settleFor (d + 1) cb sb 30 [o0, o1, o2, o3, o4] [] h' Q)) : hk_S G m_X9_settleFor (d + 1) cb sb 27 [o0, o1, o2, o3, o4] [.int s1, .ref s0] h Q := by
  exact hk_z0 (hs_dis (x := yX5_settle) (vs := [.int s1]) (c1 := 0) (s1 := 0) dX9_settleFor_27 wd_437 hdis hrec rfl (Nat.le_of_ble_eq_true rfl) hc hq_v (hc_v (fun h9 k9 => k9)))
theorem b_X9_settleFor_30 {G : hk_G} {d cb sb : Nat} {h : hk_H} {Q : hk_O → hk_H → Prop} {x4 : Int32} {o0 : Option Value} {o1 : Option Value} {o2 : Option Value} {o3 : Option Value} (k : hk_S G m_X9_settleFor (d + 1) cb sb 3 [o0, o1, o2, o3, some (.int (x4 + 1))] [] h Q) (ho3 : hk_c1 o3 := by first | exact hk_c1i | exact hk_c1r | exact hk_c10 | exact hk_c1n) : hk_S G m_X9_settleFor (d + 1) cb sb 30 [o0, o1, o2, o3, some (.int x4)] [] h Q := by
  refine hs_iincK (v := 1) dX9_settleFor_30 rfl (by decide) (by decide) (hk_nk1 rfl ho3) rfl ?_
  refine hs_goto dX9_settleFor_33 (tgt := 3) (by decide) ?_
  exact k
theorem b_X9_settleFor_36 {G : hk_G} {d cb sb : Nat} {h : hk_H} {Q : hk_O → hk_H → Prop} {o0 : Option Value} {o1 : Option Value} {o2 : Option Value} {o3 : Option Value} {o4 : Option Value} (hq : Q (.inl none) h) : hk_S G m_X9_settleFor (d + 1) cb sb 36 [o0, o1, o2, o3, o4] [] h Q := by
  exact hs_vret dX9_settleFor_36 rfl hq
-- HonestHouse.shelfAt(I)LHonestHouse$Shelf;
theorem b_X9_shelfAt_0 {G : hk_G} {d cb sb : Nat} {h : hk_H} {Q : hk_O → hk_H → Prop} {x1 : Int32} {o0 : Option Value} (kt : x1 < 0 → hk_S G m_X9_shelfAt d cb sb 19 [o0, some (.int x1)] [] h Q) (kf : ¬ x1 < 0 → hk_S G m_X9_shelfAt d cb sb 4 [o0, some (.int x1)] [] h Q) : hk_S G m_X9_shelfAt d cb sb 0 [o0, some (.int x1)] [] h Q := by
  refine hs_iload_n dX9_shelfAt_0 rfl ?_
  exact hs_if_lt dX9_shelfAt_1 (by decide) kt kf
theorem b_X9_shelfAt_4 {G : hk_G} {d cb sb : Nat} {h : hk_H} {Q : hk_O → hk_H → Prop} {x1 : Int32} {o0 : Option Value} (kt : 8 ≤ x1 → hk_S G m_X9_shelfAt d cb sb 19 [o0, some (.int x1)] [] h Q) (kf : ¬ 8 ≤ x1 → hk_S G m_X9_shelfAt d cb sb 10 [o0, some (.int x1)] [] h Q) : hk_S G m_X9_shelfAt d cb sb 4 [o0, some (.int x1)] [] h Q := by
  refine hs_iload_n dX9_shelfAt_4 rfl ?_
  refine hs_bipush (v := 8) dX9_shelfAt_5 (by decide) ?_
  exact hs_icmp_ge dX9_shelfAt_7 (by decide) kt kf
theorem b_X9_shelfAt_10 {G : hk_G} {d cb sb : Nat} {h : hk_H} {Q : hk_O → hk_H → Prop} {r0 : Nat} {fs1 : List Value} {v3 : Nat} {x1 : Int32} {n5 : Nat} {f6 : Nat → Option Nat} {t7 : Nat} (hg2 : h.2 r0 = some (.inr (9, fs1))) (hv4 : fs1[8]? = some (.ref v3)) (ha8 : h.2 v3 = some (.inl (t7, n5, .inr (.inr (.inr (.inr f6)))))) (ht9 : t7 = 3 ∨ t7 = 4) (j10 : Nat) (hi11 : (x1 : Int32).toInt = (j10 : Int)) (hj12 : j10 < n5) (hq : Q (.inl (some (hk_rf (f6 j10)))) h) : hk_S G m_X9_shelfAt d cb sb 10 [some (.ref r0), some (.int x1)] [] h Q := by
  refine hs_aload_n dX9_shelfAt_10 rfl ?_
  refine hs_get dX9_shelfAt_11 fl_X9_64_9 hg2 hv4 ?_
  refine hs_iload_n dX9_shelfAt_14 rfl ?_
  refine hs_aald j10 dX9_shelfAt_15 ha8 ht9 hi11 hj12 ?_
  refine hs_goto dX9_shelfAt_16 (tgt := 20) (by decide) ?_
  exact hs_aret dX9_shelfAt_20 rfl (Or.inl ⟨_, rfl⟩) (by cases f6 j10; exact Or.inl rfl; exact Or.inr ⟨_, rfl⟩) hq
theorem b_X9_shelfAt_19 {G : hk_G} {d cb sb : Nat} {h : hk_H} {Q : hk_O → hk_H → Prop} {o0 : Option Value} {o1 : Option Value} (hq : Q (.inl (some (.null))) h) : hk_S G m_X9_shelfAt d cb sb 19 [o0, o1] [] h Q := by
  refine hs_null dX9_shelfAt_19 ?_
  exact hs_aret dX9_shelfAt_20 rfl (Or.inl ⟨_, rfl⟩) (Or.inl rfl) hq
theorem b_X9_shelfAt_20 {G : hk_G} {d cb sb : Nat} {h : hk_H} {Q : hk_O → hk_H → Prop} {s0 : Nat} {o0 : Option Value} {o1 : Option Value} (hq : Q (.inl (some (.ref s0))) h) : hk_S G m_X9_shelfAt d cb sb 20 [o0, o1] [.ref s0] h Q := by
  exact hs_aret dX9_shelfAt_20 rfl (Or.inl ⟨_, rfl⟩) (Or.inr ⟨_, rfl⟩) hq
theorem b_X9_shelfAt_20N0 {G : hk_G} {d cb sb : Nat} {h : hk_H} {Q : hk_O → hk_H → Prop} {o0 : Option Value} {o1 : Option Value} (hq : Q (.inl (some (.null))) h) : hk_S G m_X9_shelfAt d cb sb 20 [o0, o1] [.null] h Q := by
  exact hs_aret dX9_shelfAt_20 rfl (Or.inl ⟨_, rfl⟩) (Or.inl rfl) hq
theorem b_X9_shelfAt_20V0 {G : hk_G} {d cb sb : Nat} {h : hk_H} {Q : hk_O → hk_H → Prop} {s0 : Value} {o0 : Option Value} {o1 : Option Value} (hq : Q (.inl (some (s0))) h) (hv : s0 = .null ∨ ∃ a, s0 = .ref a) : hk_S G m_X9_shelfAt d cb sb 20 [o0, o1] [s0] h Q := by
  exact hs_aret dX9_shelfAt_20 rfl (Or.inl ⟨_, rfl⟩) hv hq
-- HonestHouse.newRule(IILHonestHouse$Wishes;)LHonestHouse$Table;
theorem b_X9_newRule_0 {G : hk_G} {d cb sb : Nat} {h : hk_H} {Q : hk_O → hk_H → Prop} {x0 : Int32} {o1 : Option Value} {o2 : Option Value} (k1 : x0 = 1 → hk_S G m_X9_newRule (d + 1) cb sb 28 [some (.int x0), o1, o2] [] h Q) (k2 : x0 = 2 → hk_S G m_X9_newRule (d + 1) cb sb 38 [some (.int x0), o1, o2] [] h Q) (k3 : x0 = 3 → hk_S G m_X9_newRule (d + 1) cb sb 48 [some (.int x0), o1, o2] [] h Q) (kd : ¬ x0 = 1 → ¬ x0 = 2 → ¬ x0 = 3 → hk_S G m_X9_newRule (d + 1) cb sb 58 [some (.int x0), o1, o2] [] h Q) : hk_S G m_X9_newRule (d + 1) cb sb 0 [some (.int x0), o1, o2] [] h Q := by
  refine hs_iload_n dX9_newRule_0 rfl ?_
  by_cases c1 : x0 = 1
  · exact hs_tableIn dX9_newRule_1 (by rw [c1]; decide) (by rw [c1]; decide) (off := 27) (by rw [c1]; rfl) (by decide) (k1 c1)
  by_cases c2 : x0 = 2
  · exact hs_tableIn dX9_newRule_1 (by rw [c2]; decide) (by rw [c2]; decide) (off := 37) (by rw [c2]; rfl) (by decide) (k2 c2)
  by_cases c3 : x0 = 3
  · exact hs_tableIn dX9_newRule_1 (by rw [c3]; decide) (by rw [c3]; decide) (off := 47) (by rw [c3]; rfl) (by decide) (k3 c3)
  have n1 := lv_neT (a := 1) c1 rfl
  have n2 := lv_neT (a := 2) c2 rfl
  have n3 := lv_neT (a := 3) c3 rfl
  exact hs_tableOut dX9_newRule_1 (by omega) (by decide) (kd c1 c2 c3)
theorem b_X9_newRule_28 {G : hk_G} {d cb sb : Nat} {h : hk_H} {Q : hk_O → hk_H → Prop} {h_1 : hk_H} {x1 : Int32} {r2 : Nat} {cq : Nat} {sq : Nat} {o0 : Option Value} (e_1 : (hk_new h (.inr (3, fs_3))) = h_1) (hc : hk_Cv G m_X3_init d cq sq [.ref h.1, .int x1, .ref r2] h_1 (fun h' => hk_S G m_X9_newRule (d + 1) cb sb 37 [o0, some (.int x1), some (.ref r2)] [.ref h.1] h' Q)) : hk_S G m_X9_newRule (d + 1) ((cq + cb) + 1) ((sq + sb) + 4) 28 [o0, some (.int x1), some (.ref r2)] [] h Q := by
  subst e_1
  refine hs_new dX9_newRule_28 cl_3 nw_X9_337 (nf_3 G) ?_
  refine hs_dup dX9_newRule_31 rfl ?_
  refine hs_iload_n dX9_newRule_32 rfl ?_
  refine hs_aload_n dX9_newRule_33 rfl ?_
  exact hs_ini (M' := m_X3_init) (vs := [.int x1, .ref r2]) dX9_newRule_34 wd_264 ic_X3_init rfl (Nat.le_of_ble_eq_true rfl) hc hq_v (hc_v (fun h9 k9 => k9))
theorem b_X9_newRule_37 {G : hk_G} {d cb sb : Nat} {h : hk_H} {Q : hk_O → hk_H → Prop} {s0 : Nat} {o0 : Option Value} {o1 : Option Value} {o2 : Option Value} (hq : Q (.inl (some (.ref s0))) h) : hk_S G m_X9_newRule (d + 1) cb sb 37 [o0, o1, o2] [.ref s0] h Q := by
  exact hs_aret dX9_newRule_37 rfl (Or.inl ⟨_, rfl⟩) (Or.inr ⟨_, rfl⟩) hq
theorem b_X9_newRule_37N0 {G : hk_G} {d cb sb : Nat} {h : hk_H} {Q : hk_O → hk_H → Prop} {o0 : Option Value} {o1 : Option Value} {o2 : Option Value} (hq : Q (.inl (some (.null))) h) : hk_S G m_X9_newRule (d + 1) cb sb 37 [o0, o1, o2] [.null] h Q := by
  exact hs_aret dX9_newRule_37 rfl (Or.inl ⟨_, rfl⟩) (Or.inl rfl) hq
theorem b_X9_newRule_37V0 {G : hk_G} {d cb sb : Nat} {h : hk_H} {Q : hk_O → hk_H → Prop} {s0 : Value} {o0 : Option Value} {o1 : Option Value} {o2 : Option Value} (hq : Q (.inl (some (s0))) h) (hv : s0 = .null ∨ ∃ a, s0 = .ref a) : hk_S G m_X9_newRule (d + 1) cb sb 37 [o0, o1, o2] [s0] h Q := by
  exact hs_aret dX9_newRule_37 rfl (Or.inl ⟨_, rfl⟩) hv hq
theorem b_X9_newRule_38 {G : hk_G} {d cb sb : Nat} {h : hk_H} {Q : hk_O → hk_H → Prop} {h_1 : hk_H} {x1 : Int32} {r2 : Nat} {cq : Nat} {sq : Nat} {o0 : Option Value} (e_1 : (hk_new h (.inr (7, fs_7))) = h_1) (hc : hk_Cv G m_X7_init d cq sq [.ref h.1, .int x1, .ref r2] h_1 (fun h' => hk_S G m_X9_newRule (d + 1) cb sb 47 [o0, some (.int x1), some (.ref r2)] [.ref h.1] h' Q)) : hk_S G m_X9_newRule (d + 1) ((cq + cb) + 1) ((sq + sb) + 7) 38 [o0, some (.int x1), some (.ref r2)] [] h Q := by
  subst e_1
  refine hs_new dX9_newRule_38 cl_7 nw_X9_342 (nf_7 G) ?_
  refine hs_dup dX9_newRule_41 rfl ?_
  refine hs_iload_n dX9_newRule_42 rfl ?_
  refine hs_aload_n dX9_newRule_43 rfl ?_
  exact hs_ini (M' := m_X7_init) (vs := [.int x1, .ref r2]) dX9_newRule_44 wd_299 ic_X7_init rfl (Nat.le_of_ble_eq_true rfl) hc hq_v (hc_v (fun h9 k9 => k9))
theorem b_X9_newRule_47 {G : hk_G} {d cb sb : Nat} {h : hk_H} {Q : hk_O → hk_H → Prop} {s0 : Nat} {o0 : Option Value} {o1 : Option Value} {o2 : Option Value} (hq : Q (.inl (some (.ref s0))) h) : hk_S G m_X9_newRule (d + 1) cb sb 47 [o0, o1, o2] [.ref s0] h Q := by
  exact hs_aret dX9_newRule_47 rfl (Or.inl ⟨_, rfl⟩) (Or.inr ⟨_, rfl⟩) hq
theorem b_X9_newRule_47N0 {G : hk_G} {d cb sb : Nat} {h : hk_H} {Q : hk_O → hk_H → Prop} {o0 : Option Value} {o1 : Option Value} {o2 : Option Value} (hq : Q (.inl (some (.null))) h) : hk_S G m_X9_newRule (d + 1) cb sb 47 [o0, o1, o2] [.null] h Q := by
  exact hs_aret dX9_newRule_47 rfl (Or.inl ⟨_, rfl⟩) (Or.inl rfl) hq
theorem b_X9_newRule_47V0 {G : hk_G} {d cb sb : Nat} {h : hk_H} {Q : hk_O → hk_H → Prop} {s0 : Value} {o0 : Option Value} {o1 : Option Value} {o2 : Option Value} (hq : Q (.inl (some (s0))) h) (hv : s0 = .null ∨ ∃ a, s0 = .ref a) : hk_S G m_X9_newRule (d + 1) cb sb 47 [o0, o1, o2] [s0] h Q := by
  exact hs_aret dX9_newRule_47 rfl (Or.inl ⟨_, rfl⟩) hv hq
theorem b_X9_newRule_48 {G : hk_G} {d cb sb : Nat} {h : hk_H} {Q : hk_O → hk_H → Prop} {h_1 : hk_H} {x1 : Int32} {r2 : Nat} {cq : Nat} {sq : Nat} {o0 : Option Value} (e_1 : (hk_new h (.inr (2, fs_2))) = h_1) (hc : hk_Cv G m_X2_init d cq sq [.ref h.1, .int x1, .ref r2] h_1 (fun h' => hk_S G m_X9_newRule (d + 1) cb sb 57 [o0, some (.int x1), some (.ref r2)] [.ref h.1] h' Q)) : hk_S G m_X9_newRule (d + 1) ((cq + cb) + 1) ((sq + sb) + 5) 48 [o0, some (.int x1), some (.ref r2)] [] h Q := by
  subst e_1
  refine hs_new dX9_newRule_48 cl_2 nw_X9_345 (nf_2 G) ?_
  refine hs_dup dX9_newRule_51 rfl ?_
  refine hs_iload_n dX9_newRule_52 rfl ?_
  refine hs_aload_n dX9_newRule_53 rfl ?_
  exact hs_ini (M' := m_X2_init) (vs := [.int x1, .ref r2]) dX9_newRule_54 wd_322 ic_X2_init rfl (Nat.le_of_ble_eq_true rfl) hc hq_v (hc_v (fun h9 k9 => k9))
theorem b_X9_newRule_57 {G : hk_G} {d cb sb : Nat} {h : hk_H} {Q : hk_O → hk_H → Prop} {s0 : Nat} {o0 : Option Value} {o1 : Option Value} {o2 : Option Value} (hq : Q (.inl (some (.ref s0))) h) : hk_S G m_X9_newRule (d + 1) cb sb 57 [o0, o1, o2] [.ref s0] h Q := by
  exact hs_aret dX9_newRule_57 rfl (Or.inl ⟨_, rfl⟩) (Or.inr ⟨_, rfl⟩) hq
theorem b_X9_newRule_57N0 {G : hk_G} {d cb sb : Nat} {h : hk_H} {Q : hk_O → hk_H → Prop} {o0 : Option Value} {o1 : Option Value} {o2 : Option Value} (hq : Q (.inl (some (.null))) h) : hk_S G m_X9_newRule (d + 1) cb sb 57 [o0, o1, o2] [.null] h Q := by
  exact hs_aret dX9_newRule_57 rfl (Or.inl ⟨_, rfl⟩) (Or.inl rfl) hq
theorem b_X9_newRule_57V0 {G : hk_G} {d cb sb : Nat} {h : hk_H} {Q : hk_O → hk_H → Prop} {s0 : Value} {o0 : Option Value} {o1 : Option Value} {o2 : Option Value} (hq : Q (.inl (some (s0))) h) (hv : s0 = .null ∨ ∃ a, s0 = .ref a) : hk_S G m_X9_newRule (d + 1) cb sb 57 [o0, o1, o2] [s0] h Q := by
  exact hs_aret dX9_newRule_57 rfl (Or.inl ⟨_, rfl⟩) hv hq
theorem b_X9_newRule_58 {G : hk_G} {d cb sb : Nat} {h : hk_H} {Q : hk_O → hk_H → Prop} {h_1 : hk_H} {x1 : Int32} {r2 : Nat} {cq : Nat} {sq : Nat} {o0 : Option Value} (e_1 : (hk_new h (.inr (5, fs_5))) = h_1) (hc : hk_Cv G m_X5_init d cq sq [.ref h.1, .int x1, .ref r2] h_1 (fun h' => hk_S G m_X9_newRule (d + 1) cb sb 67 [o0, some (.int x1), some (.ref r2)] [.ref h.1] h' Q)) : hk_S G m_X9_newRule (d + 1) ((cq + cb) + 1) ((sq + sb) + 3) 58 [o0, some (.int x1), some (.ref r2)] [] h Q := by
  subst e_1
  refine hs_new dX9_newRule_58 cl_5 nw_X9_31 (nf_5 G) ?_
  refine hs_dup dX9_newRule_61 rfl ?_
  refine hs_iload_n dX9_newRule_62 rfl ?_
  refine hs_aload_n dX9_newRule_63 rfl ?_
  exact hs_ini (M' := m_X5_init) (vs := [.int x1, .ref r2]) dX9_newRule_64 wd_338 ic_X5_init rfl (Nat.le_of_ble_eq_true rfl) hc hq_v (hc_v (fun h9 k9 => k9))
theorem b_X9_newRule_67 {G : hk_G} {d cb sb : Nat} {h : hk_H} {Q : hk_O → hk_H → Prop} {s0 : Nat} {o0 : Option Value} {o1 : Option Value} {o2 : Option Value} (hq : Q (.inl (some (.ref s0))) h) : hk_S G m_X9_newRule (d + 1) cb sb 67 [o0, o1, o2] [.ref s0] h Q := by
  exact hs_aret dX9_newRule_67 rfl (Or.inl ⟨_, rfl⟩) (Or.inr ⟨_, rfl⟩) hq
theorem b_X9_newRule_67N0 {G : hk_G} {d cb sb : Nat} {h : hk_H} {Q : hk_O → hk_H → Prop} {o0 : Option Value} {o1 : Option Value} {o2 : Option Value} (hq : Q (.inl (some (.null))) h) : hk_S G m_X9_newRule (d + 1) cb sb 67 [o0, o1, o2] [.null] h Q := by
  exact hs_aret dX9_newRule_67 rfl (Or.inl ⟨_, rfl⟩) (Or.inl rfl) hq
theorem b_X9_newRule_67V0 {G : hk_G} {d cb sb : Nat} {h : hk_H} {Q : hk_O → hk_H → Prop} {s0 : Value} {o0 : Option Value} {o1 : Option Value} {o2 : Option Value} (hq : Q (.inl (some (s0))) h) (hv : s0 = .null ∨ ∃ a, s0 = .ref a) : hk_S G m_X9_newRule (d + 1) cb sb 67 [o0, o1, o2] [s0] h Q := by
  exact hs_aret dX9_newRule_67 rfl (Or.inl ⟨_, rfl⟩) hv hq
-- HonestHouse.add(LHonestHouse$Table;)I
theorem b_X9_add_0 {G : hk_G} {d cb sb : Nat} {h : hk_H} {Q : hk_O → hk_H → Prop} {r0 : Nat} {fs1 : List Value} {v3 : Nat} {v5 : Int32} {r1 : Nat} {n7 : Nat} {f8 : Nat → Option Nat} {t9 : Nat} {E11 : String} {ci12 : Nat} {vs13 : List Value} {r14 : vw_C} {h_1 : hk_H} {fs22 : List Value} {v24 : Int32} {h_2 : hk_H} {fs27 : List Value} {v29 : Int32} (hg2 : h.2 r0 = some (.inr (9, fs1))) (hv4 : fs1[3]? = some (.ref v3)) (hv6 : fs1[4]? = some (.int v5)) (ha10 : h.2 v3 = some (.inl (t9, n7, .inr (.inr (.inr (.inr f8)))))) (h4_v3 : 4 ≤ v3) (ht15 : (hk_tys G)[t9]? = some (G.2.1 t9, .object E11)) (hb16 : h.2 r1 = some (.inr (ci12, vs13))) (hc17 : hk_cl[ci12]? = some r14) (hE18 : r14.1 = E11 ∨ (r14.1, E11) ∈ hk_cast) (j19 : Nat) (hi20 : (v5 : Int32).toInt = (j19 : Int)) (hj21 : j19 < n7) (e_1 : (hk_set h v3 (.inl (t9, n7, .inr (.inr (.inr (.inr (va_up f8 j19 (some r1)))))))) = h_1) (hg23 : h_1.2 r0 = some (.inr (9, fs22))) (hv25 : fs22[4]? = some (.int v24)) (h4_r0 : 4 ≤ r0) (e_2 : (hk_set h_1 r0 (.inr (9, fs22.set 4 (.int (v24 + 1))))) = h_2) (hg28 : h_2.2 r0 = some (.inr (9, fs27))) (hv30 : fs27[4]? = some (.int v29)) (hq : Q (.inl (some (.int (v29 - 1)))) h_2) (hl26 : 4 < fs22.length := by exact Nat.le_of_ble_eq_true rfl) : hk_S G m_X9_add d cb sb 0 [some (.ref r0), some (.ref r1)] [] h Q := by
  subst e_1
  subst e_2
  refine hs_aload_n dX9_add_0 rfl ?_
  refine hs_get dX9_add_1 fl_X9_33_9 hg2 hv4 ?_
  refine hs_aload_n dX9_add_4 rfl ?_
  refine hs_get dX9_add_5 fl_X9_72_9 hg2 hv6 ?_
  refine hs_aload_n dX9_add_8 rfl ?_
  refine hs_aast j19 dX9_add_9 ha10 ht15 h4_v3 hb16 hc17 hE18 hi20 hj21 ?_
  refine hs_aload_n dX9_add_10 rfl ?_
  refine hs_dup dX9_add_11 rfl ?_
  refine hs_get dX9_add_12 fl_X9_72_9 hg23 hv25 ?_
  refine hs_iconst (v := 1) dX9_add_15 (by decide) ?_
  refine hs_iadd dX9_add_16 ?_
  refine hs_put (t := .int) dX9_add_17 fw_X9_72_9 hg23 h4_r0 hl26 rfl rfl ?_
  refine hs_aload_n dX9_add_20 rfl ?_
  refine hs_get dX9_add_21 fl_X9_72_9 hg28 hv30 ?_
  refine hs_iconst (v := 1) dX9_add_24 (by decide) ?_
  refine hs_isub dX9_add_25 ?_
  exact hs_iret dX9_add_26 rfl hq
-- HonestHouse.pricedRule(LHonestHouse$Table;)LHonestHouse$Table;
theorem b_X9_pricedRule_0 {G : hk_G} {d cb sb : Nat} {h : hk_H} {Q : hk_O → hk_H → Prop} {h_1 : hk_H} {r0 : Nat} {fs1 : List Value} {v3 : Int32} {v5 : Nat} {cq : Nat} {sq : Nat} {o1 : Option Value} {o2 : Option Value} {o3 : Option Value} {o4 : Option Value} (e_1 : (hk_new h (.inr (3, fs_3))) = h_1) (hg2 : h_1.2 r0 = some (.inr (9, fs1))) (hv4 : fs1[4]? = some (.int v3)) (hv6 : fs1[2]? = some (.ref v5)) (hc : hk_Cv G m_X3_init d cq sq [.ref h.1, .int v3, .ref v5] h_1 (fun h' => hk_S G m_X9_pricedRule (d + 1) cb sb 15 [some (.ref r0), o1, o2, o3, o4] [.ref h.1] h' Q)) : hk_S G m_X9_pricedRule (d + 1) ((cq + cb) + 1) ((sq + sb) + 4) 0 [some (.ref r0), o1, o2, o3, o4] [] h Q := by
  subst e_1
  refine hs_new dX9_pricedRule_0 cl_3 nw_X9_337 (nf_3 G) ?_
  refine hs_dup dX9_pricedRule_3 rfl ?_
  refine hs_aload_n dX9_pricedRule_4 rfl ?_
  refine hs_get dX9_pricedRule_5 fl_X9_72_9 hg2 hv4 ?_
  refine hs_aload_n dX9_pricedRule_8 rfl ?_
  refine hs_get dX9_pricedRule_9 fl_X9_27_9 hg2 hv6 ?_
  exact hs_ini (M' := m_X3_init) (vs := [.int v3, .ref v5]) dX9_pricedRule_12 wd_264 ic_X3_init rfl (Nat.le_of_ble_eq_true rfl) hc hq_v (hc_v (fun h9 k9 => k9))
theorem b_X9_pricedRule_15 {G : hk_G} {d cb sb : Nat} {h : hk_H} {Q : hk_O → hk_H → Prop} {s0 : Nat} {o0 : Option Value} {o1 : Option Value} {o2 : Option Value} {o3 : Option Value} {o4 : Option Value} (k : hk_S G m_X9_pricedRule (d + 1) cb sb 18 [o0, o1, some (.ref s0), some (.int 0), o4] [] h Q) (ho1 : hk_c1 o1 := by first | exact hk_c1i | exact hk_c1r | exact hk_c10 | exact hk_c1n) : hk_S G m_X9_pricedRule (d + 1) cb sb 15 [o0, o1, o2, o3, o4] [.ref s0] h Q := by
  refine hs_astK_n dX9_pricedRule_15 (by decide) (hk_nk1 rfl ho1) rfl ?_
  refine hs_iconst (v := 0) dX9_pricedRule_16 (by decide) ?_
  refine hs_istK_n dX9_pricedRule_17 (by decide) (hk_nk1 rfl hk_c1r) rfl ?_
  exact k
theorem b_X9_pricedRule_15N0 {G : hk_G} {d cb sb : Nat} {h : hk_H} {Q : hk_O → hk_H → Prop} {o0 : Option Value} {o1 : Option Value} {o2 : Option Value} {o3 : Option Value} {o4 : Option Value} (k : hk_S G m_X9_pricedRule (d + 1) cb sb 18 [o0, o1, some (.null), some (.int 0), o4] [] h Q) (ho1 : hk_c1 o1 := by first | exact hk_c1i | exact hk_c1r | exact hk_c10 | exact hk_c1n) : hk_S G m_X9_pricedRule (d + 1) cb sb 15 [o0, o1, o2, o3, o4] [.null] h Q := by
  refine hs_astKN_n dX9_pricedRule_15 (by decide) (hk_nk1 rfl ho1) rfl ?_
  refine hs_iconst (v := 0) dX9_pricedRule_16 (by decide) ?_
  refine hs_istK_n dX9_pricedRule_17 (by decide) (hk_nk1 rfl hk_c1n) rfl ?_
  exact k
theorem b_X9_pricedRule_18 {G : hk_G} {d cb sb : Nat} {h : hk_H} {Q : hk_O → hk_H → Prop} {x3 : Int32} {r0 : Nat} {fs1 : List Value} {v3 : Nat} {fs5 : List Value} {v7 : Int32} {o1 : Option Value} {o2 : Option Value} {o4 : Option Value} (hg2 : h.2 r0 = some (.inr (9, fs1))) (hv4 : fs1[2]? = some (.ref v3)) (hg6 : h.2 v3 = some (.inr (8, fs5))) (hv8 : fs5[5]? = some (.int v7)) (kt : v7 ≤ x3 → hk_S G m_X9_pricedRule (d + 1) cb sb 46 [some (.ref r0), o1, o2, some (.int x3), o4] [] h Q) (kf : ¬ v7 ≤ x3 → hk_S G m_X9_pricedRule (d + 1) cb sb 29 [some (.ref r0), o1, o2, some (.int x3), o4] [] h Q) : hk_S G m_X9_pricedRule (d + 1) cb sb 18 [some (.ref r0), o1, o2, some (.int x3), o4] [] h Q := by
  refine hs_iload_n dX9_pricedRule_18 rfl ?_
  refine hs_aload_n dX9_pricedRule_19 rfl ?_
  refine hs_get dX9_pricedRule_20 fl_X9_27_9 hg2 hv4 ?_
  refine hs_get dX9_pricedRule_23 fl_X9_162_8 hg6 hv8 ?_
  exact hs_icmp_ge dX9_pricedRule_26 (by decide) kt kf
theorem b_X9_pricedRule_29 {G : hk_G} {d cb sb : Nat} {h : hk_H} {Q : hk_O → hk_H → Prop} {r2 : Nat} {x3 : Int32} {r1 : Nat} {M' : hk_M} {ci_ : Nat} {fs_ : List Value} {o0 : Option Value} {o4 : Option Value} (hdis : hk_dis yX5_endAt ci_ M' 1) (hrec : h.2 r1 = some (.inr (ci_, fs_))) (hc : hk_Ci G M' d 0 0 [.ref r1, .int x3] h (fun z h' => hk_S G m_X9_pricedRule (d + 1) cb sb 36 [o0, some (.ref r1), some (.ref r2), some (.int x3), o4] [.int z, .int x3, .ref r2] h' Q)) : hk_S G m_X9_pricedRule (d + 1) cb sb 29 [o0, some (.ref r1), some (.ref r2), some (.int x3), o4] [] h Q := by
  refine hs_aload_n dX9_pricedRule_29 rfl ?_
  refine hs_iload_n dX9_pricedRule_30 rfl ?_
  refine hs_aload_n dX9_pricedRule_31 rfl ?_
  refine hs_iload_n dX9_pricedRule_32 rfl ?_
  exact hk_z0 (hs_dis (x := yX5_endAt) (vs := [.int x3]) (c1 := 0) (s1 := 0) dX9_pricedRule_33 wd_479 hdis hrec rfl (Nat.le_of_ble_eq_true rfl) hc hq_i (hc_i (fun z h9 k9 => k9)))
theorem b_X9_pricedRule_36 {G : hk_G} {d cb sb : Nat} {h : hk_H} {Q : hk_O → hk_H → Prop} {s0 : Nat} {s1 : Int32} {s2 : Int32} {M' : hk_M} {ci_ : Nat} {fs_ : List Value} {o0 : Option Value} {o1 : Option Value} {o2 : Option Value} {o3 : Option Value} {o4 : Option Value} (hdis : hk_dis ⟨"HonestHouse$Paid", "changeEnd", "(II)I"⟩ ci_ M' 2) (hrec : h.2 s0 = some (.inr (ci_, fs_))) (hc : hk_Ci G M' d 0 0 [.ref s0, .int s1, .int s2] h (fun z h' => hk_S G m_X9_pricedRule (d + 1) cb sb 39 [o0, o1, o2, o3, o4] [.int z] h' Q)) : hk_S G m_X9_pricedRule (d + 1) cb sb 36 [o0, o1, o2, o3, o4] [.int s2, .int s1, .ref s0] h Q := by
  exact hk_z0 (hs_dis (x := ⟨"HonestHouse$Paid", "changeEnd", "(II)I"⟩) (vs := [.int s1, .int s2]) (c1 := 0) (s1 := 0) dX9_pricedRule_36 wd_692 hdis hrec rfl (Nat.le_of_ble_eq_true rfl) hc hq_i (hc_i (fun z h9 k9 => k9)))
theorem b_X9_pricedRule_39 {G : hk_G} {d cb sb : Nat} {h : hk_H} {Q : hk_O → hk_H → Prop} {s0 : Int32} {x3 : Int32} {o0 : Option Value} {o1 : Option Value} {o2 : Option Value} {o4 : Option Value} (k : hk_S G m_X9_pricedRule (d + 1) cb sb 18 [o0, o1, o2, some (.int (x3 + 1)), o4] [] h Q) (ho2 : hk_c1 o2 := by first | exact hk_c1i | exact hk_c1r | exact hk_c10 | exact hk_c1n) : hk_S G m_X9_pricedRule (d + 1) cb sb 39 [o0, o1, o2, some (.int x3), o4] [.int s0] h Q := by
  refine hs_pop dX9_pricedRule_39 rfl ?_
  refine hs_iincK (v := 1) dX9_pricedRule_40 rfl (by decide) (by decide) (hk_nk1 rfl ho2) rfl ?_
  refine hs_goto dX9_pricedRule_43 (tgt := 18) (by decide) ?_
  exact k
theorem b_X9_pricedRule_46 {G : hk_G} {d cb sb : Nat} {h : hk_H} {Q : hk_O → hk_H → Prop} {o0 : Option Value} {o1 : Option Value} {o2 : Option Value} {o3 : Option Value} {o4 : Option Value} (k : hk_S G m_X9_pricedRule (d + 1) cb sb 48 [o0, o1, o2, some (.int 0), o4] [] h Q) (ho2 : hk_c1 o2 := by first | exact hk_c1i | exact hk_c1r | exact hk_c10 | exact hk_c1n) : hk_S G m_X9_pricedRule (d + 1) cb sb 46 [o0, o1, o2, o3, o4] [] h Q := by
  refine hs_iconst (v := 0) dX9_pricedRule_46 (by decide) ?_
  refine hs_istK_n dX9_pricedRule_47 (by decide) (hk_nk1 rfl ho2) rfl ?_
  exact k
theorem b_X9_pricedRule_48 {G : hk_G} {d cb sb : Nat} {h : hk_H} {Q : hk_O → hk_H → Prop} {x3 : Int32} {r0 : Nat} {fs1 : List Value} {v3 : Int32} {o1 : Option Value} {o2 : Option Value} {o4 : Option Value} (hg2 : h.2 r0 = some (.inr (9, fs1))) (hv4 : fs1[0]? = some (.int v3)) (kt : v3 ≤ x3 → hk_S G m_X9_pricedRule (d + 1) cb sb 104 [some (.ref r0), o1, o2, some (.int x3), o4] [] h Q) (kf : ¬ v3 ≤ x3 → hk_S G m_X9_pricedRule (d + 1) cb sb 56 [some (.ref r0), o1, o2, some (.int x3), o4] [] h Q) : hk_S G m_X9_pricedRule (d + 1) cb sb 48 [some (.ref r0), o1, o2, some (.int x3), o4] [] h Q := by
  refine hs_iload_n dX9_pricedRule_48 rfl ?_
  refine hs_aload_n dX9_pricedRule_49 rfl ?_
  refine hs_get dX9_pricedRule_50 fl_X9_18_9 hg2 hv4 ?_
  exact hs_icmp_ge dX9_pricedRule_53 (by decide) kt kf
theorem b_X9_pricedRule_56 {G : hk_G} {d cb sb : Nat} {h : hk_H} {Q : hk_O → hk_H → Prop} {o0 : Option Value} {o1 : Option Value} {o2 : Option Value} {o3 : Option Value} {o4 : Option Value} (k : hk_S G m_X9_pricedRule (d + 1) cb sb 59 [o0, o1, o2, o3, some (.int 0)] [] h Q) (ho3 : hk_c1 o3 := by first | exact hk_c1i | exact hk_c1r | exact hk_c10 | exact hk_c1n) : hk_S G m_X9_pricedRule (d + 1) cb sb 56 [o0, o1, o2, o3, o4] [] h Q := by
  refine hs_iconst (v := 0) dX9_pricedRule_56 (by decide) ?_
  refine hs_istK dX9_pricedRule_57 (by decide) (hk_nk1 rfl ho3) rfl ?_
  exact k
theorem b_X9_pricedRule_59 {G : hk_G} {d cb sb : Nat} {h : hk_H} {Q : hk_O → hk_H → Prop} {x4 : Int32} {r0 : Nat} {fs1 : List Value} {v3 : Nat} {fs5 : List Value} {v7 : Int32} {o1 : Option Value} {o2 : Option Value} {o3 : Option Value} (hg2 : h.2 r0 = some (.inr (9, fs1))) (hv4 : fs1[2]? = some (.ref v3)) (hg6 : h.2 v3 = some (.inr (8, fs5))) (hv8 : fs5[5]? = some (.int v7)) (kt : v7 ≤ x4 → hk_S G m_X9_pricedRule (d + 1) cb sb 98 [some (.ref r0), o1, o2, o3, some (.int x4)] [] h Q) (kf : ¬ v7 ≤ x4 → hk_S G m_X9_pricedRule (d + 1) cb sb 71 [some (.ref r0), o1, o2, o3, some (.int x4)] [] h Q) : hk_S G m_X9_pricedRule (d + 1) cb sb 59 [some (.ref r0), o1, o2, o3, some (.int x4)] [] h Q := by
  refine hs_iload dX9_pricedRule_59 rfl ?_
  refine hs_aload_n dX9_pricedRule_61 rfl ?_
  refine hs_get dX9_pricedRule_62 fl_X9_27_9 hg2 hv4 ?_
  refine hs_get dX9_pricedRule_65 fl_X9_162_8 hg6 hv8 ?_
  exact hs_icmp_ge dX9_pricedRule_68 (by decide) kt kf
theorem b_X9_pricedRule_71 {G : hk_G} {d cb sb : Nat} {h : hk_H} {Q : hk_O → hk_H → Prop} {r0 : Nat} {fs1 : List Value} {v3 : Nat} {x4 : Int32} {x3 : Int32} {fs_ : List Value} {o1 : Option Value} {o2 : Option Value} (hg2 : h.2 r0 = some (.inr (9, fs1))) (hv4 : fs1[2]? = some (.ref v3)) (hrec : h.2 v3 = some (.inr (8, fs_))) (hc : hk_Ci G m_X8_wishIn d 0 0 [.ref v3, .int x4, .int x3] h (fun z h' => hk_S G m_X9_pricedRule (d + 1) cb sb 81 [some (.ref r0), o1, o2, some (.int x3), some (.int x4)] [.int z] h' Q)) : hk_S G m_X9_pricedRule (d + 1) cb sb 71 [some (.ref r0), o1, o2, some (.int x3), some (.int x4)] [] h Q := by
  refine hs_aload_n dX9_pricedRule_71 rfl ?_
  refine hs_get dX9_pricedRule_72 fl_X9_27_9 hg2 hv4 ?_
  refine hs_iload dX9_pricedRule_75 rfl ?_
  refine hs_iload_n dX9_pricedRule_77 rfl ?_
  exact hk_z0 (hs_vir (M' := m_X8_wishIn) (vs := [.int x4, .int x3]) (c1 := 0) (s1 := 0) dX9_pricedRule_78 wd_508 vi_X8_wishIn hrec rfl (Nat.le_of_ble_eq_true rfl) hc hq_i (hc_i (fun z h9 k9 => k9)))
theorem b_X9_pricedRule_81 {G : hk_G} {d cb sb : Nat} {h : hk_H} {Q : hk_O → hk_H → Prop} {s0 : Int32} {o0 : Option Value} {o1 : Option Value} {o2 : Option Value} {o3 : Option Value} {o4 : Option Value} (kt : ¬ s0 = 0 → hk_S G m_X9_pricedRule (d + 1) cb sb 92 [o0, o1, o2, o3, o4] [] h Q) (kf : s0 = 0 → hk_S G m_X9_pricedRule (d + 1) cb sb 84 [o0, o1, o2, o3, o4] [] h Q) : hk_S G m_X9_pricedRule (d + 1) cb sb 81 [o0, o1, o2, o3, o4] [.int s0] h Q := by
  exact hs_if_ne dX9_pricedRule_81 (by decide) kt kf
theorem b_X9_pricedRule_84 {G : hk_G} {d cb sb : Nat} {h : hk_H} {Q : hk_O → hk_H → Prop} {r0 : Nat} {r2 : Nat} {x4 : Int32} {x3 : Int32} {fs_ : List Value} {o1 : Option Value} (hrec : h.2 r0 = some (.inr (9, fs_))) (hc : hk_Cv G m_X9_payPrices d 0 0 [.ref r0, .ref r2, .int x4, .int x3] h (fun h' => hk_S G m_X9_pricedRule (d + 1) cb sb 92 [some (.ref r0), o1, some (.ref r2), some (.int x3), some (.int x4)] [] h' Q)) : hk_S G m_X9_pricedRule (d + 1) cb sb 84 [some (.ref r0), o1, some (.ref r2), some (.int x3), some (.int x4)] [] h Q := by
  refine hs_aload_n dX9_pricedRule_84 rfl ?_
  refine hs_aload_n dX9_pricedRule_85 rfl ?_
  refine hs_iload dX9_pricedRule_86 rfl ?_
  refine hs_iload_n dX9_pricedRule_88 rfl ?_
  exact hk_z0 (hs_vir (M' := m_X9_payPrices) (vs := [.ref r2, .int x4, .int x3]) (c1 := 0) (s1 := 0) dX9_pricedRule_89 wd_697 vi_X9_payPrices hrec rfl (Nat.le_of_ble_eq_true rfl) hc hq_v (hc_v (fun h9 k9 => k9)))
theorem b_X9_pricedRule_92 {G : hk_G} {d cb sb : Nat} {h : hk_H} {Q : hk_O → hk_H → Prop} {x4 : Int32} {o0 : Option Value} {o1 : Option Value} {o2 : Option Value} {o3 : Option Value} (k : hk_S G m_X9_pricedRule (d + 1) cb sb 59 [o0, o1, o2, o3, some (.int (x4 + 1))] [] h Q) (ho3 : hk_c1 o3 := by first | exact hk_c1i | exact hk_c1r | exact hk_c10 | exact hk_c1n) : hk_S G m_X9_pricedRule (d + 1) cb sb 92 [o0, o1, o2, o3, some (.int x4)] [] h Q := by
  refine hs_iincK (v := 1) dX9_pricedRule_92 rfl (by decide) (by decide) (hk_nk1 rfl ho3) rfl ?_
  refine hs_goto dX9_pricedRule_95 (tgt := 59) (by decide) ?_
  exact k
theorem b_X9_pricedRule_98 {G : hk_G} {d cb sb : Nat} {h : hk_H} {Q : hk_O → hk_H → Prop} {x3 : Int32} {o0 : Option Value} {o1 : Option Value} {o2 : Option Value} {o4 : Option Value} (k : hk_S G m_X9_pricedRule (d + 1) cb sb 48 [o0, o1, o2, some (.int (x3 + 1)), o4] [] h Q) (ho2 : hk_c1 o2 := by first | exact hk_c1i | exact hk_c1r | exact hk_c10 | exact hk_c1n) : hk_S G m_X9_pricedRule (d + 1) cb sb 98 [o0, o1, o2, some (.int x3), o4] [] h Q := by
  refine hs_iincK (v := 1) dX9_pricedRule_98 rfl (by decide) (by decide) (hk_nk1 rfl ho2) rfl ?_
  refine hs_goto dX9_pricedRule_101 (tgt := 48) (by decide) ?_
  exact k
theorem b_X9_pricedRule_104 {G : hk_G} {d cb sb : Nat} {h : hk_H} {Q : hk_O → hk_H → Prop} {r2 : Nat} {o0 : Option Value} {o1 : Option Value} {o3 : Option Value} {o4 : Option Value} (hq : Q (.inl (some (.ref r2))) h) : hk_S G m_X9_pricedRule (d + 1) cb sb 104 [o0, o1, some (.ref r2), o3, o4] [] h Q := by
  refine hs_aload_n dX9_pricedRule_104 rfl ?_
  exact hs_aret dX9_pricedRule_105 rfl (Or.inl ⟨_, rfl⟩) (Or.inr ⟨_, rfl⟩) hq
-- HonestHouse.payPrices(LHonestHouse$Paid;II)V
theorem b_X9_payPrices_0 {G : hk_G} {d cb sb : Nat} {h : hk_H} {Q : hk_O → hk_H → Prop} {r0 : Nat} {fs1 : List Value} {v3 : Nat} {r1 : Nat} {x2 : Int32} {x3 : Int32} {fs_ : List Value} {o4 : Option Value} {o5 : Option Value} (hg2 : h.2 r0 = some (.inr (9, fs1))) (hv4 : fs1[6]? = some (.ref v3)) (hrec : h.2 v3 = some (.inr (6, fs_))) (hc : hk_Cv G m_X6_look d 0 0 [.ref v3, .ref r1, .int x2, .int x3] h (fun h' => hk_S G m_X9_payPrices (d + 1) cb sb 10 [some (.ref r0), some (.ref r1), some (.int x2), some (.int x3), o4, o5] [] h' Q)) : hk_S G m_X9_payPrices (d + 1) cb sb 0 [some (.ref r0), some (.ref r1), some (.int x2), some (.int x3), o4, o5] [] h Q := by
  refine hs_aload_n dX9_payPrices_0 rfl ?_
  refine hs_get dX9_payPrices_1 fl_X9_49_9 hg2 hv4 ?_
  refine hs_aload_n dX9_payPrices_4 rfl ?_
  refine hs_iload_n dX9_payPrices_5 rfl ?_
  refine hs_iload_n dX9_payPrices_6 rfl ?_
  exact hk_z0 (hs_vir (M' := m_X6_look) (vs := [.ref r1, .int x2, .int x3]) (c1 := 0) (s1 := 0) dX9_payPrices_7 wd_635 vi_X6_look hrec rfl (Nat.le_of_ble_eq_true rfl) hc hq_v (hc_v (fun h9 k9 => k9)))
theorem b_X9_payPrices_10 {G : hk_G} {d cb sb : Nat} {h : hk_H} {Q : hk_O → hk_H → Prop} {r0 : Nat} {fs1 : List Value} {v3 : Nat} {fs_ : List Value} {o1 : Option Value} {o2 : Option Value} {o3 : Option Value} {o4 : Option Value} {o5 : Option Value} (hg2 : h.2 r0 = some (.inr (9, fs1))) (hv4 : fs1[6]? = some (.ref v3)) (hrec : h.2 v3 = some (.inr (6, fs_))) (hc : hk_Cv G m_X6_shorten d 0 0 [.ref v3] h (fun h' => hk_S G m_X9_payPrices (d + 1) cb sb 17 [some (.ref r0), o1, o2, o3, o4, o5] [] h' Q)) : hk_S G m_X9_payPrices (d + 1) cb sb 10 [some (.ref r0), o1, o2, o3, o4, o5] [] h Q := by
  refine hs_aload_n dX9_payPrices_10 rfl ?_
  refine hs_get dX9_payPrices_11 fl_X9_49_9 hg2 hv4 ?_
  exact hk_z0 (hs_vir (M' := m_X6_shorten) (vs := []) (c1 := 0) (s1 := 0) dX9_payPrices_14 wd_701 vi_X6_shorten hrec rfl (Nat.le_of_ble_eq_true rfl) hc hq_v (hc_v (fun h9 k9 => k9)))
theorem b_X9_payPrices_17 {G : hk_G} {d cb sb : Nat} {h : hk_H} {Q : hk_O → hk_H → Prop} {o0 : Option Value} {o1 : Option Value} {o2 : Option Value} {o3 : Option Value} {o4 : Option Value} {o5 : Option Value} (k : hk_S G m_X9_payPrices (d + 1) cb sb 20 [o0, o1, o2, o3, some (.int 0), o5] [] h Q) (ho3 : hk_c1 o3 := by first | exact hk_c1i | exact hk_c1r | exact hk_c10 | exact hk_c1n) : hk_S G m_X9_payPrices (d + 1) cb sb 17 [o0, o1, o2, o3, o4, o5] [] h Q := by
  refine hs_iconst (v := 0) dX9_payPrices_17 (by decide) ?_
  refine hs_istK dX9_payPrices_18 (by decide) (hk_nk1 rfl ho3) rfl ?_
  exact k
theorem b_X9_payPrices_20 {G : hk_G} {d cb sb : Nat} {h : hk_H} {Q : hk_O → hk_H → Prop} {x4 : Int32} {r0 : Nat} {fs1 : List Value} {v3 : Nat} {fs5 : List Value} {v7 : Int32} {o1 : Option Value} {o2 : Option Value} {o3 : Option Value} {o5 : Option Value} (hg2 : h.2 r0 = some (.inr (9, fs1))) (hv4 : fs1[2]? = some (.ref v3)) (hg6 : h.2 v3 = some (.inr (8, fs5))) (hv8 : fs5[4]? = some (.int v7)) (kt : v7 ≤ x4 → hk_S G m_X9_payPrices (d + 1) cb sb 72 [some (.ref r0), o1, o2, o3, some (.int x4), o5] [] h Q) (kf : ¬ v7 ≤ x4 → hk_S G m_X9_payPrices (d + 1) cb sb 32 [some (.ref r0), o1, o2, o3, some (.int x4), o5] [] h Q) : hk_S G m_X9_payPrices (d + 1) cb sb 20 [some (.ref r0), o1, o2, o3, some (.int x4), o5] [] h Q := by
  refine hs_iload dX9_payPrices_20 rfl ?_
  refine hs_aload_n dX9_payPrices_22 rfl ?_
  refine hs_get dX9_payPrices_23 fl_X9_27_9 hg2 hv4 ?_
  refine hs_get dX9_payPrices_26 fl_X9_69_8 hg6 hv8 ?_
  exact hs_icmp_ge dX9_payPrices_29 (by decide) kt kf
theorem b_X9_payPrices_32 {G : hk_G} {d cb sb : Nat} {h : hk_H} {Q : hk_O → hk_H → Prop} {r0 : Nat} {fs1 : List Value} {v3 : Nat} {x2 : Int32} {x3 : Int32} {x4 : Int32} {fs_ : List Value} {o1 : Option Value} {o5 : Option Value} (hg2 : h.2 r0 = some (.inr (9, fs1))) (hv4 : fs1[2]? = some (.ref v3)) (hrec : h.2 v3 = some (.inr (8, fs_))) (hc : hk_Ci G m_X8_rowSaying d 0 0 [.ref v3, .int x2, .int x3, .int x4] h (fun z h' => hk_S G m_X9_payPrices (d + 1) cb sb 43 [some (.ref r0), o1, some (.int x2), some (.int x3), some (.int x4), o5] [.int z] h' Q)) : hk_S G m_X9_payPrices (d + 1) cb sb 32 [some (.ref r0), o1, some (.int x2), some (.int x3), some (.int x4), o5] [] h Q := by
  refine hs_aload_n dX9_payPrices_32 rfl ?_
  refine hs_get dX9_payPrices_33 fl_X9_27_9 hg2 hv4 ?_
  refine hs_iload_n dX9_payPrices_36 rfl ?_
  refine hs_iload_n dX9_payPrices_37 rfl ?_
  refine hs_iload dX9_payPrices_38 rfl ?_
  exact hk_z0 (hs_vir (M' := m_X8_rowSaying) (vs := [.int x2, .int x3, .int x4]) (c1 := 0) (s1 := 0) dX9_payPrices_40 wd_491 vi_X8_rowSaying hrec rfl (Nat.le_of_ble_eq_true rfl) hc hq_i (hc_i (fun z h9 k9 => k9)))
theorem b_X9_payPrices_43 {G : hk_G} {d cb sb : Nat} {h : hk_H} {Q : hk_O → hk_H → Prop} {s0 : Int32} {r1 : Nat} {x3 : Int32} {r0 : Nat} {fs1 : List Value} {v3 : Nat} {M' : hk_M} {ci_ : Nat} {fs_ : List Value} {o2 : Option Value} {o4 : Option Value} {o5 : Option Value} (hg2 : h.2 r0 = some (.inr (9, fs1))) (hv4 : fs1[6]? = some (.ref v3)) (hdis : hk_dis ⟨"HonestHouse$Paid", "endAt", "(I)I"⟩ ci_ M' 1) (hrec : h.2 r1 = some (.inr (ci_, fs_))) (hc : hk_Ci G M' d 0 0 [.ref r1, .int s0] h (fun z h' => hk_S G m_X9_payPrices (d + 1) cb sb 59 [some (.ref r0), some (.ref r1), o2, some (.int x3), o4, some (.int s0)] [.int z, .ref v3, .int x3, .int s0, .ref r1] h' Q)) (ho4 : hk_c1 o4 := by first | exact hk_c1i | exact hk_c1r | exact hk_c10 | exact hk_c1n) : hk_S G m_X9_payPrices (d + 1) cb sb 43 [some (.ref r0), some (.ref r1), o2, some (.int x3), o4, o5] [.int s0] h Q := by
  refine hs_istK dX9_payPrices_43 (by decide) (hk_nk1 rfl ho4) rfl ?_
  refine hs_aload_n dX9_payPrices_45 rfl ?_
  refine hs_iload dX9_payPrices_46 rfl ?_
  refine hs_iload_n dX9_payPrices_48 rfl ?_
  refine hs_aload_n dX9_payPrices_49 rfl ?_
  refine hs_get dX9_payPrices_50 fl_X9_49_9 hg2 hv4 ?_
  refine hs_aload_n dX9_payPrices_53 rfl ?_
  refine hs_iload dX9_payPrices_54 rfl ?_
  exact hk_z0 (hs_dis (x := ⟨"HonestHouse$Paid", "endAt", "(I)I"⟩) (vs := [.int s0]) (c1 := 0) (s1 := 0) dX9_payPrices_56 wd_702 hdis hrec rfl (Nat.le_of_ble_eq_true rfl) hc hq_i (hc_i (fun z h9 k9 => k9)))
theorem b_X9_payPrices_59 {G : hk_G} {d cb sb : Nat} {h : hk_H} {Q : hk_O → hk_H → Prop} {s0 : Nat} {s1 : Int32} {s2 : Int32} {s3 : Nat} {s4 : Int32} {fs_ : List Value} {o0 : Option Value} {o1 : Option Value} {o2 : Option Value} {o3 : Option Value} {o4 : Option Value} {o5 : Option Value} (hrec : h.2 s3 = some (.inr (6, fs_))) (hc : hk_Ci G m_X6_priceOf d 0 0 [.ref s3, .int s4] h (fun z h' => hk_S G m_X9_payPrices (d + 1) cb sb 62 [o0, o1, o2, o3, o4, o5] [.int z, .int s2, .int s1, .ref s0] h' Q)) : hk_S G m_X9_payPrices (d + 1) cb sb 59 [o0, o1, o2, o3, o4, o5] [.int s4, .ref s3, .int s2, .int s1, .ref s0] h Q := by
  exact hk_z0 (hs_vir (M' := m_X6_priceOf) (vs := [.int s4]) (c1 := 0) (s1 := 0) dX9_payPrices_59 wd_707 vi_X6_priceOf hrec rfl (Nat.le_of_ble_eq_true rfl) hc hq_i (hc_i (fun z h9 k9 => k9)))
theorem b_X9_payPrices_62 {G : hk_G} {d cb sb : Nat} {h : hk_H} {Q : hk_O → hk_H → Prop} {s0 : Nat} {s1 : Int32} {s2 : Int32} {s3 : Int32} {M' : hk_M} {ci_ : Nat} {fs_ : List Value} {o0 : Option Value} {o1 : Option Value} {o2 : Option Value} {o3 : Option Value} {o4 : Option Value} {o5 : Option Value} (hdis : hk_dis yX3_changePayment ci_ M' 3) (hrec : h.2 s0 = some (.inr (ci_, fs_))) (hc : hk_Ci G M' d 0 0 [.ref s0, .int s1, .int s2, .int s3] h (fun z h' => hk_S G m_X9_payPrices (d + 1) cb sb 65 [o0, o1, o2, o3, o4, o5] [.int z] h' Q)) : hk_S G m_X9_payPrices (d + 1) cb sb 62 [o0, o1, o2, o3, o4, o5] [.int s3, .int s2, .int s1, .ref s0] h Q := by
  exact hk_z0 (hs_dis (x := yX3_changePayment) (vs := [.int s1, .int s2, .int s3]) (c1 := 0) (s1 := 0) dX9_payPrices_62 wd_711 hdis hrec rfl (Nat.le_of_ble_eq_true rfl) hc hq_i (hc_i (fun z h9 k9 => k9)))
theorem b_X9_payPrices_65 {G : hk_G} {d cb sb : Nat} {h : hk_H} {Q : hk_O → hk_H → Prop} {s0 : Int32} {x4 : Int32} {o0 : Option Value} {o1 : Option Value} {o2 : Option Value} {o3 : Option Value} {o5 : Option Value} (k : hk_S G m_X9_payPrices (d + 1) cb sb 20 [o0, o1, o2, o3, some (.int (x4 + 1)), o5] [] h Q) (ho3 : hk_c1 o3 := by first | exact hk_c1i | exact hk_c1r | exact hk_c10 | exact hk_c1n) : hk_S G m_X9_payPrices (d + 1) cb sb 65 [o0, o1, o2, o3, some (.int x4), o5] [.int s0] h Q := by
  refine hs_pop dX9_payPrices_65 rfl ?_
  refine hs_iincK (v := 1) dX9_payPrices_66 rfl (by decide) (by decide) (hk_nk1 rfl ho3) rfl ?_
  refine hs_goto dX9_payPrices_69 (tgt := 20) (by decide) ?_
  exact k
theorem b_X9_payPrices_72 {G : hk_G} {d cb sb : Nat} {h : hk_H} {Q : hk_O → hk_H → Prop} {o0 : Option Value} {o1 : Option Value} {o2 : Option Value} {o3 : Option Value} {o4 : Option Value} {o5 : Option Value} (hq : Q (.inl none) h) : hk_S G m_X9_payPrices (d + 1) cb sb 72 [o0, o1, o2, o3, o4, o5] [] h Q := by
  exact hs_vret dX9_payPrices_72 rfl hq
-- HonestHouse.firstLie(LHonestHouse$Table;I)I
theorem b_X9_firstLie_0 {G : hk_G} {d cb sb : Nat} {h : hk_H} {Q : hk_O → hk_H → Prop} {o0 : Option Value} {o1 : Option Value} {o2 : Option Value} {o3 : Option Value} {o4 : Option Value} {o5 : Option Value} {o6 : Option Value} {o7 : Option Value} {o8 : Option Value} (k : hk_S G m_X9_firstLie (d + 1) cb sb 2 [o0, o1, o2, some (.int 0), o4, o5, o6, o7, o8] [] h Q) (ho2 : hk_c1 o2 := by first | exact hk_c1i | exact hk_c1r | exact hk_c10 | exact hk_c1n) : hk_S G m_X9_firstLie (d + 1) cb sb 0 [o0, o1, o2, o3, o4, o5, o6, o7, o8] [] h Q := by
  refine hs_iconst (v := 0) dX9_firstLie_0 (by decide) ?_
  refine hs_istK_n dX9_firstLie_1 (by decide) (hk_nk1 rfl ho2) rfl ?_
  exact k
theorem b_X9_firstLie_2 {G : hk_G} {d cb sb : Nat} {h : hk_H} {Q : hk_O → hk_H → Prop} {x3 : Int32} {r0 : Nat} {fs1 : List Value} {v3 : Nat} {fs5 : List Value} {v7 : Int32} {o1 : Option Value} {o2 : Option Value} {o4 : Option Value} {o5 : Option Value} {o6 : Option Value} {o7 : Option Value} {o8 : Option Value} (hg2 : h.2 r0 = some (.inr (9, fs1))) (hv4 : fs1[2]? = some (.ref v3)) (hg6 : h.2 v3 = some (.inr (8, fs5))) (hv8 : fs5[5]? = some (.int v7)) (kt : v7 ≤ x3 → hk_S G m_X9_firstLie (d + 1) cb sb 123 [some (.ref r0), o1, o2, some (.int x3), o4, o5, o6, o7, o8] [] h Q) (kf : ¬ v7 ≤ x3 → hk_S G m_X9_firstLie (d + 1) cb sb 13 [some (.ref r0), o1, o2, some (.int x3), o4, o5, o6, o7, o8] [] h Q) : hk_S G m_X9_firstLie (d + 1) cb sb 2 [some (.ref r0), o1, o2, some (.int x3), o4, o5, o6, o7, o8] [] h Q := by
  refine hs_iload_n dX9_firstLie_2 rfl ?_
  refine hs_aload_n dX9_firstLie_3 rfl ?_
  refine hs_get dX9_firstLie_4 fl_X9_27_9 hg2 hv4 ?_
  refine hs_get dX9_firstLie_7 fl_X9_162_8 hg6 hv8 ?_
  exact hs_icmp_ge dX9_firstLie_10 (by decide) kt kf
theorem b_X9_firstLie_13 {G : hk_G} {d cb sb : Nat} {h : hk_H} {Q : hk_O → hk_H → Prop} {o0 : Option Value} {o1 : Option Value} {o2 : Option Value} {o3 : Option Value} {o4 : Option Value} {o5 : Option Value} {o6 : Option Value} {o7 : Option Value} {o8 : Option Value} (k : hk_S G m_X9_firstLie (d + 1) cb sb 16 [o0, o1, o2, o3, some (.int 0), o5, o6, o7, o8] [] h Q) (ho3 : hk_c1 o3 := by first | exact hk_c1i | exact hk_c1r | exact hk_c10 | exact hk_c1n) : hk_S G m_X9_firstLie (d + 1) cb sb 13 [o0, o1, o2, o3, o4, o5, o6, o7, o8] [] h Q := by
  refine hs_iconst (v := 0) dX9_firstLie_13 (by decide) ?_
  refine hs_istK dX9_firstLie_14 (by decide) (hk_nk1 rfl ho3) rfl ?_
  exact k
theorem b_X9_firstLie_16 {G : hk_G} {d cb sb : Nat} {h : hk_H} {Q : hk_O → hk_H → Prop} {x4 : Int32} {r0 : Nat} {fs1 : List Value} {v3 : Int32} {o1 : Option Value} {o2 : Option Value} {o3 : Option Value} {o5 : Option Value} {o6 : Option Value} {o7 : Option Value} {o8 : Option Value} (hg2 : h.2 r0 = some (.inr (9, fs1))) (hv4 : fs1[0]? = some (.int v3)) (kt : v3 ≤ x4 → hk_S G m_X9_firstLie (d + 1) cb sb 117 [some (.ref r0), o1, o2, o3, some (.int x4), o5, o6, o7, o8] [] h Q) (kf : ¬ v3 ≤ x4 → hk_S G m_X9_firstLie (d + 1) cb sb 25 [some (.ref r0), o1, o2, o3, some (.int x4), o5, o6, o7, o8] [] h Q) : hk_S G m_X9_firstLie (d + 1) cb sb 16 [some (.ref r0), o1, o2, o3, some (.int x4), o5, o6, o7, o8] [] h Q := by
  refine hs_iload dX9_firstLie_16 rfl ?_
  refine hs_aload_n dX9_firstLie_18 rfl ?_
  refine hs_get dX9_firstLie_19 fl_X9_18_9 hg2 hv4 ?_
  exact hs_icmp_ge dX9_firstLie_22 (by decide) kt kf
theorem b_X9_firstLie_25 {G : hk_G} {d cb sb : Nat} {h : hk_H} {Q : hk_O → hk_H → Prop} {r0 : Nat} {fs1 : List Value} {v3 : Nat} {x3 : Int32} {x4 : Int32} {fs_ : List Value} {o1 : Option Value} {o2 : Option Value} {o5 : Option Value} {o6 : Option Value} {o7 : Option Value} {o8 : Option Value} (hg2 : h.2 r0 = some (.inr (9, fs1))) (hv4 : fs1[2]? = some (.ref v3)) (hrec : h.2 v3 = some (.inr (8, fs_))) (hc : hk_Ci G m_X8_wishIn d 0 0 [.ref v3, .int x3, .int x4] h (fun z h' => hk_S G m_X9_firstLie (d + 1) cb sb 35 [some (.ref r0), o1, o2, some (.int x3), some (.int x4), o5, o6, o7, o8] [.int z] h' Q)) : hk_S G m_X9_firstLie (d + 1) cb sb 25 [some (.ref r0), o1, o2, some (.int x3), some (.int x4), o5, o6, o7, o8] [] h Q := by
  refine hs_aload_n dX9_firstLie_25 rfl ?_
  refine hs_get dX9_firstLie_26 fl_X9_27_9 hg2 hv4 ?_
  refine hs_iload_n dX9_firstLie_29 rfl ?_
  refine hs_iload dX9_firstLie_30 rfl ?_
  exact hk_z0 (hs_vir (M' := m_X8_wishIn) (vs := [.int x3, .int x4]) (c1 := 0) (s1 := 0) dX9_firstLie_32 wd_508 vi_X8_wishIn hrec rfl (Nat.le_of_ble_eq_true rfl) hc hq_i (hc_i (fun z h9 k9 => k9)))
theorem b_X9_firstLie_35 {G : hk_G} {d cb sb : Nat} {h : hk_H} {Q : hk_O → hk_H → Prop} {s0 : Int32} {r1 : Nat} {x3 : Int32} {x4 : Int32} {M' : hk_M} {ci_ : Nat} {fs_ : List Value} {o0 : Option Value} {o2 : Option Value} {o5 : Option Value} {o6 : Option Value} {o7 : Option Value} {o8 : Option Value} (hdis : hk_dis yX5_profit ci_ M' 3) (hrec : h.2 r1 = some (.inr (ci_, fs_))) (hc : hk_Ci G M' d 0 0 [.ref r1, .int x3, .int x4, .int s0] h (fun z h' => hk_S G m_X9_firstLie (d + 1) cb sb 46 [o0, some (.ref r1), o2, some (.int x3), some (.int x4), some (.int s0), o6, o7, o8] [.int z] h' Q)) : hk_S G m_X9_firstLie (d + 1) cb sb 35 [o0, some (.ref r1), o2, some (.int x3), some (.int x4), o5, o6, o7, o8] [.int s0] h Q := by
  refine hs_istK dX9_firstLie_35 (by decide) (hk_nk1 rfl hk_c1i) rfl ?_
  refine hs_aload_n dX9_firstLie_37 rfl ?_
  refine hs_iload_n dX9_firstLie_38 rfl ?_
  refine hs_iload dX9_firstLie_39 rfl ?_
  refine hs_iload dX9_firstLie_41 rfl ?_
  exact hk_z0 (hs_dis (x := yX5_profit) (vs := [.int x3, .int x4, .int s0]) (c1 := 0) (s1 := 0) dX9_firstLie_43 wd_509 hdis hrec rfl (Nat.le_of_ble_eq_true rfl) hc hq_i (hc_i (fun z h9 k9 => k9)))
theorem b_X9_firstLie_46 {G : hk_G} {d cb sb : Nat} {h : hk_H} {Q : hk_O → hk_H → Prop} {s0 : Int32} {o0 : Option Value} {o1 : Option Value} {o2 : Option Value} {o3 : Option Value} {o4 : Option Value} {o5 : Option Value} {o6 : Option Value} {o7 : Option Value} {o8 : Option Value} (k : hk_S G m_X9_firstLie (d + 1) cb sb 51 [o0, o1, o2, o3, o4, o5, some (.int s0), some (.int 0), o8] [] h Q) (ho5 : hk_c1 o5 := by first | exact hk_c1i | exact hk_c1r | exact hk_c10 | exact hk_c1n) : hk_S G m_X9_firstLie (d + 1) cb sb 46 [o0, o1, o2, o3, o4, o5, o6, o7, o8] [.int s0] h Q := by
  refine hs_istK dX9_firstLie_46 (by decide) (hk_nk1 rfl ho5) rfl ?_
  refine hs_iconst (v := 0) dX9_firstLie_48 (by decide) ?_
  refine hs_istK dX9_firstLie_49 (by decide) (hk_nk1 rfl hk_c1i) rfl ?_
  exact k
theorem b_X9_firstLie_51 {G : hk_G} {d cb sb : Nat} {h : hk_H} {Q : hk_O → hk_H → Prop} {x7 : Int32} {r0 : Nat} {fs1 : List Value} {v3 : Nat} {fs5 : List Value} {v7 : Int32} {o1 : Option Value} {o2 : Option Value} {o3 : Option Value} {o4 : Option Value} {o5 : Option Value} {o6 : Option Value} {o8 : Option Value} (hg2 : h.2 r0 = some (.inr (9, fs1))) (hv4 : fs1[2]? = some (.ref v3)) (hg6 : h.2 v3 = some (.inr (8, fs5))) (hv8 : fs5[4]? = some (.int v7)) (kt : v7 ≤ x7 → hk_S G m_X9_firstLie (d + 1) cb sb 111 [some (.ref r0), o1, o2, o3, o4, o5, o6, some (.int x7), o8] [] h Q) (kf : ¬ v7 ≤ x7 → hk_S G m_X9_firstLie (d + 1) cb sb 63 [some (.ref r0), o1, o2, o3, o4, o5, o6, some (.int x7), o8] [] h Q) : hk_S G m_X9_firstLie (d + 1) cb sb 51 [some (.ref r0), o1, o2, o3, o4, o5, o6, some (.int x7), o8] [] h Q := by
  refine hs_iload dX9_firstLie_51 rfl ?_
  refine hs_aload_n dX9_firstLie_53 rfl ?_
  refine hs_get dX9_firstLie_54 fl_X9_27_9 hg2 hv4 ?_
  refine hs_get dX9_firstLie_57 fl_X9_69_8 hg6 hv8 ?_
  exact hs_icmp_ge dX9_firstLie_60 (by decide) kt kf
theorem b_X9_firstLie_63 {G : hk_G} {d cb sb : Nat} {h : hk_H} {Q : hk_O → hk_H → Prop} {r1 : Nat} {r0 : Nat} {fs1 : List Value} {v3 : Nat} {x3 : Int32} {x4 : Int32} {x7 : Int32} {fs_ : List Value} {o2 : Option Value} {o5 : Option Value} {o6 : Option Value} {o8 : Option Value} (hg2 : h.2 r0 = some (.inr (9, fs1))) (hv4 : fs1[2]? = some (.ref v3)) (hrec : h.2 v3 = some (.inr (8, fs_))) (hc : hk_Ci G m_X8_rowSaying d 0 0 [.ref v3, .int x3, .int x4, .int x7] h (fun z h' => hk_S G m_X9_firstLie (d + 1) cb sb 76 [some (.ref r0), some (.ref r1), o2, some (.int x3), some (.int x4), o5, o6, some (.int x7), o8] [.int z, .ref r1] h' Q)) : hk_S G m_X9_firstLie (d + 1) cb sb 63 [some (.ref r0), some (.ref r1), o2, some (.int x3), some (.int x4), o5, o6, some (.int x7), o8] [] h Q := by
  refine hs_aload_n dX9_firstLie_63 rfl ?_
  refine hs_aload_n dX9_firstLie_64 rfl ?_
  refine hs_get dX9_firstLie_65 fl_X9_27_9 hg2 hv4 ?_
  refine hs_iload_n dX9_firstLie_68 rfl ?_
  refine hs_iload dX9_firstLie_69 rfl ?_
  refine hs_iload dX9_firstLie_71 rfl ?_
  exact hk_z0 (hs_vir (M' := m_X8_rowSaying) (vs := [.int x3, .int x4, .int x7]) (c1 := 0) (s1 := 0) dX9_firstLie_73 wd_491 vi_X8_rowSaying hrec rfl (Nat.le_of_ble_eq_true rfl) hc hq_i (hc_i (fun z h9 k9 => k9)))
theorem b_X9_firstLie_76 {G : hk_G} {d cb sb : Nat} {h : hk_H} {Q : hk_O → hk_H → Prop} {s0 : Nat} {s1 : Int32} {x4 : Int32} {x5 : Int32} {M' : hk_M} {ci_ : Nat} {fs_ : List Value} {o0 : Option Value} {o1 : Option Value} {o2 : Option Value} {o3 : Option Value} {o6 : Option Value} {o7 : Option Value} {o8 : Option Value} (hdis : hk_dis yX5_profit ci_ M' 3) (hrec : h.2 s0 = some (.inr (ci_, fs_))) (hc : hk_Ci G M' d 0 0 [.ref s0, .int s1, .int x4, .int x5] h (fun z h' => hk_S G m_X9_firstLie (d + 1) cb sb 83 [o0, o1, o2, o3, some (.int x4), some (.int x5), o6, o7, o8] [.int z] h' Q)) : hk_S G m_X9_firstLie (d + 1) cb sb 76 [o0, o1, o2, o3, some (.int x4), some (.int x5), o6, o7, o8] [.int s1, .ref s0] h Q := by
  refine hs_iload dX9_firstLie_76 rfl ?_
  refine hs_iload dX9_firstLie_78 rfl ?_
  exact hk_z0 (hs_dis (x := yX5_profit) (vs := [.int s1, .int x4, .int x5]) (c1 := 0) (s1 := 0) dX9_firstLie_80 wd_509 hdis hrec rfl (Nat.le_of_ble_eq_true rfl) hc hq_i (hc_i (fun z h9 k9 => k9)))
theorem b_X9_firstLie_83 {G : hk_G} {d cb sb : Nat} {h : hk_H} {Q : hk_O → hk_H → Prop} {s0 : Int32} {x6 : Int32} {o0 : Option Value} {o1 : Option Value} {o2 : Option Value} {o3 : Option Value} {o4 : Option Value} {o5 : Option Value} {o7 : Option Value} {o8 : Option Value} (kt : (s0 - x6) ≤ 0 → hk_S G m_X9_firstLie (d + 1) cb sb 105 [o0, o1, o2, o3, o4, o5, some (.int x6), o7, some (.int (s0 - x6))] [] h Q) (kf : ¬ (s0 - x6) ≤ 0 → hk_S G m_X9_firstLie (d + 1) cb sb 93 [o0, o1, o2, o3, o4, o5, some (.int x6), o7, some (.int (s0 - x6))] [] h Q) (ho7 : hk_c1 o7 := by first | exact hk_c1i | exact hk_c1r | exact hk_c10 | exact hk_c1n) : hk_S G m_X9_firstLie (d + 1) cb sb 83 [o0, o1, o2, o3, o4, o5, some (.int x6), o7, o8] [.int s0] h Q := by
  refine hs_iload dX9_firstLie_83 rfl ?_
  refine hs_isub dX9_firstLie_85 ?_
  refine hs_istK dX9_firstLie_86 (by decide) (hk_nk1 rfl ho7) rfl ?_
  refine hs_iload dX9_firstLie_88 rfl ?_
  exact hs_if_le dX9_firstLie_90 (by decide) kt kf
theorem b_X9_firstLie_93 {G : hk_G} {d cb sb : Nat} {h : hk_H} {Q : hk_O → hk_H → Prop} {x2 : Int32} {x3 : Int32} {x4 : Int32} {x7 : Int32} {x8 : Int32} {o0 : Option Value} {o1 : Option Value} {o5 : Option Value} {o6 : Option Value} (hc : hk_Ci G m_X9_partOfLie d 0 0 [.int x2, .int x3, .int x4, .int x7, .int x8] h (fun z h' => hk_S G m_X9_firstLie (d + 1) cb sb 104 [o0, o1, some (.int x2), some (.int x3), some (.int x4), o5, o6, some (.int x7), some (.int x8)] [.int z] h' Q)) : hk_S G m_X9_firstLie (d + 1) cb sb 93 [o0, o1, some (.int x2), some (.int x3), some (.int x4), o5, o6, some (.int x7), some (.int x8)] [] h Q := by
  refine hs_iload_n dX9_firstLie_93 rfl ?_
  refine hs_iload_n dX9_firstLie_94 rfl ?_
  refine hs_iload dX9_firstLie_95 rfl ?_
  refine hs_iload dX9_firstLie_97 rfl ?_
  refine hs_iload dX9_firstLie_99 rfl ?_
  exact hk_z0 (hs_sta (M' := m_X9_partOfLie) (vs := [.int x2, .int x3, .int x4, .int x7, .int x8]) (c1 := 0) (s1 := 0) dX9_firstLie_101 wd_529 st_X9_partOfLie rfl (Nat.le_of_ble_eq_true rfl) hc hq_i (hc_i (fun z h9 k9 => k9)))
theorem b_X9_firstLie_104 {G : hk_G} {d cb sb : Nat} {h : hk_H} {Q : hk_O → hk_H → Prop} {s0 : Int32} {o0 : Option Value} {o1 : Option Value} {o2 : Option Value} {o3 : Option Value} {o4 : Option Value} {o5 : Option Value} {o6 : Option Value} {o7 : Option Value} {o8 : Option Value} (hq : Q (.inl (some (.int s0))) h) : hk_S G m_X9_firstLie (d + 1) cb sb 104 [o0, o1, o2, o3, o4, o5, o6, o7, o8] [.int s0] h Q := by
  exact hs_iret dX9_firstLie_104 rfl hq
theorem b_X9_firstLie_105 {G : hk_G} {d cb sb : Nat} {h : hk_H} {Q : hk_O → hk_H → Prop} {x7 : Int32} {o0 : Option Value} {o1 : Option Value} {o2 : Option Value} {o3 : Option Value} {o4 : Option Value} {o5 : Option Value} {o6 : Option Value} {o8 : Option Value} (k : hk_S G m_X9_firstLie (d + 1) cb sb 51 [o0, o1, o2, o3, o4, o5, o6, some (.int (x7 + 1)), o8] [] h Q) (ho6 : hk_c1 o6 := by first | exact hk_c1i | exact hk_c1r | exact hk_c10 | exact hk_c1n) : hk_S G m_X9_firstLie (d + 1) cb sb 105 [o0, o1, o2, o3, o4, o5, o6, some (.int x7), o8] [] h Q := by
  refine hs_iincK (v := 1) dX9_firstLie_105 rfl (by decide) (by decide) (hk_nk1 rfl ho6) rfl ?_
  refine hs_goto dX9_firstLie_108 (tgt := 51) (by decide) ?_
  exact k
theorem b_X9_firstLie_111 {G : hk_G} {d cb sb : Nat} {h : hk_H} {Q : hk_O → hk_H → Prop} {x4 : Int32} {o0 : Option Value} {o1 : Option Value} {o2 : Option Value} {o3 : Option Value} {o5 : Option Value} {o6 : Option Value} {o7 : Option Value} {o8 : Option Value} (k : hk_S G m_X9_firstLie (d + 1) cb sb 16 [o0, o1, o2, o3, some (.int (x4 + 1)), o5, o6, o7, o8] [] h Q) (ho3 : hk_c1 o3 := by first | exact hk_c1i | exact hk_c1r | exact hk_c10 | exact hk_c1n) : hk_S G m_X9_firstLie (d + 1) cb sb 111 [o0, o1, o2, o3, some (.int x4), o5, o6, o7, o8] [] h Q := by
  refine hs_iincK (v := 1) dX9_firstLie_111 rfl (by decide) (by decide) (hk_nk1 rfl ho3) rfl ?_
  refine hs_goto dX9_firstLie_114 (tgt := 16) (by decide) ?_
  exact k
theorem b_X9_firstLie_117 {G : hk_G} {d cb sb : Nat} {h : hk_H} {Q : hk_O → hk_H → Prop} {x3 : Int32} {o0 : Option Value} {o1 : Option Value} {o2 : Option Value} {o4 : Option Value} {o5 : Option Value} {o6 : Option Value} {o7 : Option Value} {o8 : Option Value} (k : hk_S G m_X9_firstLie (d + 1) cb sb 2 [o0, o1, o2, some (.int (x3 + 1)), o4, o5, o6, o7, o8] [] h Q) (ho2 : hk_c1 o2 := by first | exact hk_c1i | exact hk_c1r | exact hk_c10 | exact hk_c1n) : hk_S G m_X9_firstLie (d + 1) cb sb 117 [o0, o1, o2, some (.int x3), o4, o5, o6, o7, o8] [] h Q := by
  refine hs_iincK (v := 1) dX9_firstLie_117 rfl (by decide) (by decide) (hk_nk1 rfl ho2) rfl ?_
  refine hs_goto dX9_firstLie_120 (tgt := 2) (by decide) ?_
  exact k
theorem b_X9_firstLie_123 {G : hk_G} {d cb sb : Nat} {h : hk_H} {Q : hk_O → hk_H → Prop} {o0 : Option Value} {o1 : Option Value} {o2 : Option Value} {o3 : Option Value} {o4 : Option Value} {o5 : Option Value} {o6 : Option Value} {o7 : Option Value} {o8 : Option Value} (hq : Q (.inl (some (.int ((-2))))) h) : hk_S G m_X9_firstLie (d + 1) cb sb 123 [o0, o1, o2, o3, o4, o5, o6, o7, o8] [] h Q := by
  refine hs_bipush (v := (-2)) dX9_firstLie_123 (by decide) ?_
  exact hs_iret dX9_firstLie_125 rfl hq
-- HonestHouse.partOfLie(IIIII)I
theorem b_X9_partOfLie_0 {G : hk_G} {d cb sb : Nat} {h : hk_H} {Q : hk_O → hk_H → Prop} {x0 : Int32} {o1 : Option Value} {o2 : Option Value} {o3 : Option Value} {o4 : Option Value} (k0 : x0 = 0 → hk_S G m_X9_partOfLie d cb sb 28 [some (.int x0), o1, o2, o3, o4] [] h Q) (k1 : x0 = 1 → hk_S G m_X9_partOfLie d cb sb 30 [some (.int x0), o1, o2, o3, o4] [] h Q) (k2 : x0 = 2 → hk_S G m_X9_partOfLie d cb sb 32 [some (.int x0), o1, o2, o3, o4] [] h Q) (kd : ¬ x0 = 0 → ¬ x0 = 1 → ¬ x0 = 2 → hk_S G m_X9_partOfLie d cb sb 34 [some (.int x0), o1, o2, o3, o4] [] h Q) : hk_S G m_X9_partOfLie d cb sb 0 [some (.int x0), o1, o2, o3, o4] [] h Q := by
  refine hs_iload_n dX9_partOfLie_0 rfl ?_
  by_cases c0 : x0 = 0
  · exact hs_tableIn dX9_partOfLie_1 (by rw [c0]; decide) (by rw [c0]; decide) (off := 27) (by rw [c0]; rfl) (by decide) (k0 c0)
  by_cases c1 : x0 = 1
  · exact hs_tableIn dX9_partOfLie_1 (by rw [c1]; decide) (by rw [c1]; decide) (off := 29) (by rw [c1]; rfl) (by decide) (k1 c1)
  by_cases c2 : x0 = 2
  · exact hs_tableIn dX9_partOfLie_1 (by rw [c2]; decide) (by rw [c2]; decide) (off := 31) (by rw [c2]; rfl) (by decide) (k2 c2)
  have n0 := lv_neT (a := 0) c0 rfl
  have n1 := lv_neT (a := 1) c1 rfl
  have n2 := lv_neT (a := 2) c2 rfl
  exact hs_tableOut dX9_partOfLie_1 (by omega) (by decide) (kd c0 c1 c2)
theorem b_X9_partOfLie_28 {G : hk_G} {d cb sb : Nat} {h : hk_H} {Q : hk_O → hk_H → Prop} {x1 : Int32} {o0 : Option Value} {o2 : Option Value} {o3 : Option Value} {o4 : Option Value} (hq : Q (.inl (some (.int x1))) h) : hk_S G m_X9_partOfLie d cb sb 28 [o0, some (.int x1), o2, o3, o4] [] h Q := by
  refine hs_iload_n dX9_partOfLie_28 rfl ?_
  exact hs_iret dX9_partOfLie_29 rfl hq
theorem b_X9_partOfLie_30 {G : hk_G} {d cb sb : Nat} {h : hk_H} {Q : hk_O → hk_H → Prop} {x2 : Int32} {o0 : Option Value} {o1 : Option Value} {o3 : Option Value} {o4 : Option Value} (hq : Q (.inl (some (.int x2))) h) : hk_S G m_X9_partOfLie d cb sb 30 [o0, o1, some (.int x2), o3, o4] [] h Q := by
  refine hs_iload_n dX9_partOfLie_30 rfl ?_
  exact hs_iret dX9_partOfLie_31 rfl hq
theorem b_X9_partOfLie_32 {G : hk_G} {d cb sb : Nat} {h : hk_H} {Q : hk_O → hk_H → Prop} {x3 : Int32} {o0 : Option Value} {o1 : Option Value} {o2 : Option Value} {o4 : Option Value} (hq : Q (.inl (some (.int x3))) h) : hk_S G m_X9_partOfLie d cb sb 32 [o0, o1, o2, some (.int x3), o4] [] h Q := by
  refine hs_iload_n dX9_partOfLie_32 rfl ?_
  exact hs_iret dX9_partOfLie_33 rfl hq
theorem b_X9_partOfLie_34 {G : hk_G} {d cb sb : Nat} {h : hk_H} {Q : hk_O → hk_H → Prop} {x4 : Int32} {o0 : Option Value} {o1 : Option Value} {o2 : Option Value} {o3 : Option Value} (hq : Q (.inl (some (.int x4))) h) : hk_S G m_X9_partOfLie d cb sb 34 [o0, o1, o2, o3, some (.int x4)] [] h Q := by
  refine hs_iload dX9_partOfLie_34 rfl ?_
  exact hs_iret dX9_partOfLie_36 rfl hq
-- HonestHouse.liesAt(LHonestHouse$Table;II)I
theorem b_X9_liesAt_0 {G : hk_G} {d cb sb : Nat} {h : hk_H} {Q : hk_O → hk_H → Prop} {r0 : Nat} {fs1 : List Value} {v3 : Nat} {x2 : Int32} {x3 : Int32} {fs_ : List Value} {o1 : Option Value} {o4 : Option Value} {o5 : Option Value} {o6 : Option Value} {o7 : Option Value} (hg2 : h.2 r0 = some (.inr (9, fs1))) (hv4 : fs1[2]? = some (.ref v3)) (hrec : h.2 v3 = some (.inr (8, fs_))) (hc : hk_Ci G m_X8_wishIn d 0 0 [.ref v3, .int x2, .int x3] h (fun z h' => hk_S G m_X9_liesAt (d + 1) cb sb 9 [some (.ref r0), o1, some (.int x2), some (.int x3), o4, o5, o6, o7] [.int z] h' Q)) : hk_S G m_X9_liesAt (d + 1) cb sb 0 [some (.ref r0), o1, some (.int x2), some (.int x3), o4, o5, o6, o7] [] h Q := by
  refine hs_aload_n dX9_liesAt_0 rfl ?_
  refine hs_get dX9_liesAt_1 fl_X9_27_9 hg2 hv4 ?_
  refine hs_iload_n dX9_liesAt_4 rfl ?_
  refine hs_iload_n dX9_liesAt_5 rfl ?_
  exact hk_z0 (hs_vir (M' := m_X8_wishIn) (vs := [.int x2, .int x3]) (c1 := 0) (s1 := 0) dX9_liesAt_6 wd_508 vi_X8_wishIn hrec rfl (Nat.le_of_ble_eq_true rfl) hc hq_i (hc_i (fun z h9 k9 => k9)))
theorem b_X9_liesAt_9 {G : hk_G} {d cb sb : Nat} {h : hk_H} {Q : hk_O → hk_H → Prop} {s0 : Int32} {r1 : Nat} {x2 : Int32} {x3 : Int32} {M' : hk_M} {ci_ : Nat} {fs_ : List Value} {o0 : Option Value} {o4 : Option Value} {o5 : Option Value} {o6 : Option Value} {o7 : Option Value} (hdis : hk_dis yX5_profit ci_ M' 3) (hrec : h.2 r1 = some (.inr (ci_, fs_))) (hc : hk_Ci G M' d 0 0 [.ref r1, .int x2, .int x3, .int s0] h (fun z h' => hk_S G m_X9_liesAt (d + 1) cb sb 19 [o0, some (.ref r1), some (.int x2), some (.int x3), some (.int s0), o5, o6, o7] [.int z] h' Q)) : hk_S G m_X9_liesAt (d + 1) cb sb 9 [o0, some (.ref r1), some (.int x2), some (.int x3), o4, o5, o6, o7] [.int s0] h Q := by
  refine hs_istK dX9_liesAt_9 (by decide) (hk_nk1 rfl hk_c1i) rfl ?_
  refine hs_aload_n dX9_liesAt_11 rfl ?_
  refine hs_iload_n dX9_liesAt_12 rfl ?_
  refine hs_iload_n dX9_liesAt_13 rfl ?_
  refine hs_iload dX9_liesAt_14 rfl ?_
  exact hk_z0 (hs_dis (x := yX5_profit) (vs := [.int x2, .int x3, .int s0]) (c1 := 0) (s1 := 0) dX9_liesAt_16 wd_509 hdis hrec rfl (Nat.le_of_ble_eq_true rfl) hc hq_i (hc_i (fun z h9 k9 => k9)))
theorem b_X9_liesAt_19 {G : hk_G} {d cb sb : Nat} {h : hk_H} {Q : hk_O → hk_H → Prop} {s0 : Int32} {o0 : Option Value} {o1 : Option Value} {o2 : Option Value} {o3 : Option Value} {o4 : Option Value} {o5 : Option Value} {o6 : Option Value} {o7 : Option Value} (k : hk_S G m_X9_liesAt (d + 1) cb sb 27 [o0, o1, o2, o3, o4, some (.int s0), some (.int 0), some (.int 0)] [] h Q) (ho4 : hk_c1 o4 := by first | exact hk_c1i | exact hk_c1r | exact hk_c10 | exact hk_c1n) : hk_S G m_X9_liesAt (d + 1) cb sb 19 [o0, o1, o2, o3, o4, o5, o6, o7] [.int s0] h Q := by
  refine hs_istK dX9_liesAt_19 (by decide) (hk_nk1 rfl ho4) rfl ?_
  refine hs_iconst (v := 0) dX9_liesAt_21 (by decide) ?_
  refine hs_istK dX9_liesAt_22 (by decide) (hk_nk1 rfl hk_c1i) rfl ?_
  refine hs_iconst (v := 0) dX9_liesAt_24 (by decide) ?_
  refine hs_istK dX9_liesAt_25 (by decide) (hk_nk1 rfl hk_c1i) rfl ?_
  exact k
theorem b_X9_liesAt_27 {G : hk_G} {d cb sb : Nat} {h : hk_H} {Q : hk_O → hk_H → Prop} {x7 : Int32} {r0 : Nat} {fs1 : List Value} {v3 : Nat} {fs5 : List Value} {v7 : Int32} {o1 : Option Value} {o2 : Option Value} {o3 : Option Value} {o4 : Option Value} {o5 : Option Value} {o6 : Option Value} (hg2 : h.2 r0 = some (.inr (9, fs1))) (hv4 : fs1[2]? = some (.ref v3)) (hg6 : h.2 v3 = some (.inr (8, fs5))) (hv8 : fs5[4]? = some (.int v7)) (kt : v7 ≤ x7 → hk_S G m_X9_liesAt (d + 1) cb sb 71 [some (.ref r0), o1, o2, o3, o4, o5, o6, some (.int x7)] [] h Q) (kf : ¬ v7 ≤ x7 → hk_S G m_X9_liesAt (d + 1) cb sb 39 [some (.ref r0), o1, o2, o3, o4, o5, o6, some (.int x7)] [] h Q) : hk_S G m_X9_liesAt (d + 1) cb sb 27 [some (.ref r0), o1, o2, o3, o4, o5, o6, some (.int x7)] [] h Q := by
  refine hs_iload dX9_liesAt_27 rfl ?_
  refine hs_aload_n dX9_liesAt_29 rfl ?_
  refine hs_get dX9_liesAt_30 fl_X9_27_9 hg2 hv4 ?_
  refine hs_get dX9_liesAt_33 fl_X9_69_8 hg6 hv8 ?_
  exact hs_icmp_ge dX9_liesAt_36 (by decide) kt kf
theorem b_X9_liesAt_39 {G : hk_G} {d cb sb : Nat} {h : hk_H} {Q : hk_O → hk_H → Prop} {r1 : Nat} {r0 : Nat} {fs1 : List Value} {v3 : Nat} {x2 : Int32} {x3 : Int32} {x7 : Int32} {fs_ : List Value} {o4 : Option Value} {o5 : Option Value} {o6 : Option Value} (hg2 : h.2 r0 = some (.inr (9, fs1))) (hv4 : fs1[2]? = some (.ref v3)) (hrec : h.2 v3 = some (.inr (8, fs_))) (hc : hk_Ci G m_X8_rowSaying d 0 0 [.ref v3, .int x2, .int x3, .int x7] h (fun z h' => hk_S G m_X9_liesAt (d + 1) cb sb 51 [some (.ref r0), some (.ref r1), some (.int x2), some (.int x3), o4, o5, o6, some (.int x7)] [.int z, .ref r1] h' Q)) : hk_S G m_X9_liesAt (d + 1) cb sb 39 [some (.ref r0), some (.ref r1), some (.int x2), some (.int x3), o4, o5, o6, some (.int x7)] [] h Q := by
  refine hs_aload_n dX9_liesAt_39 rfl ?_
  refine hs_aload_n dX9_liesAt_40 rfl ?_
  refine hs_get dX9_liesAt_41 fl_X9_27_9 hg2 hv4 ?_
  refine hs_iload_n dX9_liesAt_44 rfl ?_
  refine hs_iload_n dX9_liesAt_45 rfl ?_
  refine hs_iload dX9_liesAt_46 rfl ?_
  exact hk_z0 (hs_vir (M' := m_X8_rowSaying) (vs := [.int x2, .int x3, .int x7]) (c1 := 0) (s1 := 0) dX9_liesAt_48 wd_491 vi_X8_rowSaying hrec rfl (Nat.le_of_ble_eq_true rfl) hc hq_i (hc_i (fun z h9 k9 => k9)))
theorem b_X9_liesAt_51 {G : hk_G} {d cb sb : Nat} {h : hk_H} {Q : hk_O → hk_H → Prop} {s0 : Nat} {s1 : Int32} {x3 : Int32} {x4 : Int32} {M' : hk_M} {ci_ : Nat} {fs_ : List Value} {o0 : Option Value} {o1 : Option Value} {o2 : Option Value} {o5 : Option Value} {o6 : Option Value} {o7 : Option Value} (hdis : hk_dis yX5_profit ci_ M' 3) (hrec : h.2 s0 = some (.inr (ci_, fs_))) (hc : hk_Ci G M' d 0 0 [.ref s0, .int s1, .int x3, .int x4] h (fun z h' => hk_S G m_X9_liesAt (d + 1) cb sb 57 [o0, o1, o2, some (.int x3), some (.int x4), o5, o6, o7] [.int z] h' Q)) : hk_S G m_X9_liesAt (d + 1) cb sb 51 [o0, o1, o2, some (.int x3), some (.int x4), o5, o6, o7] [.int s1, .ref s0] h Q := by
  refine hs_iload_n dX9_liesAt_51 rfl ?_
  refine hs_iload dX9_liesAt_52 rfl ?_
  exact hk_z0 (hs_dis (x := yX5_profit) (vs := [.int s1, .int x3, .int x4]) (c1 := 0) (s1 := 0) dX9_liesAt_54 wd_509 hdis hrec rfl (Nat.le_of_ble_eq_true rfl) hc hq_i (hc_i (fun z h9 k9 => k9)))
theorem b_X9_liesAt_57 {G : hk_G} {d cb sb : Nat} {h : hk_H} {Q : hk_O → hk_H → Prop} {s0 : Int32} {x5 : Int32} {o0 : Option Value} {o1 : Option Value} {o2 : Option Value} {o3 : Option Value} {o4 : Option Value} {o6 : Option Value} {o7 : Option Value} (kt : s0 ≤ x5 → hk_S G m_X9_liesAt (d + 1) cb sb 65 [o0, o1, o2, o3, o4, some (.int x5), o6, o7] [] h Q) (kf : ¬ s0 ≤ x5 → hk_S G m_X9_liesAt (d + 1) cb sb 62 [o0, o1, o2, o3, o4, some (.int x5), o6, o7] [] h Q) : hk_S G m_X9_liesAt (d + 1) cb sb 57 [o0, o1, o2, o3, o4, some (.int x5), o6, o7] [.int s0] h Q := by
  refine hs_iload dX9_liesAt_57 rfl ?_
  exact hs_icmp_le dX9_liesAt_59 (by decide) kt kf
theorem b_X9_liesAt_62 {G : hk_G} {d cb sb : Nat} {h : hk_H} {Q : hk_O → hk_H → Prop} {x6 : Int32} {x7 : Int32} {o0 : Option Value} {o1 : Option Value} {o2 : Option Value} {o3 : Option Value} {o4 : Option Value} {o5 : Option Value} (k : hk_S G m_X9_liesAt (d + 1) cb sb 27 [o0, o1, o2, o3, o4, o5, some (.int (x6 + 1)), some (.int (x7 + 1))] [] h Q) (ho5 : hk_c1 o5 := by first | exact hk_c1i | exact hk_c1r | exact hk_c10 | exact hk_c1n) : hk_S G m_X9_liesAt (d + 1) cb sb 62 [o0, o1, o2, o3, o4, o5, some (.int x6), some (.int x7)] [] h Q := by
  refine hs_iincK (v := 1) dX9_liesAt_62 rfl (by decide) (by decide) (hk_nk1 rfl ho5) rfl ?_
  refine hs_iincK (v := 1) dX9_liesAt_65 rfl (by decide) (by decide) (hk_nk1 rfl hk_c1i) rfl ?_
  refine hs_goto dX9_liesAt_68 (tgt := 27) (by decide) ?_
  exact k
theorem b_X9_liesAt_65 {G : hk_G} {d cb sb : Nat} {h : hk_H} {Q : hk_O → hk_H → Prop} {x7 : Int32} {o0 : Option Value} {o1 : Option Value} {o2 : Option Value} {o3 : Option Value} {o4 : Option Value} {o5 : Option Value} {o6 : Option Value} (k : hk_S G m_X9_liesAt (d + 1) cb sb 27 [o0, o1, o2, o3, o4, o5, o6, some (.int (x7 + 1))] [] h Q) (ho6 : hk_c1 o6 := by first | exact hk_c1i | exact hk_c1r | exact hk_c10 | exact hk_c1n) : hk_S G m_X9_liesAt (d + 1) cb sb 65 [o0, o1, o2, o3, o4, o5, o6, some (.int x7)] [] h Q := by
  refine hs_iincK (v := 1) dX9_liesAt_65 rfl (by decide) (by decide) (hk_nk1 rfl ho6) rfl ?_
  refine hs_goto dX9_liesAt_68 (tgt := 27) (by decide) ?_
  exact k
theorem b_X9_liesAt_71 {G : hk_G} {d cb sb : Nat} {h : hk_H} {Q : hk_O → hk_H → Prop} {x6 : Int32} {o0 : Option Value} {o1 : Option Value} {o2 : Option Value} {o3 : Option Value} {o4 : Option Value} {o5 : Option Value} {o7 : Option Value} (hq : Q (.inl (some (.int x6))) h) : hk_S G m_X9_liesAt (d + 1) cb sb 71 [o0, o1, o2, o3, o4, o5, some (.int x6), o7] [] h Q := by
  refine hs_iload dX9_liesAt_71 rfl ?_
  exact hs_iret dX9_liesAt_73 rfl hq
-- HonestHouse.isDictator(LHonestHouse$Table;I)Z
theorem b_X9_isDictator_0 {G : hk_G} {d cb sb : Nat} {h : hk_H} {Q : hk_O → hk_H → Prop} {o0 : Option Value} {o1 : Option Value} {o2 : Option Value} {o3 : Option Value} (k : hk_S G m_X9_isDictator (d + 1) cb sb 2 [o0, o1, o2, some (.int 0)] [] h Q) (ho2 : hk_c1 o2 := by first | exact hk_c1i | exact hk_c1r | exact hk_c10 | exact hk_c1n) : hk_S G m_X9_isDictator (d + 1) cb sb 0 [o0, o1, o2, o3] [] h Q := by
  refine hs_iconst (v := 0) dX9_isDictator_0 (by decide) ?_
  refine hs_istK_n dX9_isDictator_1 (by decide) (hk_nk1 rfl ho2) rfl ?_
  exact k
theorem b_X9_isDictator_2 {G : hk_G} {d cb sb : Nat} {h : hk_H} {Q : hk_O → hk_H → Prop} {x3 : Int32} {r0 : Nat} {fs1 : List Value} {v3 : Nat} {fs5 : List Value} {v7 : Int32} {o1 : Option Value} {o2 : Option Value} (hg2 : h.2 r0 = some (.inr (9, fs1))) (hv4 : fs1[2]? = some (.ref v3)) (hg6 : h.2 v3 = some (.inr (8, fs5))) (hv8 : fs5[5]? = some (.int v7)) (kt : v7 ≤ x3 → hk_S G m_X9_isDictator (d + 1) cb sb 45 [some (.ref r0), o1, o2, some (.int x3)] [] h Q) (kf : ¬ v7 ≤ x3 → hk_S G m_X9_isDictator (d + 1) cb sb 13 [some (.ref r0), o1, o2, some (.int x3)] [] h Q) : hk_S G m_X9_isDictator (d + 1) cb sb 2 [some (.ref r0), o1, o2, some (.int x3)] [] h Q := by
  refine hs_iload_n dX9_isDictator_2 rfl ?_
  refine hs_aload_n dX9_isDictator_3 rfl ?_
  refine hs_get dX9_isDictator_4 fl_X9_27_9 hg2 hv4 ?_
  refine hs_get dX9_isDictator_7 fl_X9_162_8 hg6 hv8 ?_
  exact hs_icmp_ge dX9_isDictator_10 (by decide) kt kf
theorem b_X9_isDictator_13 {G : hk_G} {d cb sb : Nat} {h : hk_H} {Q : hk_O → hk_H → Prop} {r1 : Nat} {x3 : Int32} {M' : hk_M} {ci_ : Nat} {fs_ : List Value} {o0 : Option Value} {o2 : Option Value} (hdis : hk_dis yX5_endAt ci_ M' 1) (hrec : h.2 r1 = some (.inr (ci_, fs_))) (hc : hk_Ci G M' d 0 0 [.ref r1, .int x3] h (fun z h' => hk_S G m_X9_isDictator (d + 1) cb sb 18 [o0, some (.ref r1), o2, some (.int x3)] [.int z] h' Q)) : hk_S G m_X9_isDictator (d + 1) cb sb 13 [o0, some (.ref r1), o2, some (.int x3)] [] h Q := by
  refine hs_aload_n dX9_isDictator_13 rfl ?_
  refine hs_iload_n dX9_isDictator_14 rfl ?_
  exact hk_z0 (hs_dis (x := yX5_endAt) (vs := [.int x3]) (c1 := 0) (s1 := 0) dX9_isDictator_15 wd_479 hdis hrec rfl (Nat.le_of_ble_eq_true rfl) hc hq_i (hc_i (fun z h9 k9 => k9)))
theorem b_X9_isDictator_18 {G : hk_G} {d cb sb : Nat} {h : hk_H} {Q : hk_O → hk_H → Prop} {s0 : Int32} {r0 : Nat} {fs1 : List Value} {v3 : Nat} {x3 : Int32} {x2 : Int32} {fs_ : List Value} {o1 : Option Value} (hg2 : h.2 r0 = some (.inr (9, fs1))) (hv4 : fs1[2]? = some (.ref v3)) (hrec : h.2 v3 = some (.inr (8, fs_))) (hc : hk_Ci G m_X8_wishIn d 0 0 [.ref v3, .int x3, .int x2] h (fun z h' => hk_S G m_X9_isDictator (d + 1) cb sb 31 [some (.ref r0), o1, some (.int x2), some (.int x3)] [.int z, .ref v3, .int s0] h' Q)) : hk_S G m_X9_isDictator (d + 1) cb sb 18 [some (.ref r0), o1, some (.int x2), some (.int x3)] [.int s0] h Q := by
  refine hs_aload_n dX9_isDictator_18 rfl ?_
  refine hs_get dX9_isDictator_19 fl_X9_27_9 hg2 hv4 ?_
  refine hs_aload_n dX9_isDictator_22 rfl ?_
  refine hs_get dX9_isDictator_23 fl_X9_27_9 hg2 hv4 ?_
  refine hs_iload_n dX9_isDictator_26 rfl ?_
  refine hs_iload_n dX9_isDictator_27 rfl ?_
  exact hk_z0 (hs_vir (M' := m_X8_wishIn) (vs := [.int x3, .int x2]) (c1 := 0) (s1 := 0) dX9_isDictator_28 wd_508 vi_X8_wishIn hrec rfl (Nat.le_of_ble_eq_true rfl) hc hq_i (hc_i (fun z h9 k9 => k9)))
theorem b_X9_isDictator_31 {G : hk_G} {d cb sb : Nat} {h : hk_H} {Q : hk_O → hk_H → Prop} {s0 : Int32} {s1 : Nat} {s2 : Int32} {fs_ : List Value} {o0 : Option Value} {o1 : Option Value} {o2 : Option Value} {o3 : Option Value} (hrec : h.2 s1 = some (.inr (8, fs_))) (hc : hk_Ci G m_X8_top d 0 0 [.ref s1, .int s2] h (fun z h' => hk_S G m_X9_isDictator (d + 1) cb sb 34 [o0, o1, o2, o3] [.int z, .int s0] h' Q)) : hk_S G m_X9_isDictator (d + 1) cb sb 31 [o0, o1, o2, o3] [.int s2, .ref s1, .int s0] h Q := by
  exact hk_z0 (hs_vir (M' := m_X8_top) (vs := [.int s2]) (c1 := 0) (s1 := 0) dX9_isDictator_31 wd_622 vi_X8_top hrec rfl (Nat.le_of_ble_eq_true rfl) hc hq_i (hc_i (fun z h9 k9 => k9)))
theorem b_X9_isDictator_34 {G : hk_G} {d cb sb : Nat} {h : hk_H} {Q : hk_O → hk_H → Prop} {s0 : Int32} {s1 : Int32} {o0 : Option Value} {o1 : Option Value} {o2 : Option Value} {o3 : Option Value} (kt : s0 = s1 → hk_S G m_X9_isDictator (d + 1) cb sb 39 [o0, o1, o2, o3] [] h Q) (kf : ¬ s0 = s1 → hk_S G m_X9_isDictator (d + 1) cb sb 37 [o0, o1, o2, o3] [] h Q) : hk_S G m_X9_isDictator (d + 1) cb sb 34 [o0, o1, o2, o3] [.int s1, .int s0] h Q := by
  exact hs_icmp_eq dX9_isDictator_34 (by decide) kt kf
theorem b_X9_isDictator_37 {G : hk_G} {d cb sb : Nat} {h : hk_H} {Q : hk_O → hk_H → Prop} {o0 : Option Value} {o1 : Option Value} {o2 : Option Value} {o3 : Option Value} (hq : Q (.inl (some (.int 0))) h) : hk_S G m_X9_isDictator (d + 1) cb sb 37 [o0, o1, o2, o3] [] h Q := by
  refine hs_iconst (v := 0) dX9_isDictator_37 (by decide) ?_
  exact hs_zret dX9_isDictator_38 rfl (by decide) hq
theorem b_X9_isDictator_39 {G : hk_G} {d cb sb : Nat} {h : hk_H} {Q : hk_O → hk_H → Prop} {x3 : Int32} {o0 : Option Value} {o1 : Option Value} {o2 : Option Value} (k : hk_S G m_X9_isDictator (d + 1) cb sb 2 [o0, o1, o2, some (.int (x3 + 1))] [] h Q) (ho2 : hk_c1 o2 := by first | exact hk_c1i | exact hk_c1r | exact hk_c10 | exact hk_c1n) : hk_S G m_X9_isDictator (d + 1) cb sb 39 [o0, o1, o2, some (.int x3)] [] h Q := by
  refine hs_iincK (v := 1) dX9_isDictator_39 rfl (by decide) (by decide) (hk_nk1 rfl ho2) rfl ?_
  refine hs_goto dX9_isDictator_42 (tgt := 2) (by decide) ?_
  exact k
theorem b_X9_isDictator_45 {G : hk_G} {d cb sb : Nat} {h : hk_H} {Q : hk_O → hk_H → Prop} {o0 : Option Value} {o1 : Option Value} {o2 : Option Value} {o3 : Option Value} (hq : Q (.inl (some (.int 1))) h) : hk_S G m_X9_isDictator (d + 1) cb sb 45 [o0, o1, o2, o3] [] h Q := by
  refine hs_iconst (v := 1) dX9_isDictator_45 (by decide) ?_
  exact hs_zret dX9_isDictator_46 rfl (by decide) hq
-- HonestHouse.paidByAll(LHonestHouse$Table;I)I
theorem b_X9_paidByAll_0 {G : hk_G} {d cb sb : Nat} {h : hk_H} {Q : hk_O → hk_H → Prop} {o0 : Option Value} {o1 : Option Value} {o2 : Option Value} {o3 : Option Value} {o4 : Option Value} (k : hk_S G m_X9_paidByAll (d + 1) cb sb 5 [o0, o1, o2, some (.int 0), some (.int 0)] [] h Q) (ho2 : hk_c1 o2 := by first | exact hk_c1i | exact hk_c1r | exact hk_c10 | exact hk_c1n) : hk_S G m_X9_paidByAll (d + 1) cb sb 0 [o0, o1, o2, o3, o4] [] h Q := by
  refine hs_iconst (v := 0) dX9_paidByAll_0 (by decide) ?_
  refine hs_istK_n dX9_paidByAll_1 (by decide) (hk_nk1 rfl ho2) rfl ?_
  refine hs_iconst (v := 0) dX9_paidByAll_2 (by decide) ?_
  refine hs_istK dX9_paidByAll_3 (by decide) (hk_nk1 rfl hk_c1i) rfl ?_
  exact k
theorem b_X9_paidByAll_5 {G : hk_G} {d cb sb : Nat} {h : hk_H} {Q : hk_O → hk_H → Prop} {x4 : Int32} {r0 : Nat} {fs1 : List Value} {v3 : Int32} {o1 : Option Value} {o2 : Option Value} {o3 : Option Value} (hg2 : h.2 r0 = some (.inr (9, fs1))) (hv4 : fs1[0]? = some (.int v3)) (kt : v3 ≤ x4 → hk_S G m_X9_paidByAll (d + 1) cb sb 30 [some (.ref r0), o1, o2, o3, some (.int x4)] [] h Q) (kf : ¬ v3 ≤ x4 → hk_S G m_X9_paidByAll (d + 1) cb sb 14 [some (.ref r0), o1, o2, o3, some (.int x4)] [] h Q) : hk_S G m_X9_paidByAll (d + 1) cb sb 5 [some (.ref r0), o1, o2, o3, some (.int x4)] [] h Q := by
  refine hs_iload dX9_paidByAll_5 rfl ?_
  refine hs_aload_n dX9_paidByAll_7 rfl ?_
  refine hs_get dX9_paidByAll_8 fl_X9_18_9 hg2 hv4 ?_
  exact hs_icmp_ge dX9_paidByAll_11 (by decide) kt kf
theorem b_X9_paidByAll_14 {G : hk_G} {d cb sb : Nat} {h : hk_H} {Q : hk_O → hk_H → Prop} {x3 : Int32} {r1 : Nat} {x2 : Int32} {x4 : Int32} {M' : hk_M} {ci_ : Nat} {fs_ : List Value} {o0 : Option Value} (hdis : hk_dis yX5_paymentAt ci_ M' 2) (hrec : h.2 r1 = some (.inr (ci_, fs_))) (hc : hk_Ci G M' d 0 0 [.ref r1, .int x2, .int x4] h (fun z h' => hk_S G m_X9_paidByAll (d + 1) cb sb 22 [o0, some (.ref r1), some (.int x2), some (.int x3), some (.int x4)] [.int z, .int x3] h' Q)) : hk_S G m_X9_paidByAll (d + 1) cb sb 14 [o0, some (.ref r1), some (.int x2), some (.int x3), some (.int x4)] [] h Q := by
  refine hs_iload_n dX9_paidByAll_14 rfl ?_
  refine hs_aload_n dX9_paidByAll_15 rfl ?_
  refine hs_iload_n dX9_paidByAll_16 rfl ?_
  refine hs_iload dX9_paidByAll_17 rfl ?_
  exact hk_z0 (hs_dis (x := yX5_paymentAt) (vs := [.int x2, .int x4]) (c1 := 0) (s1 := 0) dX9_paidByAll_19 wd_720 hdis hrec rfl (Nat.le_of_ble_eq_true rfl) hc hq_i (hc_i (fun z h9 k9 => k9)))
theorem b_X9_paidByAll_22 {G : hk_G} {d cb sb : Nat} {h : hk_H} {Q : hk_O → hk_H → Prop} {s0 : Int32} {s1 : Int32} {x4 : Int32} {o0 : Option Value} {o1 : Option Value} {o2 : Option Value} {o3 : Option Value} (k : hk_S G m_X9_paidByAll (d + 1) cb sb 5 [o0, o1, o2, some (.int (s0 + s1)), some (.int (x4 + 1))] [] h Q) (ho2 : hk_c1 o2 := by first | exact hk_c1i | exact hk_c1r | exact hk_c10 | exact hk_c1n) : hk_S G m_X9_paidByAll (d + 1) cb sb 22 [o0, o1, o2, o3, some (.int x4)] [.int s1, .int s0] h Q := by
  refine hs_iadd dX9_paidByAll_22 ?_
  refine hs_istK_n dX9_paidByAll_23 (by decide) (hk_nk1 rfl ho2) rfl ?_
  refine hs_iincK (v := 1) dX9_paidByAll_24 rfl (by decide) (by decide) (hk_nk1 rfl hk_c1i) rfl ?_
  refine hs_goto dX9_paidByAll_27 (tgt := 5) (by decide) ?_
  exact k
theorem b_X9_paidByAll_30 {G : hk_G} {d cb sb : Nat} {h : hk_H} {Q : hk_O → hk_H → Prop} {x3 : Int32} {o0 : Option Value} {o1 : Option Value} {o2 : Option Value} {o4 : Option Value} (hq : Q (.inl (some (.int x3))) h) : hk_S G m_X9_paidByAll (d + 1) cb sb 30 [o0, o1, o2, some (.int x3), o4] [] h Q := by
  refine hs_iload_n dX9_paidByAll_30 rfl ?_
  exact hs_iret dX9_paidByAll_31 rfl hq
-- HonestHouse.isSameAt(LHonestHouse$Table;LHonestHouse$Table;I)Z
theorem b_X9_isSameAt_0 {G : hk_G} {d cb sb : Nat} {h : hk_H} {Q : hk_O → hk_H → Prop} {r1 : Nat} {x3 : Int32} {M' : hk_M} {ci_ : Nat} {fs_ : List Value} {o0 : Option Value} {o2 : Option Value} {o4 : Option Value} (hdis : hk_dis yX5_endAt ci_ M' 1) (hrec : h.2 r1 = some (.inr (ci_, fs_))) (hc : hk_Ci G M' d 0 0 [.ref r1, .int x3] h (fun z h' => hk_S G m_X9_isSameAt (d + 1) cb sb 5 [o0, some (.ref r1), o2, some (.int x3), o4] [.int z] h' Q)) : hk_S G m_X9_isSameAt (d + 1) cb sb 0 [o0, some (.ref r1), o2, some (.int x3), o4] [] h Q := by
  refine hs_aload_n dX9_isSameAt_0 rfl ?_
  refine hs_iload_n dX9_isSameAt_1 rfl ?_
  exact hk_z0 (hs_dis (x := yX5_endAt) (vs := [.int x3]) (c1 := 0) (s1 := 0) dX9_isSameAt_2 wd_479 hdis hrec rfl (Nat.le_of_ble_eq_true rfl) hc hq_i (hc_i (fun z h9 k9 => k9)))
theorem b_X9_isSameAt_5 {G : hk_G} {d cb sb : Nat} {h : hk_H} {Q : hk_O → hk_H → Prop} {s0 : Int32} {r2 : Nat} {x3 : Int32} {M' : hk_M} {ci_ : Nat} {fs_ : List Value} {o0 : Option Value} {o1 : Option Value} {o4 : Option Value} (hdis : hk_dis yX5_endAt ci_ M' 1) (hrec : h.2 r2 = some (.inr (ci_, fs_))) (hc : hk_Ci G M' d 0 0 [.ref r2, .int x3] h (fun z h' => hk_S G m_X9_isSameAt (d + 1) cb sb 10 [o0, o1, some (.ref r2), some (.int x3), o4] [.int z, .int s0] h' Q)) : hk_S G m_X9_isSameAt (d + 1) cb sb 5 [o0, o1, some (.ref r2), some (.int x3), o4] [.int s0] h Q := by
  refine hs_aload_n dX9_isSameAt_5 rfl ?_
  refine hs_iload_n dX9_isSameAt_6 rfl ?_
  exact hk_z0 (hs_dis (x := yX5_endAt) (vs := [.int x3]) (c1 := 0) (s1 := 0) dX9_isSameAt_7 wd_479 hdis hrec rfl (Nat.le_of_ble_eq_true rfl) hc hq_i (hc_i (fun z h9 k9 => k9)))
theorem b_X9_isSameAt_10 {G : hk_G} {d cb sb : Nat} {h : hk_H} {Q : hk_O → hk_H → Prop} {s0 : Int32} {s1 : Int32} {o0 : Option Value} {o1 : Option Value} {o2 : Option Value} {o3 : Option Value} {o4 : Option Value} (kt : s0 = s1 → hk_S G m_X9_isSameAt (d + 1) cb sb 15 [o0, o1, o2, o3, o4] [] h Q) (kf : ¬ s0 = s1 → hk_S G m_X9_isSameAt (d + 1) cb sb 13 [o0, o1, o2, o3, o4] [] h Q) : hk_S G m_X9_isSameAt (d + 1) cb sb 10 [o0, o1, o2, o3, o4] [.int s1, .int s0] h Q := by
  exact hs_icmp_eq dX9_isSameAt_10 (by decide) kt kf
theorem b_X9_isSameAt_13 {G : hk_G} {d cb sb : Nat} {h : hk_H} {Q : hk_O → hk_H → Prop} {o0 : Option Value} {o1 : Option Value} {o2 : Option Value} {o3 : Option Value} {o4 : Option Value} (hq : Q (.inl (some (.int 0))) h) : hk_S G m_X9_isSameAt (d + 1) cb sb 13 [o0, o1, o2, o3, o4] [] h Q := by
  refine hs_iconst (v := 0) dX9_isSameAt_13 (by decide) ?_
  exact hs_zret dX9_isSameAt_14 rfl (by decide) hq
theorem b_X9_isSameAt_15 {G : hk_G} {d cb sb : Nat} {h : hk_H} {Q : hk_O → hk_H → Prop} {o0 : Option Value} {o1 : Option Value} {o2 : Option Value} {o3 : Option Value} {o4 : Option Value} (k : hk_S G m_X9_isSameAt (d + 1) cb sb 18 [o0, o1, o2, o3, some (.int 0)] [] h Q) (ho3 : hk_c1 o3 := by first | exact hk_c1i | exact hk_c1r | exact hk_c10 | exact hk_c1n) : hk_S G m_X9_isSameAt (d + 1) cb sb 15 [o0, o1, o2, o3, o4] [] h Q := by
  refine hs_iconst (v := 0) dX9_isSameAt_15 (by decide) ?_
  refine hs_istK dX9_isSameAt_16 (by decide) (hk_nk1 rfl ho3) rfl ?_
  exact k
theorem b_X9_isSameAt_18 {G : hk_G} {d cb sb : Nat} {h : hk_H} {Q : hk_O → hk_H → Prop} {x4 : Int32} {r0 : Nat} {fs1 : List Value} {v3 : Int32} {o1 : Option Value} {o2 : Option Value} {o3 : Option Value} (hg2 : h.2 r0 = some (.inr (9, fs1))) (hv4 : fs1[0]? = some (.int v3)) (kt : v3 ≤ x4 → hk_S G m_X9_isSameAt (d + 1) cb sb 52 [some (.ref r0), o1, o2, o3, some (.int x4)] [] h Q) (kf : ¬ v3 ≤ x4 → hk_S G m_X9_isSameAt (d + 1) cb sb 27 [some (.ref r0), o1, o2, o3, some (.int x4)] [] h Q) : hk_S G m_X9_isSameAt (d + 1) cb sb 18 [some (.ref r0), o1, o2, o3, some (.int x4)] [] h Q := by
  refine hs_iload dX9_isSameAt_18 rfl ?_
  refine hs_aload_n dX9_isSameAt_20 rfl ?_
  refine hs_get dX9_isSameAt_21 fl_X9_18_9 hg2 hv4 ?_
  exact hs_icmp_ge dX9_isSameAt_24 (by decide) kt kf
theorem b_X9_isSameAt_27 {G : hk_G} {d cb sb : Nat} {h : hk_H} {Q : hk_O → hk_H → Prop} {r1 : Nat} {x3 : Int32} {x4 : Int32} {M' : hk_M} {ci_ : Nat} {fs_ : List Value} {o0 : Option Value} {o2 : Option Value} (hdis : hk_dis yX5_paymentAt ci_ M' 2) (hrec : h.2 r1 = some (.inr (ci_, fs_))) (hc : hk_Ci G M' d 0 0 [.ref r1, .int x3, .int x4] h (fun z h' => hk_S G m_X9_isSameAt (d + 1) cb sb 34 [o0, some (.ref r1), o2, some (.int x3), some (.int x4)] [.int z] h' Q)) : hk_S G m_X9_isSameAt (d + 1) cb sb 27 [o0, some (.ref r1), o2, some (.int x3), some (.int x4)] [] h Q := by
  refine hs_aload_n dX9_isSameAt_27 rfl ?_
  refine hs_iload_n dX9_isSameAt_28 rfl ?_
  refine hs_iload dX9_isSameAt_29 rfl ?_
  exact hk_z0 (hs_dis (x := yX5_paymentAt) (vs := [.int x3, .int x4]) (c1 := 0) (s1 := 0) dX9_isSameAt_31 wd_720 hdis hrec rfl (Nat.le_of_ble_eq_true rfl) hc hq_i (hc_i (fun z h9 k9 => k9)))
theorem b_X9_isSameAt_34 {G : hk_G} {d cb sb : Nat} {h : hk_H} {Q : hk_O → hk_H → Prop} {s0 : Int32} {r2 : Nat} {x3 : Int32} {x4 : Int32} {M' : hk_M} {ci_ : Nat} {fs_ : List Value} {o0 : Option Value} {o1 : Option Value} (hdis : hk_dis yX5_paymentAt ci_ M' 2) (hrec : h.2 r2 = some (.inr (ci_, fs_))) (hc : hk_Ci G M' d 0 0 [.ref r2, .int x3, .int x4] h (fun z h' => hk_S G m_X9_isSameAt (d + 1) cb sb 41 [o0, o1, some (.ref r2), some (.int x3), some (.int x4)] [.int z, .int s0] h' Q)) : hk_S G m_X9_isSameAt (d + 1) cb sb 34 [o0, o1, some (.ref r2), some (.int x3), some (.int x4)] [.int s0] h Q := by
  refine hs_aload_n dX9_isSameAt_34 rfl ?_
  refine hs_iload_n dX9_isSameAt_35 rfl ?_
  refine hs_iload dX9_isSameAt_36 rfl ?_
  exact hk_z0 (hs_dis (x := yX5_paymentAt) (vs := [.int x3, .int x4]) (c1 := 0) (s1 := 0) dX9_isSameAt_38 wd_720 hdis hrec rfl (Nat.le_of_ble_eq_true rfl) hc hq_i (hc_i (fun z h9 k9 => k9)))
theorem b_X9_isSameAt_41 {G : hk_G} {d cb sb : Nat} {h : hk_H} {Q : hk_O → hk_H → Prop} {s0 : Int32} {s1 : Int32} {o0 : Option Value} {o1 : Option Value} {o2 : Option Value} {o3 : Option Value} {o4 : Option Value} (kt : s0 = s1 → hk_S G m_X9_isSameAt (d + 1) cb sb 46 [o0, o1, o2, o3, o4] [] h Q) (kf : ¬ s0 = s1 → hk_S G m_X9_isSameAt (d + 1) cb sb 44 [o0, o1, o2, o3, o4] [] h Q) : hk_S G m_X9_isSameAt (d + 1) cb sb 41 [o0, o1, o2, o3, o4] [.int s1, .int s0] h Q := by
  exact hs_icmp_eq dX9_isSameAt_41 (by decide) kt kf
theorem b_X9_isSameAt_44 {G : hk_G} {d cb sb : Nat} {h : hk_H} {Q : hk_O → hk_H → Prop} {o0 : Option Value} {o1 : Option Value} {o2 : Option Value} {o3 : Option Value} {o4 : Option Value} (hq : Q (.inl (some (.int 0))) h) : hk_S G m_X9_isSameAt (d + 1) cb sb 44 [o0, o1, o2, o3, o4] [] h Q := by
  refine hs_iconst (v := 0) dX9_isSameAt_44 (by decide) ?_
  exact hs_zret dX9_isSameAt_45 rfl (by decide) hq
theorem b_X9_isSameAt_46 {G : hk_G} {d cb sb : Nat} {h : hk_H} {Q : hk_O → hk_H → Prop} {x4 : Int32} {o0 : Option Value} {o1 : Option Value} {o2 : Option Value} {o3 : Option Value} (k : hk_S G m_X9_isSameAt (d + 1) cb sb 18 [o0, o1, o2, o3, some (.int (x4 + 1))] [] h Q) (ho3 : hk_c1 o3 := by first | exact hk_c1i | exact hk_c1r | exact hk_c10 | exact hk_c1n) : hk_S G m_X9_isSameAt (d + 1) cb sb 46 [o0, o1, o2, o3, some (.int x4)] [] h Q := by
  refine hs_iincK (v := 1) dX9_isSameAt_46 rfl (by decide) (by decide) (hk_nk1 rfl ho3) rfl ?_
  refine hs_goto dX9_isSameAt_49 (tgt := 18) (by decide) ?_
  exact k
theorem b_X9_isSameAt_52 {G : hk_G} {d cb sb : Nat} {h : hk_H} {Q : hk_O → hk_H → Prop} {o0 : Option Value} {o1 : Option Value} {o2 : Option Value} {o3 : Option Value} {o4 : Option Value} (hq : Q (.inl (some (.int 1))) h) : hk_S G m_X9_isSameAt (d + 1) cb sb 52 [o0, o1, o2, o3, o4] [] h Q := by
  refine hs_iconst (v := 1) dX9_isSameAt_52 (by decide) ?_
  exact hs_zret dX9_isSameAt_53 rfl (by decide) hq
-- HonestHouse.isFairAt(LHonestHouse$Table;I)Z
theorem b_X9_isFairAt_0 {G : hk_G} {d cb sb : Nat} {h : hk_H} {Q : hk_O → hk_H → Prop} {r1 : Nat} {x2 : Int32} {M' : hk_M} {ci_ : Nat} {fs_ : List Value} {o0 : Option Value} {o3 : Option Value} {o4 : Option Value} {o5 : Option Value} {o6 : Option Value} {o7 : Option Value} (hdis : hk_dis yX5_endAt ci_ M' 1) (hrec : h.2 r1 = some (.inr (ci_, fs_))) (hc : hk_Ci G M' d 0 0 [.ref r1, .int x2] h (fun z h' => hk_S G m_X9_isFairAt (d + 1) cb sb 5 [o0, some (.ref r1), some (.int x2), o3, o4, o5, o6, o7] [.int z] h' Q)) : hk_S G m_X9_isFairAt (d + 1) cb sb 0 [o0, some (.ref r1), some (.int x2), o3, o4, o5, o6, o7] [] h Q := by
  refine hs_aload_n dX9_isFairAt_0 rfl ?_
  refine hs_iload_n dX9_isFairAt_1 rfl ?_
  exact hk_z0 (hs_dis (x := yX5_endAt) (vs := [.int x2]) (c1 := 0) (s1 := 0) dX9_isFairAt_2 wd_479 hdis hrec rfl (Nat.le_of_ble_eq_true rfl) hc hq_i (hc_i (fun z h9 k9 => k9)))
theorem b_X9_isFairAt_5 {G : hk_G} {d cb sb : Nat} {h : hk_H} {Q : hk_O → hk_H → Prop} {s0 : Int32} {o0 : Option Value} {o1 : Option Value} {o2 : Option Value} {o3 : Option Value} {o4 : Option Value} {o5 : Option Value} {o6 : Option Value} {o7 : Option Value} (k : hk_S G m_X9_isFairAt (d + 1) cb sb 9 [o0, o1, o2, some (.int s0), some (.int 0), o5, o6, o7] [] h Q) (ho2 : hk_c1 o2 := by first | exact hk_c1i | exact hk_c1r | exact hk_c10 | exact hk_c1n) : hk_S G m_X9_isFairAt (d + 1) cb sb 5 [o0, o1, o2, o3, o4, o5, o6, o7] [.int s0] h Q := by
  refine hs_istK_n dX9_isFairAt_5 (by decide) (hk_nk1 rfl ho2) rfl ?_
  refine hs_iconst (v := 0) dX9_isFairAt_6 (by decide) ?_
  refine hs_istK dX9_isFairAt_7 (by decide) (hk_nk1 rfl hk_c1i) rfl ?_
  exact k
theorem b_X9_isFairAt_9 {G : hk_G} {d cb sb : Nat} {h : hk_H} {Q : hk_O → hk_H → Prop} {x4 : Int32} {r0 : Nat} {fs1 : List Value} {v3 : Int32} {o1 : Option Value} {o2 : Option Value} {o3 : Option Value} {o5 : Option Value} {o6 : Option Value} {o7 : Option Value} (hg2 : h.2 r0 = some (.inr (9, fs1))) (hv4 : fs1[0]? = some (.int v3)) (kt : v3 ≤ (x4 + 1) → hk_S G m_X9_isFairAt (d + 1) cb sb 91 [some (.ref r0), o1, o2, o3, some (.int x4), o5, o6, o7] [] h Q) (kf : ¬ v3 ≤ (x4 + 1) → hk_S G m_X9_isFairAt (d + 1) cb sb 20 [some (.ref r0), o1, o2, o3, some (.int x4), o5, o6, o7] [] h Q) : hk_S G m_X9_isFairAt (d + 1) cb sb 9 [some (.ref r0), o1, o2, o3, some (.int x4), o5, o6, o7] [] h Q := by
  refine hs_iload dX9_isFairAt_9 rfl ?_
  refine hs_iconst (v := 1) dX9_isFairAt_11 (by decide) ?_
  refine hs_iadd dX9_isFairAt_12 ?_
  refine hs_aload_n dX9_isFairAt_13 rfl ?_
  refine hs_get dX9_isFairAt_14 fl_X9_18_9 hg2 hv4 ?_
  exact hs_icmp_ge dX9_isFairAt_17 (by decide) kt kf
theorem b_X9_isFairAt_20 {G : hk_G} {d cb sb : Nat} {h : hk_H} {Q : hk_O → hk_H → Prop} {r0 : Nat} {fs1 : List Value} {v3 : Nat} {x2 : Int32} {x4 : Int32} {fs_ : List Value} {o1 : Option Value} {o3 : Option Value} {o5 : Option Value} {o6 : Option Value} {o7 : Option Value} (hg2 : h.2 r0 = some (.inr (9, fs1))) (hv4 : fs1[2]? = some (.ref v3)) (hrec : h.2 v3 = some (.inr (8, fs_))) (hc : hk_Ci G m_X8_wishIn d 0 0 [.ref v3, .int x2, .int x4] h (fun z h' => hk_S G m_X9_isFairAt (d + 1) cb sb 30 [some (.ref r0), o1, some (.int x2), o3, some (.int x4), o5, o6, o7] [.int z] h' Q)) : hk_S G m_X9_isFairAt (d + 1) cb sb 20 [some (.ref r0), o1, some (.int x2), o3, some (.int x4), o5, o6, o7] [] h Q := by
  refine hs_aload_n dX9_isFairAt_20 rfl ?_
  refine hs_get dX9_isFairAt_21 fl_X9_27_9 hg2 hv4 ?_
  refine hs_iload_n dX9_isFairAt_24 rfl ?_
  refine hs_iload dX9_isFairAt_25 rfl ?_
  exact hk_z0 (hs_vir (M' := m_X8_wishIn) (vs := [.int x2, .int x4]) (c1 := 0) (s1 := 0) dX9_isFairAt_27 wd_508 vi_X8_wishIn hrec rfl (Nat.le_of_ble_eq_true rfl) hc hq_i (hc_i (fun z h9 k9 => k9)))
theorem b_X9_isFairAt_30 {G : hk_G} {d cb sb : Nat} {h : hk_H} {Q : hk_O → hk_H → Prop} {s0 : Int32} {r0 : Nat} {fs1 : List Value} {v3 : Nat} {x2 : Int32} {x4 : Int32} {fs_ : List Value} {o1 : Option Value} {o3 : Option Value} {o5 : Option Value} {o6 : Option Value} {o7 : Option Value} (hg2 : h.2 r0 = some (.inr (9, fs1))) (hv4 : fs1[2]? = some (.ref v3)) (hrec : h.2 v3 = some (.inr (8, fs_))) (hc : hk_Ci G m_X8_wishIn d 0 0 [.ref v3, .int x2, .int (x4 + 1)] h (fun z h' => hk_S G m_X9_isFairAt (d + 1) cb sb 44 [some (.ref r0), o1, some (.int x2), o3, some (.int x4), some (.int s0), o6, o7] [.int z] h' Q)) : hk_S G m_X9_isFairAt (d + 1) cb sb 30 [some (.ref r0), o1, some (.int x2), o3, some (.int x4), o5, o6, o7] [.int s0] h Q := by
  refine hs_istK dX9_isFairAt_30 (by decide) (hk_nk1 rfl hk_c1i) rfl ?_
  refine hs_aload_n dX9_isFairAt_32 rfl ?_
  refine hs_get dX9_isFairAt_33 fl_X9_27_9 hg2 hv4 ?_
  refine hs_iload_n dX9_isFairAt_36 rfl ?_
  refine hs_iload dX9_isFairAt_37 rfl ?_
  refine hs_iconst (v := 1) dX9_isFairAt_39 (by decide) ?_
  refine hs_iadd dX9_isFairAt_40 ?_
  exact hk_z0 (hs_vir (M' := m_X8_wishIn) (vs := [.int x2, .int (x4 + 1)]) (c1 := 0) (s1 := 0) dX9_isFairAt_41 wd_508 vi_X8_wishIn hrec rfl (Nat.le_of_ble_eq_true rfl) hc hq_i (hc_i (fun z h9 k9 => k9)))
theorem b_X9_isFairAt_44 {G : hk_G} {d cb sb : Nat} {h : hk_H} {Q : hk_O → hk_H → Prop} {s0 : Int32} {r0 : Nat} {fs1 : List Value} {v3 : Nat} {x2 : Int32} {x4 : Int32} {fs_ : List Value} {o1 : Option Value} {o3 : Option Value} {o5 : Option Value} {o6 : Option Value} {o7 : Option Value} (hg2 : h.2 r0 = some (.inr (9, fs1))) (hv4 : fs1[2]? = some (.ref v3)) (hrec : h.2 v3 = some (.inr (8, fs_))) (hc : hk_Ci G m_X8_rowSaying d 0 0 [.ref v3, .int x2, .int x4, .int s0] h (fun z h' => hk_S G m_X9_isFairAt (d + 1) cb sb 58 [some (.ref r0), o1, some (.int x2), o3, some (.int x4), o5, some (.int s0), o7] [.int z] h' Q)) (ho5 : hk_c1 o5 := by first | exact hk_c1i | exact hk_c1r | exact hk_c10 | exact hk_c1n) : hk_S G m_X9_isFairAt (d + 1) cb sb 44 [some (.ref r0), o1, some (.int x2), o3, some (.int x4), o5, o6, o7] [.int s0] h Q := by
  refine hs_istK dX9_isFairAt_44 (by decide) (hk_nk1 rfl ho5) rfl ?_
  refine hs_aload_n dX9_isFairAt_46 rfl ?_
  refine hs_get dX9_isFairAt_47 fl_X9_27_9 hg2 hv4 ?_
  refine hs_iload_n dX9_isFairAt_50 rfl ?_
  refine hs_iload dX9_isFairAt_51 rfl ?_
  refine hs_iload dX9_isFairAt_53 rfl ?_
  exact hk_z0 (hs_vir (M' := m_X8_rowSaying) (vs := [.int x2, .int x4, .int s0]) (c1 := 0) (s1 := 0) dX9_isFairAt_55 wd_491 vi_X8_rowSaying hrec rfl (Nat.le_of_ble_eq_true rfl) hc hq_i (hc_i (fun z h9 k9 => k9)))
theorem b_X9_isFairAt_58 {G : hk_G} {d cb sb : Nat} {h : hk_H} {Q : hk_O → hk_H → Prop} {s0 : Int32} {r1 : Nat} {r0 : Nat} {fs1 : List Value} {v3 : Nat} {x4 : Int32} {x5 : Int32} {fs_ : List Value} {o2 : Option Value} {o3 : Option Value} {o6 : Option Value} {o7 : Option Value} (hg2 : h.2 r0 = some (.inr (9, fs1))) (hv4 : fs1[2]? = some (.ref v3)) (hrec : h.2 v3 = some (.inr (8, fs_))) (hc : hk_Ci G m_X8_rowSaying d 0 0 [.ref v3, .int s0, .int (x4 + 1), .int x5] h (fun z h' => hk_S G m_X9_isFairAt (d + 1) cb sb 76 [some (.ref r0), some (.ref r1), o2, o3, some (.int x4), some (.int x5), o6, some (.int s0)] [.int z, .ref r1] h' Q)) (ho6 : hk_c1 o6 := by first | exact hk_c1i | exact hk_c1r | exact hk_c10 | exact hk_c1n) : hk_S G m_X9_isFairAt (d + 1) cb sb 58 [some (.ref r0), some (.ref r1), o2, o3, some (.int x4), some (.int x5), o6, o7] [.int s0] h Q := by
  refine hs_istK dX9_isFairAt_58 (by decide) (hk_nk1 rfl ho6) rfl ?_
  refine hs_aload_n dX9_isFairAt_60 rfl ?_
  refine hs_aload_n dX9_isFairAt_61 rfl ?_
  refine hs_get dX9_isFairAt_62 fl_X9_27_9 hg2 hv4 ?_
  refine hs_iload dX9_isFairAt_65 rfl ?_
  refine hs_iload dX9_isFairAt_67 rfl ?_
  refine hs_iconst (v := 1) dX9_isFairAt_69 (by decide) ?_
  refine hs_iadd dX9_isFairAt_70 ?_
  refine hs_iload dX9_isFairAt_71 rfl ?_
  exact hk_z0 (hs_vir (M' := m_X8_rowSaying) (vs := [.int s0, .int (x4 + 1), .int x5]) (c1 := 0) (s1 := 0) dX9_isFairAt_73 wd_491 vi_X8_rowSaying hrec rfl (Nat.le_of_ble_eq_true rfl) hc hq_i (hc_i (fun z h9 k9 => k9)))
theorem b_X9_isFairAt_76 {G : hk_G} {d cb sb : Nat} {h : hk_H} {Q : hk_O → hk_H → Prop} {s0 : Nat} {s1 : Int32} {M' : hk_M} {ci_ : Nat} {fs_ : List Value} {o0 : Option Value} {o1 : Option Value} {o2 : Option Value} {o3 : Option Value} {o4 : Option Value} {o5 : Option Value} {o6 : Option Value} {o7 : Option Value} (hdis : hk_dis yX5_endAt ci_ M' 1) (hrec : h.2 s0 = some (.inr (ci_, fs_))) (hc : hk_Ci G M' d 0 0 [.ref s0, .int s1] h (fun z h' => hk_S G m_X9_isFairAt (d + 1) cb sb 79 [o0, o1, o2, o3, o4, o5, o6, o7] [.int z] h' Q)) : hk_S G m_X9_isFairAt (d + 1) cb sb 76 [o0, o1, o2, o3, o4, o5, o6, o7] [.int s1, .ref s0] h Q := by
  exact hk_z0 (hs_dis (x := yX5_endAt) (vs := [.int s1]) (c1 := 0) (s1 := 0) dX9_isFairAt_76 wd_479 hdis hrec rfl (Nat.le_of_ble_eq_true rfl) hc hq_i (hc_i (fun z h9 k9 => k9)))
theorem b_X9_isFairAt_79 {G : hk_G} {d cb sb : Nat} {h : hk_H} {Q : hk_O → hk_H → Prop} {s0 : Int32} {x3 : Int32} {o0 : Option Value} {o1 : Option Value} {o2 : Option Value} {o4 : Option Value} {o5 : Option Value} {o6 : Option Value} {o7 : Option Value} (kt : s0 = x3 → hk_S G m_X9_isFairAt (d + 1) cb sb 85 [o0, o1, o2, some (.int x3), o4, o5, o6, o7] [] h Q) (kf : ¬ s0 = x3 → hk_S G m_X9_isFairAt (d + 1) cb sb 83 [o0, o1, o2, some (.int x3), o4, o5, o6, o7] [] h Q) : hk_S G m_X9_isFairAt (d + 1) cb sb 79 [o0, o1, o2, some (.int x3), o4, o5, o6, o7] [.int s0] h Q := by
  refine hs_iload_n dX9_isFairAt_79 rfl ?_
  exact hs_icmp_eq dX9_isFairAt_80 (by decide) kt kf
theorem b_X9_isFairAt_83 {G : hk_G} {d cb sb : Nat} {h : hk_H} {Q : hk_O → hk_H → Prop} {o0 : Option Value} {o1 : Option Value} {o2 : Option Value} {o3 : Option Value} {o4 : Option Value} {o5 : Option Value} {o6 : Option Value} {o7 : Option Value} (hq : Q (.inl (some (.int 0))) h) : hk_S G m_X9_isFairAt (d + 1) cb sb 83 [o0, o1, o2, o3, o4, o5, o6, o7] [] h Q := by
  refine hs_iconst (v := 0) dX9_isFairAt_83 (by decide) ?_
  exact hs_zret dX9_isFairAt_84 rfl (by decide) hq
theorem b_X9_isFairAt_85 {G : hk_G} {d cb sb : Nat} {h : hk_H} {Q : hk_O → hk_H → Prop} {x4 : Int32} {o0 : Option Value} {o1 : Option Value} {o2 : Option Value} {o3 : Option Value} {o5 : Option Value} {o6 : Option Value} {o7 : Option Value} (k : hk_S G m_X9_isFairAt (d + 1) cb sb 9 [o0, o1, o2, o3, some (.int (x4 + 1)), o5, o6, o7] [] h Q) (ho3 : hk_c1 o3 := by first | exact hk_c1i | exact hk_c1r | exact hk_c10 | exact hk_c1n) : hk_S G m_X9_isFairAt (d + 1) cb sb 85 [o0, o1, o2, o3, some (.int x4), o5, o6, o7] [] h Q := by
  refine hs_iincK (v := 1) dX9_isFairAt_85 rfl (by decide) (by decide) (hk_nk1 rfl ho3) rfl ?_
  refine hs_goto dX9_isFairAt_88 (tgt := 9) (by decide) ?_
  exact k
theorem b_X9_isFairAt_91 {G : hk_G} {d cb sb : Nat} {h : hk_H} {Q : hk_O → hk_H → Prop} {o0 : Option Value} {o1 : Option Value} {o2 : Option Value} {o3 : Option Value} {o4 : Option Value} {o5 : Option Value} {o6 : Option Value} {o7 : Option Value} (hq : Q (.inl (some (.int 1))) h) : hk_S G m_X9_isFairAt (d + 1) cb sb 91 [o0, o1, o2, o3, o4, o5, o6, o7] [] h Q := by
  refine hs_iconst (v := 1) dX9_isFairAt_91 (by decide) ?_
  exact hs_zret dX9_isFairAt_92 rfl (by decide) hq
-- HonestHouse.firstRound(LHonestHouse$Table;I)I
theorem b_X9_firstRound_0 {G : hk_G} {d cb sb : Nat} {h : hk_H} {Q : hk_O → hk_H → Prop} {o0 : Option Value} {o1 : Option Value} {o2 : Option Value} {o3 : Option Value} {o4 : Option Value} (k : hk_S G m_X9_firstRound (d + 1) cb sb 2 [o0, o1, o2, some (.int 0), o4] [] h Q) (ho2 : hk_c1 o2 := by first | exact hk_c1i | exact hk_c1r | exact hk_c10 | exact hk_c1n) : hk_S G m_X9_firstRound (d + 1) cb sb 0 [o0, o1, o2, o3, o4] [] h Q := by
  refine hs_iconst (v := 0) dX9_firstRound_0 (by decide) ?_
  refine hs_istK_n dX9_firstRound_1 (by decide) (hk_nk1 rfl ho2) rfl ?_
  exact k
theorem b_X9_firstRound_2 {G : hk_G} {d cb sb : Nat} {h : hk_H} {Q : hk_O → hk_H → Prop} {x3 : Int32} {r0 : Nat} {fs1 : List Value} {v3 : Int32} {o1 : Option Value} {o2 : Option Value} {o4 : Option Value} (hg2 : h.2 r0 = some (.inr (9, fs1))) (hv4 : fs1[0]? = some (.int v3)) (kt : v3 ≤ x3 → hk_S G m_X9_firstRound (d + 1) cb sb 70 [some (.ref r0), o1, o2, some (.int x3), o4] [] h Q) (kf : ¬ v3 ≤ x3 → hk_S G m_X9_firstRound (d + 1) cb sb 10 [some (.ref r0), o1, o2, some (.int x3), o4] [] h Q) : hk_S G m_X9_firstRound (d + 1) cb sb 2 [some (.ref r0), o1, o2, some (.int x3), o4] [] h Q := by
  refine hs_iload_n dX9_firstRound_2 rfl ?_
  refine hs_aload_n dX9_firstRound_3 rfl ?_
  refine hs_get dX9_firstRound_4 fl_X9_18_9 hg2 hv4 ?_
  exact hs_icmp_ge dX9_firstRound_7 (by decide) kt kf
theorem b_X9_firstRound_10 {G : hk_G} {d cb sb : Nat} {h : hk_H} {Q : hk_O → hk_H → Prop} {o0 : Option Value} {o1 : Option Value} {o2 : Option Value} {o3 : Option Value} {o4 : Option Value} (k : hk_S G m_X9_firstRound (d + 1) cb sb 13 [o0, o1, o2, o3, some (.int 0)] [] h Q) (ho3 : hk_c1 o3 := by first | exact hk_c1i | exact hk_c1r | exact hk_c10 | exact hk_c1n) : hk_S G m_X9_firstRound (d + 1) cb sb 10 [o0, o1, o2, o3, o4] [] h Q := by
  refine hs_iconst (v := 0) dX9_firstRound_10 (by decide) ?_
  refine hs_istK dX9_firstRound_11 (by decide) (hk_nk1 rfl ho3) rfl ?_
  exact k
theorem b_X9_firstRound_13 {G : hk_G} {d cb sb : Nat} {h : hk_H} {Q : hk_O → hk_H → Prop} {x4 : Int32} {r0 : Nat} {fs1 : List Value} {v3 : Nat} {fs5 : List Value} {v7 : Int32} {o1 : Option Value} {o2 : Option Value} {o3 : Option Value} (hg2 : h.2 r0 = some (.inr (9, fs1))) (hv4 : fs1[2]? = some (.ref v3)) (hg6 : h.2 v3 = some (.inr (8, fs5))) (hv8 : fs5[5]? = some (.int v7)) (kt : v7 ≤ x4 → hk_S G m_X9_firstRound (d + 1) cb sb 64 [some (.ref r0), o1, o2, o3, some (.int x4)] [] h Q) (kf : ¬ v7 ≤ x4 → hk_S G m_X9_firstRound (d + 1) cb sb 25 [some (.ref r0), o1, o2, o3, some (.int x4)] [] h Q) : hk_S G m_X9_firstRound (d + 1) cb sb 13 [some (.ref r0), o1, o2, o3, some (.int x4)] [] h Q := by
  refine hs_iload dX9_firstRound_13 rfl ?_
  refine hs_aload_n dX9_firstRound_15 rfl ?_
  refine hs_get dX9_firstRound_16 fl_X9_27_9 hg2 hv4 ?_
  refine hs_get dX9_firstRound_19 fl_X9_162_8 hg6 hv8 ?_
  exact hs_icmp_ge dX9_firstRound_22 (by decide) kt kf
theorem b_X9_firstRound_25 {G : hk_G} {d cb sb : Nat} {h : hk_H} {Q : hk_O → hk_H → Prop} {r0 : Nat} {fs1 : List Value} {v3 : Nat} {x4 : Int32} {x3 : Int32} {fs_ : List Value} {o1 : Option Value} {o2 : Option Value} (hg2 : h.2 r0 = some (.inr (9, fs1))) (hv4 : fs1[2]? = some (.ref v3)) (hrec : h.2 v3 = some (.inr (8, fs_))) (hc : hk_Ci G m_X8_wishIn d 0 0 [.ref v3, .int x4, .int x3] h (fun z h' => hk_S G m_X9_firstRound (d + 1) cb sb 35 [some (.ref r0), o1, o2, some (.int x3), some (.int x4)] [.int z] h' Q)) : hk_S G m_X9_firstRound (d + 1) cb sb 25 [some (.ref r0), o1, o2, some (.int x3), some (.int x4)] [] h Q := by
  refine hs_aload_n dX9_firstRound_25 rfl ?_
  refine hs_get dX9_firstRound_26 fl_X9_27_9 hg2 hv4 ?_
  refine hs_iload dX9_firstRound_29 rfl ?_
  refine hs_iload_n dX9_firstRound_31 rfl ?_
  exact hk_z0 (hs_vir (M' := m_X8_wishIn) (vs := [.int x4, .int x3]) (c1 := 0) (s1 := 0) dX9_firstRound_32 wd_508 vi_X8_wishIn hrec rfl (Nat.le_of_ble_eq_true rfl) hc hq_i (hc_i (fun z h9 k9 => k9)))
theorem b_X9_firstRound_35 {G : hk_G} {d cb sb : Nat} {h : hk_H} {Q : hk_O → hk_H → Prop} {s0 : Int32} {o0 : Option Value} {o1 : Option Value} {o2 : Option Value} {o3 : Option Value} {o4 : Option Value} (kt : ¬ s0 = 0 → hk_S G m_X9_firstRound (d + 1) cb sb 58 [o0, o1, o2, o3, o4] [] h Q) (kf : s0 = 0 → hk_S G m_X9_firstRound (d + 1) cb sb 38 [o0, o1, o2, o3, o4] [] h Q) : hk_S G m_X9_firstRound (d + 1) cb sb 35 [o0, o1, o2, o3, o4] [.int s0] h Q := by
  exact hs_if_ne dX9_firstRound_35 (by decide) kt kf
theorem b_X9_firstRound_38 {G : hk_G} {d cb sb : Nat} {h : hk_H} {Q : hk_O → hk_H → Prop} {r0 : Nat} {r1 : Nat} {x4 : Int32} {x3 : Int32} {fs_ : List Value} {o2 : Option Value} (hrec : h.2 r0 = some (.inr (9, fs_))) (hc : hk_Ci G m_X9_isRoundAt d 0 0 [.ref r0, .ref r1, .int x4, .int x3] h (fun z h' => hk_S G m_X9_firstRound (d + 1) cb sb 46 [some (.ref r0), some (.ref r1), o2, some (.int x3), some (.int x4)] [.int z] h' Q)) : hk_S G m_X9_firstRound (d + 1) cb sb 38 [some (.ref r0), some (.ref r1), o2, some (.int x3), some (.int x4)] [] h Q := by
  refine hs_aload_n dX9_firstRound_38 rfl ?_
  refine hs_aload_n dX9_firstRound_39 rfl ?_
  refine hs_iload dX9_firstRound_40 rfl ?_
  refine hs_iload_n dX9_firstRound_42 rfl ?_
  exact hk_z0 (hs_vir (M' := m_X9_isRoundAt) (vs := [.ref r1, .int x4, .int x3]) (c1 := 0) (s1 := 0) dX9_firstRound_43 wd_631 vi_X9_isRoundAt hrec rfl (Nat.le_of_ble_eq_true rfl) hc hq_i (hc_i (fun z h9 k9 => k9)))
theorem b_X9_firstRound_46 {G : hk_G} {d cb sb : Nat} {h : hk_H} {Q : hk_O → hk_H → Prop} {s0 : Int32} {o0 : Option Value} {o1 : Option Value} {o2 : Option Value} {o3 : Option Value} {o4 : Option Value} (kt : s0 = 0 → hk_S G m_X9_firstRound (d + 1) cb sb 58 [o0, o1, o2, o3, o4] [] h Q) (kf : ¬ s0 = 0 → hk_S G m_X9_firstRound (d + 1) cb sb 49 [o0, o1, o2, o3, o4] [] h Q) : hk_S G m_X9_firstRound (d + 1) cb sb 46 [o0, o1, o2, o3, o4] [.int s0] h Q := by
  exact hs_if_eq dX9_firstRound_46 (by decide) kt kf
theorem b_X9_firstRound_49 {G : hk_G} {d cb sb : Nat} {h : hk_H} {Q : hk_O → hk_H → Prop} {r0 : Nat} {x2 : Int32} {x3 : Int32} {x4 : Int32} {fs_ : List Value} {o1 : Option Value} (hrec : h.2 r0 = some (.inr (9, fs_))) (hc : hk_Ci G m_X9_partOfRound d 0 0 [.ref r0, .int x2, .int x3, .int x4] h (fun z h' => hk_S G m_X9_firstRound (d + 1) cb sb 57 [some (.ref r0), o1, some (.int x2), some (.int x3), some (.int x4)] [.int z] h' Q)) : hk_S G m_X9_firstRound (d + 1) cb sb 49 [some (.ref r0), o1, some (.int x2), some (.int x3), some (.int x4)] [] h Q := by
  refine hs_aload_n dX9_firstRound_49 rfl ?_
  refine hs_iload_n dX9_firstRound_50 rfl ?_
  refine hs_iload_n dX9_firstRound_51 rfl ?_
  refine hs_iload dX9_firstRound_52 rfl ?_
  exact hk_z0 (hs_vir (M' := m_X9_partOfRound) (vs := [.int x2, .int x3, .int x4]) (c1 := 0) (s1 := 0) dX9_firstRound_54 wd_667 vi_X9_partOfRound hrec rfl (Nat.le_of_ble_eq_true rfl) hc hq_i (hc_i (fun z h9 k9 => k9)))
theorem b_X9_firstRound_57 {G : hk_G} {d cb sb : Nat} {h : hk_H} {Q : hk_O → hk_H → Prop} {s0 : Int32} {o0 : Option Value} {o1 : Option Value} {o2 : Option Value} {o3 : Option Value} {o4 : Option Value} (hq : Q (.inl (some (.int s0))) h) : hk_S G m_X9_firstRound (d + 1) cb sb 57 [o0, o1, o2, o3, o4] [.int s0] h Q := by
  exact hs_iret dX9_firstRound_57 rfl hq
theorem b_X9_firstRound_58 {G : hk_G} {d cb sb : Nat} {h : hk_H} {Q : hk_O → hk_H → Prop} {x4 : Int32} {o0 : Option Value} {o1 : Option Value} {o2 : Option Value} {o3 : Option Value} (k : hk_S G m_X9_firstRound (d + 1) cb sb 13 [o0, o1, o2, o3, some (.int (x4 + 1))] [] h Q) (ho3 : hk_c1 o3 := by first | exact hk_c1i | exact hk_c1r | exact hk_c10 | exact hk_c1n) : hk_S G m_X9_firstRound (d + 1) cb sb 58 [o0, o1, o2, o3, some (.int x4)] [] h Q := by
  refine hs_iincK (v := 1) dX9_firstRound_58 rfl (by decide) (by decide) (hk_nk1 rfl ho3) rfl ?_
  refine hs_goto dX9_firstRound_61 (tgt := 13) (by decide) ?_
  exact k
theorem b_X9_firstRound_64 {G : hk_G} {d cb sb : Nat} {h : hk_H} {Q : hk_O → hk_H → Prop} {x3 : Int32} {o0 : Option Value} {o1 : Option Value} {o2 : Option Value} {o4 : Option Value} (k : hk_S G m_X9_firstRound (d + 1) cb sb 2 [o0, o1, o2, some (.int (x3 + 1)), o4] [] h Q) (ho2 : hk_c1 o2 := by first | exact hk_c1i | exact hk_c1r | exact hk_c10 | exact hk_c1n) : hk_S G m_X9_firstRound (d + 1) cb sb 64 [o0, o1, o2, some (.int x3), o4] [] h Q := by
  refine hs_iincK (v := 1) dX9_firstRound_64 rfl (by decide) (by decide) (hk_nk1 rfl ho2) rfl ?_
  refine hs_goto dX9_firstRound_67 (tgt := 2) (by decide) ?_
  exact k
theorem b_X9_firstRound_70 {G : hk_G} {d cb sb : Nat} {h : hk_H} {Q : hk_O → hk_H → Prop} {o0 : Option Value} {o1 : Option Value} {o2 : Option Value} {o3 : Option Value} {o4 : Option Value} (hq : Q (.inl (some (.int ((-2))))) h) : hk_S G m_X9_firstRound (d + 1) cb sb 70 [o0, o1, o2, o3, o4] [] h Q := by
  refine hs_bipush (v := (-2)) dX9_firstRound_70 (by decide) ?_
  exact hs_iret dX9_firstRound_72 rfl hq
-- HonestHouse.isRoundAt(LHonestHouse$Table;II)Z
theorem b_X9_isRoundAt_0 {G : hk_G} {d cb sb : Nat} {h : hk_H} {Q : hk_O → hk_H → Prop} {r0 : Nat} {fs1 : List Value} {v3 : Nat} {r1 : Nat} {x2 : Int32} {x3 : Int32} {fs_ : List Value} (hg2 : h.2 r0 = some (.inr (9, fs1))) (hv4 : fs1[6]? = some (.ref v3)) (hrec : h.2 v3 = some (.inr (6, fs_))) (hc : hk_Cv G m_X6_look d 0 0 [.ref v3, .ref r1, .int x2, .int x3] h (fun h' => hk_S G m_X9_isRoundAt (d + 1) cb sb 10 [some (.ref r0), some (.ref r1), some (.int x2), some (.int x3)] [] h' Q)) : hk_S G m_X9_isRoundAt (d + 1) cb sb 0 [some (.ref r0), some (.ref r1), some (.int x2), some (.int x3)] [] h Q := by
  refine hs_aload_n dX9_isRoundAt_0 rfl ?_
  refine hs_get dX9_isRoundAt_1 fl_X9_49_9 hg2 hv4 ?_
  refine hs_aload_n dX9_isRoundAt_4 rfl ?_
  refine hs_iload_n dX9_isRoundAt_5 rfl ?_
  refine hs_iload_n dX9_isRoundAt_6 rfl ?_
  exact hk_z0 (hs_vir (M' := m_X6_look) (vs := [.ref r1, .int x2, .int x3]) (c1 := 0) (s1 := 0) dX9_isRoundAt_7 wd_635 vi_X6_look hrec rfl (Nat.le_of_ble_eq_true rfl) hc hq_v (hc_v (fun h9 k9 => k9)))
theorem b_X9_isRoundAt_10 {G : hk_G} {d cb sb : Nat} {h : hk_H} {Q : hk_O → hk_H → Prop} {r0 : Nat} {fs1 : List Value} {v3 : Nat} {fs_ : List Value} {o1 : Option Value} {o2 : Option Value} {o3 : Option Value} (hg2 : h.2 r0 = some (.inr (9, fs1))) (hv4 : fs1[6]? = some (.ref v3)) (hrec : h.2 v3 = some (.inr (6, fs_))) (hc : hk_Ci G m_X6_hasRound d 0 0 [.ref v3] h (fun z h' => hk_S G m_X9_isRoundAt (d + 1) cb sb 17 [some (.ref r0), o1, o2, o3] [.int z] h' Q)) : hk_S G m_X9_isRoundAt (d + 1) cb sb 10 [some (.ref r0), o1, o2, o3] [] h Q := by
  refine hs_aload_n dX9_isRoundAt_10 rfl ?_
  refine hs_get dX9_isRoundAt_11 fl_X9_49_9 hg2 hv4 ?_
  exact hk_z0 (hs_vir (M' := m_X6_hasRound) (vs := []) (c1 := 0) (s1 := 0) dX9_isRoundAt_14 wd_652 vi_X6_hasRound hrec rfl (Nat.le_of_ble_eq_true rfl) hc hq_i (hc_i (fun z h9 k9 => k9)))
theorem b_X9_isRoundAt_17 {G : hk_G} {d cb sb : Nat} {h : hk_H} {Q : hk_O → hk_H → Prop} {s0 : Int32} {o0 : Option Value} {o1 : Option Value} {o2 : Option Value} {o3 : Option Value} (hq : Q (.inl (some (.int s0))) h) (hb : s0 = 0 ∨ s0 = 1) : hk_S G m_X9_isRoundAt (d + 1) cb sb 17 [o0, o1, o2, o3] [.int s0] h Q := by
  exact hs_zret dX9_isRoundAt_17 rfl hb hq
-- HonestHouse.partOfRound(III)I
theorem b_X9_partOfRound_0 {G : hk_G} {d cb sb : Nat} {h : hk_H} {Q : hk_O → hk_H → Prop} {x1 : Int32} {o0 : Option Value} {o2 : Option Value} {o3 : Option Value} (k0 : x1 = 0 → hk_S G m_X9_partOfRound (d + 1) cb sb 28 [o0, some (.int x1), o2, o3] [] h Q) (k1 : x1 = 1 → hk_S G m_X9_partOfRound (d + 1) cb sb 30 [o0, some (.int x1), o2, o3] [] h Q) (kd : ¬ x1 = 0 → ¬ x1 = 1 → hk_S G m_X9_partOfRound (d + 1) cb sb 32 [o0, some (.int x1), o2, o3] [] h Q) : hk_S G m_X9_partOfRound (d + 1) cb sb 0 [o0, some (.int x1), o2, o3] [] h Q := by
  refine hs_iload_n dX9_partOfRound_0 rfl ?_
  by_cases c0 : x1 = 0
  · exact hs_lookup dX9_partOfRound_1 (by decide) (off := 27) (by rw [c0]; rfl) (by decide) (k0 c0)
  by_cases c1 : x1 = 1
  · exact hs_lookup dX9_partOfRound_1 (by decide) (off := 29) (by rw [c1]; rfl) (by decide) (k1 c1)
  exact hs_lookup dX9_partOfRound_1 (by decide) (off := 31) (by refine (lv_osw c0 rfl).trans ?_; refine (lv_osw c1 rfl).trans ?_; rfl) (by decide) (kd c0 c1)
theorem b_X9_partOfRound_28 {G : hk_G} {d cb sb : Nat} {h : hk_H} {Q : hk_O → hk_H → Prop} {x2 : Int32} {o0 : Option Value} {o1 : Option Value} {o3 : Option Value} (hq : Q (.inl (some (.int x2))) h) : hk_S G m_X9_partOfRound (d + 1) cb sb 28 [o0, o1, some (.int x2), o3] [] h Q := by
  refine hs_iload_n dX9_partOfRound_28 rfl ?_
  exact hs_iret dX9_partOfRound_29 rfl hq
theorem b_X9_partOfRound_30 {G : hk_G} {d cb sb : Nat} {h : hk_H} {Q : hk_O → hk_H → Prop} {x3 : Int32} {o0 : Option Value} {o1 : Option Value} {o2 : Option Value} (hq : Q (.inl (some (.int x3))) h) : hk_S G m_X9_partOfRound (d + 1) cb sb 30 [o0, o1, o2, some (.int x3)] [] h Q := by
  refine hs_iload_n dX9_partOfRound_30 rfl ?_
  exact hs_iret dX9_partOfRound_31 rfl hq
theorem b_X9_partOfRound_32 {G : hk_G} {d cb sb : Nat} {h : hk_H} {Q : hk_O → hk_H → Prop} {r0 : Nat} {fs1 : List Value} {v3 : Nat} {fs_ : List Value} {o1 : Option Value} {o2 : Option Value} {o3 : Option Value} (hg2 : h.2 r0 = some (.inr (9, fs1))) (hv4 : fs1[6]? = some (.ref v3)) (hrec : h.2 v3 = some (.inr (6, fs_))) (hc : hk_Ci G m_X6_leastRound d 0 0 [.ref v3] h (fun z h' => hk_S G m_X9_partOfRound (d + 1) cb sb 39 [some (.ref r0), o1, o2, o3] [.int z] h' Q)) : hk_S G m_X9_partOfRound (d + 1) cb sb 32 [some (.ref r0), o1, o2, o3] [] h Q := by
  refine hs_aload_n dX9_partOfRound_32 rfl ?_
  refine hs_get dX9_partOfRound_33 fl_X9_49_9 hg2 hv4 ?_
  exact hk_z0 (hs_vir (M' := m_X6_leastRound) (vs := []) (c1 := 0) (s1 := 0) dX9_partOfRound_36 wd_671 vi_X6_leastRound hrec rfl (Nat.le_of_ble_eq_true rfl) hc hq_i (hc_i (fun z h9 k9 => k9)))
theorem b_X9_partOfRound_39 {G : hk_G} {d cb sb : Nat} {h : hk_H} {Q : hk_O → hk_H → Prop} {s0 : Int32} {o0 : Option Value} {o1 : Option Value} {o2 : Option Value} {o3 : Option Value} (hq : Q (.inl (some (.int (-s0)))) h) : hk_S G m_X9_partOfRound (d + 1) cb sb 39 [o0, o1, o2, o3] [.int s0] h Q := by
  refine hs_ineg dX9_partOfRound_39 ?_
  exact hs_iret dX9_partOfRound_40 rfl hq
-- HonestHouse.keepRule(LHonestHouse$Shelf;I)I
theorem b_X9_keepRule_0 {G : hk_G} {d cb sb : Nat} {h : hk_H} {Q : hk_O → hk_H → Prop} {r0 : Nat} {x2 : Int32} {fs_ : List Value} {o1 : Option Value} {o3 : Option Value} (hrec : h.2 r0 = some (.inr (9, fs_))) (hc : hk_Cr G m_X9_ruleAt d 0 0 [.ref r0, .int x2] h (fun z h' => hk_S G m_X9_keepRule (d + 1) cb sb 5 [some (.ref r0), o1, some (.int x2), o3] [hk_rf z] h' Q)) : hk_S G m_X9_keepRule (d + 1) cb sb 0 [some (.ref r0), o1, some (.int x2), o3] [] h Q := by
  refine hs_aload_n dX9_keepRule_0 rfl ?_
  refine hs_iload_n dX9_keepRule_1 rfl ?_
  exact hk_z0 (hs_vir (M' := m_X9_ruleAt) (vs := [.int x2]) (c1 := 0) (s1 := 0) dX9_keepRule_2 wd_351 vi_X9_ruleAt hrec rfl (Nat.le_of_ble_eq_true rfl) hc hq_r (hc_r (fun z h9 k9 => k9)))
theorem b_X9_keepRule_5 {G : hk_G} {d cb sb : Nat} {h : hk_H} {Q : hk_O → hk_H → Prop} {s0 : Nat} {r1 : Nat} {fs_ : List Value} {o0 : Option Value} {o2 : Option Value} {o3 : Option Value} (hrec : h.2 r1 = some (.inr (4, fs_))) (hc : hk_Cv G m_X4_holdRule d 0 0 [.ref r1, .ref s0] h (fun h' => hk_S G m_X9_keepRule (d + 1) cb sb 17 [o0, some (.ref r1), o2, some (.ref s0)] [] h' Q)) (ho2 : hk_c1 o2 := by first | exact hk_c1i | exact hk_c1r | exact hk_c10 | exact hk_c1n) : hk_S G m_X9_keepRule (d + 1) cb sb 5 [o0, some (.ref r1), o2, o3] [.ref s0] h Q := by
  refine hs_astK_n dX9_keepRule_5 (by decide) (hk_nk1 rfl ho2) rfl ?_
  refine hs_aload_n dX9_keepRule_6 rfl ?_
  refine hs_ifnonnull dX9_keepRule_7 (tgt := 12) (by decide) ?_
  refine hs_aload_n dX9_keepRule_12 rfl ?_
  refine hs_aload_n dX9_keepRule_13 rfl ?_
  exact hk_z0 (hs_vir (M' := m_X4_holdRule) (vs := [.ref s0]) (c1 := 0) (s1 := 0) dX9_keepRule_14 wd_865 vi_X4_holdRule hrec rfl (Nat.le_of_ble_eq_true rfl) hc hq_v (hc_v (fun h9 k9 => k9)))
theorem b_X9_keepRule_5N0 {G : hk_G} {d cb sb : Nat} {h : hk_H} {Q : hk_O → hk_H → Prop} {o0 : Option Value} {o1 : Option Value} {o2 : Option Value} {o3 : Option Value} (hq : Q (.inl (some (.int ((-1))))) h) (ho2 : hk_c1 o2 := by first | exact hk_c1i | exact hk_c1r | exact hk_c10 | exact hk_c1n) : hk_S G m_X9_keepRule (d + 1) cb sb 5 [o0, o1, o2, o3] [.null] h Q := by
  refine hs_astKN_n dX9_keepRule_5 (by decide) (hk_nk1 rfl ho2) rfl ?_
  refine hs_aload_nN dX9_keepRule_6 rfl ?_
  refine hs_ifnonnullN dX9_keepRule_7 ?_
  refine hs_iconst (v := (-1)) dX9_keepRule_10 (by decide) ?_
  exact hs_iret dX9_keepRule_11 rfl hq
theorem b_X9_keepRule_10 {G : hk_G} {d cb sb : Nat} {h : hk_H} {Q : hk_O → hk_H → Prop} {o0 : Option Value} {o1 : Option Value} {o2 : Option Value} {o3 : Option Value} (hq : Q (.inl (some (.int ((-1))))) h) : hk_S G m_X9_keepRule (d + 1) cb sb 10 [o0, o1, o2, o3] [] h Q := by
  refine hs_iconst (v := (-1)) dX9_keepRule_10 (by decide) ?_
  exact hs_iret dX9_keepRule_11 rfl hq
theorem b_X9_keepRule_12 {G : hk_G} {d cb sb : Nat} {h : hk_H} {Q : hk_O → hk_H → Prop} {r1 : Nat} {r3 : Nat} {fs_ : List Value} {o0 : Option Value} {o2 : Option Value} (hrec : h.2 r1 = some (.inr (4, fs_))) (hc : hk_Cv G m_X4_holdRule d 0 0 [.ref r1, .ref r3] h (fun h' => hk_S G m_X9_keepRule (d + 1) cb sb 17 [o0, some (.ref r1), o2, some (.ref r3)] [] h' Q)) : hk_S G m_X9_keepRule (d + 1) cb sb 12 [o0, some (.ref r1), o2, some (.ref r3)] [] h Q := by
  refine hs_aload_n dX9_keepRule_12 rfl ?_
  refine hs_aload_n dX9_keepRule_13 rfl ?_
  exact hk_z0 (hs_vir (M' := m_X4_holdRule) (vs := [.ref r3]) (c1 := 0) (s1 := 0) dX9_keepRule_14 wd_865 vi_X4_holdRule hrec rfl (Nat.le_of_ble_eq_true rfl) hc hq_v (hc_v (fun h9 k9 => k9)))
theorem b_X9_keepRule_17 {G : hk_G} {d cb sb : Nat} {h : hk_H} {Q : hk_O → hk_H → Prop} {o0 : Option Value} {o1 : Option Value} {o2 : Option Value} {o3 : Option Value} (hq : Q (.inl (some (.int 0))) h) : hk_S G m_X9_keepRule (d + 1) cb sb 17 [o0, o1, o2, o3] [] h Q := by
  refine hs_iconst (v := 0) dX9_keepRule_17 (by decide) ?_
  exact hs_iret dX9_keepRule_18 rfl hq
-- HonestHouse.keepEnds(LHonestHouse$Shelf;I)I
theorem b_X9_keepEnds_0 {G : hk_G} {d cb sb : Nat} {h : hk_H} {Q : hk_O → hk_H → Prop} {r0 : Nat} {x2 : Int32} {fs_ : List Value} {o1 : Option Value} {o3 : Option Value} {o4 : Option Value} (hrec : h.2 r0 = some (.inr (9, fs_))) (hc : hk_Cr G m_X9_ruleAt d 0 0 [.ref r0, .int x2] h (fun z h' => hk_S G m_X9_keepEnds (d + 1) cb sb 5 [some (.ref r0), o1, some (.int x2), o3, o4] [hk_rf z] h' Q)) : hk_S G m_X9_keepEnds (d + 1) cb sb 0 [some (.ref r0), o1, some (.int x2), o3, o4] [] h Q := by
  refine hs_aload_n dX9_keepEnds_0 rfl ?_
  refine hs_iload_n dX9_keepEnds_1 rfl ?_
  exact hk_z0 (hs_vir (M' := m_X9_ruleAt) (vs := [.int x2]) (c1 := 0) (s1 := 0) dX9_keepEnds_2 wd_351 vi_X9_ruleAt hrec rfl (Nat.le_of_ble_eq_true rfl) hc hq_r (hc_r (fun z h9 k9 => k9)))
theorem b_X9_keepEnds_5 {G : hk_G} {d cb sb : Nat} {h : hk_H} {Q : hk_O → hk_H → Prop} {s0 : Nat} {r1 : Nat} {r0 : Nat} {fs1 : List Value} {v3 : Nat} {fs5 : List Value} {v7 : Int32} {o2 : Option Value} {o3 : Option Value} {o4 : Option Value} (hg2 : h.2 r0 = some (.inr (9, fs1))) (hv4 : fs1[2]? = some (.ref v3)) (hg6 : h.2 v3 = some (.inr (8, fs5))) (hv8 : fs5[5]? = some (.int v7)) (hc : hk_Ci G m_J9_min_7cf53 d 0 0 [.int 60, .int v7] h (fun z h' => hk_S G m_X9_keepEnds (d + 1) cb sb 26 [some (.ref r0), some (.ref r1), o2, some (.ref s0), o4] [.int z, .int 3, .ref r1] h' Q)) (ho2 : hk_c1 o2 := by first | exact hk_c1i | exact hk_c1r | exact hk_c10 | exact hk_c1n) : hk_S G m_X9_keepEnds (d + 1) cb sb 5 [some (.ref r0), some (.ref r1), o2, o3, o4] [.ref s0] h Q := by
  refine hs_astK_n dX9_keepEnds_5 (by decide) (hk_nk1 rfl ho2) rfl ?_
  refine hs_aload_n dX9_keepEnds_6 rfl ?_
  refine hs_ifnonnull dX9_keepEnds_7 (tgt := 12) (by decide) ?_
  refine hs_aload_n dX9_keepEnds_12 rfl ?_
  refine hs_iconst (v := 3) dX9_keepEnds_13 (by decide) ?_
  refine hs_bipush (v := 60) dX9_keepEnds_14 (by decide) ?_
  refine hs_aload_n dX9_keepEnds_16 rfl ?_
  refine hs_get dX9_keepEnds_17 fl_X9_27_9 hg2 hv4 ?_
  refine hs_get dX9_keepEnds_20 fl_X9_162_8 hg6 hv8 ?_
  exact hk_z0 (hs_sta (M' := m_J9_min_7cf53) (vs := [.int 60, .int v7]) (c1 := 0) (s1 := 0) dX9_keepEnds_23 wd_890 st_J9_min_7cf53 rfl (Nat.le_of_ble_eq_true rfl) hc hq_i (hc_i (fun z h9 k9 => k9)))
theorem b_X9_keepEnds_5N0 {G : hk_G} {d cb sb : Nat} {h : hk_H} {Q : hk_O → hk_H → Prop} {o0 : Option Value} {o1 : Option Value} {o2 : Option Value} {o3 : Option Value} {o4 : Option Value} (hq : Q (.inl (some (.int ((-1))))) h) (ho2 : hk_c1 o2 := by first | exact hk_c1i | exact hk_c1r | exact hk_c10 | exact hk_c1n) : hk_S G m_X9_keepEnds (d + 1) cb sb 5 [o0, o1, o2, o3, o4] [.null] h Q := by
  refine hs_astKN_n dX9_keepEnds_5 (by decide) (hk_nk1 rfl ho2) rfl ?_
  refine hs_aload_nN dX9_keepEnds_6 rfl ?_
  refine hs_ifnonnullN dX9_keepEnds_7 ?_
  refine hs_iconst (v := (-1)) dX9_keepEnds_10 (by decide) ?_
  exact hs_iret dX9_keepEnds_11 rfl hq
theorem b_X9_keepEnds_10 {G : hk_G} {d cb sb : Nat} {h : hk_H} {Q : hk_O → hk_H → Prop} {o0 : Option Value} {o1 : Option Value} {o2 : Option Value} {o3 : Option Value} {o4 : Option Value} (hq : Q (.inl (some (.int ((-1))))) h) : hk_S G m_X9_keepEnds (d + 1) cb sb 10 [o0, o1, o2, o3, o4] [] h Q := by
  refine hs_iconst (v := (-1)) dX9_keepEnds_10 (by decide) ?_
  exact hs_iret dX9_keepEnds_11 rfl hq
theorem b_X9_keepEnds_12 {G : hk_G} {d cb sb : Nat} {h : hk_H} {Q : hk_O → hk_H → Prop} {r1 : Nat} {r0 : Nat} {fs1 : List Value} {v3 : Nat} {fs5 : List Value} {v7 : Int32} {o2 : Option Value} {o3 : Option Value} {o4 : Option Value} (hg2 : h.2 r0 = some (.inr (9, fs1))) (hv4 : fs1[2]? = some (.ref v3)) (hg6 : h.2 v3 = some (.inr (8, fs5))) (hv8 : fs5[5]? = some (.int v7)) (hc : hk_Ci G m_J9_min_7cf53 d 0 0 [.int 60, .int v7] h (fun z h' => hk_S G m_X9_keepEnds (d + 1) cb sb 26 [some (.ref r0), some (.ref r1), o2, o3, o4] [.int z, .int 3, .ref r1] h' Q)) : hk_S G m_X9_keepEnds (d + 1) cb sb 12 [some (.ref r0), some (.ref r1), o2, o3, o4] [] h Q := by
  refine hs_aload_n dX9_keepEnds_12 rfl ?_
  refine hs_iconst (v := 3) dX9_keepEnds_13 (by decide) ?_
  refine hs_bipush (v := 60) dX9_keepEnds_14 (by decide) ?_
  refine hs_aload_n dX9_keepEnds_16 rfl ?_
  refine hs_get dX9_keepEnds_17 fl_X9_27_9 hg2 hv4 ?_
  refine hs_get dX9_keepEnds_20 fl_X9_162_8 hg6 hv8 ?_
  exact hk_z0 (hs_sta (M' := m_J9_min_7cf53) (vs := [.int 60, .int v7]) (c1 := 0) (s1 := 0) dX9_keepEnds_23 wd_890 st_J9_min_7cf53 rfl (Nat.le_of_ble_eq_true rfl) hc hq_i (hc_i (fun z h9 k9 => k9)))
theorem b_X9_keepEnds_26 {G : hk_G} {d cb sb : Nat} {h : hk_H} {Q : hk_O → hk_H → Prop} {s0 : Nat} {s1 : Int32} {s2 : Int32} {fs_ : List Value} {o0 : Option Value} {o1 : Option Value} {o2 : Option Value} {o3 : Option Value} {o4 : Option Value} (hrec : h.2 s0 = some (.inr (4, fs_))) (hc : hk_Cv G m_X4_holdRow d 0 0 [.ref s0, .int s1, .int s2] h (fun h' => hk_S G m_X9_keepEnds (d + 1) cb sb 29 [o0, o1, o2, o3, o4] [] h' Q)) : hk_S G m_X9_keepEnds (d + 1) cb sb 26 [o0, o1, o2, o3, o4] [.int s2, .int s1, .ref s0] h Q := by
  exact hk_z0 (hs_vir (M' := m_X4_holdRow) (vs := [.int s1, .int s2]) (c1 := 0) (s1 := 0) dX9_keepEnds_26 wd_891 vi_X4_holdRow hrec rfl (Nat.le_of_ble_eq_true rfl) hc hq_v (hc_v (fun h9 k9 => k9)))
theorem b_X9_keepEnds_29 {G : hk_G} {d cb sb : Nat} {h : hk_H} {Q : hk_O → hk_H → Prop} {o0 : Option Value} {o1 : Option Value} {o2 : Option Value} {o3 : Option Value} {o4 : Option Value} (k : hk_S G m_X9_keepEnds (d + 1) cb sb 32 [o0, o1, o2, o3, some (.int 0)] [] h Q) (ho3 : hk_c1 o3 := by first | exact hk_c1i | exact hk_c1r | exact hk_c10 | exact hk_c1n) : hk_S G m_X9_keepEnds (d + 1) cb sb 29 [o0, o1, o2, o3, o4] [] h Q := by
  refine hs_iconst (v := 0) dX9_keepEnds_29 (by decide) ?_
  refine hs_istK dX9_keepEnds_30 (by decide) (hk_nk1 rfl ho3) rfl ?_
  exact k
theorem b_X9_keepEnds_32 {G : hk_G} {d cb sb : Nat} {h : hk_H} {Q : hk_O → hk_H → Prop} {x4 : Int32} {r1 : Nat} {fs1 : List Value} {v3 : Int32} {o0 : Option Value} {o2 : Option Value} {o3 : Option Value} (hg2 : h.2 r1 = some (.inr (4, fs1))) (hv4 : fs1[3]? = some (.int v3)) (kt : v3 ≤ x4 → hk_S G m_X9_keepEnds (d + 1) cb sb 67 [o0, some (.ref r1), o2, o3, some (.int x4)] [] h Q) (kf : ¬ v3 ≤ x4 → hk_S G m_X9_keepEnds (d + 1) cb sb 41 [o0, some (.ref r1), o2, o3, some (.int x4)] [] h Q) : hk_S G m_X9_keepEnds (d + 1) cb sb 32 [o0, some (.ref r1), o2, o3, some (.int x4)] [] h Q := by
  refine hs_iload dX9_keepEnds_32 rfl ?_
  refine hs_aload_n dX9_keepEnds_34 rfl ?_
  refine hs_get dX9_keepEnds_35 fl_X9_301_4 hg2 hv4 ?_
  exact hs_icmp_ge dX9_keepEnds_38 (by decide) kt kf
theorem b_X9_keepEnds_41 {G : hk_G} {d cb sb : Nat} {h : hk_H} {Q : hk_O → hk_H → Prop} {r3 : Nat} {x4 : Int32} {M' : hk_M} {ci_ : Nat} {fs_ : List Value} {o0 : Option Value} {o1 : Option Value} {o2 : Option Value} (hdis : hk_dis yX5_settle ci_ M' 1) (hrec : h.2 r3 = some (.inr (ci_, fs_))) (hc : hk_Cv G M' d 0 0 [.ref r3, .int x4] h (fun h' => hk_S G m_X9_keepEnds (d + 1) cb sb 47 [o0, o1, o2, some (.ref r3), some (.int x4)] [] h' Q)) : hk_S G m_X9_keepEnds (d + 1) cb sb 41 [o0, o1, o2, some (.ref r3), some (.int x4)] [] h Q := by
  refine hs_aload_n dX9_keepEnds_41 rfl ?_
  refine hs_iload dX9_keepEnds_42 rfl ?_
  exact hk_z0 (hs_dis (x := yX5_settle) (vs := [.int x4]) (c1 := 0) (s1 := 0) dX9_keepEnds_44 wd_437 hdis hrec rfl (Nat.le_of_ble_eq_true rfl) hc hq_v (hc_v (fun h9 k9 => k9)))
theorem b_X9_keepEnds_47 {G : hk_G} {d cb sb : Nat} {h : hk_H} {Q : hk_O → hk_H → Prop} {r1 : Nat} {fs1 : List Value} {v3 : Nat} {x4 : Int32} {r3 : Nat} {M' : hk_M} {ci_ : Nat} {fs_ : List Value} {o0 : Option Value} {o2 : Option Value} (hg2 : h.2 r1 = some (.inr (4, fs1))) (hv4 : fs1[4]? = some (.ref v3)) (hdis : hk_dis yX5_endAt ci_ M' 1) (hrec : h.2 r3 = some (.inr (ci_, fs_))) (hc : hk_Ci G M' d 0 0 [.ref r3, .int x4] h (fun z h' => hk_S G m_X9_keepEnds (d + 1) cb sb 59 [o0, some (.ref r1), o2, some (.ref r3), some (.int x4)] [.int z, .int x4, .ref v3] h' Q)) : hk_S G m_X9_keepEnds (d + 1) cb sb 47 [o0, some (.ref r1), o2, some (.ref r3), some (.int x4)] [] h Q := by
  refine hs_aload_n dX9_keepEnds_47 rfl ?_
  refine hs_get dX9_keepEnds_48 fl_X9_306_4 hg2 hv4 ?_
  refine hs_iload dX9_keepEnds_51 rfl ?_
  refine hs_aload_n dX9_keepEnds_53 rfl ?_
  refine hs_iload dX9_keepEnds_54 rfl ?_
  exact hk_z0 (hs_dis (x := yX5_endAt) (vs := [.int x4]) (c1 := 0) (s1 := 0) dX9_keepEnds_56 wd_479 hdis hrec rfl (Nat.le_of_ble_eq_true rfl) hc hq_i (hc_i (fun z h9 k9 => k9)))
theorem b_X9_keepEnds_59 {G : hk_G} {d cb sb : Nat} {h : hk_H} {Q : hk_O → hk_H → Prop} {s0 : Nat} {s1 : Int32} {s2 : Int32} {n1 : Nat} {f2 : Nat → Int64} {h_1 : hk_H} {x4 : Int32} {o0 : Option Value} {o1 : Option Value} {o2 : Option Value} {o3 : Option Value} (ha3 : h.2 s0 = some (.inl (1, n1, .inr (.inl f2)))) (h4_s0 : 4 ≤ s0) (j4 : Nat) (hi5 : (s1 : Int32).toInt = (j4 : Int)) (hj6 : j4 < n1) (e_1 : (hk_set h s0 (.inl (1, n1, .inr (.inl (vp_updL f2 j4 s2.toInt64))))) = h_1) (k : hk_S G m_X9_keepEnds (d + 1) cb sb 32 [o0, o1, o2, o3, some (.int (x4 + 1))] [] h_1 Q) (ho3 : hk_c1 o3 := by first | exact hk_c1i | exact hk_c1r | exact hk_c10 | exact hk_c1n) : hk_S G m_X9_keepEnds (d + 1) cb sb 59 [o0, o1, o2, o3, some (.int x4)] [.int s2, .int s1, .ref s0] h Q := by
  subst e_1
  refine hs_i2l dX9_keepEnds_59 ?_
  refine hs_last j4 dX9_keepEnds_60 ha3 h4_s0 hi5 hj6 ?_
  refine hs_iincK (v := 1) dX9_keepEnds_61 rfl (by decide) (by decide) (hk_nk1 rfl ho3) rfl ?_
  refine hs_goto dX9_keepEnds_64 (tgt := 32) (by decide) ?_
  exact k
theorem b_X9_keepEnds_67 {G : hk_G} {d cb sb : Nat} {h : hk_H} {Q : hk_O → hk_H → Prop} {o0 : Option Value} {o1 : Option Value} {o2 : Option Value} {o3 : Option Value} {o4 : Option Value} (hq : Q (.inl (some (.int 0))) h) : hk_S G m_X9_keepEnds (d + 1) cb sb 67 [o0, o1, o2, o3, o4] [] h Q := by
  refine hs_iconst (v := 0) dX9_keepEnds_67 (by decide) ?_
  exact hs_iret dX9_keepEnds_68 rfl hq
-- HonestHouse.keepNumbers(LHonestHouse$Shelf;I)I
theorem b_X9_keepNumbers_0 {G : hk_G} {d cb sb : Nat} {h : hk_H} {Q : hk_O → hk_H → Prop} {r0 : Nat} {x2 : Int32} {fs_ : List Value} {o1 : Option Value} {o3 : Option Value} (hrec : h.2 r0 = some (.inr (9, fs_))) (hc : hk_Ci G m_X9_isWish d 0 0 [.ref r0, .int x2] h (fun z h' => hk_S G m_X9_keepNumbers (d + 1) cb sb 5 [some (.ref r0), o1, some (.int x2), o3] [.int z] h' Q)) : hk_S G m_X9_keepNumbers (d + 1) cb sb 0 [some (.ref r0), o1, some (.int x2), o3] [] h Q := by
  refine hs_aload_n dX9_keepNumbers_0 rfl ?_
  refine hs_iload_n dX9_keepNumbers_1 rfl ?_
  exact hk_z0 (hs_vir (M' := m_X9_isWish) (vs := [.int x2]) (c1 := 0) (s1 := 0) dX9_keepNumbers_2 wd_236 vi_X9_isWish hrec rfl (Nat.le_of_ble_eq_true rfl) hc hq_i (hc_i (fun z h9 k9 => k9)))
theorem b_X9_keepNumbers_5 {G : hk_G} {d cb sb : Nat} {h : hk_H} {Q : hk_O → hk_H → Prop} {s0 : Int32} {o0 : Option Value} {o1 : Option Value} {o2 : Option Value} {o3 : Option Value} (kt : ¬ s0 = 0 → hk_S G m_X9_keepNumbers (d + 1) cb sb 10 [o0, o1, o2, o3] [] h Q) (kf : s0 = 0 → hk_S G m_X9_keepNumbers (d + 1) cb sb 8 [o0, o1, o2, o3] [] h Q) : hk_S G m_X9_keepNumbers (d + 1) cb sb 5 [o0, o1, o2, o3] [.int s0] h Q := by
  exact hs_if_ne dX9_keepNumbers_5 (by decide) kt kf
theorem b_X9_keepNumbers_8 {G : hk_G} {d cb sb : Nat} {h : hk_H} {Q : hk_O → hk_H → Prop} {o0 : Option Value} {o1 : Option Value} {o2 : Option Value} {o3 : Option Value} (hq : Q (.inl (some (.int ((-1))))) h) : hk_S G m_X9_keepNumbers (d + 1) cb sb 8 [o0, o1, o2, o3] [] h Q := by
  refine hs_iconst (v := (-1)) dX9_keepNumbers_8 (by decide) ?_
  exact hs_iret dX9_keepNumbers_9 rfl hq
theorem b_X9_keepNumbers_10 {G : hk_G} {d cb sb : Nat} {h : hk_H} {Q : hk_O → hk_H → Prop} {r1 : Nat} {r0 : Nat} {fs1 : List Value} {v3 : Int32} {fs_ : List Value} {o2 : Option Value} {o3 : Option Value} (hg2 : h.2 r0 = some (.inr (9, fs1))) (hv4 : fs1[1]? = some (.int v3)) (hrec : h.2 r1 = some (.inr (4, fs_))) (hc : hk_Cv G m_X4_holdRow d 0 0 [.ref r1, .int 4, .int v3] h (fun h' => hk_S G m_X9_keepNumbers (d + 1) cb sb 19 [some (.ref r0), some (.ref r1), o2, o3] [] h' Q)) : hk_S G m_X9_keepNumbers (d + 1) cb sb 10 [some (.ref r0), some (.ref r1), o2, o3] [] h Q := by
  refine hs_aload_n dX9_keepNumbers_10 rfl ?_
  refine hs_iconst (v := 4) dX9_keepNumbers_11 (by decide) ?_
  refine hs_aload_n dX9_keepNumbers_12 rfl ?_
  refine hs_get dX9_keepNumbers_13 fl_X9_24_9 hg2 hv4 ?_
  exact hk_z0 (hs_vir (M' := m_X4_holdRow) (vs := [.int 4, .int v3]) (c1 := 0) (s1 := 0) dX9_keepNumbers_16 wd_891 vi_X4_holdRow hrec rfl (Nat.le_of_ble_eq_true rfl) hc hq_v (hc_v (fun h9 k9 => k9)))
theorem b_X9_keepNumbers_19 {G : hk_G} {d cb sb : Nat} {h : hk_H} {Q : hk_O → hk_H → Prop} {o0 : Option Value} {o1 : Option Value} {o2 : Option Value} {o3 : Option Value} (k : hk_S G m_X9_keepNumbers (d + 1) cb sb 21 [o0, o1, o2, some (.int 0)] [] h Q) (ho2 : hk_c1 o2 := by first | exact hk_c1i | exact hk_c1r | exact hk_c10 | exact hk_c1n) : hk_S G m_X9_keepNumbers (d + 1) cb sb 19 [o0, o1, o2, o3] [] h Q := by
  refine hs_iconst (v := 0) dX9_keepNumbers_19 (by decide) ?_
  refine hs_istK_n dX9_keepNumbers_20 (by decide) (hk_nk1 rfl ho2) rfl ?_
  exact k
theorem b_X9_keepNumbers_21 {G : hk_G} {d cb sb : Nat} {h : hk_H} {Q : hk_O → hk_H → Prop} {x3 : Int32} {r0 : Nat} {fs1 : List Value} {v3 : Int32} {o1 : Option Value} {o2 : Option Value} (hg2 : h.2 r0 = some (.inr (9, fs1))) (hv4 : fs1[1]? = some (.int v3)) (kt : v3 ≤ x3 → hk_S G m_X9_keepNumbers (d + 1) cb sb 51 [some (.ref r0), o1, o2, some (.int x3)] [] h Q) (kf : ¬ v3 ≤ x3 → hk_S G m_X9_keepNumbers (d + 1) cb sb 29 [some (.ref r0), o1, o2, some (.int x3)] [] h Q) : hk_S G m_X9_keepNumbers (d + 1) cb sb 21 [some (.ref r0), o1, o2, some (.int x3)] [] h Q := by
  refine hs_iload_n dX9_keepNumbers_21 rfl ?_
  refine hs_aload_n dX9_keepNumbers_22 rfl ?_
  refine hs_get dX9_keepNumbers_23 fl_X9_24_9 hg2 hv4 ?_
  exact hs_icmp_ge dX9_keepNumbers_26 (by decide) kt kf
theorem b_X9_keepNumbers_29 {G : hk_G} {d cb sb : Nat} {h : hk_H} {Q : hk_O → hk_H → Prop} {r1 : Nat} {fs1 : List Value} {v3 : Nat} {x3 : Int32} {r0 : Nat} {fs5 : List Value} {v7 : Nat} {x2 : Int32} {fs_ : List Value} (hg2 : h.2 r1 = some (.inr (4, fs1))) (hv4 : fs1[4]? = some (.ref v3)) (hg6 : h.2 r0 = some (.inr (9, fs5))) (hv8 : fs5[2]? = some (.ref v7)) (hrec : h.2 v7 = some (.inr (8, fs_))) (hc : hk_Ci G m_X8_number d 0 0 [.ref v7, .int x2, .int x3] h (fun z h' => hk_S G m_X9_keepNumbers (d + 1) cb sb 43 [some (.ref r0), some (.ref r1), some (.int x2), some (.int x3)] [.int z, .int x3, .ref v3] h' Q)) : hk_S G m_X9_keepNumbers (d + 1) cb sb 29 [some (.ref r0), some (.ref r1), some (.int x2), some (.int x3)] [] h Q := by
  refine hs_aload_n dX9_keepNumbers_29 rfl ?_
  refine hs_get dX9_keepNumbers_30 fl_X9_306_4 hg2 hv4 ?_
  refine hs_iload_n dX9_keepNumbers_33 rfl ?_
  refine hs_aload_n dX9_keepNumbers_34 rfl ?_
  refine hs_get dX9_keepNumbers_35 fl_X9_27_9 hg6 hv8 ?_
  refine hs_iload_n dX9_keepNumbers_38 rfl ?_
  refine hs_iload_n dX9_keepNumbers_39 rfl ?_
  exact hk_z0 (hs_vir (M' := m_X8_number) (vs := [.int x2, .int x3]) (c1 := 0) (s1 := 0) dX9_keepNumbers_40 wd_902 vi_X8_number hrec rfl (Nat.le_of_ble_eq_true rfl) hc hq_i (hc_i (fun z h9 k9 => k9)))
theorem b_X9_keepNumbers_43 {G : hk_G} {d cb sb : Nat} {h : hk_H} {Q : hk_O → hk_H → Prop} {s0 : Nat} {s1 : Int32} {s2 : Int32} {n1 : Nat} {f2 : Nat → Int64} {h_1 : hk_H} {x3 : Int32} {o0 : Option Value} {o1 : Option Value} {o2 : Option Value} (ha3 : h.2 s0 = some (.inl (1, n1, .inr (.inl f2)))) (h4_s0 : 4 ≤ s0) (j4 : Nat) (hi5 : (s1 : Int32).toInt = (j4 : Int)) (hj6 : j4 < n1) (e_1 : (hk_set h s0 (.inl (1, n1, .inr (.inl (vp_updL f2 j4 s2.toInt64))))) = h_1) (k : hk_S G m_X9_keepNumbers (d + 1) cb sb 21 [o0, o1, o2, some (.int (x3 + 1))] [] h_1 Q) (ho2 : hk_c1 o2 := by first | exact hk_c1i | exact hk_c1r | exact hk_c10 | exact hk_c1n) : hk_S G m_X9_keepNumbers (d + 1) cb sb 43 [o0, o1, o2, some (.int x3)] [.int s2, .int s1, .ref s0] h Q := by
  subst e_1
  refine hs_i2l dX9_keepNumbers_43 ?_
  refine hs_last j4 dX9_keepNumbers_44 ha3 h4_s0 hi5 hj6 ?_
  refine hs_iincK (v := 1) dX9_keepNumbers_45 rfl (by decide) (by decide) (hk_nk1 rfl ho2) rfl ?_
  refine hs_goto dX9_keepNumbers_48 (tgt := 21) (by decide) ?_
  exact k
theorem b_X9_keepNumbers_51 {G : hk_G} {d cb sb : Nat} {h : hk_H} {Q : hk_O → hk_H → Prop} {o0 : Option Value} {o1 : Option Value} {o2 : Option Value} {o3 : Option Value} (hq : Q (.inl (some (.int 0))) h) : hk_S G m_X9_keepNumbers (d + 1) cb sb 51 [o0, o1, o2, o3] [] h Q := by
  refine hs_iconst (v := 0) dX9_keepNumbers_51 (by decide) ?_
  exact hs_iret dX9_keepNumbers_52 rfl hq
-- HonestHouse.refusalOfRule(LHonestHouse$Shelf;)I
theorem b_X9_refusalOfRule_0 {G : hk_G} {d cb sb : Nat} {h : hk_H} {Q : hk_O → hk_H → Prop} {r0 : Nat} {fs1 : List Value} {v3 : Int32} (hg2 : h.2 r0 = some (.inr (4, fs1))) (hv4 : fs1[0]? = some (.int v3)) (kt : ¬ v3 = 0 → hk_S G m_X9_refusalOfRule d cb sb 16 [some (.ref r0)] [] h Q) (kf : v3 = 0 → hk_S G m_X9_refusalOfRule d cb sb 13 [some (.ref r0)] [] h Q) : hk_S G m_X9_refusalOfRule d cb sb 0 [some (.ref r0)] [] h Q := by
  refine hs_aload_n dX9_refusalOfRule_0 rfl ?_
  refine hs_ifnonnull dX9_refusalOfRule_1 (tgt := 6) (by decide) ?_
  refine hs_aload_n dX9_refusalOfRule_6 rfl ?_
  refine hs_get dX9_refusalOfRule_7 fl_X9_310_4 hg2 hv4 ?_
  exact hs_if_ne dX9_refusalOfRule_10 (by decide) kt kf
theorem b_X9_refusalOfRule_0N {G : hk_G} {d cb sb : Nat} {h : hk_H} {Q : hk_O → hk_H → Prop}  (hq : Q (.inl (some (.int ((-1))))) h) : hk_S G m_X9_refusalOfRule d cb sb 0 [some (.null)] [] h Q := by
  refine hs_aload_nN dX9_refusalOfRule_0 rfl ?_
  refine hs_ifnonnullN dX9_refusalOfRule_1 ?_
  refine hs_iconst (v := (-1)) dX9_refusalOfRule_4 (by decide) ?_
  exact hs_iret dX9_refusalOfRule_5 rfl hq
theorem b_X9_refusalOfRule_4 {G : hk_G} {d cb sb : Nat} {h : hk_H} {Q : hk_O → hk_H → Prop} {o0 : Option Value} (hq : Q (.inl (some (.int ((-1))))) h) : hk_S G m_X9_refusalOfRule d cb sb 4 [o0] [] h Q := by
  refine hs_iconst (v := (-1)) dX9_refusalOfRule_4 (by decide) ?_
  exact hs_iret dX9_refusalOfRule_5 rfl hq
theorem b_X9_refusalOfRule_6 {G : hk_G} {d cb sb : Nat} {h : hk_H} {Q : hk_O → hk_H → Prop} {r0 : Nat} {fs1 : List Value} {v3 : Int32} (hg2 : h.2 r0 = some (.inr (4, fs1))) (hv4 : fs1[0]? = some (.int v3)) (kt : ¬ v3 = 0 → hk_S G m_X9_refusalOfRule d cb sb 16 [some (.ref r0)] [] h Q) (kf : v3 = 0 → hk_S G m_X9_refusalOfRule d cb sb 13 [some (.ref r0)] [] h Q) : hk_S G m_X9_refusalOfRule d cb sb 6 [some (.ref r0)] [] h Q := by
  refine hs_aload_n dX9_refusalOfRule_6 rfl ?_
  refine hs_get dX9_refusalOfRule_7 fl_X9_310_4 hg2 hv4 ?_
  exact hs_if_ne dX9_refusalOfRule_10 (by decide) kt kf
theorem b_X9_refusalOfRule_13 {G : hk_G} {d cb sb : Nat} {h : hk_H} {Q : hk_O → hk_H → Prop} {o0 : Option Value} (hq : Q (.inl (some (.int ((-11))))) h) : hk_S G m_X9_refusalOfRule d cb sb 13 [o0] [] h Q := by
  refine hs_bipush (v := (-11)) dX9_refusalOfRule_13 (by decide) ?_
  exact hs_iret dX9_refusalOfRule_15 rfl hq
theorem b_X9_refusalOfRule_16 {G : hk_G} {d cb sb : Nat} {h : hk_H} {Q : hk_O → hk_H → Prop} {r0 : Nat} {fs1 : List Value} {v3 : Int32} (hg2 : h.2 r0 = some (.inr (4, fs1))) (hv4 : fs1[0]? = some (.int v3)) (kt : ¬ v3 = 1 → hk_S G m_X9_refusalOfRule d cb sb 28 [some (.ref r0)] [] h Q) (kf : v3 = 1 → hk_S G m_X9_refusalOfRule d cb sb 24 [some (.ref r0)] [] h Q) : hk_S G m_X9_refusalOfRule d cb sb 16 [some (.ref r0)] [] h Q := by
  refine hs_aload_n dX9_refusalOfRule_16 rfl ?_
  refine hs_get dX9_refusalOfRule_17 fl_X9_310_4 hg2 hv4 ?_
  refine hs_iconst (v := 1) dX9_refusalOfRule_20 (by decide) ?_
  exact hs_icmp_ne dX9_refusalOfRule_21 (by decide) kt kf
theorem b_X9_refusalOfRule_24 {G : hk_G} {d cb sb : Nat} {h : hk_H} {Q : hk_O → hk_H → Prop} {o0 : Option Value} (hq : Q (.inl (some (.int 0))) h) : hk_S G m_X9_refusalOfRule d cb sb 24 [o0] [] h Q := by
  refine hs_iconst (v := 0) dX9_refusalOfRule_24 (by decide) ?_
  refine hs_goto dX9_refusalOfRule_25 (tgt := 30) (by decide) ?_
  exact hs_iret dX9_refusalOfRule_30 rfl hq
theorem b_X9_refusalOfRule_28 {G : hk_G} {d cb sb : Nat} {h : hk_H} {Q : hk_O → hk_H → Prop} {o0 : Option Value} (hq : Q (.inl (some (.int ((-12))))) h) : hk_S G m_X9_refusalOfRule d cb sb 28 [o0] [] h Q := by
  refine hs_bipush (v := (-12)) dX9_refusalOfRule_28 (by decide) ?_
  exact hs_iret dX9_refusalOfRule_30 rfl hq
theorem b_X9_refusalOfRule_30 {G : hk_G} {d cb sb : Nat} {h : hk_H} {Q : hk_O → hk_H → Prop} {s0 : Int32} {o0 : Option Value} (hq : Q (.inl (some (.int s0))) h) : hk_S G m_X9_refusalOfRule d cb sb 30 [o0] [.int s0] h Q := by
  exact hs_iret dX9_refusalOfRule_30 rfl hq
-- HonestHouse.numberOfFailure(LHonestHouse$Table;)I
-- b_X9_numberOfFailure_0: covered call
theorem b_X9_numberOfFailure_0N {G : hk_G} {d cb sb : Nat} {h : hk_H} {Q : hk_O → hk_H → Prop} {o1 : Option Value} (hq : Q (.inl (some (.int ((-15))))) h) : hk_S G m_X9_numberOfFailure (d + 1) cb sb 0 [some (.null), o1] [] h Q := by
  refine hs_aload_nN dX9_numberOfFailure_0 rfl ?_
  refine hs_ifnonnullN dX9_numberOfFailure_1 ?_
  refine hs_bipush (v := (-15)) dX9_numberOfFailure_4 (by decide) ?_
  exact hs_iret dX9_numberOfFailure_6 rfl hq
theorem b_X9_numberOfFailure_4 {G : hk_G} {d cb sb : Nat} {h : hk_H} {Q : hk_O → hk_H → Prop} {o0 : Option Value} {o1 : Option Value} (hq : Q (.inl (some (.int ((-15))))) h) : hk_S G m_X9_numberOfFailure (d + 1) cb sb 4 [o0, o1] [] h Q := by
  refine hs_bipush (v := (-15)) dX9_numberOfFailure_4 (by decide) ?_
  exact hs_iret dX9_numberOfFailure_6 rfl hq
-- b_X9_numberOfFailure_7: covered call
theorem b_X9_numberOfFailure_11 {G : hk_G} {d cb sb : Nat} {h : hk_H} {Q : hk_O → hk_H → Prop} {o0 : Option Value} {o1 : Option Value} (hq : Q (.inl (some (.int ((-15))))) h) : hk_S G m_X9_numberOfFailure (d + 1) cb sb 11 [o0, o1] [] h Q := by
  refine hs_goto dX9_numberOfFailure_11 (tgt := 20) (by decide) ?_
  refine hs_bipush (v := (-15)) dX9_numberOfFailure_20 (by decide) ?_
  exact hs_iret dX9_numberOfFailure_22 rfl hq
theorem b_X9_numberOfFailure_15 {G : hk_G} {d cb sb : Nat} {h : hk_H} {Q : hk_O → hk_H → Prop} {r0 : Nat} {fs1 : List Value} {ci3 : Nat} {k5 : Nat} {v6 : Int32} {o1 : Option Value} (hg2 : h.2 r0 = some (.inr (ci3, fs1))) (hf4 : hk_fl RX9 383 ci3 k5) (hv7 : fs1[k5]? = some (.int v6)) (hq : Q (.inl (some (.int v6))) h) : hk_S G m_X9_numberOfFailure (d + 1) cb sb 15 [some (.ref r0), o1] [] h Q := by
  refine hs_aload_n dX9_numberOfFailure_15 rfl ?_
  refine hs_get dX9_numberOfFailure_16 hf4 hg2 hv7 ?_
  exact hs_iret dX9_numberOfFailure_19 rfl hq
theorem b_X9_numberOfFailure_20 {G : hk_G} {d cb sb : Nat} {h : hk_H} {Q : hk_O → hk_H → Prop} {o0 : Option Value} {o1 : Option Value} (hq : Q (.inl (some (.int ((-15))))) h) : hk_S G m_X9_numberOfFailure (d + 1) cb sb 20 [o0, o1] [] h Q := by
  refine hs_bipush (v := (-15)) dX9_numberOfFailure_20 (by decide) ?_
  exact hs_iret dX9_numberOfFailure_22 rfl hq
