-- HonestHouse$Middle.<init>(ILHonestHouse$Wishes;)V
theorem b_X2_init_0 {G : hk_G} {d cb sb : Nat} {h : hk_H} {Q : hk_O → hk_H → Prop} {r0 : Nat} {x1 : Int32} {r2 : Nat} {cq : Nat} {sq : Nat} (hc : hk_Cv G m_X5_init d cq sq [.ref r0, .int x1, .ref r2] h (fun h' => hk_S G m_X2_init (d + 1) cb sb 6 [some (.ref r0), some (.int x1), some (.ref r2)] [] h' Q)) : hk_S G m_X2_init (d + 1) (cq + cb) (sq + sb) 0 [some (.ref r0), some (.int x1), some (.ref r2)] [] h Q := by
  refine hs_aload_n dX2_init_0 rfl ?_
  refine hs_iload_n dX2_init_1 rfl ?_
  refine hs_aload_n dX2_init_2 rfl ?_
  exact hs_ini (M' := m_X5_init) (vs := [.int x1, .ref r2]) dX2_init_3 wd_325 ic_X5_init rfl (Nat.le_of_ble_eq_true rfl) hc hq_v (hc_v (fun h9 k9 => k9))
theorem b_X2_init_6 {G : hk_G} {d cb sb : Nat} {h : hk_H} {Q : hk_O → hk_H → Prop} {r0 : Nat} {h_1 : hk_H} {fs1 : List Value} {h_2 : hk_H} {h_3 : hk_H} {fs4 : List Value} {h_4 : hk_H} {fs7 : List Value} {v9 : Nat} {o1 : Option Value} {o2 : Option Value} (e_1 : (hk_new h (.inl (0, 3, .inl (fun _ => 0)))) = h_1) (hg2 : h_1.2 r0 = some (.inr (2, fs1))) (h4_r0 : 4 ≤ r0) (e_2 : (hk_set h_1 r0 (.inr (2, fs1.set 3 (.ref h.1)))) = h_2) (e_3 : (hk_new h_2 (.inl (0, 5, .inl (fun _ => 0)))) = h_3) (hg5 : h_3.2 r0 = some (.inr (2, fs4))) (e_4 : (hk_set h_3 r0 (.inr (2, fs4.set 4 (.ref h_2.1)))) = h_4) (hg8 : h_4.2 r0 = some (.inr (2, fs7))) (hv10 : fs7[2]? = some (.ref v9)) (hc : hk_Cv G m_J7_fill_53178 d 0 0 [.ref v9, .int ((-1))] h_4 (fun h' => hk_S G m_X2_init (d + 1) cb sb 28 [some (.ref r0), o1, o2] [] h' Q)) (hl3 : 3 < fs1.length := by exact Nat.le_of_ble_eq_true rfl) (hl6 : 4 < fs4.length := by exact Nat.le_of_ble_eq_true rfl) : hk_S G m_X2_init (d + 1) ((cb + 1) + 1) ((sb + 5) + 3) 6 [some (.ref r0), o1, o2] [] h Q := by
  subst e_1
  subst e_2
  subst e_3
  subst e_4
  refine hs_aload_n dX2_init_6 rfl ?_
  refine hs_iconst (v := 3) dX2_init_7 (by decide) ?_
  refine hs_newi (N := 3) dX2_init_8 (by decide) (by decide) ?_
  refine hs_putF (t := .array .int) dX2_init_10 rfl fw_X2_9_2 hg2 h4_r0 hl3 rfl rfl ?_
  refine hs_aload_n dX2_init_13 rfl ?_
  refine hs_iconst (v := 5) dX2_init_14 (by decide) ?_
  refine hs_newi (N := 5) dX2_init_15 (by decide) (by decide) ?_
  refine hs_putF (t := .array .int) dX2_init_17 rfl fw_X2_15_2 hg5 h4_r0 hl6 rfl rfl ?_
  refine hs_aload_n dX2_init_20 rfl ?_
  refine hs_get dX2_init_21 fl_X2_18_2 hg8 hv10 ?_
  refine hs_iconst (v := (-1)) dX2_init_24 (by decide) ?_
  exact hk_z0 (hs_sta (M' := m_J7_fill_53178) (vs := [.ref v9, .int ((-1))]) (c1 := 0) (s1 := 0) dX2_init_25 wd_326 st_J7_fill_53178 rfl (Nat.le_of_ble_eq_true rfl) hc hq_v (hc_v (fun h9 k9 => k9)))
theorem b_X2_init_28 {G : hk_G} {d cb sb : Nat} {h : hk_H} {Q : hk_O → hk_H → Prop} {o0 : Option Value} {o1 : Option Value} {o2 : Option Value} (hq : Q (.inl none) h) : hk_S G m_X2_init (d + 1) cb sb 28 [o0, o1, o2] [] h Q := by
  exact hs_vret dX2_init_28 rfl hq
-- HonestHouse$Middle.settle(I)V
theorem b_X2_settle_0 {G : hk_G} {d cb sb : Nat} {h : hk_H} {Q : hk_O → hk_H → Prop} {r0 : Nat} {fs1 : List Value} {v3 : Nat} {x1 : Int32} {n5 : Nat} {f6 : Nat → Int32} (hg2 : h.2 r0 = some (.inr (2, fs1))) (hv4 : fs1[2]? = some (.ref v3)) (ha7 : h.2 v3 = some (.inl (0, n5, .inl f6))) (j8 : Nat) (hi9 : (x1 : Int32).toInt = (j8 : Int)) (hj10 : j8 < n5) (kt : ¬ (f6 j8) = ((-1)) → hk_S G m_X2_settle (d + 1) cb sb 21 [some (.ref r0), some (.int x1)] [] h Q) (kf : (f6 j8) = ((-1)) → hk_S G m_X2_settle (d + 1) cb sb 10 [some (.ref r0), some (.int x1)] [] h Q) : hk_S G m_X2_settle (d + 1) cb sb 0 [some (.ref r0), some (.int x1)] [] h Q := by
  refine hs_aload_n dX2_settle_0 rfl ?_
  refine hs_get dX2_settle_1 fl_X2_18_2 hg2 hv4 ?_
  refine hs_iload_n dX2_settle_4 rfl ?_
  refine hs_iald j8 dX2_settle_5 ha7 hi9 hj10 ?_
  refine hs_iconst (v := (-1)) dX2_settle_6 (by decide) ?_
  exact hs_icmp_ne dX2_settle_7 (by decide) kt kf
theorem b_X2_settle_10 {G : hk_G} {d cb sb : Nat} {h : hk_H} {Q : hk_O → hk_H → Prop} {r0 : Nat} {fs1 : List Value} {v3 : Nat} {x1 : Int32} (hg2 : h.2 r0 = some (.inr (2, fs1))) (hv4 : fs1[2]? = some (.ref v3)) (hc : hk_Ci G m_X2_middleOf d 0 0 [.ref r0, .int x1] h (fun z h' => hk_S G m_X2_settle (d + 1) cb sb 20 [some (.ref r0), some (.int x1)] [.int z, .int x1, .ref v3] h' Q)) : hk_S G m_X2_settle (d + 1) cb sb 10 [some (.ref r0), some (.int x1)] [] h Q := by
  refine hs_aload_n dX2_settle_10 rfl ?_
  refine hs_get dX2_settle_11 fl_X2_18_2 hg2 hv4 ?_
  refine hs_iload_n dX2_settle_14 rfl ?_
  refine hs_aload_n dX2_settle_15 rfl ?_
  refine hs_iload_n dX2_settle_16 rfl ?_
  exact hk_z0 (hs_vir (M' := m_X2_middleOf) (vs := [.int x1]) (c1 := 0) (s1 := 0) dX2_settle_17 wd_444 vi_X2_middleOf hg2 rfl (Nat.le_of_ble_eq_true rfl) hc hq_i (hc_i (fun z h9 k9 => k9)))
theorem b_X2_settle_20 {G : hk_G} {d cb sb : Nat} {h : hk_H} {Q : hk_O → hk_H → Prop} {s0 : Nat} {s1 : Int32} {s2 : Int32} {n1 : Nat} {f2 : Nat → Int32} {h_1 : hk_H} {o0 : Option Value} {o1 : Option Value} (ha3 : h.2 s0 = some (.inl (0, n1, .inl f2))) (h4_s0 : 4 ≤ s0) (j4 : Nat) (hi5 : (s1 : Int32).toInt = (j4 : Int)) (hj6 : j4 < n1) (e_1 : (hk_set h s0 (.inl (0, n1, .inl (upd f2 j4 s2)))) = h_1) (hq : Q (.inl none) h_1) : hk_S G m_X2_settle (d + 1) cb sb 20 [o0, o1] [.int s2, .int s1, .ref s0] h Q := by
  subst e_1
  refine hs_iast j4 dX2_settle_20 ha3 h4_s0 hi5 hj6 ?_
  exact hs_vret dX2_settle_21 rfl hq
theorem b_X2_settle_21 {G : hk_G} {d cb sb : Nat} {h : hk_H} {Q : hk_O → hk_H → Prop} {o0 : Option Value} {o1 : Option Value} (hq : Q (.inl none) h) : hk_S G m_X2_settle (d + 1) cb sb 21 [o0, o1] [] h Q := by
  exact hs_vret dX2_settle_21 rfl hq
-- HonestHouse$Middle.changeEnd(II)I
theorem b_X2_changeEnd_0 {G : hk_G} {d cb sb : Nat} {h : hk_H} {Q : hk_O → hk_H → Prop} {o0 : Option Value} {o1 : Option Value} {o2 : Option Value} (hq : Q (.inl (some (.int ((-4))))) h) : hk_S G m_X2_changeEnd d cb sb 0 [o0, o1, o2] [] h Q := by
  refine hs_bipush (v := (-4)) dX2_changeEnd_0 (by decide) ?_
  exact hs_iret dX2_changeEnd_2 rfl hq
-- HonestHouse$Middle.changePlace(II)I
theorem b_X2_changePlace_0 {G : hk_G} {d cb sb : Nat} {h : hk_H} {Q : hk_O → hk_H → Prop} {r0 : Nat} {fs1 : List Value} {v3 : Nat} {x1 : Int32} {n5 : Nat} {f6 : Nat → Int32} {x2 : Int32} {h_1 : hk_H} {fs11 : List Value} {v13 : Nat} {o3 : Option Value} (hg2 : h.2 r0 = some (.inr (2, fs1))) (hv4 : fs1[3]? = some (.ref v3)) (ha7 : h.2 v3 = some (.inl (0, n5, .inl f6))) (j8 : Nat) (hi9 : (x1 : Int32).toInt = (j8 : Int)) (hj10 : j8 < n5) (h4_v3 : 4 ≤ v3) (e_1 : (hk_set h v3 (.inl (0, n5, .inl (upd f6 j8 x2)))) = h_1) (hg12 : h_1.2 r0 = some (.inr (2, fs11))) (hv14 : fs11[2]? = some (.ref v13)) (hc : hk_Cv G m_J7_fill_53178 d 0 0 [.ref v13, .int ((-1))] h_1 (fun h' => hk_S G m_X2_changePlace (d + 1) cb sb 22 [some (.ref r0), some (.int x1), some (.int x2), some (.int (f6 j8))] [] h' Q)) : hk_S G m_X2_changePlace (d + 1) cb sb 0 [some (.ref r0), some (.int x1), some (.int x2), o3] [] h Q := by
  subst e_1
  refine hs_aload_n dX2_changePlace_0 rfl ?_
  refine hs_get dX2_changePlace_1 fl_X2_9_2 hg2 hv4 ?_
  refine hs_iload_n dX2_changePlace_4 rfl ?_
  refine hs_iald j8 dX2_changePlace_5 ha7 hi9 hj10 ?_
  refine hs_istK_n dX2_changePlace_6 (by decide) (hk_nk1 rfl hk_c1i) rfl ?_
  refine hs_aload_n dX2_changePlace_7 rfl ?_
  refine hs_get dX2_changePlace_8 fl_X2_9_2 hg2 hv4 ?_
  refine hs_iload_n dX2_changePlace_11 rfl ?_
  refine hs_iload_n dX2_changePlace_12 rfl ?_
  refine hs_iast j8 dX2_changePlace_13 ha7 h4_v3 hi9 hj10 ?_
  refine hs_aload_n dX2_changePlace_14 rfl ?_
  refine hs_get dX2_changePlace_15 fl_X2_18_2 hg12 hv14 ?_
  refine hs_iconst (v := (-1)) dX2_changePlace_18 (by decide) ?_
  exact hk_z0 (hs_sta (M' := m_J7_fill_53178) (vs := [.ref v13, .int ((-1))]) (c1 := 0) (s1 := 0) dX2_changePlace_19 wd_326 st_J7_fill_53178 rfl (Nat.le_of_ble_eq_true rfl) hc hq_v (hc_v (fun h9 k9 => k9)))
theorem b_X2_changePlace_22 {G : hk_G} {d cb sb : Nat} {h : hk_H} {Q : hk_O → hk_H → Prop} {x3 : Int32} {o0 : Option Value} {o1 : Option Value} {o2 : Option Value} (hq : Q (.inl (some (.int x3))) h) : hk_S G m_X2_changePlace (d + 1) cb sb 22 [o0, o1, o2, some (.int x3)] [] h Q := by
  refine hs_iload_n dX2_changePlace_22 rfl ?_
  exact hs_iret dX2_changePlace_23 rfl hq
-- HonestHouse$Middle.middleOf(I)I
theorem b_X2_middleOf_0 {G : hk_G} {d cb sb : Nat} {h : hk_H} {Q : hk_O → hk_H → Prop} {r0 : Nat} {fs1 : List Value} {v3 : Nat} {o1 : Option Value} {o2 : Option Value} {o3 : Option Value} (hg2 : h.2 r0 = some (.inr (2, fs1))) (hv4 : fs1[4]? = some (.ref v3)) (hc : hk_Cv G m_J7_fill_53178 d 0 0 [.ref v3, .int 0] h (fun h' => hk_S G m_X2_middleOf (d + 1) cb sb 8 [some (.ref r0), o1, o2, o3] [] h' Q)) : hk_S G m_X2_middleOf (d + 1) cb sb 0 [some (.ref r0), o1, o2, o3] [] h Q := by
  refine hs_aload_n dX2_middleOf_0 rfl ?_
  refine hs_get dX2_middleOf_1 fl_X2_15_2 hg2 hv4 ?_
  refine hs_iconst (v := 0) dX2_middleOf_4 (by decide) ?_
  exact hk_z0 (hs_sta (M' := m_J7_fill_53178) (vs := [.ref v3, .int 0]) (c1 := 0) (s1 := 0) dX2_middleOf_5 wd_326 st_J7_fill_53178 rfl (Nat.le_of_ble_eq_true rfl) hc hq_v (hc_v (fun h9 k9 => k9)))
theorem b_X2_middleOf_8 {G : hk_G} {d cb sb : Nat} {h : hk_H} {Q : hk_O → hk_H → Prop} {o0 : Option Value} {o1 : Option Value} {o2 : Option Value} {o3 : Option Value} (k : hk_S G m_X2_middleOf (d + 1) cb sb 10 [o0, o1, some (.int 0), o3] [] h Q) (ho1 : hk_c1 o1 := by first | exact hk_c1i | exact hk_c1r | exact hk_c10 | exact hk_c1n) : hk_S G m_X2_middleOf (d + 1) cb sb 8 [o0, o1, o2, o3] [] h Q := by
  refine hs_iconst (v := 0) dX2_middleOf_8 (by decide) ?_
  refine hs_istK_n dX2_middleOf_9 (by decide) (hk_nk1 rfl ho1) rfl ?_
  exact k
theorem b_X2_middleOf_10 {G : hk_G} {d cb sb : Nat} {h : hk_H} {Q : hk_O → hk_H → Prop} {x2 : Int32} {r0 : Nat} {fs1 : List Value} {v3 : Nat} {fs5 : List Value} {v7 : Int32} {o1 : Option Value} {o3 : Option Value} (hg2 : h.2 r0 = some (.inr (2, fs1))) (hv4 : fs1[1]? = some (.ref v3)) (hg6 : h.2 v3 = some (.inr (8, fs5))) (hv8 : fs5[0]? = some (.int v7)) (kt : v7 ≤ x2 → hk_S G m_X2_middleOf (d + 1) cb sb 52 [some (.ref r0), o1, some (.int x2), o3] [] h Q) (kf : ¬ v7 ≤ x2 → hk_S G m_X2_middleOf (d + 1) cb sb 21 [some (.ref r0), o1, some (.int x2), o3] [] h Q) : hk_S G m_X2_middleOf (d + 1) cb sb 10 [some (.ref r0), o1, some (.int x2), o3] [] h Q := by
  refine hs_iload_n dX2_middleOf_10 rfl ?_
  refine hs_aload_n dX2_middleOf_11 rfl ?_
  refine hs_get dX2_middleOf_12 fl_X2_31_2 hg2 hv4 ?_
  refine hs_get dX2_middleOf_15 fl_X2_35_8 hg6 hv8 ?_
  exact hs_icmp_ge dX2_middleOf_18 (by decide) kt kf
theorem b_X2_middleOf_21 {G : hk_G} {d cb sb : Nat} {h : hk_H} {Q : hk_O → hk_H → Prop} {r0 : Nat} {fs1 : List Value} {v3 : Nat} {v5 : Nat} {x1 : Int32} {x2 : Int32} {fs_ : List Value} {o3 : Option Value} (hg2 : h.2 r0 = some (.inr (2, fs1))) (hv4 : fs1[4]? = some (.ref v3)) (hv6 : fs1[1]? = some (.ref v5)) (hrec : h.2 v5 = some (.inr (8, fs_))) (hc : hk_Ci G m_X8_wishIn d 0 0 [.ref v5, .int x1, .int x2] h (fun z h' => hk_S G m_X2_middleOf (d + 1) cb sb 38 [some (.ref r0), some (.int x1), some (.int x2), o3] [.int z, .ref v5, .ref v3] h' Q)) : hk_S G m_X2_middleOf (d + 1) cb sb 21 [some (.ref r0), some (.int x1), some (.int x2), o3] [] h Q := by
  refine hs_aload_n dX2_middleOf_21 rfl ?_
  refine hs_get dX2_middleOf_22 fl_X2_15_2 hg2 hv4 ?_
  refine hs_aload_n dX2_middleOf_25 rfl ?_
  refine hs_get dX2_middleOf_26 fl_X2_31_2 hg2 hv6 ?_
  refine hs_aload_n dX2_middleOf_29 rfl ?_
  refine hs_get dX2_middleOf_30 fl_X2_31_2 hg2 hv6 ?_
  refine hs_iload_n dX2_middleOf_33 rfl ?_
  refine hs_iload_n dX2_middleOf_34 rfl ?_
  exact hk_z0 (hs_vir (M' := m_X8_wishIn) (vs := [.int x1, .int x2]) (c1 := 0) (s1 := 0) dX2_middleOf_35 wd_448 vi_X8_wishIn hrec rfl (Nat.le_of_ble_eq_true rfl) hc hq_i (hc_i (fun z h9 k9 => k9)))
theorem b_X2_middleOf_38 {G : hk_G} {d cb sb : Nat} {h : hk_H} {Q : hk_O → hk_H → Prop} {s0 : Nat} {s1 : Nat} {s2 : Int32} {fs_ : List Value} {o0 : Option Value} {o1 : Option Value} {o2 : Option Value} {o3 : Option Value} (hrec : h.2 s1 = some (.inr (8, fs_))) (hc : hk_Ci G m_X8_top d 0 0 [.ref s1, .int s2] h (fun z h' => hk_S G m_X2_middleOf (d + 1) cb sb 41 [o0, o1, o2, o3] [.int z, .ref s0] h' Q)) : hk_S G m_X2_middleOf (d + 1) cb sb 38 [o0, o1, o2, o3] [.int s2, .ref s1, .ref s0] h Q := by
  exact hk_z0 (hs_vir (M' := m_X8_top) (vs := [.int s2]) (c1 := 0) (s1 := 0) dX2_middleOf_38 wd_452 vi_X8_top hrec rfl (Nat.le_of_ble_eq_true rfl) hc hq_i (hc_i (fun z h9 k9 => k9)))
theorem b_X2_middleOf_41 {G : hk_G} {d cb sb : Nat} {h : hk_H} {Q : hk_O → hk_H → Prop} {s0 : Nat} {s1 : Int32} {n1 : Nat} {f2 : Nat → Int32} {h_1 : hk_H} {x2 : Int32} {o0 : Option Value} {o1 : Option Value} {o3 : Option Value} (ha3 : h.2 s0 = some (.inl (0, n1, .inl f2))) (j4 : Nat) (hi5 : (s1 : Int32).toInt = (j4 : Int)) (hj6 : j4 < n1) (h4_s0 : 4 ≤ s0) (e_1 : (hk_set h s0 (.inl (0, n1, .inl (upd f2 j4 ((f2 j4) + 1))))) = h_1) (k : hk_S G m_X2_middleOf (d + 1) cb sb 10 [o0, o1, some (.int (x2 + 1)), o3] [] h_1 Q) (ho1 : hk_c1 o1 := by first | exact hk_c1i | exact hk_c1r | exact hk_c10 | exact hk_c1n) : hk_S G m_X2_middleOf (d + 1) cb sb 41 [o0, o1, some (.int x2), o3] [.int s1, .ref s0] h Q := by
  subst e_1
  refine hs_dup2 dX2_middleOf_41 rfl rfl ?_
  refine hs_iald j4 dX2_middleOf_42 ha3 hi5 hj6 ?_
  refine hs_iconst (v := 1) dX2_middleOf_43 (by decide) ?_
  refine hs_iadd dX2_middleOf_44 ?_
  refine hs_iast j4 dX2_middleOf_45 ha3 h4_s0 hi5 hj6 ?_
  refine hs_iincK (v := 1) dX2_middleOf_46 rfl (by decide) (by decide) (hk_nk1 rfl ho1) rfl ?_
  refine hs_goto dX2_middleOf_49 (tgt := 10) (by decide) ?_
  exact k
theorem b_X2_middleOf_52 {G : hk_G} {d cb sb : Nat} {h : hk_H} {Q : hk_O → hk_H → Prop} {o0 : Option Value} {o1 : Option Value} {o2 : Option Value} {o3 : Option Value} (k : hk_S G m_X2_middleOf (d + 1) cb sb 54 [o0, o1, some (.int 0), o3] [] h Q) (ho1 : hk_c1 o1 := by first | exact hk_c1i | exact hk_c1r | exact hk_c10 | exact hk_c1n) : hk_S G m_X2_middleOf (d + 1) cb sb 52 [o0, o1, o2, o3] [] h Q := by
  refine hs_iconst (v := 0) dX2_middleOf_52 (by decide) ?_
  refine hs_istK_n dX2_middleOf_53 (by decide) (hk_nk1 rfl ho1) rfl ?_
  exact k
theorem b_X2_middleOf_54 {G : hk_G} {d cb sb : Nat} {h : hk_H} {Q : hk_O → hk_H → Prop} {x2 : Int32} {r0 : Nat} {fs1 : List Value} {v3 : Nat} {fs5 : List Value} {v7 : Int32} {o1 : Option Value} {o3 : Option Value} (hg2 : h.2 r0 = some (.inr (2, fs1))) (hv4 : fs1[1]? = some (.ref v3)) (hg6 : h.2 v3 = some (.inr (8, fs5))) (hv8 : fs5[0]? = some (.int v7)) (kt : v7 ≤ (x2 + 1) → hk_S G m_X2_middleOf (d + 1) cb sb 88 [some (.ref r0), o1, some (.int x2), o3] [] h Q) (kf : ¬ v7 ≤ (x2 + 1) → hk_S G m_X2_middleOf (d + 1) cb sb 67 [some (.ref r0), o1, some (.int x2), o3] [] h Q) : hk_S G m_X2_middleOf (d + 1) cb sb 54 [some (.ref r0), o1, some (.int x2), o3] [] h Q := by
  refine hs_iload_n dX2_middleOf_54 rfl ?_
  refine hs_iconst (v := 1) dX2_middleOf_55 (by decide) ?_
  refine hs_iadd dX2_middleOf_56 ?_
  refine hs_aload_n dX2_middleOf_57 rfl ?_
  refine hs_get dX2_middleOf_58 fl_X2_31_2 hg2 hv4 ?_
  refine hs_get dX2_middleOf_61 fl_X2_35_8 hg6 hv8 ?_
  exact hs_icmp_ge dX2_middleOf_64 (by decide) kt kf
theorem b_X2_middleOf_67 {G : hk_G} {d cb sb : Nat} {h : hk_H} {Q : hk_O → hk_H → Prop} {r0 : Nat} {fs1 : List Value} {v3 : Nat} {v5 : Nat} {x2 : Int32} {n7 : Nat} {f8 : Nat → Int32} {n13 : Nat} {f14 : Nat → Int32} {h_1 : hk_H} {o1 : Option Value} {o3 : Option Value} (hg2 : h.2 r0 = some (.inr (2, fs1))) (hv4 : fs1[4]? = some (.ref v3)) (hv6 : fs1[3]? = some (.ref v5)) (ha9 : h.2 v5 = some (.inl (0, n7, .inl f8))) (j10 : Nat) (hi11 : (x2 : Int32).toInt = (j10 : Int)) (hj12 : j10 < n7) (ha15 : h.2 v3 = some (.inl (0, n13, .inl f14))) (j16 : Nat) (hi17 : (f8 j10 : Int32).toInt = (j16 : Int)) (hj18 : j16 < n13) (h4_v3 : 4 ≤ v3) (e_1 : (hk_set h v3 (.inl (0, n13, .inl (upd f14 j16 ((f14 j16) + 1))))) = h_1) (k : hk_S G m_X2_middleOf (d + 1) cb sb 54 [some (.ref r0), o1, some (.int (x2 + 1)), o3] [] h_1 Q) (ho1 : hk_c1 o1 := by first | exact hk_c1i | exact hk_c1r | exact hk_c10 | exact hk_c1n) : hk_S G m_X2_middleOf (d + 1) cb sb 67 [some (.ref r0), o1, some (.int x2), o3] [] h Q := by
  subst e_1
  refine hs_aload_n dX2_middleOf_67 rfl ?_
  refine hs_get dX2_middleOf_68 fl_X2_15_2 hg2 hv4 ?_
  refine hs_aload_n dX2_middleOf_71 rfl ?_
  refine hs_get dX2_middleOf_72 fl_X2_9_2 hg2 hv6 ?_
  refine hs_iload_n dX2_middleOf_75 rfl ?_
  refine hs_iald j10 dX2_middleOf_76 ha9 hi11 hj12 ?_
  refine hs_dup2 dX2_middleOf_77 rfl rfl ?_
  refine hs_iald j16 dX2_middleOf_78 ha15 hi17 hj18 ?_
  refine hs_iconst (v := 1) dX2_middleOf_79 (by decide) ?_
  refine hs_iadd dX2_middleOf_80 ?_
  refine hs_iast j16 dX2_middleOf_81 ha15 h4_v3 hi17 hj18 ?_
  refine hs_iincK (v := 1) dX2_middleOf_82 rfl (by decide) (by decide) (hk_nk1 rfl ho1) rfl ?_
  refine hs_goto dX2_middleOf_85 (tgt := 54) (by decide) ?_
  exact k
theorem b_X2_middleOf_88 {G : hk_G} {d cb sb : Nat} {h : hk_H} {Q : hk_O → hk_H → Prop} {o0 : Option Value} {o1 : Option Value} {o2 : Option Value} {o3 : Option Value} (k : hk_S G m_X2_middleOf (d + 1) cb sb 92 [o0, o1, some (.int 0), some (.int 0)] [] h Q) (ho1 : hk_c1 o1 := by first | exact hk_c1i | exact hk_c1r | exact hk_c10 | exact hk_c1n) : hk_S G m_X2_middleOf (d + 1) cb sb 88 [o0, o1, o2, o3] [] h Q := by
  refine hs_iconst (v := 0) dX2_middleOf_88 (by decide) ?_
  refine hs_istK_n dX2_middleOf_89 (by decide) (hk_nk1 rfl ho1) rfl ?_
  refine hs_iconst (v := 0) dX2_middleOf_90 (by decide) ?_
  refine hs_istK_n dX2_middleOf_91 (by decide) (hk_nk1 rfl hk_c1i) rfl ?_
  exact k
theorem b_X2_middleOf_92 {G : hk_G} {d cb sb : Nat} {h : hk_H} {Q : hk_O → hk_H → Prop} {x3 : Int32} {r0 : Nat} {fs1 : List Value} {v3 : Nat} {fs5 : List Value} {v7 : Int32} {o1 : Option Value} {o2 : Option Value} (hg2 : h.2 r0 = some (.inr (2, fs1))) (hv4 : fs1[1]? = some (.ref v3)) (hg6 : h.2 v3 = some (.inr (8, fs5))) (hv8 : fs5[1]? = some (.int v7)) (kt : v7 ≤ x3 → hk_S G m_X2_middleOf (d + 1) cb sb 131 [some (.ref r0), o1, o2, some (.int x3)] [] h Q) (kf : ¬ v7 ≤ x3 → hk_S G m_X2_middleOf (d + 1) cb sb 103 [some (.ref r0), o1, o2, some (.int x3)] [] h Q) : hk_S G m_X2_middleOf (d + 1) cb sb 92 [some (.ref r0), o1, o2, some (.int x3)] [] h Q := by
  refine hs_iload_n dX2_middleOf_92 rfl ?_
  refine hs_aload_n dX2_middleOf_93 rfl ?_
  refine hs_get dX2_middleOf_94 fl_X2_31_2 hg2 hv4 ?_
  refine hs_get dX2_middleOf_97 fl_X2_48_8 hg6 hv8 ?_
  exact hs_icmp_ge dX2_middleOf_100 (by decide) kt kf
theorem b_X2_middleOf_103 {G : hk_G} {d cb sb : Nat} {h : hk_H} {Q : hk_O → hk_H → Prop} {x2 : Int32} {r0 : Nat} {fs1 : List Value} {v3 : Nat} {x3 : Int32} {n5 : Nat} {f6 : Nat → Int32} {v11 : Nat} {fs13 : List Value} {v15 : Int32} {o1 : Option Value} (hg2 : h.2 r0 = some (.inr (2, fs1))) (hv4 : fs1[4]? = some (.ref v3)) (ha7 : h.2 v3 = some (.inl (0, n5, .inl f6))) (j8 : Nat) (hi9 : (x3 : Int32).toInt = (j8 : Int)) (hj10 : j8 < n5) (hv12 : fs1[1]? = some (.ref v11)) (hg14 : h.2 v11 = some (.inr (8, fs13))) (hv16 : fs13[0]? = some (.int v15)) (kt : (x2 + (f6 j8)) < v15 → hk_S G m_X2_middleOf (d + 1) cb sb 125 [some (.ref r0), o1, some (.int (x2 + (f6 j8))), some (.int x3)] [] h Q) (kf : ¬ (x2 + (f6 j8)) < v15 → hk_S G m_X2_middleOf (d + 1) cb sb 123 [some (.ref r0), o1, some (.int (x2 + (f6 j8))), some (.int x3)] [] h Q) (ho1 : hk_c1 o1 := by first | exact hk_c1i | exact hk_c1r | exact hk_c10 | exact hk_c1n) : hk_S G m_X2_middleOf (d + 1) cb sb 103 [some (.ref r0), o1, some (.int x2), some (.int x3)] [] h Q := by
  refine hs_iload_n dX2_middleOf_103 rfl ?_
  refine hs_aload_n dX2_middleOf_104 rfl ?_
  refine hs_get dX2_middleOf_105 fl_X2_15_2 hg2 hv4 ?_
  refine hs_iload_n dX2_middleOf_108 rfl ?_
  refine hs_iald j8 dX2_middleOf_109 ha7 hi9 hj10 ?_
  refine hs_iadd dX2_middleOf_110 ?_
  refine hs_istK_n dX2_middleOf_111 (by decide) (hk_nk1 rfl ho1) rfl ?_
  refine hs_iload_n dX2_middleOf_112 rfl ?_
  refine hs_aload_n dX2_middleOf_113 rfl ?_
  refine hs_get dX2_middleOf_114 fl_X2_31_2 hg2 hv12 ?_
  refine hs_get dX2_middleOf_117 fl_X2_35_8 hg14 hv16 ?_
  exact hs_icmp_lt dX2_middleOf_120 (by decide) kt kf
theorem b_X2_middleOf_123 {G : hk_G} {d cb sb : Nat} {h : hk_H} {Q : hk_O → hk_H → Prop} {x3 : Int32} {o0 : Option Value} {o1 : Option Value} {o2 : Option Value} (hq : Q (.inl (some (.int x3))) h) : hk_S G m_X2_middleOf (d + 1) cb sb 123 [o0, o1, o2, some (.int x3)] [] h Q := by
  refine hs_iload_n dX2_middleOf_123 rfl ?_
  exact hs_iret dX2_middleOf_124 rfl hq
theorem b_X2_middleOf_125 {G : hk_G} {d cb sb : Nat} {h : hk_H} {Q : hk_O → hk_H → Prop} {x3 : Int32} {o0 : Option Value} {o1 : Option Value} {o2 : Option Value} (k : hk_S G m_X2_middleOf (d + 1) cb sb 92 [o0, o1, o2, some (.int (x3 + 1))] [] h Q) (ho2 : hk_c1 o2 := by first | exact hk_c1i | exact hk_c1r | exact hk_c10 | exact hk_c1n) : hk_S G m_X2_middleOf (d + 1) cb sb 125 [o0, o1, o2, some (.int x3)] [] h Q := by
  refine hs_iincK (v := 1) dX2_middleOf_125 rfl (by decide) (by decide) (hk_nk1 rfl ho2) rfl ?_
  refine hs_goto dX2_middleOf_128 (tgt := 92) (by decide) ?_
  exact k
theorem b_X2_middleOf_131 {G : hk_G} {d cb sb : Nat} {h : hk_H} {Q : hk_O → hk_H → Prop} {r0 : Nat} {fs1 : List Value} {v3 : Nat} {fs5 : List Value} {v7 : Int32} {o1 : Option Value} {o2 : Option Value} {o3 : Option Value} (hg2 : h.2 r0 = some (.inr (2, fs1))) (hv4 : fs1[1]? = some (.ref v3)) (hg6 : h.2 v3 = some (.inr (8, fs5))) (hv8 : fs5[1]? = some (.int v7)) (hq : Q (.inl (some (.int (v7 - 1)))) h) : hk_S G m_X2_middleOf (d + 1) cb sb 131 [some (.ref r0), o1, o2, o3] [] h Q := by
  refine hs_aload_n dX2_middleOf_131 rfl ?_
  refine hs_get dX2_middleOf_132 fl_X2_31_2 hg2 hv4 ?_
  refine hs_get dX2_middleOf_135 fl_X2_48_8 hg6 hv8 ?_
  refine hs_iconst (v := 1) dX2_middleOf_138 (by decide) ?_
  refine hs_isub dX2_middleOf_139 ?_
  exact hs_iret dX2_middleOf_140 rfl hq
-- HonestHouse$Middle.heft()I
theorem b_X2_heft_0 {G : hk_G} {d cb sb : Nat} {h : hk_H} {Q : hk_O → hk_H → Prop} {r0 : Nat} {fs_ : List Value} {ci_ : Nat} {rr : vw_C} {o1 : Option Value} {o2 : Option Value} (hcl : hk_cl[ci_]? = some rr) (hrec : h.2 r0 = some (.inr (ci_, fs_))) (hc : hk_Ci G m_X5_heft d 0 0 [.ref r0] h (fun z h' => hk_S G m_X2_heft (d + 1) cb sb 4 [some (.ref r0), o1, o2] [.int z] h' Q)) : hk_S G m_X2_heft (d + 1) cb sb 0 [some (.ref r0), o1, o2] [] h Q := by
  refine hs_aload_n dX2_heft_0 rfl ?_
  exact hk_z0 (hs_sup (M' := m_X5_heft) (vs := []) (c1 := 0) (s1 := 0) dX2_heft_1 wd_876 su_X2_heft_X5_heft hcl hrec rfl (Nat.le_of_ble_eq_true rfl) hc hq_i (hc_i (fun z h9 k9 => k9)))
theorem b_X2_heft_4 {G : hk_G} {d cb sb : Nat} {h : hk_H} {Q : hk_O → hk_H → Prop} {s0 : Int32} {o0 : Option Value} {o1 : Option Value} {o2 : Option Value} (k : hk_S G m_X2_heft (d + 1) cb sb 11 [o0, some (.int (s0 + 500)), some (.int 0)] [] h Q) (ho0 : hk_c1 o0 := by first | exact hk_c1i | exact hk_c1r | exact hk_c10 | exact hk_c1n) : hk_S G m_X2_heft (d + 1) cb sb 4 [o0, o1, o2] [.int s0] h Q := by
  refine hs_sipush (v := 500) dX2_heft_4 (by decide) ?_
  refine hs_iadd dX2_heft_7 ?_
  refine hs_istK_n dX2_heft_8 (by decide) (hk_nk1 rfl ho0) rfl ?_
  refine hs_iconst (v := 0) dX2_heft_9 (by decide) ?_
  refine hs_istK_n dX2_heft_10 (by decide) (hk_nk1 rfl hk_c1i) rfl ?_
  exact k
theorem b_X2_heft_11 {G : hk_G} {d cb sb : Nat} {h : hk_H} {Q : hk_O → hk_H → Prop} {x2 : Int32} {r0 : Nat} {fs1 : List Value} {v3 : Nat} {fs5 : List Value} {v7 : Int32} {o1 : Option Value} (hg2 : h.2 r0 = some (.inr (2, fs1))) (hv4 : fs1[1]? = some (.ref v3)) (hg6 : h.2 v3 = some (.inr (8, fs5))) (hv8 : fs5[0]? = some (.int v7)) (kt : v7 ≤ (x2 + 1) → hk_S G m_X2_heft (d + 1) cb sb 39 [some (.ref r0), o1, some (.int x2)] [] h Q) (kf : ¬ v7 ≤ (x2 + 1) → hk_S G m_X2_heft (d + 1) cb sb 24 [some (.ref r0), o1, some (.int x2)] [] h Q) : hk_S G m_X2_heft (d + 1) cb sb 11 [some (.ref r0), o1, some (.int x2)] [] h Q := by
  refine hs_iload_n dX2_heft_11 rfl ?_
  refine hs_iconst (v := 1) dX2_heft_12 (by decide) ?_
  refine hs_iadd dX2_heft_13 ?_
  refine hs_aload_n dX2_heft_14 rfl ?_
  refine hs_get dX2_heft_15 fl_X2_31_2 hg2 hv4 ?_
  refine hs_get dX2_heft_18 fl_X2_35_8 hg6 hv8 ?_
  exact hs_icmp_ge dX2_heft_21 (by decide) kt kf
theorem b_X2_heft_24 {G : hk_G} {d cb sb : Nat} {h : hk_H} {Q : hk_O → hk_H → Prop} {x1 : Int32} {r0 : Nat} {fs1 : List Value} {v3 : Nat} {x2 : Int32} {n5 : Nat} {f6 : Nat → Int32} (hg2 : h.2 r0 = some (.inr (2, fs1))) (hv4 : fs1[3]? = some (.ref v3)) (ha7 : h.2 v3 = some (.inl (0, n5, .inl f6))) (j8 : Nat) (hi9 : (x2 : Int32).toInt = (j8 : Int)) (hj10 : j8 < n5) (k : hk_S G m_X2_heft (d + 1) cb sb 11 [some (.ref r0), some (.int (x1 + (f6 j8))), some (.int (x2 + 1))] [] h Q) : hk_S G m_X2_heft (d + 1) cb sb 24 [some (.ref r0), some (.int x1), some (.int x2)] [] h Q := by
  refine hs_iload_n dX2_heft_24 rfl ?_
  refine hs_aload_n dX2_heft_25 rfl ?_
  refine hs_get dX2_heft_26 fl_X2_9_2 hg2 hv4 ?_
  refine hs_iload_n dX2_heft_29 rfl ?_
  refine hs_iald j8 dX2_heft_30 ha7 hi9 hj10 ?_
  refine hs_iadd dX2_heft_31 ?_
  refine hs_istK_n dX2_heft_32 (by decide) (hk_nk1 rfl hk_c1r) rfl ?_
  refine hs_iincK (v := 1) dX2_heft_33 rfl (by decide) (by decide) (hk_nk1 rfl hk_c1i) rfl ?_
  refine hs_goto dX2_heft_36 (tgt := 11) (by decide) ?_
  exact k
theorem b_X2_heft_39 {G : hk_G} {d cb sb : Nat} {h : hk_H} {Q : hk_O → hk_H → Prop} {x1 : Int32} {o0 : Option Value} {o2 : Option Value} (hq : Q (.inl (some (.int x1))) h) : hk_S G m_X2_heft (d + 1) cb sb 39 [o0, some (.int x1), o2] [] h Q := by
  refine hs_iload_n dX2_heft_39 rfl ?_
  exact hs_iret dX2_heft_40 rfl hq
-- HonestHouse$Middle.fail()V
theorem b_X2_fail_0 {G : hk_G} {d cb sb : Nat} {h : hk_H} {Q : hk_O → hk_H → Prop} {o0 : Option Value} (hq : Q (.inr "java/lang/IllegalStateException") (h.1 + 1, h.2)) : hk_S G m_X2_fail d (cb + 1) (sb + 6) 0 [o0] [] h Q := by
  exact hs_throw (text := "a middle rule fails") dX2_fail_0 dX2_fail_3 dX2_fail_4 dX2_fail_6 dX2_fail_9 rfl th_X2_S (by decide +kernel) rfl hq
-- b_X2_fail_9: .athrow
-- HonestHouse$Paid.<init>(ILHonestHouse$Wishes;)V
theorem b_X3_init_0 {G : hk_G} {d cb sb : Nat} {h : hk_H} {Q : hk_O → hk_H → Prop} {r0 : Nat} {x1 : Int32} {r2 : Nat} {cq : Nat} {sq : Nat} (hc : hk_Cv G m_X5_init d cq sq [.ref r0, .int x1, .ref r2] h (fun h' => hk_S G m_X3_init (d + 1) cb sb 6 [some (.ref r0), some (.int x1), some (.ref r2)] [] h' Q)) : hk_S G m_X3_init (d + 1) (cq + cb) (sq + sb) 0 [some (.ref r0), some (.int x1), some (.ref r2)] [] h Q := by
  refine hs_aload_n dX3_init_0 rfl ?_
  refine hs_iload_n dX3_init_1 rfl ?_
  refine hs_aload_n dX3_init_2 rfl ?_
  exact hs_ini (M' := m_X5_init) (vs := [.int x1, .ref r2]) dX3_init_3 wd_267 ic_X5_init rfl (Nat.le_of_ble_eq_true rfl) hc hq_v (hc_v (fun h9 k9 => k9))
theorem b_X3_init_6 {G : hk_G} {d cb sb : Nat} {h : hk_H} {Q : hk_O → hk_H → Prop} {r0 : Nat} {r2 : Nat} {fs1 : List Value} {v3 : Int32} {v5 : Int32} {h_1 : hk_H} {fs10 : List Value} {ci12 : Nat} {k14 : Nat} {h_2 : hk_H} {o1 : Option Value} (hg2 : h.2 r2 = some (.inr (8, fs1))) (hv4 : fs1[5]? = some (.int v3)) (hv6 : fs1[0]? = some (.int v5)) (N7 : Nat) (hn8 : (v3 * v5 : Int32).toInt = (N7 : Int)) (hb9 : N7 ≤ 1000000) (e_1 : (hk_new h (.inl (0, N7, .inl (fun _ => 0)))) = h_1) (hg11 : h_1.2 r0 = some (.inr (ci12, fs10))) (hf13 : hk_fw RX3 16 ci12 k14 (.array .int) true) (h4_r0 : 4 ≤ r0) (e_2 : (hk_set h_1 r0 (.inr (ci12, fs10.set k14 (.ref h.1)))) = h_2) (hq : Q (.inl none) h_2) (hl15 : k14 < fs10.length := by exact Nat.le_of_ble_eq_true rfl) : hk_S G m_X3_init (d + 1) (cb + 1) (sb + N7) 6 [some (.ref r0), o1, some (.ref r2)] [] h Q := by
  subst e_1
  subst e_2
  refine hs_aload_n dX3_init_6 rfl ?_
  refine hs_aload_n dX3_init_7 rfl ?_
  refine hs_get dX3_init_8 fl_X3_7_8 hg2 hv4 ?_
  refine hs_aload_n dX3_init_11 rfl ?_
  refine hs_get dX3_init_12 fl_X3_13_8 hg2 hv6 ?_
  refine hs_imul dX3_init_15 ?_
  refine hs_newi (N := N7) dX3_init_16 hn8 hb9 ?_
  refine hs_putF (t := .array .int) dX3_init_18 rfl hf13 hg11 h4_r0 hl15 rfl rfl ?_
  exact hs_vret dX3_init_21 rfl hq
-- HonestHouse$Paid.paymentAt(II)I
theorem b_X3_paymentAt_0 {G : hk_G} {d cb sb : Nat} {h : hk_H} {Q : hk_O → hk_H → Prop} {r0 : Nat} {fs1 : List Value} {ci3 : Nat} {k5 : Nat} {v6 : Nat} {x1 : Int32} {k9 : Nat} {v10 : Nat} {fs12 : List Value} {v14 : Int32} {x2 : Int32} {n16 : Nat} {f17 : Nat → Int32} (hg2 : h.2 r0 = some (.inr (ci3, fs1))) (hf4 : hk_fl RX3 16 ci3 k5) (hv7 : fs1[k5]? = some (.ref v6)) (hf8 : hk_fl RX3 22 ci3 k9) (hv11 : fs1[k9]? = some (.ref v10)) (hg13 : h.2 v10 = some (.inr (8, fs12))) (hv15 : fs12[0]? = some (.int v14)) (ha18 : h.2 v6 = some (.inl (0, n16, .inl f17))) (j19 : Nat) (hi20 : ((x1 * v14) + x2 : Int32).toInt = (j19 : Int)) (hj21 : j19 < n16) (hq : Q (.inl (some (.int (f17 j19)))) h) : hk_S G m_X3_paymentAt d cb sb 0 [some (.ref r0), some (.int x1), some (.int x2)] [] h Q := by
  refine hs_aload_n dX3_paymentAt_0 rfl ?_
  refine hs_get dX3_paymentAt_1 hf4 hg2 hv7 ?_
  refine hs_iload_n dX3_paymentAt_4 rfl ?_
  refine hs_aload_n dX3_paymentAt_5 rfl ?_
  refine hs_get dX3_paymentAt_6 hf8 hg2 hv11 ?_
  refine hs_get dX3_paymentAt_9 fl_X3_13_8 hg13 hv15 ?_
  refine hs_imul dX3_paymentAt_12 ?_
  refine hs_iload_n dX3_paymentAt_13 rfl ?_
  refine hs_iadd dX3_paymentAt_14 ?_
  refine hs_iald j19 dX3_paymentAt_15 ha18 hi20 hj21 ?_
  exact hs_iret dX3_paymentAt_16 rfl hq
-- HonestHouse$Paid.changePayment(III)I
theorem b_X3_changePayment_0 {G : hk_G} {d cb sb : Nat} {h : hk_H} {Q : hk_O → hk_H → Prop} {x1 : Int32} {r0 : Nat} {fs1 : List Value} {ci3 : Nat} {k5 : Nat} {v6 : Nat} {fs8 : List Value} {v10 : Int32} {x2 : Int32} {k13 : Nat} {v14 : Nat} {n16 : Nat} {f17 : Nat → Int32} {x3 : Int32} {h_1 : hk_H} {o4 : Option Value} {o5 : Option Value} (hg2 : h.2 r0 = some (.inr (ci3, fs1))) (hf4 : hk_fl RX3 22 ci3 k5) (hv7 : fs1[k5]? = some (.ref v6)) (hg9 : h.2 v6 = some (.inr (8, fs8))) (hv11 : fs8[0]? = some (.int v10)) (hf12 : hk_fl RX3 16 ci3 k13) (hv15 : fs1[k13]? = some (.ref v14)) (ha18 : h.2 v14 = some (.inl (0, n16, .inl f17))) (j19 : Nat) (hi20 : ((x1 * v10) + x2 : Int32).toInt = (j19 : Int)) (hj21 : j19 < n16) (h4_v14 : 4 ≤ v14) (e_1 : (hk_set h v14 (.inl (0, n16, .inl (upd f17 j19 x3)))) = h_1) (kt : ¬ (f17 j19) = x3 → hk_S G m_X3_changePayment d cb sb 40 [some (.ref r0), some (.int x1), some (.int x2), some (.int x3), some (.int ((x1 * v10) + x2)), some (.int (f17 j19))] [] h_1 Q) (kf : (f17 j19) = x3 → hk_S G m_X3_changePayment d cb sb 36 [some (.ref r0), some (.int x1), some (.int x2), some (.int x3), some (.int ((x1 * v10) + x2)), some (.int (f17 j19))] [] h_1 Q) : hk_S G m_X3_changePayment d cb sb 0 [some (.ref r0), some (.int x1), some (.int x2), some (.int x3), o4, o5] [] h Q := by
  subst e_1
  refine hs_iload_n dX3_changePayment_0 rfl ?_
  refine hs_aload_n dX3_changePayment_1 rfl ?_
  refine hs_get dX3_changePayment_2 hf4 hg2 hv7 ?_
  refine hs_get dX3_changePayment_5 fl_X3_13_8 hg9 hv11 ?_
  refine hs_imul dX3_changePayment_8 ?_
  refine hs_iload_n dX3_changePayment_9 rfl ?_
  refine hs_iadd dX3_changePayment_10 ?_
  refine hs_istK dX3_changePayment_11 (by decide) (hk_nk1 rfl hk_c1i) rfl ?_
  refine hs_aload_n dX3_changePayment_13 rfl ?_
  refine hs_get dX3_changePayment_14 hf12 hg2 hv15 ?_
  refine hs_iload dX3_changePayment_17 rfl ?_
  refine hs_iald j19 dX3_changePayment_19 ha18 hi20 hj21 ?_
  refine hs_istK dX3_changePayment_20 (by decide) (hk_nk1 rfl hk_c1i) rfl ?_
  refine hs_aload_n dX3_changePayment_22 rfl ?_
  refine hs_get dX3_changePayment_23 hf12 hg2 hv15 ?_
  refine hs_iload dX3_changePayment_26 rfl ?_
  refine hs_iload_n dX3_changePayment_28 rfl ?_
  refine hs_iast j19 dX3_changePayment_29 ha18 h4_v14 hi20 hj21 ?_
  refine hs_iload dX3_changePayment_30 rfl ?_
  refine hs_iload_n dX3_changePayment_32 rfl ?_
  exact hs_icmp_ne dX3_changePayment_33 (by decide) kt kf
theorem b_X3_changePayment_36 {G : hk_G} {d cb sb : Nat} {h : hk_H} {Q : hk_O → hk_H → Prop} {o0 : Option Value} {o1 : Option Value} {o2 : Option Value} {o3 : Option Value} {o4 : Option Value} {o5 : Option Value} (hq : Q (.inl (some (.int 0))) h) : hk_S G m_X3_changePayment d cb sb 36 [o0, o1, o2, o3, o4, o5] [] h Q := by
  refine hs_iconst (v := 0) dX3_changePayment_36 (by decide) ?_
  refine hs_goto dX3_changePayment_37 (tgt := 41) (by decide) ?_
  exact hs_iret dX3_changePayment_41 rfl hq
theorem b_X3_changePayment_40 {G : hk_G} {d cb sb : Nat} {h : hk_H} {Q : hk_O → hk_H → Prop} {o0 : Option Value} {o1 : Option Value} {o2 : Option Value} {o3 : Option Value} {o4 : Option Value} {o5 : Option Value} (hq : Q (.inl (some (.int 1))) h) : hk_S G m_X3_changePayment d cb sb 40 [o0, o1, o2, o3, o4, o5] [] h Q := by
  refine hs_iconst (v := 1) dX3_changePayment_40 (by decide) ?_
  exact hs_iret dX3_changePayment_41 rfl hq
theorem b_X3_changePayment_41 {G : hk_G} {d cb sb : Nat} {h : hk_H} {Q : hk_O → hk_H → Prop} {s0 : Int32} {o0 : Option Value} {o1 : Option Value} {o2 : Option Value} {o3 : Option Value} {o4 : Option Value} {o5 : Option Value} (hq : Q (.inl (some (.int s0))) h) : hk_S G m_X3_changePayment d cb sb 41 [o0, o1, o2, o3, o4, o5] [.int s0] h Q := by
  exact hs_iret dX3_changePayment_41 rfl hq
-- HonestHouse$Paid.heft()I
theorem b_X3_heft_0 {G : hk_G} {d cb sb : Nat} {h : hk_H} {Q : hk_O → hk_H → Prop} {r0 : Nat} {fs_ : List Value} {ci_ : Nat} {rr : vw_C} (hcl : hk_cl[ci_]? = some rr) (hrec : h.2 r0 = some (.inr (ci_, fs_))) (hc : hk_Ci G m_X5_heft d 0 0 [.ref r0] h (fun z h' => hk_S G m_X3_heft (d + 1) cb sb 4 [some (.ref r0)] [.int z] h' Q)) : hk_S G m_X3_heft (d + 1) cb sb 0 [some (.ref r0)] [] h Q := by
  refine hs_aload_n dX3_heft_0 rfl ?_
  exact hk_z0 (hs_sup (M' := m_X5_heft) (vs := []) (c1 := 0) (s1 := 0) dX3_heft_1 wd_880 su_X3_heft_X5_heft hcl hrec rfl (Nat.le_of_ble_eq_true rfl) hc hq_i (hc_i (fun z h9 k9 => k9)))
theorem b_X3_heft_4 {G : hk_G} {d cb sb : Nat} {h : hk_H} {Q : hk_O → hk_H → Prop} {s0 : Int32} {o0 : Option Value} (hq : Q (.inl (some (.int (s0 + 100)))) h) : hk_S G m_X3_heft (d + 1) cb sb 4 [o0] [.int s0] h Q := by
  refine hs_bipush (v := 100) dX3_heft_4 (by decide) ?_
  refine hs_iadd dX3_heft_6 ?_
  exact hs_iret dX3_heft_7 rfl hq
-- HonestHouse$Paid.fail()V
theorem b_X3_fail_0 {G : hk_G} {d cb sb : Nat} {h : hk_H} {Q : hk_O → hk_H → Prop} {o0 : Option Value} (hq : Q (.inr "java/lang/IllegalStateException") (h.1 + 1, h.2)) : hk_S G m_X3_fail d (cb + 1) (sb + 6) 0 [o0] [] h Q := by
  exact hs_throw (text := "a paid rule fails") dX3_fail_0 dX3_fail_3 dX3_fail_4 dX3_fail_6 dX3_fail_9 rfl th_X3_S (by decide +kernel) rfl hq
-- b_X3_fail_9: .athrow
-- HonestHouse$Table.<init>(ILHonestHouse$Wishes;)V
theorem b_X5_init_0 {G : hk_G} {d cb sb : Nat} {h : hk_H} {Q : hk_O → hk_H → Prop} {r0 : Nat} {x1 : Int32} {fs1 : List Value} {ci3 : Nat} {k5 : Nat} {h_1 : hk_H} {r2 : Nat} {fs7 : List Value} {ci9 : Nat} {k11 : Nat} {h_2 : hk_H} {fs13 : List Value} {v15 : Int32} {h_3 : hk_H} {fs20 : List Value} {ci22 : Nat} {k24 : Nat} {h_4 : hk_H} (hg2 : h.2 r0 = some (.inr (ci3, fs1))) (hf4 : hk_fw RX5 9 ci3 k5 (.int) true) (h4_r0 : 4 ≤ r0) (e_1 : (hk_set h r0 (.inr (ci3, fs1.set k5 (.int x1)))) = h_1) (hg8 : h_1.2 r0 = some (.inr (ci9, fs7))) (hf10 : hk_fw RX5 15 ci9 k11 (.object "HonestHouse$Wishes") true) (e_2 : (hk_set h_1 r0 (.inr (ci9, fs7.set k11 (.ref r2)))) = h_2) (hg14 : h_2.2 r2 = some (.inr (8, fs13))) (hv16 : fs13[5]? = some (.int v15)) (N17 : Nat) (hn18 : (v15 : Int32).toInt = (N17 : Int)) (hb19 : N17 ≤ 1000000) (e_3 : (hk_new h_2 (.inl (0, N17, .inl (fun _ => 0)))) = h_3) (hg21 : h_3.2 r0 = some (.inr (ci22, fs20))) (hf23 : hk_fw RX5 24 ci22 k24 (.array .int) true) (e_4 : (hk_set h_3 r0 (.inr (ci22, fs20.set k24 (.ref h_2.1)))) = h_4) (hq : Q (.inl none) h_4) (hl6 : k5 < fs1.length := by exact Nat.le_of_ble_eq_true rfl) (hl12 : k11 < fs7.length := by exact Nat.le_of_ble_eq_true rfl) (hl25 : k24 < fs20.length := by exact Nat.le_of_ble_eq_true rfl) : hk_S G m_X5_init d (cb + 1) (sb + N17) 0 [some (.ref r0), some (.int x1), some (.ref r2)] [] h Q := by
  subst e_1
  subst e_2
  subst e_3
  subst e_4
  refine hs_aload_n dX5_init_0 rfl ?_
  refine hs_objInit (a := r0) dX5_init_1 ⟨wd_270, oi_.1, oi_.2⟩ (Nat.le_of_ble_eq_true rfl) ?_
  refine hs_aload_n dX5_init_4 rfl ?_
  refine hs_iload_n dX5_init_5 rfl ?_
  refine hs_putF (t := .int) dX5_init_6 rfl hf4 hg2 h4_r0 hl6 rfl rfl ?_
  refine hs_aload_n dX5_init_9 rfl ?_
  refine hs_aload_n dX5_init_10 rfl ?_
  refine hs_putF (t := .object "HonestHouse$Wishes") dX5_init_11 rfl hf10 hg8 h4_r0 hl12 rfl rfl ?_
  refine hs_aload_n dX5_init_14 rfl ?_
  refine hs_aload_n dX5_init_15 rfl ?_
  refine hs_get dX5_init_16 fl_X5_19_8 hg14 hv16 ?_
  refine hs_newi (N := N17) dX5_init_19 hn18 hb19 ?_
  refine hs_putF (t := .array .int) dX5_init_21 rfl hf23 hg21 h4_r0 hl25 rfl rfl ?_
  exact hs_vret dX5_init_24 rfl hq
-- HonestHouse$Table.settle(I)V
theorem b_X5_settle_0 {G : hk_G} {d cb sb : Nat} {h : hk_H} {Q : hk_O → hk_H → Prop} {o0 : Option Value} {o1 : Option Value} (hq : Q (.inl none) h) : hk_S G m_X5_settle d cb sb 0 [o0, o1] [] h Q := by
  exact hs_vret dX5_settle_0 rfl hq
-- HonestHouse$Table.endAt(I)I
theorem b_X5_endAt_0 {G : hk_G} {d cb sb : Nat} {h : hk_H} {Q : hk_O → hk_H → Prop} {r0 : Nat} {fs1 : List Value} {ci3 : Nat} {k5 : Nat} {v6 : Nat} {x1 : Int32} {n8 : Nat} {f9 : Nat → Int32} (hg2 : h.2 r0 = some (.inr (ci3, fs1))) (hf4 : hk_fl RX5 24 ci3 k5) (hv7 : fs1[k5]? = some (.ref v6)) (ha10 : h.2 v6 = some (.inl (0, n8, .inl f9))) (j11 : Nat) (hi12 : (x1 : Int32).toInt = (j11 : Int)) (hj13 : j11 < n8) (hq : Q (.inl (some (.int (f9 j11)))) h) : hk_S G m_X5_endAt d cb sb 0 [some (.ref r0), some (.int x1)] [] h Q := by
  refine hs_aload_n dX5_endAt_0 rfl ?_
  refine hs_get dX5_endAt_1 hf4 hg2 hv7 ?_
  refine hs_iload_n dX5_endAt_4 rfl ?_
  refine hs_iald j11 dX5_endAt_5 ha10 hi12 hj13 ?_
  exact hs_iret dX5_endAt_6 rfl hq
-- HonestHouse$Table.paymentAt(II)I
theorem b_X5_paymentAt_0 {G : hk_G} {d cb sb : Nat} {h : hk_H} {Q : hk_O → hk_H → Prop} {o0 : Option Value} {o1 : Option Value} {o2 : Option Value} (hq : Q (.inl (some (.int 0))) h) : hk_S G m_X5_paymentAt d cb sb 0 [o0, o1, o2] [] h Q := by
  refine hs_iconst (v := 0) dX5_paymentAt_0 (by decide) ?_
  exact hs_iret dX5_paymentAt_1 rfl hq
-- HonestHouse$Table.profit(III)I
theorem b_X5_profit_0 {G : hk_G} {d cb sb : Nat} {h : hk_H} {Q : hk_O → hk_H → Prop} {r0 : Nat} {fs1 : List Value} {ci3 : Nat} {k5 : Nat} {v6 : Nat} {x3 : Int32} {x1 : Int32} {M' : hk_M} {o2 : Option Value} (hg2 : h.2 r0 = some (.inr (ci3, fs1))) (hf4 : hk_fl RX5 15 ci3 k5) (hv7 : fs1[k5]? = some (.ref v6)) (hdis : hk_dis yX5_endAt ci3 M' 1) (hc : hk_Ci G M' d 0 0 [.ref r0, .int x1] h (fun z h' => hk_S G m_X5_profit (d + 1) cb sb 10 [some (.ref r0), some (.int x1), o2, some (.int x3)] [.int z, .int x3, .ref v6] h' Q)) : hk_S G m_X5_profit (d + 1) cb sb 0 [some (.ref r0), some (.int x1), o2, some (.int x3)] [] h Q := by
  refine hs_aload_n dX5_profit_0 rfl ?_
  refine hs_get dX5_profit_1 hf4 hg2 hv7 ?_
  refine hs_iload_n dX5_profit_4 rfl ?_
  refine hs_aload_n dX5_profit_5 rfl ?_
  refine hs_iload_n dX5_profit_6 rfl ?_
  exact hk_z0 (hs_dis (x := yX5_endAt) (vs := [.int x1]) (c1 := 0) (s1 := 0) dX5_profit_7 wd_517 hdis hg2 rfl (Nat.le_of_ble_eq_true rfl) hc hq_i (hc_i (fun z h9 k9 => k9)))
theorem b_X5_profit_10 {G : hk_G} {d cb sb : Nat} {h : hk_H} {Q : hk_O → hk_H → Prop} {s0 : Nat} {s1 : Int32} {s2 : Int32} {fs_ : List Value} {o0 : Option Value} {o1 : Option Value} {o2 : Option Value} {o3 : Option Value} (hrec : h.2 s0 = some (.inr (8, fs_))) (hc : hk_Ci G m_X8_number d 0 0 [.ref s0, .int s1, .int s2] h (fun z h' => hk_S G m_X5_profit (d + 1) cb sb 13 [o0, o1, o2, o3] [.int z] h' Q)) : hk_S G m_X5_profit (d + 1) cb sb 10 [o0, o1, o2, o3] [.int s2, .int s1, .ref s0] h Q := by
  exact hk_z0 (hs_vir (M' := m_X8_number) (vs := [.int s1, .int s2]) (c1 := 0) (s1 := 0) dX5_profit_10 wd_518 vi_X8_number hrec rfl (Nat.le_of_ble_eq_true rfl) hc hq_i (hc_i (fun z h9 k9 => k9)))
theorem b_X5_profit_13 {G : hk_G} {d cb sb : Nat} {h : hk_H} {Q : hk_O → hk_H → Prop} {s0 : Int32} {r0 : Nat} {x1 : Int32} {x2 : Int32} {M' : hk_M} {ci_ : Nat} {fs_ : List Value} {o3 : Option Value} (hdis : hk_dis yX5_paymentAt ci_ M' 2) (hrec : h.2 r0 = some (.inr (ci_, fs_))) (hc : hk_Ci G M' d 0 0 [.ref r0, .int x1, .int x2] h (fun z h' => hk_S G m_X5_profit (d + 1) cb sb 19 [some (.ref r0), some (.int x1), some (.int x2), o3] [.int z, .int s0] h' Q)) : hk_S G m_X5_profit (d + 1) cb sb 13 [some (.ref r0), some (.int x1), some (.int x2), o3] [.int s0] h Q := by
  refine hs_aload_n dX5_profit_13 rfl ?_
  refine hs_iload_n dX5_profit_14 rfl ?_
  refine hs_iload_n dX5_profit_15 rfl ?_
  exact hk_z0 (hs_dis (x := yX5_paymentAt) (vs := [.int x1, .int x2]) (c1 := 0) (s1 := 0) dX5_profit_16 wd_519 hdis hrec rfl (Nat.le_of_ble_eq_true rfl) hc hq_i (hc_i (fun z h9 k9 => k9)))
theorem b_X5_profit_19 {G : hk_G} {d cb sb : Nat} {h : hk_H} {Q : hk_O → hk_H → Prop} {s0 : Int32} {s1 : Int32} {o0 : Option Value} {o1 : Option Value} {o2 : Option Value} {o3 : Option Value} (hq : Q (.inl (some (.int (s0 - s1)))) h) : hk_S G m_X5_profit (d + 1) cb sb 19 [o0, o1, o2, o3] [.int s1, .int s0] h Q := by
  refine hs_isub dX5_profit_19 ?_
  exact hs_iret dX5_profit_20 rfl hq
-- HonestHouse$Table.changeEnd(II)I
theorem b_X5_changeEnd_0 {G : hk_G} {d cb sb : Nat} {h : hk_H} {Q : hk_O → hk_H → Prop} {r0 : Nat} {fs1 : List Value} {ci3 : Nat} {k5 : Nat} {v6 : Nat} {x1 : Int32} {n8 : Nat} {f9 : Nat → Int32} {x2 : Int32} {h_1 : hk_H} {o3 : Option Value} (hg2 : h.2 r0 = some (.inr (ci3, fs1))) (hf4 : hk_fl RX5 24 ci3 k5) (hv7 : fs1[k5]? = some (.ref v6)) (ha10 : h.2 v6 = some (.inl (0, n8, .inl f9))) (j11 : Nat) (hi12 : (x1 : Int32).toInt = (j11 : Int)) (hj13 : j11 < n8) (h4_v6 : 4 ≤ v6) (e_1 : (hk_set h v6 (.inl (0, n8, .inl (upd f9 j11 x2)))) = h_1) (hq : Q (.inl (some (.int (f9 j11)))) h_1) : hk_S G m_X5_changeEnd d cb sb 0 [some (.ref r0), some (.int x1), some (.int x2), o3] [] h Q := by
  subst e_1
  refine hs_aload_n dX5_changeEnd_0 rfl ?_
  refine hs_get dX5_changeEnd_1 hf4 hg2 hv7 ?_
  refine hs_iload_n dX5_changeEnd_4 rfl ?_
  refine hs_iald j11 dX5_changeEnd_5 ha10 hi12 hj13 ?_
  refine hs_istK_n dX5_changeEnd_6 (by decide) (hk_nk1 rfl hk_c1i) rfl ?_
  refine hs_aload_n dX5_changeEnd_7 rfl ?_
  refine hs_get dX5_changeEnd_8 hf4 hg2 hv7 ?_
  refine hs_iload_n dX5_changeEnd_11 rfl ?_
  refine hs_iload_n dX5_changeEnd_12 rfl ?_
  refine hs_iast j11 dX5_changeEnd_13 ha10 h4_v6 hi12 hj13 ?_
  refine hs_iload_n dX5_changeEnd_14 rfl ?_
  exact hs_iret dX5_changeEnd_15 rfl hq
-- HonestHouse$Table.changePayment(III)I
theorem b_X5_changePayment_0 {G : hk_G} {d cb sb : Nat} {h : hk_H} {Q : hk_O → hk_H → Prop} {o0 : Option Value} {o1 : Option Value} {o2 : Option Value} {o3 : Option Value} (hq : Q (.inl (some (.int ((-4))))) h) : hk_S G m_X5_changePayment d cb sb 0 [o0, o1, o2, o3] [] h Q := by
  refine hs_bipush (v := (-4)) dX5_changePayment_0 (by decide) ?_
  exact hs_iret dX5_changePayment_2 rfl hq
-- HonestHouse$Table.changeGift(II)I
theorem b_X5_changeGift_0 {G : hk_G} {d cb sb : Nat} {h : hk_H} {Q : hk_O → hk_H → Prop} {o0 : Option Value} {o1 : Option Value} {o2 : Option Value} (hq : Q (.inl (some (.int ((-4))))) h) : hk_S G m_X5_changeGift d cb sb 0 [o0, o1, o2] [] h Q := by
  refine hs_bipush (v := (-4)) dX5_changeGift_0 (by decide) ?_
  exact hs_iret dX5_changeGift_2 rfl hq
-- HonestHouse$Table.changeWeight(II)I
theorem b_X5_changeWeight_0 {G : hk_G} {d cb sb : Nat} {h : hk_H} {Q : hk_O → hk_H → Prop} {o0 : Option Value} {o1 : Option Value} {o2 : Option Value} (hq : Q (.inl (some (.int ((-4))))) h) : hk_S G m_X5_changeWeight d cb sb 0 [o0, o1, o2] [] h Q := by
  refine hs_bipush (v := (-4)) dX5_changeWeight_0 (by decide) ?_
  exact hs_iret dX5_changeWeight_2 rfl hq
-- HonestHouse$Table.changePlace(II)I
theorem b_X5_changePlace_0 {G : hk_G} {d cb sb : Nat} {h : hk_H} {Q : hk_O → hk_H → Prop} {o0 : Option Value} {o1 : Option Value} {o2 : Option Value} (hq : Q (.inl (some (.int ((-4))))) h) : hk_S G m_X5_changePlace d cb sb 0 [o0, o1, o2] [] h Q := by
  refine hs_bipush (v := (-4)) dX5_changePlace_0 (by decide) ?_
  exact hs_iret dX5_changePlace_2 rfl hq
-- HonestHouse$Table.heft()I
theorem b_X5_heft_0 {G : hk_G} {d cb sb : Nat} {h : hk_H} {Q : hk_O → hk_H → Prop} {r0 : Nat} {fs1 : List Value} {ci3 : Nat} {k5 : Nat} {v6 : Int32} (hg2 : h.2 r0 = some (.inr (ci3, fs1))) (hf4 : hk_fl RX5 9 ci3 k5) (hv7 : fs1[k5]? = some (.int v6)) (hq : Q (.inl (some (.int (v6 + 10)))) h) : hk_S G m_X5_heft d cb sb 0 [some (.ref r0)] [] h Q := by
  refine hs_aload_n dX5_heft_0 rfl ?_
  refine hs_get dX5_heft_1 hf4 hg2 hv7 ?_
  refine hs_bipush (v := 10) dX5_heft_4 (by decide) ?_
  refine hs_iadd dX5_heft_6 ?_
  exact hs_iret dX5_heft_7 rfl hq
-- HonestHouse$Table.fail()V
theorem b_X5_fail_0 {G : hk_G} {d cb sb : Nat} {h : hk_H} {Q : hk_O → hk_H → Prop} {o0 : Option Value} (hq : Q (.inl none) h) : hk_S G m_X5_fail d cb sb 0 [o0] [] h Q := by
  exact hs_vret dX5_fail_0 rfl hq
-- HonestHouse$Weighed.<init>(ILHonestHouse$Wishes;)V
theorem b_X7_init_0 {G : hk_G} {d cb sb : Nat} {h : hk_H} {Q : hk_O → hk_H → Prop} {r0 : Nat} {x1 : Int32} {r2 : Nat} {cq : Nat} {sq : Nat} (hc : hk_Cv G m_X3_init d cq sq [.ref r0, .int x1, .ref r2] h (fun h' => hk_S G m_X7_init (d + 1) cb sb 6 [some (.ref r0), some (.int x1), some (.ref r2)] [] h' Q)) : hk_S G m_X7_init (d + 1) (cq + cb) (sq + sb) 0 [some (.ref r0), some (.int x1), some (.ref r2)] [] h Q := by
  refine hs_aload_n dX7_init_0 rfl ?_
  refine hs_iload_n dX7_init_1 rfl ?_
  refine hs_aload_n dX7_init_2 rfl ?_
  exact hs_ini (M' := m_X3_init) (vs := [.int x1, .ref r2]) dX7_init_3 wd_302 ic_X3_init rfl (Nat.le_of_ble_eq_true rfl) hc hq_v (hc_v (fun h9 k9 => k9))
theorem b_X7_init_6 {G : hk_G} {d cb sb : Nat} {h : hk_H} {Q : hk_O → hk_H → Prop} {r0 : Nat} {h_1 : hk_H} {fs1 : List Value} {h_2 : hk_H} {h_3 : hk_H} {fs4 : List Value} {h_4 : hk_H} {h_5 : hk_H} {fs7 : List Value} {h_6 : hk_H} {fs10 : List Value} {v12 : Nat} {o1 : Option Value} {o2 : Option Value} (e_1 : (hk_new h (.inl (0, 5, .inl (fun _ => 0)))) = h_1) (hg2 : h_1.2 r0 = some (.inr (7, fs1))) (h4_r0 : 4 ≤ r0) (e_2 : (hk_set h_1 r0 (.inr (7, fs1.set 4 (.ref h.1)))) = h_2) (e_3 : (hk_new h_2 (.inl (0, 4, .inl (fun _ => 0)))) = h_3) (hg5 : h_3.2 r0 = some (.inr (7, fs4))) (e_4 : (hk_set h_3 r0 (.inr (7, fs4.set 5 (.ref h_2.1)))) = h_4) (e_5 : (hk_new h_4 (.inl (0, 5, .inl (fun _ => 0)))) = h_5) (hg8 : h_5.2 r0 = some (.inr (7, fs7))) (e_6 : (hk_set h_5 r0 (.inr (7, fs7.set 6 (.ref h_4.1)))) = h_6) (hg11 : h_6.2 r0 = some (.inr (7, fs10))) (hv13 : fs10[5]? = some (.ref v12)) (hc : hk_Cv G m_J7_fill_53178 d 0 0 [.ref v12, .int 1] h_6 (fun h' => hk_S G m_X7_init (d + 1) cb sb 35 [some (.ref r0), o1, o2] [] h' Q)) (hl3 : 4 < fs1.length := by exact Nat.le_of_ble_eq_true rfl) (hl6 : 5 < fs4.length := by exact Nat.le_of_ble_eq_true rfl) (hl9 : 6 < fs7.length := by exact Nat.le_of_ble_eq_true rfl) : hk_S G m_X7_init (d + 1) (((cb + 1) + 1) + 1) (((sb + 5) + 4) + 5) 6 [some (.ref r0), o1, o2] [] h Q := by
  subst e_1
  subst e_2
  subst e_3
  subst e_4
  subst e_5
  subst e_6
  refine hs_aload_n dX7_init_6 rfl ?_
  refine hs_iconst (v := 5) dX7_init_7 (by decide) ?_
  refine hs_newi (N := 5) dX7_init_8 (by decide) (by decide) ?_
  refine hs_putF (t := .array .int) dX7_init_10 rfl fw_X7_9_7 hg2 h4_r0 hl3 rfl rfl ?_
  refine hs_aload_n dX7_init_13 rfl ?_
  refine hs_iconst (v := 4) dX7_init_14 (by decide) ?_
  refine hs_newi (N := 4) dX7_init_15 (by decide) (by decide) ?_
  refine hs_putF (t := .array .int) dX7_init_17 rfl fw_X7_15_7 hg5 h4_r0 hl6 rfl rfl ?_
  refine hs_aload_n dX7_init_20 rfl ?_
  refine hs_iconst (v := 5) dX7_init_21 (by decide) ?_
  refine hs_newi (N := 5) dX7_init_22 (by decide) (by decide) ?_
  refine hs_putF (t := .array .int) dX7_init_24 rfl fw_X7_18_7 hg8 h4_r0 hl9 rfl rfl ?_
  refine hs_aload_n dX7_init_27 rfl ?_
  refine hs_get dX7_init_28 fl_X7_15_7 hg11 hv13 ?_
  refine hs_iconst (v := 1) dX7_init_31 (by decide) ?_
  exact hk_z0 (hs_sta (M' := m_J7_fill_53178) (vs := [.ref v12, .int 1]) (c1 := 0) (s1 := 0) dX7_init_32 wd_303 st_J7_fill_53178 rfl (Nat.le_of_ble_eq_true rfl) hc hq_v (hc_v (fun h9 k9 => k9)))
theorem b_X7_init_35 {G : hk_G} {d cb sb : Nat} {h : hk_H} {Q : hk_O → hk_H → Prop} {r0 : Nat} {fs1 : List Value} {v3 : Nat} {o1 : Option Value} {o2 : Option Value} (hg2 : h.2 r0 = some (.inr (7, fs1))) (hv4 : fs1[3]? = some (.ref v3)) (hc : hk_Cv G m_J7_fill_53178 d 0 0 [.ref v3, .int ((-1))] h (fun h' => hk_S G m_X7_init (d + 1) cb sb 43 [some (.ref r0), o1, o2] [] h' Q)) : hk_S G m_X7_init (d + 1) cb sb 35 [some (.ref r0), o1, o2] [] h Q := by
  refine hs_aload_n dX7_init_35 rfl ?_
  refine hs_get dX7_init_36 fl_X7_27_7 hg2 hv4 ?_
  refine hs_iconst (v := (-1)) dX7_init_39 (by decide) ?_
  exact hk_z0 (hs_sta (M' := m_J7_fill_53178) (vs := [.ref v3, .int ((-1))]) (c1 := 0) (s1 := 0) dX7_init_40 wd_303 st_J7_fill_53178 rfl (Nat.le_of_ble_eq_true rfl) hc hq_v (hc_v (fun h9 k9 => k9)))
theorem b_X7_init_43 {G : hk_G} {d cb sb : Nat} {h : hk_H} {Q : hk_O → hk_H → Prop} {o0 : Option Value} {o1 : Option Value} {o2 : Option Value} (hq : Q (.inl none) h) : hk_S G m_X7_init (d + 1) cb sb 43 [o0, o1, o2] [] h Q := by
  exact hs_vret dX7_init_43 rfl hq
-- HonestHouse$Weighed.settle(I)V
theorem b_X7_settle_0 {G : hk_G} {d cb sb : Nat} {h : hk_H} {Q : hk_O → hk_H → Prop} {r0 : Nat} {fs1 : List Value} {v3 : Nat} {x1 : Int32} {n5 : Nat} {f6 : Nat → Int32} (hg2 : h.2 r0 = some (.inr (7, fs1))) (hv4 : fs1[3]? = some (.ref v3)) (ha7 : h.2 v3 = some (.inl (0, n5, .inl f6))) (j8 : Nat) (hi9 : (x1 : Int32).toInt = (j8 : Int)) (hj10 : j8 < n5) (kt : ¬ (f6 j8) = ((-1)) → hk_S G m_X7_settle (d + 1) cb sb 15 [some (.ref r0), some (.int x1)] [] h Q) (kf : (f6 j8) = ((-1)) → hk_S G m_X7_settle (d + 1) cb sb 10 [some (.ref r0), some (.int x1)] [] h Q) : hk_S G m_X7_settle (d + 1) cb sb 0 [some (.ref r0), some (.int x1)] [] h Q := by
  refine hs_aload_n dX7_settle_0 rfl ?_
  refine hs_get dX7_settle_1 fl_X7_27_7 hg2 hv4 ?_
  refine hs_iload_n dX7_settle_4 rfl ?_
  refine hs_iald j8 dX7_settle_5 ha7 hi9 hj10 ?_
  refine hs_iconst (v := (-1)) dX7_settle_6 (by decide) ?_
  exact hs_icmp_ne dX7_settle_7 (by decide) kt kf
theorem b_X7_settle_10 {G : hk_G} {d cb sb : Nat} {h : hk_H} {Q : hk_O → hk_H → Prop} {r0 : Nat} {x1 : Int32} {fs_ : List Value} (hrec : h.2 r0 = some (.inr (7, fs_))) (hc : hk_Cv G m_X7_workOut d 0 0 [.ref r0, .int x1] h (fun h' => hk_S G m_X7_settle (d + 1) cb sb 15 [some (.ref r0), some (.int x1)] [] h' Q)) : hk_S G m_X7_settle (d + 1) cb sb 10 [some (.ref r0), some (.int x1)] [] h Q := by
  refine hs_aload_n dX7_settle_10 rfl ?_
  refine hs_iload_n dX7_settle_11 rfl ?_
  exact hk_z0 (hs_vir (M' := m_X7_workOut) (vs := [.int x1]) (c1 := 0) (s1 := 0) dX7_settle_12 wd_460 vi_X7_workOut hrec rfl (Nat.le_of_ble_eq_true rfl) hc hq_v (hc_v (fun h9 k9 => k9)))
theorem b_X7_settle_15 {G : hk_G} {d cb sb : Nat} {h : hk_H} {Q : hk_O → hk_H → Prop} {o0 : Option Value} {o1 : Option Value} (hq : Q (.inl none) h) : hk_S G m_X7_settle (d + 1) cb sb 15 [o0, o1] [] h Q := by
  exact hs_vret dX7_settle_15 rfl hq
-- HonestHouse$Weighed.changeEnd(II)I
theorem b_X7_changeEnd_0 {G : hk_G} {d cb sb : Nat} {h : hk_H} {Q : hk_O → hk_H → Prop} {o0 : Option Value} {o1 : Option Value} {o2 : Option Value} (hq : Q (.inl (some (.int ((-4))))) h) : hk_S G m_X7_changeEnd d cb sb 0 [o0, o1, o2] [] h Q := by
  refine hs_bipush (v := (-4)) dX7_changeEnd_0 (by decide) ?_
  exact hs_iret dX7_changeEnd_2 rfl hq
-- HonestHouse$Weighed.changePayment(III)I
theorem b_X7_changePayment_0 {G : hk_G} {d cb sb : Nat} {h : hk_H} {Q : hk_O → hk_H → Prop} {o0 : Option Value} {o1 : Option Value} {o2 : Option Value} {o3 : Option Value} (hq : Q (.inl (some (.int ((-4))))) h) : hk_S G m_X7_changePayment d cb sb 0 [o0, o1, o2, o3] [] h Q := by
  refine hs_bipush (v := (-4)) dX7_changePayment_0 (by decide) ?_
  exact hs_iret dX7_changePayment_2 rfl hq
-- HonestHouse$Weighed.changeGift(II)I
theorem b_X7_changeGift_0 {G : hk_G} {d cb sb : Nat} {h : hk_H} {Q : hk_O → hk_H → Prop} {r0 : Nat} {fs1 : List Value} {v3 : Nat} {x1 : Int32} {x2 : Int32} (hg2 : h.2 r0 = some (.inr (7, fs1))) (hv4 : fs1[4]? = some (.ref v3)) (hc : hk_Ci G m_X7_change d 0 0 [.ref r0, .ref v3, .int x1, .int x2] h (fun z h' => hk_S G m_X7_changeGift (d + 1) cb sb 10 [some (.ref r0), some (.int x1), some (.int x2)] [.int z] h' Q)) : hk_S G m_X7_changeGift (d + 1) cb sb 0 [some (.ref r0), some (.int x1), some (.int x2)] [] h Q := by
  refine hs_aload_n dX7_changeGift_0 rfl ?_
  refine hs_aload_n dX7_changeGift_1 rfl ?_
  refine hs_get dX7_changeGift_2 fl_X7_9_7 hg2 hv4 ?_
  refine hs_iload_n dX7_changeGift_5 rfl ?_
  refine hs_iload_n dX7_changeGift_6 rfl ?_
  exact hk_z0 (hs_vir (M' := m_X7_change) (vs := [.ref v3, .int x1, .int x2]) (c1 := 0) (s1 := 0) dX7_changeGift_7 wd_404 vi_X7_change hg2 rfl (Nat.le_of_ble_eq_true rfl) hc hq_i (hc_i (fun z h9 k9 => k9)))
theorem b_X7_changeGift_10 {G : hk_G} {d cb sb : Nat} {h : hk_H} {Q : hk_O → hk_H → Prop} {s0 : Int32} {o0 : Option Value} {o1 : Option Value} {o2 : Option Value} (hq : Q (.inl (some (.int s0))) h) : hk_S G m_X7_changeGift (d + 1) cb sb 10 [o0, o1, o2] [.int s0] h Q := by
  exact hs_iret dX7_changeGift_10 rfl hq
-- HonestHouse$Weighed.changeWeight(II)I
theorem b_X7_changeWeight_0 {G : hk_G} {d cb sb : Nat} {h : hk_H} {Q : hk_O → hk_H → Prop} {r0 : Nat} {fs1 : List Value} {v3 : Nat} {x1 : Int32} {x2 : Int32} (hg2 : h.2 r0 = some (.inr (7, fs1))) (hv4 : fs1[5]? = some (.ref v3)) (hc : hk_Ci G m_X7_change d 0 0 [.ref r0, .ref v3, .int x1, .int x2] h (fun z h' => hk_S G m_X7_changeWeight (d + 1) cb sb 10 [some (.ref r0), some (.int x1), some (.int x2)] [.int z] h' Q)) : hk_S G m_X7_changeWeight (d + 1) cb sb 0 [some (.ref r0), some (.int x1), some (.int x2)] [] h Q := by
  refine hs_aload_n dX7_changeWeight_0 rfl ?_
  refine hs_aload_n dX7_changeWeight_1 rfl ?_
  refine hs_get dX7_changeWeight_2 fl_X7_15_7 hg2 hv4 ?_
  refine hs_iload_n dX7_changeWeight_5 rfl ?_
  refine hs_iload_n dX7_changeWeight_6 rfl ?_
  exact hk_z0 (hs_vir (M' := m_X7_change) (vs := [.ref v3, .int x1, .int x2]) (c1 := 0) (s1 := 0) dX7_changeWeight_7 wd_404 vi_X7_change hg2 rfl (Nat.le_of_ble_eq_true rfl) hc hq_i (hc_i (fun z h9 k9 => k9)))
theorem b_X7_changeWeight_10 {G : hk_G} {d cb sb : Nat} {h : hk_H} {Q : hk_O → hk_H → Prop} {s0 : Int32} {o0 : Option Value} {o1 : Option Value} {o2 : Option Value} (hq : Q (.inl (some (.int s0))) h) : hk_S G m_X7_changeWeight (d + 1) cb sb 10 [o0, o1, o2] [.int s0] h Q := by
  exact hs_iret dX7_changeWeight_10 rfl hq
-- HonestHouse$Weighed.change([III)I
theorem b_X7_change_0 {G : hk_G} {d cb sb : Nat} {h : hk_H} {Q : hk_O → hk_H → Prop} {r1 : Nat} {x2 : Int32} {n1 : Nat} {f2 : Nat → Int32} {x3 : Int32} {o0 : Option Value} (ha3 : h.2 r1 = some (.inl (0, n1, .inl f2))) (j4 : Nat) (hi5 : (x2 : Int32).toInt = (j4 : Int)) (hj6 : j4 < n1) (kt : ¬ (f2 j4) = x3 → hk_S G m_X7_change (d + 1) cb sb 9 [o0, some (.ref r1), some (.int x2), some (.int x3)] [] h Q) (kf : (f2 j4) = x3 → hk_S G m_X7_change (d + 1) cb sb 7 [o0, some (.ref r1), some (.int x2), some (.int x3)] [] h Q) : hk_S G m_X7_change (d + 1) cb sb 0 [o0, some (.ref r1), some (.int x2), some (.int x3)] [] h Q := by
  refine hs_aload_n dX7_change_0 rfl ?_
  refine hs_iload_n dX7_change_1 rfl ?_
  refine hs_iald j4 dX7_change_2 ha3 hi5 hj6 ?_
  refine hs_iload_n dX7_change_3 rfl ?_
  exact hs_icmp_ne dX7_change_4 (by decide) kt kf
theorem b_X7_change_7 {G : hk_G} {d cb sb : Nat} {h : hk_H} {Q : hk_O → hk_H → Prop} {o0 : Option Value} {o1 : Option Value} {o2 : Option Value} {o3 : Option Value} (hq : Q (.inl (some (.int 0))) h) : hk_S G m_X7_change (d + 1) cb sb 7 [o0, o1, o2, o3] [] h Q := by
  refine hs_iconst (v := 0) dX7_change_7 (by decide) ?_
  exact hs_iret dX7_change_8 rfl hq
theorem b_X7_change_9 {G : hk_G} {d cb sb : Nat} {h : hk_H} {Q : hk_O → hk_H → Prop} {r1 : Nat} {x2 : Int32} {x3 : Int32} {n1 : Nat} {f2 : Nat → Int32} {h_1 : hk_H} {r0 : Nat} {fs7 : List Value} {v9 : Nat} (ha3 : h.2 r1 = some (.inl (0, n1, .inl f2))) (h4_r1 : 4 ≤ r1) (j4 : Nat) (hi5 : (x2 : Int32).toInt = (j4 : Int)) (hj6 : j4 < n1) (e_1 : (hk_set h r1 (.inl (0, n1, .inl (upd f2 j4 x3)))) = h_1) (hg8 : h_1.2 r0 = some (.inr (7, fs7))) (hv10 : fs7[3]? = some (.ref v9)) (hc : hk_Cv G m_J7_fill_53178 d 0 0 [.ref v9, .int ((-1))] h_1 (fun h' => hk_S G m_X7_change (d + 1) cb sb 21 [some (.ref r0), some (.ref r1), some (.int x2), some (.int x3)] [] h' Q)) : hk_S G m_X7_change (d + 1) cb sb 9 [some (.ref r0), some (.ref r1), some (.int x2), some (.int x3)] [] h Q := by
  subst e_1
  refine hs_aload_n dX7_change_9 rfl ?_
  refine hs_iload_n dX7_change_10 rfl ?_
  refine hs_iload_n dX7_change_11 rfl ?_
  refine hs_iast j4 dX7_change_12 ha3 h4_r1 hi5 hj6 ?_
  refine hs_aload_n dX7_change_13 rfl ?_
  refine hs_get dX7_change_14 fl_X7_27_7 hg8 hv10 ?_
  refine hs_iconst (v := (-1)) dX7_change_17 (by decide) ?_
  exact hk_z0 (hs_sta (M' := m_J7_fill_53178) (vs := [.ref v9, .int ((-1))]) (c1 := 0) (s1 := 0) dX7_change_18 wd_303 st_J7_fill_53178 rfl (Nat.le_of_ble_eq_true rfl) hc hq_v (hc_v (fun h9 k9 => k9)))
theorem b_X7_change_21 {G : hk_G} {d cb sb : Nat} {h : hk_H} {Q : hk_O → hk_H → Prop} {o0 : Option Value} {o1 : Option Value} {o2 : Option Value} {o3 : Option Value} (hq : Q (.inl (some (.int 1))) h) : hk_S G m_X7_change (d + 1) cb sb 21 [o0, o1, o2, o3] [] h Q := by
  refine hs_iconst (v := 1) dX7_change_21 (by decide) ?_
  exact hs_iret dX7_change_22 rfl hq
-- HonestHouse$Weighed.workOut(I)V
theorem b_X7_workOut_0 {G : hk_G} {d cb sb : Nat} {h : hk_H} {Q : hk_O → hk_H → Prop} {r0 : Nat} {x1 : Int32} {fs_ : List Value} {o2 : Option Value} {o3 : Option Value} {o4 : Option Value} (hrec : h.2 r0 = some (.inr (7, fs_))) (hc : hk_Cv G m_X7_addUp d 0 0 [.ref r0, .int x1] h (fun h' => hk_S G m_X7_workOut (d + 1) cb sb 5 [some (.ref r0), some (.int x1), o2, o3, o4] [] h' Q)) : hk_S G m_X7_workOut (d + 1) cb sb 0 [some (.ref r0), some (.int x1), o2, o3, o4] [] h Q := by
  refine hs_aload_n dX7_workOut_0 rfl ?_
  refine hs_iload_n dX7_workOut_1 rfl ?_
  exact hk_z0 (hs_vir (M' := m_X7_addUp) (vs := [.int x1]) (c1 := 0) (s1 := 0) dX7_workOut_2 wd_464 vi_X7_addUp hrec rfl (Nat.le_of_ble_eq_true rfl) hc hq_v (hc_v (fun h9 k9 => k9)))
theorem b_X7_workOut_5 {G : hk_G} {d cb sb : Nat} {h : hk_H} {Q : hk_O → hk_H → Prop} {o0 : Option Value} {o1 : Option Value} {o2 : Option Value} {o3 : Option Value} {o4 : Option Value} (k : hk_S G m_X7_workOut (d + 1) cb sb 9 [o0, o1, some (.int 0), some (.int 1), o4] [] h Q) (ho1 : hk_c1 o1 := by first | exact hk_c1i | exact hk_c1r | exact hk_c10 | exact hk_c1n) : hk_S G m_X7_workOut (d + 1) cb sb 5 [o0, o1, o2, o3, o4] [] h Q := by
  refine hs_iconst (v := 0) dX7_workOut_5 (by decide) ?_
  refine hs_istK_n dX7_workOut_6 (by decide) (hk_nk1 rfl ho1) rfl ?_
  refine hs_iconst (v := 1) dX7_workOut_7 (by decide) ?_
  refine hs_istK_n dX7_workOut_8 (by decide) (hk_nk1 rfl hk_c1i) rfl ?_
  exact k
theorem b_X7_workOut_9 {G : hk_G} {d cb sb : Nat} {h : hk_H} {Q : hk_O → hk_H → Prop} {x3 : Int32} {r0 : Nat} {fs1 : List Value} {v3 : Nat} {fs5 : List Value} {v7 : Int32} {o1 : Option Value} {o2 : Option Value} {o4 : Option Value} (hg2 : h.2 r0 = some (.inr (7, fs1))) (hv4 : fs1[2]? = some (.ref v3)) (hg6 : h.2 v3 = some (.inr (8, fs5))) (hv8 : fs5[1]? = some (.int v7)) (kt : v7 ≤ x3 → hk_S G m_X7_workOut (d + 1) cb sb 43 [some (.ref r0), o1, o2, some (.int x3), o4] [] h Q) (kf : ¬ v7 ≤ x3 → hk_S G m_X7_workOut (d + 1) cb sb 20 [some (.ref r0), o1, o2, some (.int x3), o4] [] h Q) : hk_S G m_X7_workOut (d + 1) cb sb 9 [some (.ref r0), o1, o2, some (.int x3), o4] [] h Q := by
  refine hs_iload_n dX7_workOut_9 rfl ?_
  refine hs_aload_n dX7_workOut_10 rfl ?_
  refine hs_get dX7_workOut_11 fl_X7_41_7 hg2 hv4 ?_
  refine hs_get dX7_workOut_14 fl_X7_45_8 hg6 hv8 ?_
  exact hs_icmp_ge dX7_workOut_17 (by decide) kt kf
theorem b_X7_workOut_20 {G : hk_G} {d cb sb : Nat} {h : hk_H} {Q : hk_O → hk_H → Prop} {r0 : Nat} {fs1 : List Value} {v3 : Nat} {x3 : Int32} {n5 : Nat} {f6 : Nat → Int32} {x2 : Int32} {o1 : Option Value} {o4 : Option Value} (hg2 : h.2 r0 = some (.inr (7, fs1))) (hv4 : fs1[6]? = some (.ref v3)) (ha7 : h.2 v3 = some (.inl (0, n5, .inl f6))) (j8 : Nat) (hi9 : (x3 : Int32).toInt = (j8 : Int)) (hj10 : j8 < n5) (j11 : Nat) (hi12 : (x2 : Int32).toInt = (j11 : Int)) (hj13 : j11 < n5) (kt : (f6 j8) ≤ (f6 j11) → hk_S G m_X7_workOut (d + 1) cb sb 37 [some (.ref r0), o1, some (.int x2), some (.int x3), o4] [] h Q) (kf : ¬ (f6 j8) ≤ (f6 j11) → hk_S G m_X7_workOut (d + 1) cb sb 35 [some (.ref r0), o1, some (.int x2), some (.int x3), o4] [] h Q) : hk_S G m_X7_workOut (d + 1) cb sb 20 [some (.ref r0), o1, some (.int x2), some (.int x3), o4] [] h Q := by
  refine hs_aload_n dX7_workOut_20 rfl ?_
  refine hs_get dX7_workOut_21 fl_X7_18_7 hg2 hv4 ?_
  refine hs_iload_n dX7_workOut_24 rfl ?_
  refine hs_iald j8 dX7_workOut_25 ha7 hi9 hj10 ?_
  refine hs_aload_n dX7_workOut_26 rfl ?_
  refine hs_get dX7_workOut_27 fl_X7_18_7 hg2 hv4 ?_
  refine hs_iload_n dX7_workOut_30 rfl ?_
  refine hs_iald j11 dX7_workOut_31 ha7 hi12 hj13 ?_
  exact hs_icmp_le dX7_workOut_32 (by decide) kt kf
theorem b_X7_workOut_35 {G : hk_G} {d cb sb : Nat} {h : hk_H} {Q : hk_O → hk_H → Prop} {x3 : Int32} {o0 : Option Value} {o1 : Option Value} {o2 : Option Value} {o4 : Option Value} (k : hk_S G m_X7_workOut (d + 1) cb sb 9 [o0, o1, some (.int x3), some (.int (x3 + 1)), o4] [] h Q) (ho1 : hk_c1 o1 := by first | exact hk_c1i | exact hk_c1r | exact hk_c10 | exact hk_c1n) : hk_S G m_X7_workOut (d + 1) cb sb 35 [o0, o1, o2, some (.int x3), o4] [] h Q := by
  refine hs_iload_n dX7_workOut_35 rfl ?_
  refine hs_istK_n dX7_workOut_36 (by decide) (hk_nk1 rfl ho1) rfl ?_
  refine hs_iincK (v := 1) dX7_workOut_37 rfl (by decide) (by decide) (hk_nk1 rfl hk_c1i) rfl ?_
  refine hs_goto dX7_workOut_40 (tgt := 9) (by decide) ?_
  exact k
theorem b_X7_workOut_37 {G : hk_G} {d cb sb : Nat} {h : hk_H} {Q : hk_O → hk_H → Prop} {x3 : Int32} {o0 : Option Value} {o1 : Option Value} {o2 : Option Value} {o4 : Option Value} (k : hk_S G m_X7_workOut (d + 1) cb sb 9 [o0, o1, o2, some (.int (x3 + 1)), o4] [] h Q) (ho2 : hk_c1 o2 := by first | exact hk_c1i | exact hk_c1r | exact hk_c10 | exact hk_c1n) : hk_S G m_X7_workOut (d + 1) cb sb 37 [o0, o1, o2, some (.int x3), o4] [] h Q := by
  refine hs_iincK (v := 1) dX7_workOut_37 rfl (by decide) (by decide) (hk_nk1 rfl ho2) rfl ?_
  refine hs_goto dX7_workOut_40 (tgt := 9) (by decide) ?_
  exact k
theorem b_X7_workOut_43 {G : hk_G} {d cb sb : Nat} {h : hk_H} {Q : hk_O → hk_H → Prop} {o0 : Option Value} {o1 : Option Value} {o2 : Option Value} {o3 : Option Value} {o4 : Option Value} (k : hk_S G m_X7_workOut (d + 1) cb sb 45 [o0, o1, o2, some (.int 0), o4] [] h Q) (ho2 : hk_c1 o2 := by first | exact hk_c1i | exact hk_c1r | exact hk_c10 | exact hk_c1n) : hk_S G m_X7_workOut (d + 1) cb sb 43 [o0, o1, o2, o3, o4] [] h Q := by
  refine hs_iconst (v := 0) dX7_workOut_43 (by decide) ?_
  refine hs_istK_n dX7_workOut_44 (by decide) (hk_nk1 rfl ho2) rfl ?_
  exact k
theorem b_X7_workOut_45 {G : hk_G} {d cb sb : Nat} {h : hk_H} {Q : hk_O → hk_H → Prop} {x3 : Int32} {r0 : Nat} {fs1 : List Value} {v3 : Nat} {fs5 : List Value} {v7 : Int32} {o1 : Option Value} {o2 : Option Value} {o4 : Option Value} (hg2 : h.2 r0 = some (.inr (7, fs1))) (hv4 : fs1[2]? = some (.ref v3)) (hg6 : h.2 v3 = some (.inr (8, fs5))) (hv8 : fs5[0]? = some (.int v7)) (kt : v7 ≤ x3 → hk_S G m_X7_workOut (d + 1) cb sb 102 [some (.ref r0), o1, o2, some (.int x3), o4] [] h Q) (kf : ¬ v7 ≤ x3 → hk_S G m_X7_workOut (d + 1) cb sb 56 [some (.ref r0), o1, o2, some (.int x3), o4] [] h Q) : hk_S G m_X7_workOut (d + 1) cb sb 45 [some (.ref r0), o1, o2, some (.int x3), o4] [] h Q := by
  refine hs_iload_n dX7_workOut_45 rfl ?_
  refine hs_aload_n dX7_workOut_46 rfl ?_
  refine hs_get dX7_workOut_47 fl_X7_41_7 hg2 hv4 ?_
  refine hs_get dX7_workOut_50 fl_X7_51_8 hg6 hv8 ?_
  exact hs_icmp_ge dX7_workOut_53 (by decide) kt kf
theorem b_X7_workOut_56 {G : hk_G} {d cb sb : Nat} {h : hk_H} {Q : hk_O → hk_H → Prop} {r0 : Nat} {fs1 : List Value} {v3 : Nat} {x1 : Int32} {x3 : Int32} {fs_ : List Value} {o2 : Option Value} {o4 : Option Value} (hg2 : h.2 r0 = some (.inr (7, fs1))) (hv4 : fs1[2]? = some (.ref v3)) (hrec : h.2 v3 = some (.inr (8, fs_))) (hc : hk_Ci G m_X8_wishIn d 0 0 [.ref v3, .int x1, .int x3] h (fun z h' => hk_S G m_X7_workOut (d + 1) cb sb 66 [some (.ref r0), some (.int x1), o2, some (.int x3), o4] [.int z, .ref r0] h' Q)) : hk_S G m_X7_workOut (d + 1) cb sb 56 [some (.ref r0), some (.int x1), o2, some (.int x3), o4] [] h Q := by
  refine hs_aload_n dX7_workOut_56 rfl ?_
  refine hs_aload_n dX7_workOut_57 rfl ?_
  refine hs_get dX7_workOut_58 fl_X7_41_7 hg2 hv4 ?_
  refine hs_iload_n dX7_workOut_61 rfl ?_
  refine hs_iload_n dX7_workOut_62 rfl ?_
  exact hk_z0 (hs_vir (M' := m_X8_wishIn) (vs := [.int x1, .int x3]) (c1 := 0) (s1 := 0) dX7_workOut_63 wd_468 vi_X8_wishIn hrec rfl (Nat.le_of_ble_eq_true rfl) hc hq_i (hc_i (fun z h9 k9 => k9)))
theorem b_X7_workOut_66 {G : hk_G} {d cb sb : Nat} {h : hk_H} {Q : hk_O → hk_H → Prop} {s0 : Nat} {s1 : Int32} {r0 : Nat} {fs1 : List Value} {v3 : Nat} {x3 : Int32} {n5 : Nat} {f6 : Nat → Int32} {x2 : Int32} {fs_ : List Value} {o1 : Option Value} {o4 : Option Value} (hg2 : h.2 r0 = some (.inr (7, fs1))) (hv4 : fs1[5]? = some (.ref v3)) (ha7 : h.2 v3 = some (.inl (0, n5, .inl f6))) (j8 : Nat) (hi9 : (x3 : Int32).toInt = (j8 : Int)) (hj10 : j8 < n5) (hrec : h.2 s0 = some (.inr (7, fs_))) (hc : hk_Ci G m_X7_ownPayment d 0 0 [.ref s0, .int s1, .int (f6 j8), .int x2] h (fun z h' => hk_S G m_X7_workOut (d + 1) cb sb 76 [some (.ref r0), o1, some (.int x2), some (.int x3), o4] [.int z] h' Q)) : hk_S G m_X7_workOut (d + 1) cb sb 66 [some (.ref r0), o1, some (.int x2), some (.int x3), o4] [.int s1, .ref s0] h Q := by
  refine hs_aload_n dX7_workOut_66 rfl ?_
  refine hs_get dX7_workOut_67 fl_X7_15_7 hg2 hv4 ?_
  refine hs_iload_n dX7_workOut_70 rfl ?_
  refine hs_iald j8 dX7_workOut_71 ha7 hi9 hj10 ?_
  refine hs_iload_n dX7_workOut_72 rfl ?_
  exact hk_z0 (hs_vir (M' := m_X7_ownPayment) (vs := [.int s1, .int (f6 j8), .int x2]) (c1 := 0) (s1 := 0) dX7_workOut_73 wd_470 vi_X7_ownPayment hrec rfl (Nat.le_of_ble_eq_true rfl) hc hq_i (hc_i (fun z h9 k9 => k9)))
theorem b_X7_workOut_76 {G : hk_G} {d cb sb : Nat} {h : hk_H} {Q : hk_O → hk_H → Prop} {s0 : Int32} {r0 : Nat} {fs1 : List Value} {v3 : Nat} {x1 : Int32} {v5 : Nat} {fs7 : List Value} {v9 : Int32} {x3 : Int32} {n11 : Nat} {f12 : Nat → Int32} {h_1 : hk_H} {o2 : Option Value} {o4 : Option Value} (hg2 : h.2 r0 = some (.inr (7, fs1))) (hv4 : fs1[0]? = some (.ref v3)) (hv6 : fs1[2]? = some (.ref v5)) (hg8 : h.2 v5 = some (.inr (8, fs7))) (hv10 : fs7[0]? = some (.int v9)) (ha13 : h.2 v3 = some (.inl (0, n11, .inl f12))) (h4_v3 : 4 ≤ v3) (j14 : Nat) (hi15 : ((x1 * v9) + x3 : Int32).toInt = (j14 : Int)) (hj16 : j14 < n11) (e_1 : (hk_set h v3 (.inl (0, n11, .inl (upd f12 j14 s0)))) = h_1) (k : hk_S G m_X7_workOut (d + 1) cb sb 45 [some (.ref r0), some (.int x1), o2, some (.int (x3 + 1)), some (.int s0)] [] h_1 Q) (ho2 : hk_c1 o2 := by first | exact hk_c1i | exact hk_c1r | exact hk_c10 | exact hk_c1n) : hk_S G m_X7_workOut (d + 1) cb sb 76 [some (.ref r0), some (.int x1), o2, some (.int x3), o4] [.int s0] h Q := by
  subst e_1
  refine hs_istK dX7_workOut_76 (by decide) (hk_nk1 rfl hk_c1i) rfl ?_
  refine hs_aload_n dX7_workOut_78 rfl ?_
  refine hs_get dX7_workOut_79 fl_X7_62_7 hg2 hv4 ?_
  refine hs_iload_n dX7_workOut_82 rfl ?_
  refine hs_aload_n dX7_workOut_83 rfl ?_
  refine hs_get dX7_workOut_84 fl_X7_41_7 hg2 hv6 ?_
  refine hs_get dX7_workOut_87 fl_X7_51_8 hg8 hv10 ?_
  refine hs_imul dX7_workOut_90 ?_
  refine hs_iload_n dX7_workOut_91 rfl ?_
  refine hs_iadd dX7_workOut_92 ?_
  refine hs_iload dX7_workOut_93 rfl ?_
  refine hs_iast j14 dX7_workOut_95 ha13 h4_v3 hi15 hj16 ?_
  refine hs_iincK (v := 1) dX7_workOut_96 rfl (by decide) (by decide) (hk_nk1 rfl ho2) rfl ?_
  refine hs_goto dX7_workOut_99 (tgt := 45) (by decide) ?_
  exact k
theorem b_X7_workOut_102 {G : hk_G} {d cb sb : Nat} {h : hk_H} {Q : hk_O → hk_H → Prop} {r0 : Nat} {fs1 : List Value} {v3 : Nat} {x1 : Int32} {x2 : Int32} {n5 : Nat} {f6 : Nat → Int32} {h_1 : hk_H} {o3 : Option Value} {o4 : Option Value} (hg2 : h.2 r0 = some (.inr (7, fs1))) (hv4 : fs1[3]? = some (.ref v3)) (ha7 : h.2 v3 = some (.inl (0, n5, .inl f6))) (h4_v3 : 4 ≤ v3) (j8 : Nat) (hi9 : (x1 : Int32).toInt = (j8 : Int)) (hj10 : j8 < n5) (e_1 : (hk_set h v3 (.inl (0, n5, .inl (upd f6 j8 x2)))) = h_1) (hq : Q (.inl none) h_1) : hk_S G m_X7_workOut (d + 1) cb sb 102 [some (.ref r0), some (.int x1), some (.int x2), o3, o4] [] h Q := by
  subst e_1
  refine hs_aload_n dX7_workOut_102 rfl ?_
  refine hs_get dX7_workOut_103 fl_X7_27_7 hg2 hv4 ?_
  refine hs_iload_n dX7_workOut_106 rfl ?_
  refine hs_iload_n dX7_workOut_107 rfl ?_
  refine hs_iast j8 dX7_workOut_108 ha7 h4_v3 hi9 hj10 ?_
  exact hs_vret dX7_workOut_109 rfl hq
-- HonestHouse$Weighed.addUp(I)V
theorem b_X7_addUp_0 {G : hk_G} {d cb sb : Nat} {h : hk_H} {Q : hk_O → hk_H → Prop} {o0 : Option Value} {o1 : Option Value} {o2 : Option Value} {o3 : Option Value} {o4 : Option Value} (k : hk_S G m_X7_addUp (d + 1) cb sb 2 [o0, o1, some (.int 0), o3, o4] [] h Q) (ho1 : hk_c1 o1 := by first | exact hk_c1i | exact hk_c1r | exact hk_c10 | exact hk_c1n) : hk_S G m_X7_addUp (d + 1) cb sb 0 [o0, o1, o2, o3, o4] [] h Q := by
  refine hs_iconst (v := 0) dX7_addUp_0 (by decide) ?_
  refine hs_istK_n dX7_addUp_1 (by decide) (hk_nk1 rfl ho1) rfl ?_
  exact k
theorem b_X7_addUp_2 {G : hk_G} {d cb sb : Nat} {h : hk_H} {Q : hk_O → hk_H → Prop} {x2 : Int32} {r0 : Nat} {fs1 : List Value} {v3 : Nat} {fs5 : List Value} {v7 : Int32} {o1 : Option Value} {o3 : Option Value} {o4 : Option Value} (hg2 : h.2 r0 = some (.inr (7, fs1))) (hv4 : fs1[2]? = some (.ref v3)) (hg6 : h.2 v3 = some (.inr (8, fs5))) (hv8 : fs5[1]? = some (.int v7)) (kt : v7 ≤ x2 → hk_S G m_X7_addUp (d + 1) cb sb 31 [some (.ref r0), o1, some (.int x2), o3, o4] [] h Q) (kf : ¬ v7 ≤ x2 → hk_S G m_X7_addUp (d + 1) cb sb 13 [some (.ref r0), o1, some (.int x2), o3, o4] [] h Q) : hk_S G m_X7_addUp (d + 1) cb sb 2 [some (.ref r0), o1, some (.int x2), o3, o4] [] h Q := by
  refine hs_iload_n dX7_addUp_2 rfl ?_
  refine hs_aload_n dX7_addUp_3 rfl ?_
  refine hs_get dX7_addUp_4 fl_X7_41_7 hg2 hv4 ?_
  refine hs_get dX7_addUp_7 fl_X7_45_8 hg6 hv8 ?_
  exact hs_icmp_ge dX7_addUp_10 (by decide) kt kf
theorem b_X7_addUp_13 {G : hk_G} {d cb sb : Nat} {h : hk_H} {Q : hk_O → hk_H → Prop} {r0 : Nat} {fs1 : List Value} {v3 : Nat} {x2 : Int32} {v5 : Nat} {n7 : Nat} {f8 : Nat → Int32} {n13 : Nat} {f14 : Nat → Int32} {h_1 : hk_H} {o1 : Option Value} {o3 : Option Value} {o4 : Option Value} (hg2 : h.2 r0 = some (.inr (7, fs1))) (hv4 : fs1[6]? = some (.ref v3)) (hv6 : fs1[4]? = some (.ref v5)) (ha9 : h.2 v5 = some (.inl (0, n7, .inl f8))) (j10 : Nat) (hi11 : (x2 : Int32).toInt = (j10 : Int)) (hj12 : j10 < n7) (ha15 : h.2 v3 = some (.inl (0, n13, .inl f14))) (h4_v3 : 4 ≤ v3) (hj16 : j10 < n13) (e_1 : (hk_set h v3 (.inl (0, n13, .inl (upd f14 j10 (f8 j10))))) = h_1) (k : hk_S G m_X7_addUp (d + 1) cb sb 2 [some (.ref r0), o1, some (.int (x2 + 1)), o3, o4] [] h_1 Q) (ho1 : hk_c1 o1 := by first | exact hk_c1i | exact hk_c1r | exact hk_c10 | exact hk_c1n) : hk_S G m_X7_addUp (d + 1) cb sb 13 [some (.ref r0), o1, some (.int x2), o3, o4] [] h Q := by
  subst e_1
  refine hs_aload_n dX7_addUp_13 rfl ?_
  refine hs_get dX7_addUp_14 fl_X7_18_7 hg2 hv4 ?_
  refine hs_iload_n dX7_addUp_17 rfl ?_
  refine hs_aload_n dX7_addUp_18 rfl ?_
  refine hs_get dX7_addUp_19 fl_X7_9_7 hg2 hv6 ?_
  refine hs_iload_n dX7_addUp_22 rfl ?_
  refine hs_iald j10 dX7_addUp_23 ha9 hi11 hj12 ?_
  refine hs_iast j10 dX7_addUp_24 ha15 h4_v3 hi11 hj16 ?_
  refine hs_iincK (v := 1) dX7_addUp_25 rfl (by decide) (by decide) (hk_nk1 rfl ho1) rfl ?_
  refine hs_goto dX7_addUp_28 (tgt := 2) (by decide) ?_
  exact k
theorem b_X7_addUp_31 {G : hk_G} {d cb sb : Nat} {h : hk_H} {Q : hk_O → hk_H → Prop} {o0 : Option Value} {o1 : Option Value} {o2 : Option Value} {o3 : Option Value} {o4 : Option Value} (k : hk_S G m_X7_addUp (d + 1) cb sb 33 [o0, o1, some (.int 0), o3, o4] [] h Q) (ho1 : hk_c1 o1 := by first | exact hk_c1i | exact hk_c1r | exact hk_c10 | exact hk_c1n) : hk_S G m_X7_addUp (d + 1) cb sb 31 [o0, o1, o2, o3, o4] [] h Q := by
  refine hs_iconst (v := 0) dX7_addUp_31 (by decide) ?_
  refine hs_istK_n dX7_addUp_32 (by decide) (hk_nk1 rfl ho1) rfl ?_
  exact k
theorem b_X7_addUp_33 {G : hk_G} {d cb sb : Nat} {h : hk_H} {Q : hk_O → hk_H → Prop} {x2 : Int32} {r0 : Nat} {fs1 : List Value} {v3 : Nat} {fs5 : List Value} {v7 : Int32} {o1 : Option Value} {o3 : Option Value} {o4 : Option Value} (hg2 : h.2 r0 = some (.inr (7, fs1))) (hv4 : fs1[2]? = some (.ref v3)) (hg6 : h.2 v3 = some (.inr (8, fs5))) (hv8 : fs5[0]? = some (.int v7)) (kt : v7 ≤ x2 → hk_S G m_X7_addUp (d + 1) cb sb 108 [some (.ref r0), o1, some (.int x2), o3, o4] [] h Q) (kf : ¬ v7 ≤ x2 → hk_S G m_X7_addUp (d + 1) cb sb 44 [some (.ref r0), o1, some (.int x2), o3, o4] [] h Q) : hk_S G m_X7_addUp (d + 1) cb sb 33 [some (.ref r0), o1, some (.int x2), o3, o4] [] h Q := by
  refine hs_iload_n dX7_addUp_33 rfl ?_
  refine hs_aload_n dX7_addUp_34 rfl ?_
  refine hs_get dX7_addUp_35 fl_X7_41_7 hg2 hv4 ?_
  refine hs_get dX7_addUp_38 fl_X7_51_8 hg6 hv8 ?_
  exact hs_icmp_ge dX7_addUp_41 (by decide) kt kf
theorem b_X7_addUp_44 {G : hk_G} {d cb sb : Nat} {h : hk_H} {Q : hk_O → hk_H → Prop} {r0 : Nat} {fs1 : List Value} {v3 : Nat} {x1 : Int32} {x2 : Int32} {fs_ : List Value} {o3 : Option Value} {o4 : Option Value} (hg2 : h.2 r0 = some (.inr (7, fs1))) (hv4 : fs1[2]? = some (.ref v3)) (hrec : h.2 v3 = some (.inr (8, fs_))) (hc : hk_Ci G m_X8_wishIn d 0 0 [.ref v3, .int x1, .int x2] h (fun z h' => hk_S G m_X7_addUp (d + 1) cb sb 53 [some (.ref r0), some (.int x1), some (.int x2), o3, o4] [.int z] h' Q)) : hk_S G m_X7_addUp (d + 1) cb sb 44 [some (.ref r0), some (.int x1), some (.int x2), o3, o4] [] h Q := by
  refine hs_aload_n dX7_addUp_44 rfl ?_
  refine hs_get dX7_addUp_45 fl_X7_41_7 hg2 hv4 ?_
  refine hs_iload_n dX7_addUp_48 rfl ?_
  refine hs_iload_n dX7_addUp_49 rfl ?_
  exact hk_z0 (hs_vir (M' := m_X8_wishIn) (vs := [.int x1, .int x2]) (c1 := 0) (s1 := 0) dX7_addUp_50 wd_468 vi_X8_wishIn hrec rfl (Nat.le_of_ble_eq_true rfl) hc hq_i (hc_i (fun z h9 k9 => k9)))
theorem b_X7_addUp_53 {G : hk_G} {d cb sb : Nat} {h : hk_H} {Q : hk_O → hk_H → Prop} {s0 : Int32} {o0 : Option Value} {o1 : Option Value} {o2 : Option Value} {o3 : Option Value} {o4 : Option Value} (k : hk_S G m_X7_addUp (d + 1) cb sb 57 [o0, o1, o2, some (.int s0), some (.int 0)] [] h Q) (ho2 : hk_c1 o2 := by first | exact hk_c1i | exact hk_c1r | exact hk_c10 | exact hk_c1n) : hk_S G m_X7_addUp (d + 1) cb sb 53 [o0, o1, o2, o3, o4] [.int s0] h Q := by
  refine hs_istK_n dX7_addUp_53 (by decide) (hk_nk1 rfl ho2) rfl ?_
  refine hs_iconst (v := 0) dX7_addUp_54 (by decide) ?_
  refine hs_istK dX7_addUp_55 (by decide) (hk_nk1 rfl hk_c1i) rfl ?_
  exact k
theorem b_X7_addUp_57 {G : hk_G} {d cb sb : Nat} {h : hk_H} {Q : hk_O → hk_H → Prop} {x4 : Int32} {r0 : Nat} {fs1 : List Value} {v3 : Nat} {fs5 : List Value} {v7 : Int32} {o1 : Option Value} {o2 : Option Value} {o3 : Option Value} (hg2 : h.2 r0 = some (.inr (7, fs1))) (hv4 : fs1[2]? = some (.ref v3)) (hg6 : h.2 v3 = some (.inr (8, fs5))) (hv8 : fs5[1]? = some (.int v7)) (kt : v7 ≤ x4 → hk_S G m_X7_addUp (d + 1) cb sb 102 [some (.ref r0), o1, o2, o3, some (.int x4)] [] h Q) (kf : ¬ v7 ≤ x4 → hk_S G m_X7_addUp (d + 1) cb sb 69 [some (.ref r0), o1, o2, o3, some (.int x4)] [] h Q) : hk_S G m_X7_addUp (d + 1) cb sb 57 [some (.ref r0), o1, o2, o3, some (.int x4)] [] h Q := by
  refine hs_iload dX7_addUp_57 rfl ?_
  refine hs_aload_n dX7_addUp_59 rfl ?_
  refine hs_get dX7_addUp_60 fl_X7_41_7 hg2 hv4 ?_
  refine hs_get dX7_addUp_63 fl_X7_45_8 hg6 hv8 ?_
  exact hs_icmp_ge dX7_addUp_66 (by decide) kt kf
theorem b_X7_addUp_69 {G : hk_G} {d cb sb : Nat} {h : hk_H} {Q : hk_O → hk_H → Prop} {r0 : Nat} {fs1 : List Value} {v3 : Nat} {x4 : Int32} {n5 : Nat} {f6 : Nat → Int32} {v11 : Nat} {x2 : Int32} {n13 : Nat} {f14 : Nat → Int32} {v19 : Nat} {x3 : Int32} {fs_ : List Value} {o1 : Option Value} (hg2 : h.2 r0 = some (.inr (7, fs1))) (hv4 : fs1[6]? = some (.ref v3)) (ha7 : h.2 v3 = some (.inl (0, n5, .inl f6))) (j8 : Nat) (hi9 : (x4 : Int32).toInt = (j8 : Int)) (hj10 : j8 < n5) (hv12 : fs1[5]? = some (.ref v11)) (ha15 : h.2 v11 = some (.inl (0, n13, .inl f14))) (j16 : Nat) (hi17 : (x2 : Int32).toInt = (j16 : Int)) (hj18 : j16 < n13) (hv20 : fs1[2]? = some (.ref v19)) (hrec : h.2 v19 = some (.inr (8, fs_))) (hc : hk_Ci G m_X8_number d 0 0 [.ref v19, .int x3, .int x4] h (fun z h' => hk_S G m_X7_addUp (d + 1) cb sb 93 [some (.ref r0), o1, some (.int x2), some (.int x3), some (.int x4)] [.int z, .int (f14 j16), .int (f6 j8), .int x4, .ref v3] h' Q)) : hk_S G m_X7_addUp (d + 1) cb sb 69 [some (.ref r0), o1, some (.int x2), some (.int x3), some (.int x4)] [] h Q := by
  refine hs_aload_n dX7_addUp_69 rfl ?_
  refine hs_get dX7_addUp_70 fl_X7_18_7 hg2 hv4 ?_
  refine hs_iload dX7_addUp_73 rfl ?_
  refine hs_dup2 dX7_addUp_75 rfl rfl ?_
  refine hs_iald j8 dX7_addUp_76 ha7 hi9 hj10 ?_
  refine hs_aload_n dX7_addUp_77 rfl ?_
  refine hs_get dX7_addUp_78 fl_X7_15_7 hg2 hv12 ?_
  refine hs_iload_n dX7_addUp_81 rfl ?_
  refine hs_iald j16 dX7_addUp_82 ha15 hi17 hj18 ?_
  refine hs_aload_n dX7_addUp_83 rfl ?_
  refine hs_get dX7_addUp_84 fl_X7_41_7 hg2 hv20 ?_
  refine hs_iload_n dX7_addUp_87 rfl ?_
  refine hs_iload dX7_addUp_88 rfl ?_
  exact hk_z0 (hs_vir (M' := m_X8_number) (vs := [.int x3, .int x4]) (c1 := 0) (s1 := 0) dX7_addUp_90 wd_469 vi_X8_number hrec rfl (Nat.le_of_ble_eq_true rfl) hc hq_i (hc_i (fun z h9 k9 => k9)))
theorem b_X7_addUp_93 {G : hk_G} {d cb sb : Nat} {h : hk_H} {Q : hk_O → hk_H → Prop} {s0 : Nat} {s1 : Int32} {s2 : Int32} {s3 : Int32} {s4 : Int32} {n1 : Nat} {f2 : Nat → Int32} {h_1 : hk_H} {x4 : Int32} {o0 : Option Value} {o1 : Option Value} {o2 : Option Value} {o3 : Option Value} (ha3 : h.2 s0 = some (.inl (0, n1, .inl f2))) (h4_s0 : 4 ≤ s0) (j4 : Nat) (hi5 : (s1 : Int32).toInt = (j4 : Int)) (hj6 : j4 < n1) (e_1 : (hk_set h s0 (.inl (0, n1, .inl (upd f2 j4 (s2 + (s3 * s4)))))) = h_1) (k : hk_S G m_X7_addUp (d + 1) cb sb 57 [o0, o1, o2, o3, some (.int (x4 + 1))] [] h_1 Q) (ho3 : hk_c1 o3 := by first | exact hk_c1i | exact hk_c1r | exact hk_c10 | exact hk_c1n) : hk_S G m_X7_addUp (d + 1) cb sb 93 [o0, o1, o2, o3, some (.int x4)] [.int s4, .int s3, .int s2, .int s1, .ref s0] h Q := by
  subst e_1
  refine hs_imul dX7_addUp_93 ?_
  refine hs_iadd dX7_addUp_94 ?_
  refine hs_iast j4 dX7_addUp_95 ha3 h4_s0 hi5 hj6 ?_
  refine hs_iincK (v := 1) dX7_addUp_96 rfl (by decide) (by decide) (hk_nk1 rfl ho3) rfl ?_
  refine hs_goto dX7_addUp_99 (tgt := 57) (by decide) ?_
  exact k
theorem b_X7_addUp_102 {G : hk_G} {d cb sb : Nat} {h : hk_H} {Q : hk_O → hk_H → Prop} {x2 : Int32} {o0 : Option Value} {o1 : Option Value} {o3 : Option Value} {o4 : Option Value} (k : hk_S G m_X7_addUp (d + 1) cb sb 33 [o0, o1, some (.int (x2 + 1)), o3, o4] [] h Q) (ho1 : hk_c1 o1 := by first | exact hk_c1i | exact hk_c1r | exact hk_c10 | exact hk_c1n) : hk_S G m_X7_addUp (d + 1) cb sb 102 [o0, o1, some (.int x2), o3, o4] [] h Q := by
  refine hs_iincK (v := 1) dX7_addUp_102 rfl (by decide) (by decide) (hk_nk1 rfl ho1) rfl ?_
  refine hs_goto dX7_addUp_105 (tgt := 33) (by decide) ?_
  exact k
theorem b_X7_addUp_108 {G : hk_G} {d cb sb : Nat} {h : hk_H} {Q : hk_O → hk_H → Prop} {o0 : Option Value} {o1 : Option Value} {o2 : Option Value} {o3 : Option Value} {o4 : Option Value} (hq : Q (.inl none) h) : hk_S G m_X7_addUp (d + 1) cb sb 108 [o0, o1, o2, o3, o4] [] h Q := by
  exact hs_vret dX7_addUp_108 rfl hq
-- HonestHouse$Weighed.ownPayment(III)I
theorem b_X7_ownPayment_0 {G : hk_G} {d cb sb : Nat} {h : hk_H} {Q : hk_O → hk_H → Prop} {x2 : Int32} {o0 : Option Value} {o1 : Option Value} {o3 : Option Value} {o4 : Option Value} {o5 : Option Value} (kt : 1 ≤ x2 → hk_S G m_X7_ownPayment (d + 1) cb sb 7 [o0, o1, some (.int x2), o3, o4, o5] [] h Q) (kf : ¬ 1 ≤ x2 → hk_S G m_X7_ownPayment (d + 1) cb sb 5 [o0, o1, some (.int x2), o3, o4, o5] [] h Q) : hk_S G m_X7_ownPayment (d + 1) cb sb 0 [o0, o1, some (.int x2), o3, o4, o5] [] h Q := by
  refine hs_iload_n dX7_ownPayment_0 rfl ?_
  refine hs_iconst (v := 1) dX7_ownPayment_1 (by decide) ?_
  exact hs_icmp_ge dX7_ownPayment_2 (by decide) kt kf
theorem b_X7_ownPayment_5 {G : hk_G} {d cb sb : Nat} {h : hk_H} {Q : hk_O → hk_H → Prop} {o0 : Option Value} {o1 : Option Value} {o2 : Option Value} {o3 : Option Value} {o4 : Option Value} {o5 : Option Value} (hq : Q (.inl (some (.int 0))) h) : hk_S G m_X7_ownPayment (d + 1) cb sb 5 [o0, o1, o2, o3, o4, o5] [] h Q := by
  refine hs_iconst (v := 0) dX7_ownPayment_5 (by decide) ?_
  exact hs_iret dX7_ownPayment_6 rfl hq
theorem b_X7_ownPayment_7 {G : hk_G} {d cb sb : Nat} {h : hk_H} {Q : hk_O → hk_H → Prop} {o0 : Option Value} {o1 : Option Value} {o2 : Option Value} {o3 : Option Value} {o4 : Option Value} {o5 : Option Value} (k : hk_S G m_X7_ownPayment (d + 1) cb sb 14 [o0, o1, o2, o3, some (.int ((-1000000))), some (.int 0)] [] h Q) (ho3 : hk_c1 o3 := by first | exact hk_c1i | exact hk_c1r | exact hk_c10 | exact hk_c1n) : hk_S G m_X7_ownPayment (d + 1) cb sb 7 [o0, o1, o2, o3, o4, o5] [] h Q := by
  refine hs_ldc (v := (-1000000)) dX7_ownPayment_7 wd_474 ?_
  refine hs_istK dX7_ownPayment_9 (by decide) (hk_nk1 rfl ho3) rfl ?_
  refine hs_iconst (v := 0) dX7_ownPayment_11 (by decide) ?_
  refine hs_istK dX7_ownPayment_12 (by decide) (hk_nk1 rfl hk_c1i) rfl ?_
  exact k
theorem b_X7_ownPayment_14 {G : hk_G} {d cb sb : Nat} {h : hk_H} {Q : hk_O → hk_H → Prop} {x5 : Int32} {r0 : Nat} {fs1 : List Value} {v3 : Nat} {fs5 : List Value} {v7 : Int32} {o1 : Option Value} {o2 : Option Value} {o3 : Option Value} {o4 : Option Value} (hg2 : h.2 r0 = some (.inr (7, fs1))) (hv4 : fs1[2]? = some (.ref v3)) (hg6 : h.2 v3 = some (.inr (8, fs5))) (hv8 : fs5[1]? = some (.int v7)) (kt : v7 ≤ x5 → hk_S G m_X7_ownPayment (d + 1) cb sb 59 [some (.ref r0), o1, o2, o3, o4, some (.int x5)] [] h Q) (kf : ¬ v7 ≤ x5 → hk_S G m_X7_ownPayment (d + 1) cb sb 26 [some (.ref r0), o1, o2, o3, o4, some (.int x5)] [] h Q) : hk_S G m_X7_ownPayment (d + 1) cb sb 14 [some (.ref r0), o1, o2, o3, o4, some (.int x5)] [] h Q := by
  refine hs_iload dX7_ownPayment_14 rfl ?_
  refine hs_aload_n dX7_ownPayment_16 rfl ?_
  refine hs_get dX7_ownPayment_17 fl_X7_41_7 hg2 hv4 ?_
  refine hs_get dX7_ownPayment_20 fl_X7_45_8 hg6 hv8 ?_
  exact hs_icmp_ge dX7_ownPayment_23 (by decide) kt kf
theorem b_X7_ownPayment_26 {G : hk_G} {d cb sb : Nat} {h : hk_H} {Q : hk_O → hk_H → Prop} {x4 : Int32} {r0 : Nat} {fs1 : List Value} {v3 : Nat} {x5 : Int32} {n5 : Nat} {f6 : Nat → Int32} {x2 : Int32} {v11 : Nat} {x1 : Int32} {fs_ : List Value} {o3 : Option Value} (hg2 : h.2 r0 = some (.inr (7, fs1))) (hv4 : fs1[6]? = some (.ref v3)) (ha7 : h.2 v3 = some (.inl (0, n5, .inl f6))) (j8 : Nat) (hi9 : (x5 : Int32).toInt = (j8 : Int)) (hj10 : j8 < n5) (hv12 : fs1[2]? = some (.ref v11)) (hrec : h.2 v11 = some (.inr (8, fs_))) (hc : hk_Ci G m_X8_number d 0 0 [.ref v11, .int x1, .int x5] h (fun z h' => hk_S G m_X7_ownPayment (d + 1) cb sb 46 [some (.ref r0), some (.int x1), some (.int x2), o3, some (.int x4), some (.int x5)] [.int z, .int x2, .int (f6 j8), .int x4] h' Q)) : hk_S G m_X7_ownPayment (d + 1) cb sb 26 [some (.ref r0), some (.int x1), some (.int x2), o3, some (.int x4), some (.int x5)] [] h Q := by
  refine hs_iload dX7_ownPayment_26 rfl ?_
  refine hs_aload_n dX7_ownPayment_28 rfl ?_
  refine hs_get dX7_ownPayment_29 fl_X7_18_7 hg2 hv4 ?_
  refine hs_iload dX7_ownPayment_32 rfl ?_
  refine hs_iald j8 dX7_ownPayment_34 ha7 hi9 hj10 ?_
  refine hs_iload_n dX7_ownPayment_35 rfl ?_
  refine hs_aload_n dX7_ownPayment_36 rfl ?_
  refine hs_get dX7_ownPayment_37 fl_X7_41_7 hg2 hv12 ?_
  refine hs_iload_n dX7_ownPayment_40 rfl ?_
  refine hs_iload dX7_ownPayment_41 rfl ?_
  exact hk_z0 (hs_vir (M' := m_X8_number) (vs := [.int x1, .int x5]) (c1 := 0) (s1 := 0) dX7_ownPayment_43 wd_469 vi_X8_number hrec rfl (Nat.le_of_ble_eq_true rfl) hc hq_i (hc_i (fun z h9 k9 => k9)))
theorem b_X7_ownPayment_46 {G : hk_G} {d cb sb : Nat} {h : hk_H} {Q : hk_O → hk_H → Prop} {s0 : Int32} {s1 : Int32} {s2 : Int32} {s3 : Int32} {o0 : Option Value} {o1 : Option Value} {o2 : Option Value} {o3 : Option Value} {o4 : Option Value} {o5 : Option Value} (hc : hk_Ci G m_J9_max_7cf53 d 0 0 [.int s0, .int (s1 - (s2 * s3))] h (fun z h' => hk_S G m_X7_ownPayment (d + 1) cb sb 51 [o0, o1, o2, o3, o4, o5] [.int z] h' Q)) : hk_S G m_X7_ownPayment (d + 1) cb sb 46 [o0, o1, o2, o3, o4, o5] [.int s3, .int s2, .int s1, .int s0] h Q := by
  refine hs_imul dX7_ownPayment_46 ?_
  refine hs_isub dX7_ownPayment_47 ?_
  exact hk_z0 (hs_sta (M' := m_J9_max_7cf53) (vs := [.int s0, .int (s1 - (s2 * s3))]) (c1 := 0) (s1 := 0) dX7_ownPayment_48 wd_475 st_J9_max_7cf53 rfl (Nat.le_of_ble_eq_true rfl) hc hq_i (hc_i (fun z h9 k9 => k9)))
theorem b_X7_ownPayment_51 {G : hk_G} {d cb sb : Nat} {h : hk_H} {Q : hk_O → hk_H → Prop} {s0 : Int32} {x5 : Int32} {o0 : Option Value} {o1 : Option Value} {o2 : Option Value} {o3 : Option Value} {o4 : Option Value} (k : hk_S G m_X7_ownPayment (d + 1) cb sb 14 [o0, o1, o2, o3, some (.int s0), some (.int (x5 + 1))] [] h Q) (ho3 : hk_c1 o3 := by first | exact hk_c1i | exact hk_c1r | exact hk_c10 | exact hk_c1n) : hk_S G m_X7_ownPayment (d + 1) cb sb 51 [o0, o1, o2, o3, o4, some (.int x5)] [.int s0] h Q := by
  refine hs_istK dX7_ownPayment_51 (by decide) (hk_nk1 rfl ho3) rfl ?_
  refine hs_iincK (v := 1) dX7_ownPayment_53 rfl (by decide) (by decide) (hk_nk1 rfl hk_c1i) rfl ?_
  refine hs_goto dX7_ownPayment_56 (tgt := 14) (by decide) ?_
  exact k
theorem b_X7_ownPayment_59 {G : hk_G} {d cb sb : Nat} {h : hk_H} {Q : hk_O → hk_H → Prop} {x4 : Int32} {r0 : Nat} {fs1 : List Value} {v3 : Nat} {x3 : Int32} {n5 : Nat} {f6 : Nat → Int32} {x2 : Int32} {v11 : Nat} {x1 : Int32} {fs_ : List Value} {o5 : Option Value} (hg2 : h.2 r0 = some (.inr (7, fs1))) (hv4 : fs1[6]? = some (.ref v3)) (ha7 : h.2 v3 = some (.inl (0, n5, .inl f6))) (j8 : Nat) (hi9 : (x3 : Int32).toInt = (j8 : Int)) (hj10 : j8 < n5) (hv12 : fs1[2]? = some (.ref v11)) (hrec : h.2 v11 = some (.inr (8, fs_))) (hc : hk_Ci G m_X8_number d 0 0 [.ref v11, .int x1, .int x3] h (fun z h' => hk_S G m_X7_ownPayment (d + 1) cb sb 77 [some (.ref r0), some (.int x1), some (.int x2), some (.int x3), some (.int x4), o5] [.int z, .int x2, .int (f6 j8), .int x4] h' Q)) : hk_S G m_X7_ownPayment (d + 1) cb sb 59 [some (.ref r0), some (.int x1), some (.int x2), some (.int x3), some (.int x4), o5] [] h Q := by
  refine hs_iload dX7_ownPayment_59 rfl ?_
  refine hs_aload_n dX7_ownPayment_61 rfl ?_
  refine hs_get dX7_ownPayment_62 fl_X7_18_7 hg2 hv4 ?_
  refine hs_iload_n dX7_ownPayment_65 rfl ?_
  refine hs_iald j8 dX7_ownPayment_66 ha7 hi9 hj10 ?_
  refine hs_iload_n dX7_ownPayment_67 rfl ?_
  refine hs_aload_n dX7_ownPayment_68 rfl ?_
  refine hs_get dX7_ownPayment_69 fl_X7_41_7 hg2 hv12 ?_
  refine hs_iload_n dX7_ownPayment_72 rfl ?_
  refine hs_iload_n dX7_ownPayment_73 rfl ?_
  exact hk_z0 (hs_vir (M' := m_X8_number) (vs := [.int x1, .int x3]) (c1 := 0) (s1 := 0) dX7_ownPayment_74 wd_469 vi_X8_number hrec rfl (Nat.le_of_ble_eq_true rfl) hc hq_i (hc_i (fun z h9 k9 => k9)))
theorem b_X7_ownPayment_77 {G : hk_G} {d cb sb : Nat} {h : hk_H} {Q : hk_O → hk_H → Prop} {s0 : Int32} {s1 : Int32} {s2 : Int32} {s3 : Int32} {x2 : Int32} {o0 : Option Value} {o1 : Option Value} {o3 : Option Value} {o4 : Option Value} {o5 : Option Value} (hz1 : ¬ x2 = 0) (hq : Q (.inl (some (.int ((s0 - (s1 - (s2 * s3))) / x2)))) h) : hk_S G m_X7_ownPayment (d + 1) cb sb 77 [o0, o1, some (.int x2), o3, o4, o5] [.int s3, .int s2, .int s1, .int s0] h Q := by
  refine hs_imul dX7_ownPayment_77 ?_
  refine hs_isub dX7_ownPayment_78 ?_
  refine hs_isub dX7_ownPayment_79 ?_
  refine hs_iload_n dX7_ownPayment_80 rfl ?_
  refine hs_idiv dX7_ownPayment_81 hz1 ?_
  exact hs_iret dX7_ownPayment_82 rfl hq
-- HonestHouse$Weighed.heft()I
theorem b_X7_heft_0 {G : hk_G} {d cb sb : Nat} {h : hk_H} {Q : hk_O → hk_H → Prop} {r0 : Nat} {fs_ : List Value} {ci_ : Nat} {rr : vw_C} (hcl : hk_cl[ci_]? = some rr) (hrec : h.2 r0 = some (.inr (ci_, fs_))) (hc : hk_Ci G m_X3_heft d 0 0 [.ref r0] h (fun z h' => hk_S G m_X7_heft (d + 1) cb sb 5 [some (.ref r0)] [.int z, .int 2] h' Q)) : hk_S G m_X7_heft (d + 1) cb sb 0 [some (.ref r0)] [] h Q := by
  refine hs_iconst (v := 2) dX7_heft_0 (by decide) ?_
  refine hs_aload_n dX7_heft_1 rfl ?_
  exact hk_z0 (hs_sup (M' := m_X3_heft) (vs := []) (c1 := 0) (s1 := 0) dX7_heft_2 wd_884 su_X7_heft_X3_heft hcl hrec rfl (Nat.le_of_ble_eq_true rfl) hc hq_i (hc_i (fun z h9 k9 => k9)))
theorem b_X7_heft_5 {G : hk_G} {d cb sb : Nat} {h : hk_H} {Q : hk_O → hk_H → Prop} {s0 : Int32} {s1 : Int32} {o0 : Option Value} (hq : Q (.inl (some (.int (s0 * s1)))) h) : hk_S G m_X7_heft (d + 1) cb sb 5 [o0] [.int s1, .int s0] h Q := by
  refine hs_imul dX7_heft_5 ?_
  exact hs_iret dX7_heft_6 rfl hq
