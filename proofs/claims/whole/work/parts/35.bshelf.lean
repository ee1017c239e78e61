-- HonestHouse$Shelf.<init>()V
theorem b_X4_init_0 {G : hk_G} {d cb sb : Nat} {h : hk_H} {Q : hk_O → hk_H → Prop} {r0 : Nat} {h_1 : hk_H} {fs1 : List Value} {h_2 : hk_H} (e_1 : (hk_new h (.inl (1, 60, .inr (.inl (fun _ => 0))))) = h_1) (hg2 : h_1.2 r0 = some (.inr (4, fs1))) (h4_r0 : 4 ≤ r0) (e_2 : (hk_set h_1 r0 (.inr (4, fs1.set 4 (.ref h.1)))) = h_2) (hq : Q (.inl none) h_2) (hl3 : 4 < fs1.length := by exact Nat.le_of_ble_eq_true rfl) : hk_S G m_X4_init d (cb + 1) (sb + 60) 0 [some (.ref r0)] [] h Q := by
  subst e_1
  subst e_2
  refine hs_aload_n dX4_init_0 rfl ?_
  refine hs_objInit (a := r0) dX4_init_1 ⟨wd_173, oi_.1, oi_.2⟩ (Nat.le_of_ble_eq_true rfl) ?_
  refine hs_aload_n dX4_init_4 rfl ?_
  refine hs_bipush (v := 60) dX4_init_5 (by decide) ?_
  refine hs_newl (N := 60) dX4_init_7 (by decide) (by decide) ?_
  refine hs_putF (t := .array .long) dX4_init_9 rfl fw_X4_9_4 hg2 h4_r0 hl3 rfl rfl ?_
  exact hs_vret dX4_init_12 rfl hq
-- HonestHouse$Shelf.holdNothing()V
theorem b_X4_holdNothing_0 {G : hk_G} {d cb sb : Nat} {h : hk_H} {Q : hk_O → hk_H → Prop} {r0 : Nat} {fs1 : List Value} {h_1 : hk_H} {fs4 : List Value} {h_2 : hk_H} (hg2 : h.2 r0 = some (.inr (4, fs1))) (h4_r0 : 4 ≤ r0) (e_1 : (hk_set h r0 (.inr (4, fs1.set 0 (.int 0)))) = h_1) (hg5 : h_1.2 r0 = some (.inr (4, fs4))) (e_2 : (hk_set h_1 r0 (.inr (4, fs4.set 1 (.null)))) = h_2) (hq : Q (.inl none) h_2) (hl3 : 0 < fs1.length := by exact Nat.le_of_ble_eq_true rfl) (hl6 : 1 < fs4.length := by exact Nat.le_of_ble_eq_true rfl) : hk_S G m_X4_holdNothing d cb sb 0 [some (.ref r0)] [] h Q := by
  subst e_1
  subst e_2
  refine hs_aload_n dX4_holdNothing_0 rfl ?_
  refine hs_iconst (v := 0) dX4_holdNothing_1 (by decide) ?_
  refine hs_put (t := .int) dX4_holdNothing_2 fw_X4_15_4 hg2 h4_r0 hl3 rfl rfl ?_
  refine hs_aload_n dX4_holdNothing_5 rfl ?_
  refine hs_null dX4_holdNothing_6 ?_
  refine hs_put (t := .object "HonestHouse$Table") dX4_holdNothing_7 fw_X4_19_4 hg5 h4_r0 hl6 rfl rfl ?_
  exact hs_vret dX4_holdNothing_10 rfl hq
-- HonestHouse$Shelf.holdRule(LHonestHouse$Table;)V
theorem b_X4_holdRule_0 {G : hk_G} {d cb sb : Nat} {h : hk_H} {Q : hk_O → hk_H → Prop} {r0 : Nat} {fs1 : List Value} {h_1 : hk_H} {r1 : Nat} {fs4 : List Value} {h_2 : hk_H} {M' : hk_M} {ci_ : Nat} {fs_ : List Value} (hg2 : h.2 r0 = some (.inr (4, fs1))) (h4_r0 : 4 ≤ r0) (e_1 : (hk_set h r0 (.inr (4, fs1.set 0 (.int 1)))) = h_1) (hg5 : h_1.2 r0 = some (.inr (4, fs4))) (e_2 : (hk_set h_1 r0 (.inr (4, fs4.set 1 (.ref r1)))) = h_2) (hdis : hk_dis yX5_heft ci_ M' 0) (hrec : h_2.2 r1 = some (.inr (ci_, fs_))) (hc : hk_Ci G M' d 0 0 [.ref r1] h_2 (fun z h' => hk_S G m_X4_holdRule (d + 1) cb sb 15 [some (.ref r0), some (.ref r1)] [.int z, .ref r0] h' Q)) (hl3 : 0 < fs1.length := by exact Nat.le_of_ble_eq_true rfl) (hl6 : 1 < fs4.length := by exact Nat.le_of_ble_eq_true rfl) : hk_S G m_X4_holdRule (d + 1) cb sb 0 [some (.ref r0), some (.ref r1)] [] h Q := by
  subst e_1
  subst e_2
  refine hs_aload_n dX4_holdRule_0 rfl ?_
  refine hs_iconst (v := 1) dX4_holdRule_1 (by decide) ?_
  refine hs_put (t := .int) dX4_holdRule_2 fw_X4_15_4 hg2 h4_r0 hl3 rfl rfl ?_
  refine hs_aload_n dX4_holdRule_5 rfl ?_
  refine hs_aload_n dX4_holdRule_6 rfl ?_
  refine hs_put (t := .object "HonestHouse$Table") dX4_holdRule_7 fw_X4_19_4 hg5 h4_r0 hl6 rfl rfl ?_
  refine hs_aload_n dX4_holdRule_10 rfl ?_
  refine hs_aload_n dX4_holdRule_11 rfl ?_
  exact hk_z0 (hs_dis (x := yX5_heft) (vs := []) (c1 := 0) (s1 := 0) dX4_holdRule_12 wd_869 hdis hrec rfl (Nat.le_of_ble_eq_true rfl) hc hq_i (hc_i (fun z h9 k9 => k9)))
theorem b_X4_holdRule_15 {G : hk_G} {d cb sb : Nat} {h : hk_H} {Q : hk_O → hk_H → Prop} {s0 : Nat} {s1 : Int32} {fs1 : List Value} {h_1 : hk_H} {o0 : Option Value} {o1 : Option Value} (hg2 : h.2 s0 = some (.inr (4, fs1))) (h4_s0 : 4 ≤ s0) (e_1 : (hk_set h s0 (.inr (4, fs1.set 2 (.int s1)))) = h_1) (hq : Q (.inl none) h_1) (hl3 : 2 < fs1.length := by exact Nat.le_of_ble_eq_true rfl) : hk_S G m_X4_holdRule (d + 1) cb sb 15 [o0, o1] [.int s1, .ref s0] h Q := by
  subst e_1
  refine hs_put (t := .int) dX4_holdRule_15 fw_X4_29_4 hg2 h4_s0 hl3 rfl rfl ?_
  exact hs_vret dX4_holdRule_18 rfl hq
-- HonestHouse$Shelf.holdRow(II)V
theorem b_X4_holdRow_0 {G : hk_G} {d cb sb : Nat} {h : hk_H} {Q : hk_O → hk_H → Prop} {r0 : Nat} {x1 : Int32} {fs1 : List Value} {h_1 : hk_H} {fs4 : List Value} {h_2 : hk_H} {x2 : Int32} {fs7 : List Value} {h_3 : hk_H} {fs10 : List Value} {v12 : Nat} (hg2 : h.2 r0 = some (.inr (4, fs1))) (h4_r0 : 4 ≤ r0) (e_1 : (hk_set h r0 (.inr (4, fs1.set 0 (.int x1)))) = h_1) (hg5 : h_1.2 r0 = some (.inr (4, fs4))) (e_2 : (hk_set h_1 r0 (.inr (4, fs4.set 1 (.null)))) = h_2) (hg8 : h_2.2 r0 = some (.inr (4, fs7))) (e_3 : (hk_set h_2 r0 (.inr (4, fs7.set 3 (.int x2)))) = h_3) (hg11 : h_3.2 r0 = some (.inr (4, fs10))) (hv13 : fs10[4]? = some (.ref v12)) (hc : hk_Cv G m_J7_fill_d0a16 d 0 0 [.ref v12, .long 0] h_3 (fun h' => hk_S G m_X4_holdRow (d + 1) cb sb 23 [some (.ref r0), some (.int x1), some (.int x2)] [] h' Q)) (hl3 : 0 < fs1.length := by exact Nat.le_of_ble_eq_true rfl) (hl6 : 1 < fs4.length := by exact Nat.le_of_ble_eq_true rfl) (hl9 : 3 < fs7.length := by exact Nat.le_of_ble_eq_true rfl) : hk_S G m_X4_holdRow (d + 1) cb sb 0 [some (.ref r0), some (.int x1), some (.int x2)] [] h Q := by
  subst e_1
  subst e_2
  subst e_3
  refine hs_aload_n dX4_holdRow_0 rfl ?_
  refine hs_iload_n dX4_holdRow_1 rfl ?_
  refine hs_put (t := .int) dX4_holdRow_2 fw_X4_15_4 hg2 h4_r0 hl3 rfl rfl ?_
  refine hs_aload_n dX4_holdRow_5 rfl ?_
  refine hs_null dX4_holdRow_6 ?_
  refine hs_put (t := .object "HonestHouse$Table") dX4_holdRow_7 fw_X4_19_4 hg5 h4_r0 hl6 rfl rfl ?_
  refine hs_aload_n dX4_holdRow_10 rfl ?_
  refine hs_iload_n dX4_holdRow_11 rfl ?_
  refine hs_put (t := .int) dX4_holdRow_12 fw_X4_31_4 hg8 h4_r0 hl9 rfl rfl ?_
  refine hs_aload_n dX4_holdRow_15 rfl ?_
  refine hs_get dX4_holdRow_16 fl_X4_9_4 hg11 hv13 ?_
  refine hs_lconst (v := 0) dX4_holdRow_19 (by decide) ?_
  exact hk_z0 (hs_sta (M' := m_J7_fill_d0a16) (vs := [.ref v12, .long 0]) (c1 := 0) (s1 := 0) dX4_holdRow_20 wd_895 st_J7_fill_d0a16 rfl (Nat.le_of_ble_eq_true rfl) hc hq_v (hc_v (fun h9 k9 => k9)))
theorem b_X4_holdRow_23 {G : hk_G} {d cb sb : Nat} {h : hk_H} {Q : hk_O → hk_H → Prop} {o0 : Option Value} {o1 : Option Value} {o2 : Option Value} (hq : Q (.inl none) h) : hk_S G m_X4_holdRow (d + 1) cb sb 23 [o0, o1, o2] [] h Q := by
  exact hs_vret dX4_holdRow_23 rfl hq
-- HonestHouse$Shelf.holdsRow()Z
theorem b_X4_holdsRow_0 {G : hk_G} {d cb sb : Nat} {h : hk_H} {Q : hk_O → hk_H → Prop} {r0 : Nat} {fs1 : List Value} {v3 : Int32} (hg2 : h.2 r0 = some (.inr (4, fs1))) (hv4 : fs1[0]? = some (.int v3)) (kt : v3 = 3 → hk_S G m_X4_holdsRow d cb sb 16 [some (.ref r0)] [] h Q) (kf : ¬ v3 = 3 → hk_S G m_X4_holdsRow d cb sb 8 [some (.ref r0)] [] h Q) : hk_S G m_X4_holdsRow d cb sb 0 [some (.ref r0)] [] h Q := by
  refine hs_aload_n dX4_holdsRow_0 rfl ?_
  refine hs_get dX4_holdsRow_1 fl_X4_15_4 hg2 hv4 ?_
  refine hs_iconst (v := 3) dX4_holdsRow_4 (by decide) ?_
  exact hs_icmp_eq dX4_holdsRow_5 (by decide) kt kf
theorem b_X4_holdsRow_8 {G : hk_G} {d cb sb : Nat} {h : hk_H} {Q : hk_O → hk_H → Prop} {r0 : Nat} {fs1 : List Value} {v3 : Int32} (hg2 : h.2 r0 = some (.inr (4, fs1))) (hv4 : fs1[0]? = some (.int v3)) (kt : ¬ v3 = 4 → hk_S G m_X4_holdsRow d cb sb 20 [some (.ref r0)] [] h Q) (kf : v3 = 4 → hk_S G m_X4_holdsRow d cb sb 16 [some (.ref r0)] [] h Q) : hk_S G m_X4_holdsRow d cb sb 8 [some (.ref r0)] [] h Q := by
  refine hs_aload_n dX4_holdsRow_8 rfl ?_
  refine hs_get dX4_holdsRow_9 fl_X4_15_4 hg2 hv4 ?_
  refine hs_iconst (v := 4) dX4_holdsRow_12 (by decide) ?_
  exact hs_icmp_ne dX4_holdsRow_13 (by decide) kt kf
theorem b_X4_holdsRow_16 {G : hk_G} {d cb sb : Nat} {h : hk_H} {Q : hk_O → hk_H → Prop} {o0 : Option Value} (hq : Q (.inl (some (.int 1))) h) : hk_S G m_X4_holdsRow d cb sb 16 [o0] [] h Q := by
  refine hs_iconst (v := 1) dX4_holdsRow_16 (by decide) ?_
  refine hs_goto dX4_holdsRow_17 (tgt := 21) (by decide) ?_
  exact hs_zret dX4_holdsRow_21 rfl (by decide) hq
theorem b_X4_holdsRow_20 {G : hk_G} {d cb sb : Nat} {h : hk_H} {Q : hk_O → hk_H → Prop} {o0 : Option Value} (hq : Q (.inl (some (.int 0))) h) : hk_S G m_X4_holdsRow d cb sb 20 [o0] [] h Q := by
  refine hs_iconst (v := 0) dX4_holdsRow_20 (by decide) ?_
  exact hs_zret dX4_holdsRow_21 rfl (by decide) hq
theorem b_X4_holdsRow_21 {G : hk_G} {d cb sb : Nat} {h : hk_H} {Q : hk_O → hk_H → Prop} {s0 : Int32} {o0 : Option Value} (hq : Q (.inl (some (.int s0))) h) (hb : s0 = 0 ∨ s0 = 1) : hk_S G m_X4_holdsRow d cb sb 21 [o0] [.int s0] h Q := by
  exact hs_zret dX4_holdsRow_21 rfl hb hq
-- HonestHouse$Shelf.hasPlaces(II)Z
theorem b_X4_hasPlaces_0 {G : hk_G} {d cb sb : Nat} {h : hk_H} {Q : hk_O → hk_H → Prop} {x1 : Int32} {o0 : Option Value} {o2 : Option Value} (kt : x1 < 0 → hk_S G m_X4_hasPlaces d cb sb 30 [o0, some (.int x1), o2] [] h Q) (kf : ¬ x1 < 0 → hk_S G m_X4_hasPlaces d cb sb 4 [o0, some (.int x1), o2] [] h Q) : hk_S G m_X4_hasPlaces d cb sb 0 [o0, some (.int x1), o2] [] h Q := by
  refine hs_iload_n dX4_hasPlaces_0 rfl ?_
  exact hs_if_lt dX4_hasPlaces_1 (by decide) kt kf
theorem b_X4_hasPlaces_4 {G : hk_G} {d cb sb : Nat} {h : hk_H} {Q : hk_O → hk_H → Prop} {x2 : Int32} {o0 : Option Value} {o1 : Option Value} (kt : x2 < 0 → hk_S G m_X4_hasPlaces d cb sb 30 [o0, o1, some (.int x2)] [] h Q) (kf : ¬ x2 < 0 → hk_S G m_X4_hasPlaces d cb sb 8 [o0, o1, some (.int x2)] [] h Q) : hk_S G m_X4_hasPlaces d cb sb 4 [o0, o1, some (.int x2)] [] h Q := by
  refine hs_iload_n dX4_hasPlaces_4 rfl ?_
  exact hs_if_lt dX4_hasPlaces_5 (by decide) kt kf
theorem b_X4_hasPlaces_8 {G : hk_G} {d cb sb : Nat} {h : hk_H} {Q : hk_O → hk_H → Prop} {x2 : Int32} {r0 : Nat} {fs1 : List Value} {v3 : Int32} {o1 : Option Value} (hg2 : h.2 r0 = some (.inr (4, fs1))) (hv4 : fs1[3]? = some (.int v3)) (kt : v3 < x2 → hk_S G m_X4_hasPlaces d cb sb 30 [some (.ref r0), o1, some (.int x2)] [] h Q) (kf : ¬ v3 < x2 → hk_S G m_X4_hasPlaces d cb sb 16 [some (.ref r0), o1, some (.int x2)] [] h Q) : hk_S G m_X4_hasPlaces d cb sb 8 [some (.ref r0), o1, some (.int x2)] [] h Q := by
  refine hs_iload_n dX4_hasPlaces_8 rfl ?_
  refine hs_aload_n dX4_hasPlaces_9 rfl ?_
  refine hs_get dX4_hasPlaces_10 fl_X4_31_4 hg2 hv4 ?_
  exact hs_icmp_gt dX4_hasPlaces_13 (by decide) kt kf
theorem b_X4_hasPlaces_16 {G : hk_G} {d cb sb : Nat} {h : hk_H} {Q : hk_O → hk_H → Prop} {x1 : Int32} {r0 : Nat} {fs1 : List Value} {v3 : Int32} {x2 : Int32} (hg2 : h.2 r0 = some (.inr (4, fs1))) (hv4 : fs1[3]? = some (.int v3)) (kt : (v3 - x2) < x1 → hk_S G m_X4_hasPlaces d cb sb 30 [some (.ref r0), some (.int x1), some (.int x2)] [] h Q) (kf : ¬ (v3 - x2) < x1 → hk_S G m_X4_hasPlaces d cb sb 26 [some (.ref r0), some (.int x1), some (.int x2)] [] h Q) : hk_S G m_X4_hasPlaces d cb sb 16 [some (.ref r0), some (.int x1), some (.int x2)] [] h Q := by
  refine hs_iload_n dX4_hasPlaces_16 rfl ?_
  refine hs_aload_n dX4_hasPlaces_17 rfl ?_
  refine hs_get dX4_hasPlaces_18 fl_X4_31_4 hg2 hv4 ?_
  refine hs_iload_n dX4_hasPlaces_21 rfl ?_
  refine hs_isub dX4_hasPlaces_22 ?_
  exact hs_icmp_gt dX4_hasPlaces_23 (by decide) kt kf
theorem b_X4_hasPlaces_26 {G : hk_G} {d cb sb : Nat} {h : hk_H} {Q : hk_O → hk_H → Prop} {o0 : Option Value} {o1 : Option Value} {o2 : Option Value} (hq : Q (.inl (some (.int 1))) h) : hk_S G m_X4_hasPlaces d cb sb 26 [o0, o1, o2] [] h Q := by
  refine hs_iconst (v := 1) dX4_hasPlaces_26 (by decide) ?_
  refine hs_goto dX4_hasPlaces_27 (tgt := 31) (by decide) ?_
  exact hs_zret dX4_hasPlaces_31 rfl (by decide) hq
theorem b_X4_hasPlaces_30 {G : hk_G} {d cb sb : Nat} {h : hk_H} {Q : hk_O → hk_H → Prop} {o0 : Option Value} {o1 : Option Value} {o2 : Option Value} (hq : Q (.inl (some (.int 0))) h) : hk_S G m_X4_hasPlaces d cb sb 30 [o0, o1, o2] [] h Q := by
  refine hs_iconst (v := 0) dX4_hasPlaces_30 (by decide) ?_
  exact hs_zret dX4_hasPlaces_31 rfl (by decide) hq
theorem b_X4_hasPlaces_31 {G : hk_G} {d cb sb : Nat} {h : hk_H} {Q : hk_O → hk_H → Prop} {s0 : Int32} {o0 : Option Value} {o1 : Option Value} {o2 : Option Value} (hq : Q (.inl (some (.int s0))) h) (hb : s0 = 0 ∨ s0 = 1) : hk_S G m_X4_hasPlaces d cb sb 31 [o0, o1, o2] [.int s0] h Q := by
  exact hs_zret dX4_hasPlaces_31 rfl hb hq
