-- HonestHouseLaw.cell([II)I
theorem b_L_cell_0 {G : hk_G} {d cb sb : Nat} {h : hk_H} {Q : hk_O → hk_H → Prop} {x1 : Int32} {r0 : Nat} {n1 : Nat} {t3 : Nat} {x2 : (Nat → Int32) ⊕ (Nat → Int64) ⊕ (Nat → UInt32) ⊕ (Nat → UInt64) ⊕ (Nat → Option Nat)} (ha4 : h.2 r0 = some (.inl (t3, n1, x2))) (ht5 : t3 < 5) (kt : (Int32.ofNat n1) ≤ x1 → hk_S G m_L_cell d cb sb 12 [some (.ref r0), some (.int x1)] [] h Q) (kf : ¬ (Int32.ofNat n1) ≤ x1 → hk_S G m_L_cell d cb sb 6 [some (.ref r0), some (.int x1)] [] h Q) : hk_S G m_L_cell d cb sb 0 [some (.ref r0), some (.int x1)] [] h Q := by
  refine hs_iload_n dL_cell_0 rfl ?_
  refine hs_aload_n dL_cell_1 rfl ?_
  refine hs_alen dL_cell_2 ha4 ht5 ?_
  exact hs_icmp_ge dL_cell_3 (by decide) kt kf
theorem b_L_cell_6 {G : hk_G} {d cb sb : Nat} {h : hk_H} {Q : hk_O → hk_H → Prop} {r0 : Nat} {x1 : Int32} {n1 : Nat} {f2 : Nat → Int32} (ha3 : h.2 r0 = some (.inl (0, n1, .inl f2))) (j4 : Nat) (hi5 : (x1 : Int32).toInt = (j4 : Int)) (hj6 : j4 < n1) (hq : Q (.inl (some (.int (f2 j4)))) h) : hk_S G m_L_cell d cb sb 6 [some (.ref r0), some (.int x1)] [] h Q := by
  refine hs_aload_n dL_cell_6 rfl ?_
  refine hs_iload_n dL_cell_7 rfl ?_
  refine hs_iald j4 dL_cell_8 ha3 hi5 hj6 ?_
  refine hs_goto dL_cell_9 (tgt := 13) (by decide) ?_
  exact hs_iret dL_cell_13 rfl hq
theorem b_L_cell_12 {G : hk_G} {d cb sb : Nat} {h : hk_H} {Q : hk_O → hk_H → Prop} {o0 : Option Value} {o1 : Option Value} (hq : Q (.inl (some (.int 0))) h) : hk_S G m_L_cell d cb sb 12 [o0, o1] [] h Q := by
  refine hs_iconst (v := 0) dL_cell_12 (by decide) ?_
  exact hs_iret dL_cell_13 rfl hq
theorem b_L_cell_13 {G : hk_G} {d cb sb : Nat} {h : hk_H} {Q : hk_O → hk_H → Prop} {s0 : Int32} {o0 : Option Value} {o1 : Option Value} (hq : Q (.inl (some (.int s0))) h) : hk_S G m_L_cell d cb sb 13 [o0, o1] [.int s0] h Q := by
  exact hs_iret dL_cell_13 rfl hq
-- HonestHouseLaw.pays(LHonestHouse;III[J)I
-- b_L_pays_0: covered call
theorem b_L_pays_10 {G : hk_G} {d cb sb : Nat} {h : hk_H} {Q : hk_O → hk_H → Prop} {s0 : Nat} {s1 : Int32} {s2 : Int32} {n1 : Nat} {f2 : Nat → Int64} {h_1 : hk_H} {o0 : Option Value} {o1 : Option Value} {o2 : Option Value} {o3 : Option Value} {o4 : Option Value} {o5 : Option Value} (ha3 : h.2 s0 = some (.inl (1, n1, .inr (.inl f2)))) (h4_s0 : 4 ≤ s0) (j4 : Nat) (hi5 : (s1 : Int32).toInt = (j4 : Int)) (hj6 : j4 < n1) (e_1 : (hk_set h s0 (.inl (1, n1, .inr (.inl (vp_updL f2 j4 s2.toInt64))))) = h_1) (hq : Q (.inl (some (.int 0))) h_1) : hk_S G m_L_pays (d + 1) cb sb 10 [o0, o1, o2, o3, o4, o5] [.int s2, .int s1, .ref s0] h Q := by
  subst e_1
  refine hs_i2l dL_pays_10 ?_
  refine hs_last j4 dL_pays_11 ha3 h4_s0 hi5 hj6 ?_
  refine hs_goto dL_pays_12 (tgt := 19) (by decide) ?_
  refine hs_iconst (v := 0) dL_pays_19 (by decide) ?_
  exact hs_iret dL_pays_20 rfl hq
theorem b_L_pays_17 {G : hk_G} {d cb sb : Nat} {h : hk_H} {Q : hk_O → hk_H → Prop} {o0 : Option Value} {o1 : Option Value} {o2 : Option Value} {o3 : Option Value} {o4 : Option Value} {o5 : Option Value} (hq : Q (.inl (some (.int 1))) h) : hk_S G m_L_pays (d + 1) cb sb 17 [o0, o1, o2, o3, o4, o5] [] h Q := by
  refine hs_iconst (v := 1) dL_pays_17 (by decide) ?_
  exact hs_iret dL_pays_18 rfl hq
theorem b_L_pays_19 {G : hk_G} {d cb sb : Nat} {h : hk_H} {Q : hk_O → hk_H → Prop} {o0 : Option Value} {o1 : Option Value} {o2 : Option Value} {o3 : Option Value} {o4 : Option Value} {o5 : Option Value} (hq : Q (.inl (some (.int 0))) h) : hk_S G m_L_pays (d + 1) cb sb 19 [o0, o1, o2, o3, o4, o5] [] h Q := by
  refine hs_iconst (v := 0) dL_pays_19 (by decide) ?_
  exact hs_iret dL_pays_20 rfl hq
-- HonestHouseLaw.gain(LHonestHouse;IIII[J)I
-- b_L_gain_0: covered call
theorem b_L_gain_12 {G : hk_G} {d cb sb : Nat} {h : hk_H} {Q : hk_O → hk_H → Prop} {s0 : Nat} {s1 : Int32} {s2 : Int32} {n1 : Nat} {f2 : Nat → Int64} {h_1 : hk_H} {o0 : Option Value} {o1 : Option Value} {o2 : Option Value} {o3 : Option Value} {o4 : Option Value} {o5 : Option Value} {o6 : Option Value} (ha3 : h.2 s0 = some (.inl (1, n1, .inr (.inl f2)))) (h4_s0 : 4 ≤ s0) (j4 : Nat) (hi5 : (s1 : Int32).toInt = (j4 : Int)) (hj6 : j4 < n1) (e_1 : (hk_set h s0 (.inl (1, n1, .inr (.inl (vp_updL f2 j4 s2.toInt64))))) = h_1) (hq : Q (.inl (some (.int 0))) h_1) : hk_S G m_L_gain (d + 1) cb sb 12 [o0, o1, o2, o3, o4, o5, o6] [.int s2, .int s1, .ref s0] h Q := by
  subst e_1
  refine hs_i2l dL_gain_12 ?_
  refine hs_last j4 dL_gain_13 ha3 h4_s0 hi5 hj6 ?_
  refine hs_goto dL_gain_14 (tgt := 21) (by decide) ?_
  refine hs_iconst (v := 0) dL_gain_21 (by decide) ?_
  exact hs_iret dL_gain_22 rfl hq
theorem b_L_gain_19 {G : hk_G} {d cb sb : Nat} {h : hk_H} {Q : hk_O → hk_H → Prop} {o0 : Option Value} {o1 : Option Value} {o2 : Option Value} {o3 : Option Value} {o4 : Option Value} {o5 : Option Value} {o6 : Option Value} (hq : Q (.inl (some (.int 1))) h) : hk_S G m_L_gain (d + 1) cb sb 19 [o0, o1, o2, o3, o4, o5, o6] [] h Q := by
  refine hs_iconst (v := 1) dL_gain_19 (by decide) ?_
  exact hs_iret dL_gain_20 rfl hq
theorem b_L_gain_21 {G : hk_G} {d cb sb : Nat} {h : hk_H} {Q : hk_O → hk_H → Prop} {o0 : Option Value} {o1 : Option Value} {o2 : Option Value} {o3 : Option Value} {o4 : Option Value} {o5 : Option Value} {o6 : Option Value} (hq : Q (.inl (some (.int 0))) h) : hk_S G m_L_gain (d + 1) cb sb 21 [o0, o1, o2, o3, o4, o5, o6] [] h Q := by
  refine hs_iconst (v := 0) dL_gain_21 (by decide) ?_
  exact hs_iret dL_gain_22 rfl hq
-- HonestHouseLaw.budget(LHonestHouse;IZ[J)I
-- b_L_budget_0: covered call
theorem b_L_budget_8 {G : hk_G} {d cb sb : Nat} {h : hk_H} {Q : hk_O → hk_H → Prop} {s0 : Nat} {s1 : Int32} {s2 : Int64} {n1 : Nat} {f2 : Nat → Int64} {h_1 : hk_H} {o0 : Option Value} {o1 : Option Value} {o2 : Option Value} {o3 : Option Value} {o4 : Option Value} (ha3 : h.2 s0 = some (.inl (1, n1, .inr (.inl f2)))) (h4_s0 : 4 ≤ s0) (j4 : Nat) (hi5 : (s1 : Int32).toInt = (j4 : Int)) (hj6 : j4 < n1) (e_1 : (hk_set h s0 (.inl (1, n1, .inr (.inl (vp_updL f2 j4 s2))))) = h_1) (hq : Q (.inl (some (.int 0))) h_1) : hk_S G m_L_budget (d + 1) cb sb 8 [o0, o1, o2, o3, o4] [.long s2, .int s1, .ref s0] h Q := by
  subst e_1
  refine hs_last j4 dL_budget_8 ha3 h4_s0 hi5 hj6 ?_
  refine hs_goto dL_budget_9 (tgt := 16) (by decide) ?_
  refine hs_iconst (v := 0) dL_budget_16 (by decide) ?_
  exact hs_iret dL_budget_17 rfl hq
theorem b_L_budget_14 {G : hk_G} {d cb sb : Nat} {h : hk_H} {Q : hk_O → hk_H → Prop} {o0 : Option Value} {o1 : Option Value} {o2 : Option Value} {o3 : Option Value} {o4 : Option Value} (hq : Q (.inl (some (.int 1))) h) : hk_S G m_L_budget (d + 1) cb sb 14 [o0, o1, o2, o3, o4] [] h Q := by
  refine hs_iconst (v := 1) dL_budget_14 (by decide) ?_
  exact hs_iret dL_budget_15 rfl hq
theorem b_L_budget_16 {G : hk_G} {d cb sb : Nat} {h : hk_H} {Q : hk_O → hk_H → Prop} {o0 : Option Value} {o1 : Option Value} {o2 : Option Value} {o3 : Option Value} {o4 : Option Value} (hq : Q (.inl (some (.int 0))) h) : hk_S G m_L_budget (d + 1) cb sb 16 [o0, o1, o2, o3, o4] [] h Q := by
  refine hs_iconst (v := 0) dL_budget_16 (by decide) ?_
  exact hs_iret dL_budget_17 rfl hq
-- HonestHouseLaw.welfare(LHonestHouse;I[J)I
-- b_L_welfare_0: covered call
theorem b_L_welfare_7 {G : hk_G} {d cb sb : Nat} {h : hk_H} {Q : hk_O → hk_H → Prop} {s0 : Nat} {s1 : Int32} {s2 : Int64} {n1 : Nat} {f2 : Nat → Int64} {h_1 : hk_H} {o0 : Option Value} {o1 : Option Value} {o2 : Option Value} {o3 : Option Value} (ha3 : h.2 s0 = some (.inl (1, n1, .inr (.inl f2)))) (h4_s0 : 4 ≤ s0) (j4 : Nat) (hi5 : (s1 : Int32).toInt = (j4 : Int)) (hj6 : j4 < n1) (e_1 : (hk_set h s0 (.inl (1, n1, .inr (.inl (vp_updL f2 j4 s2))))) = h_1) (hq : Q (.inl (some (.int 0))) h_1) : hk_S G m_L_welfare (d + 1) cb sb 7 [o0, o1, o2, o3] [.long s2, .int s1, .ref s0] h Q := by
  subst e_1
  refine hs_last j4 dL_welfare_7 ha3 h4_s0 hi5 hj6 ?_
  refine hs_goto dL_welfare_8 (tgt := 14) (by decide) ?_
  refine hs_iconst (v := 0) dL_welfare_14 (by decide) ?_
  exact hs_iret dL_welfare_15 rfl hq
theorem b_L_welfare_12 {G : hk_G} {d cb sb : Nat} {h : hk_H} {Q : hk_O → hk_H → Prop} {o0 : Option Value} {o1 : Option Value} {o2 : Option Value} {o3 : Option Value} (hq : Q (.inl (some (.int 1))) h) : hk_S G m_L_welfare (d + 1) cb sb 12 [o0, o1, o2, o3] [] h Q := by
  refine hs_iconst (v := 1) dL_welfare_12 (by decide) ?_
  exact hs_iret dL_welfare_13 rfl hq
theorem b_L_welfare_14 {G : hk_G} {d cb sb : Nat} {h : hk_H} {Q : hk_O → hk_H → Prop} {o0 : Option Value} {o1 : Option Value} {o2 : Option Value} {o3 : Option Value} (hq : Q (.inl (some (.int 0))) h) : hk_S G m_L_welfare (d + 1) cb sb 14 [o0, o1, o2, o3] [] h Q := by
  refine hs_iconst (v := 0) dL_welfare_14 (by decide) ?_
  exact hs_iret dL_welfare_15 rfl hq
-- HonestHouseLaw.span(LHonestHouse;IIIII[J)I
-- b_L_span_0: covered call
theorem b_L_span_14 {G : hk_G} {d cb sb : Nat} {h : hk_H} {Q : hk_O → hk_H → Prop} {s0 : Nat} {s1 : Int32} {s2 : Int32} {n1 : Nat} {f2 : Nat → Int64} {h_1 : hk_H} {o0 : Option Value} {o1 : Option Value} {o2 : Option Value} {o3 : Option Value} {o4 : Option Value} {o5 : Option Value} {o6 : Option Value} {o7 : Option Value} (ha3 : h.2 s0 = some (.inl (1, n1, .inr (.inl f2)))) (h4_s0 : 4 ≤ s0) (j4 : Nat) (hi5 : (s1 : Int32).toInt = (j4 : Int)) (hj6 : j4 < n1) (e_1 : (hk_set h s0 (.inl (1, n1, .inr (.inl (vp_updL f2 j4 s2.toInt64))))) = h_1) (hq : Q (.inl (some (.int 0))) h_1) : hk_S G m_L_span (d + 1) cb sb 14 [o0, o1, o2, o3, o4, o5, o6, o7] [.int s2, .int s1, .ref s0] h Q := by
  subst e_1
  refine hs_i2l dL_span_14 ?_
  refine hs_last j4 dL_span_15 ha3 h4_s0 hi5 hj6 ?_
  refine hs_goto dL_span_16 (tgt := 27) (by decide) ?_
  refine hs_iconst (v := 0) dL_span_27 (by decide) ?_
  exact hs_iret dL_span_28 rfl hq
theorem b_L_span_21 {G : hk_G} {d cb sb : Nat} {h : hk_H} {Q : hk_O → hk_H → Prop} {o0 : Option Value} {o1 : Option Value} {o2 : Option Value} {o3 : Option Value} {o4 : Option Value} {o5 : Option Value} {o6 : Option Value} {o7 : Option Value} (hq : Q (.inl (some (.int 1))) h) : hk_S G m_L_span (d + 1) cb sb 21 [o0, o1, o2, o3, o4, o5, o6, o7] [] h Q := by
  refine hs_iconst (v := 1) dL_span_21 (by decide) ?_
  exact hs_iret dL_span_22 rfl hq
theorem b_L_span_25 {G : hk_G} {d cb sb : Nat} {h : hk_H} {Q : hk_O → hk_H → Prop} {o0 : Option Value} {o1 : Option Value} {o2 : Option Value} {o3 : Option Value} {o4 : Option Value} {o5 : Option Value} {o6 : Option Value} {o7 : Option Value} (hq : Q (.inl (some (.int 2))) h) : hk_S G m_L_span (d + 1) cb sb 25 [o0, o1, o2, o3, o4, o5, o6, o7] [] h Q := by
  refine hs_iconst (v := 2) dL_span_25 (by decide) ?_
  exact hs_iret dL_span_26 rfl hq
theorem b_L_span_27 {G : hk_G} {d cb sb : Nat} {h : hk_H} {Q : hk_O → hk_H → Prop} {o0 : Option Value} {o1 : Option Value} {o2 : Option Value} {o3 : Option Value} {o4 : Option Value} {o5 : Option Value} {o6 : Option Value} {o7 : Option Value} (hq : Q (.inl (some (.int 0))) h) : hk_S G m_L_span (d + 1) cb sb 27 [o0, o1, o2, o3, o4, o5, o6, o7] [] h Q := by
  refine hs_iconst (v := 0) dL_span_27 (by decide) ?_
  exact hs_iret dL_span_28 rfl hq
-- HonestHouseLaw.price(LHonestHouse;IIII[J)I
-- b_L_price_0: covered call
theorem b_L_price_12 {G : hk_G} {d cb sb : Nat} {h : hk_H} {Q : hk_O → hk_H → Prop} {s0 : Nat} {s1 : Int32} {s2 : Int32} {n1 : Nat} {f2 : Nat → Int64} {h_1 : hk_H} {o0 : Option Value} {o1 : Option Value} {o2 : Option Value} {o3 : Option Value} {o4 : Option Value} {o5 : Option Value} {o6 : Option Value} (ha3 : h.2 s0 = some (.inl (1, n1, .inr (.inl f2)))) (h4_s0 : 4 ≤ s0) (j4 : Nat) (hi5 : (s1 : Int32).toInt = (j4 : Int)) (hj6 : j4 < n1) (e_1 : (hk_set h s0 (.inl (1, n1, .inr (.inl (vp_updL f2 j4 s2.toInt64))))) = h_1) (hq : Q (.inl (some (.int 0))) h_1) : hk_S G m_L_price (d + 1) cb sb 12 [o0, o1, o2, o3, o4, o5, o6] [.int s2, .int s1, .ref s0] h Q := by
  subst e_1
  refine hs_i2l dL_price_12 ?_
  refine hs_last j4 dL_price_13 ha3 h4_s0 hi5 hj6 ?_
  refine hs_goto dL_price_14 (tgt := 25) (by decide) ?_
  refine hs_iconst (v := 0) dL_price_25 (by decide) ?_
  exact hs_iret dL_price_26 rfl hq
theorem b_L_price_19 {G : hk_G} {d cb sb : Nat} {h : hk_H} {Q : hk_O → hk_H → Prop} {o0 : Option Value} {o1 : Option Value} {o2 : Option Value} {o3 : Option Value} {o4 : Option Value} {o5 : Option Value} {o6 : Option Value} (hq : Q (.inl (some (.int 1))) h) : hk_S G m_L_price (d + 1) cb sb 19 [o0, o1, o2, o3, o4, o5, o6] [] h Q := by
  refine hs_iconst (v := 1) dL_price_19 (by decide) ?_
  exact hs_iret dL_price_20 rfl hq
theorem b_L_price_23 {G : hk_G} {d cb sb : Nat} {h : hk_H} {Q : hk_O → hk_H → Prop} {o0 : Option Value} {o1 : Option Value} {o2 : Option Value} {o3 : Option Value} {o4 : Option Value} {o5 : Option Value} {o6 : Option Value} (hq : Q (.inl (some (.int 2))) h) : hk_S G m_L_price (d + 1) cb sb 23 [o0, o1, o2, o3, o4, o5, o6] [] h Q := by
  refine hs_iconst (v := 2) dL_price_23 (by decide) ?_
  exact hs_iret dL_price_24 rfl hq
theorem b_L_price_25 {G : hk_G} {d cb sb : Nat} {h : hk_H} {Q : hk_O → hk_H → Prop} {o0 : Option Value} {o1 : Option Value} {o2 : Option Value} {o3 : Option Value} {o4 : Option Value} {o5 : Option Value} {o6 : Option Value} (hq : Q (.inl (some (.int 0))) h) : hk_S G m_L_price (d + 1) cb sb 25 [o0, o1, o2, o3, o4, o5, o6] [] h Q := by
  refine hs_iconst (v := 0) dL_price_25 (by decide) ?_
  exact hs_iret dL_price_26 rfl hq
-- HonestHouseLaw.element(LHonestHouse;II[J)I
-- b_L_element_0: covered call
theorem b_L_element_8 {G : hk_G} {d cb sb : Nat} {h : hk_H} {Q : hk_O → hk_H → Prop} {s0 : Nat} {s1 : Int32} {s2 : Int64} {n1 : Nat} {f2 : Nat → Int64} {h_1 : hk_H} {o0 : Option Value} {o1 : Option Value} {o2 : Option Value} {o3 : Option Value} {o4 : Option Value} (ha3 : h.2 s0 = some (.inl (1, n1, .inr (.inl f2)))) (h4_s0 : 4 ≤ s0) (j4 : Nat) (hi5 : (s1 : Int32).toInt = (j4 : Int)) (hj6 : j4 < n1) (e_1 : (hk_set h s0 (.inl (1, n1, .inr (.inl (vp_updL f2 j4 s2))))) = h_1) (hq : Q (.inl (some (.int 0))) h_1) : hk_S G m_L_element (d + 1) cb sb 8 [o0, o1, o2, o3, o4] [.long s2, .int s1, .ref s0] h Q := by
  subst e_1
  refine hs_last j4 dL_element_8 ha3 h4_s0 hi5 hj6 ?_
  refine hs_goto dL_element_9 (tgt := 20) (by decide) ?_
  refine hs_iconst (v := 0) dL_element_20 (by decide) ?_
  exact hs_iret dL_element_21 rfl hq
theorem b_L_element_14 {G : hk_G} {d cb sb : Nat} {h : hk_H} {Q : hk_O → hk_H → Prop} {o0 : Option Value} {o1 : Option Value} {o2 : Option Value} {o3 : Option Value} {o4 : Option Value} (hq : Q (.inl (some (.int 1))) h) : hk_S G m_L_element (d + 1) cb sb 14 [o0, o1, o2, o3, o4] [] h Q := by
  refine hs_iconst (v := 1) dL_element_14 (by decide) ?_
  exact hs_iret dL_element_15 rfl hq
theorem b_L_element_18 {G : hk_G} {d cb sb : Nat} {h : hk_H} {Q : hk_O → hk_H → Prop} {o0 : Option Value} {o1 : Option Value} {o2 : Option Value} {o3 : Option Value} {o4 : Option Value} (hq : Q (.inl (some (.int 2))) h) : hk_S G m_L_element (d + 1) cb sb 18 [o0, o1, o2, o3, o4] [] h Q := by
  refine hs_iconst (v := 2) dL_element_18 (by decide) ?_
  exact hs_iret dL_element_19 rfl hq
theorem b_L_element_20 {G : hk_G} {d cb sb : Nat} {h : hk_H} {Q : hk_O → hk_H → Prop} {o0 : Option Value} {o1 : Option Value} {o2 : Option Value} {o3 : Option Value} {o4 : Option Value} (hq : Q (.inl (some (.int 0))) h) : hk_S G m_L_element (d + 1) cb sb 20 [o0, o1, o2, o3, o4] [] h Q := by
  refine hs_iconst (v := 0) dL_element_20 (by decide) ?_
  exact hs_iret dL_element_21 rfl hq
-- HonestHouseLaw.law([I)Z
theorem b_L_law_0 {G : hk_G} {d cb sb : Nat} {h : hk_H} {Q : hk_O → hk_H → Prop} {h_1 : hk_H} {r0 : Nat} {o1 : Option Value} {o2 : Option Value} {o3 : Option Value} {o4 : Option Value} {o5 : Option Value} {o6 : Option Value} {o7 : Option Value} (e_1 : (hk_new h (.inr (9, fs_9))) = h_1) (hc : hk_Ci G m_L_cell d 0 0 [.ref r0, .int 0] h_1 (fun z h' => hk_S G m_L_law (d + 1) cb sb 9 [some (.ref r0), o1, o2, o3, o4, o5, o6, o7] [.int z, .ref h.1, .ref h.1] h' Q)) : hk_S G m_L_law (d + 1) (cb + 1) (sb + 9) 0 [some (.ref r0), o1, o2, o3, o4, o5, o6, o7] [] h Q := by
  subst e_1
  refine hs_new dL_law_0 cl_9 nw_L_8 (nf_9 G) ?_
  refine hs_dup dL_law_3 rfl ?_
  refine hs_aload_n dL_law_4 rfl ?_
  refine hs_iconst (v := 0) dL_law_5 (by decide) ?_
  exact hk_z0 (hs_sta (M' := m_L_cell) (vs := [.ref r0, .int 0]) (c1 := 0) (s1 := 0) dL_law_6 wd_1017 st_L_cell rfl (Nat.le_of_ble_eq_true rfl) hc hq_i (hc_i (fun z h9 k9 => k9)))
theorem b_L_law_9 {G : hk_G} {d cb sb : Nat} {h : hk_H} {Q : hk_O → hk_H → Prop} {s0 : Nat} {s1 : Nat} {s2 : Int32} {r0 : Nat} {o1 : Option Value} {o2 : Option Value} {o3 : Option Value} {o4 : Option Value} {o5 : Option Value} {o6 : Option Value} {o7 : Option Value} (hc : hk_Ci G m_L_cell d 0 0 [.ref r0, .int 1] h (fun z h' => hk_S G m_L_law (d + 1) cb sb 14 [some (.ref r0), o1, o2, o3, o4, o5, o6, o7] [.int z, .int s2, .ref s1, .ref s0] h' Q)) : hk_S G m_L_law (d + 1) cb sb 9 [some (.ref r0), o1, o2, o3, o4, o5, o6, o7] [.int s2, .ref s1, .ref s0] h Q := by
  refine hs_aload_n dL_law_9 rfl ?_
  refine hs_iconst (v := 1) dL_law_10 (by decide) ?_
  exact hk_z0 (hs_sta (M' := m_L_cell) (vs := [.ref r0, .int 1]) (c1 := 0) (s1 := 0) dL_law_11 wd_1017 st_L_cell rfl (Nat.le_of_ble_eq_true rfl) hc hq_i (hc_i (fun z h9 k9 => k9)))
theorem b_L_law_14 {G : hk_G} {d cb sb : Nat} {h : hk_H} {Q : hk_O → hk_H → Prop} {s0 : Nat} {s1 : Nat} {s2 : Int32} {s3 : Int32} {cq : Nat} {sq : Nat} {o0 : Option Value} {o1 : Option Value} {o2 : Option Value} {o3 : Option Value} {o4 : Option Value} {o5 : Option Value} {o6 : Option Value} {o7 : Option Value} (hc : hk_Cv G m_X9_init d cq sq [.ref s1, .int s2, .int s3] h (fun h' => hk_S G m_L_law (d + 1) cb sb 17 [o0, o1, o2, o3, o4, o5, o6, o7] [.ref s0] h' Q)) : hk_S G m_L_law (d + 1) (cq + cb) (sq + sb) 14 [o0, o1, o2, o3, o4, o5, o6, o7] [.int s3, .int s2, .ref s1, .ref s0] h Q := by
  exact hs_ini (M' := m_X9_init) (vs := [.int s2, .int s3]) dL_law_14 wd_23 ic_X9_init rfl (Nat.le_of_ble_eq_true rfl) hc hq_v (hc_v (fun h9 k9 => k9))
theorem b_L_law_17 {G : hk_G} {d cb sb : Nat} {h : hk_H} {Q : hk_O → hk_H → Prop} {s0 : Nat} {h_1 : hk_H} {r0 : Nat} {o1 : Option Value} {o2 : Option Value} {o3 : Option Value} {o4 : Option Value} {o5 : Option Value} {o6 : Option Value} {o7 : Option Value} (e_1 : (hk_new h (.inr (10, fs_10))) = h_1) (hc : hk_Ci G m_L_cell d 0 0 [.ref r0, .int 0] h_1 (fun z h' => hk_S G m_L_law (d + 1) cb sb 27 [some (.ref r0), some (.ref s0), o2, o3, o4, o5, o6, o7] [.int z, .ref h.1, .ref h.1] h' Q)) : hk_S G m_L_law (d + 1) (cb + 1) (sb + 32) 17 [some (.ref r0), o1, o2, o3, o4, o5, o6, o7] [.ref s0] h Q := by
  subst e_1
  refine hs_astK_n dL_law_17 (by decide) (hk_nk1 rfl hk_c1r) rfl ?_
  refine hs_new dL_law_18 cl_10 nw_L_49 (nf_10 G) ?_
  refine hs_dup dL_law_21 rfl ?_
  refine hs_aload_n dL_law_22 rfl ?_
  refine hs_iconst (v := 0) dL_law_23 (by decide) ?_
  exact hk_z0 (hs_sta (M' := m_L_cell) (vs := [.ref r0, .int 0]) (c1 := 0) (s1 := 0) dL_law_24 wd_1017 st_L_cell rfl (Nat.le_of_ble_eq_true rfl) hc hq_i (hc_i (fun z h9 k9 => k9)))
theorem b_L_law_17N0 {G : hk_G} {d cb sb : Nat} {h : hk_H} {Q : hk_O → hk_H → Prop} {h_1 : hk_H} {r0 : Nat} {o1 : Option Value} {o2 : Option Value} {o3 : Option Value} {o4 : Option Value} {o5 : Option Value} {o6 : Option Value} {o7 : Option Value} (e_1 : (hk_new h (.inr (10, fs_10))) = h_1) (hc : hk_Ci G m_L_cell d 0 0 [.ref r0, .int 0] h_1 (fun z h' => hk_S G m_L_law (d + 1) cb sb 27 [some (.ref r0), some (.null), o2, o3, o4, o5, o6, o7] [.int z, .ref h.1, .ref h.1] h' Q)) : hk_S G m_L_law (d + 1) (cb + 1) (sb + 32) 17 [some (.ref r0), o1, o2, o3, o4, o5, o6, o7] [.null] h Q := by
  subst e_1
  refine hs_astKN_n dL_law_17 (by decide) (hk_nk1 rfl hk_c1r) rfl ?_
  refine hs_new dL_law_18 cl_10 nw_L_49 (nf_10 G) ?_
  refine hs_dup dL_law_21 rfl ?_
  refine hs_aload_n dL_law_22 rfl ?_
  refine hs_iconst (v := 0) dL_law_23 (by decide) ?_
  exact hk_z0 (hs_sta (M' := m_L_cell) (vs := [.ref r0, .int 0]) (c1 := 0) (s1 := 0) dL_law_24 wd_1017 st_L_cell rfl (Nat.le_of_ble_eq_true rfl) hc hq_i (hc_i (fun z h9 k9 => k9)))
theorem b_L_law_27 {G : hk_G} {d cb sb : Nat} {h : hk_H} {Q : hk_O → hk_H → Prop} {s0 : Nat} {s1 : Nat} {s2 : Int32} {r0 : Nat} {o1 : Option Value} {o2 : Option Value} {o3 : Option Value} {o4 : Option Value} {o5 : Option Value} {o6 : Option Value} {o7 : Option Value} (hc : hk_Ci G m_L_cell d 0 0 [.ref r0, .int 1] h (fun z h' => hk_S G m_L_law (d + 1) cb sb 32 [some (.ref r0), o1, o2, o3, o4, o5, o6, o7] [.int z, .int s2, .ref s1, .ref s0] h' Q)) : hk_S G m_L_law (d + 1) cb sb 27 [some (.ref r0), o1, o2, o3, o4, o5, o6, o7] [.int s2, .ref s1, .ref s0] h Q := by
  refine hs_aload_n dL_law_27 rfl ?_
  refine hs_iconst (v := 1) dL_law_28 (by decide) ?_
  exact hk_z0 (hs_sta (M' := m_L_cell) (vs := [.ref r0, .int 1]) (c1 := 0) (s1 := 0) dL_law_29 wd_1017 st_L_cell rfl (Nat.le_of_ble_eq_true rfl) hc hq_i (hc_i (fun z h9 k9 => k9)))
theorem b_L_law_32 {G : hk_G} {d cb sb : Nat} {h : hk_H} {Q : hk_O → hk_H → Prop} {s0 : Nat} {s1 : Nat} {s2 : Int32} {s3 : Int32} {cq : Nat} {sq : Nat} {o0 : Option Value} {o1 : Option Value} {o2 : Option Value} {o3 : Option Value} {o4 : Option Value} {o5 : Option Value} {o6 : Option Value} {o7 : Option Value} (hc : hk_Cv G m_X10_init d cq sq [.ref s1, .int s2, .int s3] h (fun h' => hk_S G m_L_law (d + 1) cb sb 35 [o0, o1, o2, o3, o4, o5, o6, o7] [.ref s0] h' Q)) : hk_S G m_L_law (d + 1) (cq + cb) (sq + sb) 32 [o0, o1, o2, o3, o4, o5, o6, o7] [.int s3, .int s2, .ref s1, .ref s0] h Q := by
  exact hs_ini (M' := m_X10_init) (vs := [.int s2, .int s3]) dL_law_32 wd_1107 ic_X10_init rfl (Nat.le_of_ble_eq_true rfl) hc hq_v (hc_v (fun h9 k9 => k9))
theorem b_L_law_35 {G : hk_G} {d cb sb : Nat} {h : hk_H} {Q : hk_O → hk_H → Prop} {s0 : Nat} {h_1 : hk_H} {o0 : Option Value} {o1 : Option Value} {o2 : Option Value} {o3 : Option Value} {o4 : Option Value} {o5 : Option Value} {o6 : Option Value} {o7 : Option Value} (e_1 : (hk_new h (.inl (1, 1, .inr (.inl (fun _ => 0))))) = h_1) (k : hk_S G m_L_law (d + 1) cb sb 43 [o0, o1, some (.ref s0), some (.ref h.1), some (.int 2), o5, o6, o7] [] h_1 Q) (ho1 : hk_c1 o1 := by first | exact hk_c1i | exact hk_c1r | exact hk_c10 | exact hk_c1n) : hk_S G m_L_law (d + 1) (cb + 1) (sb + 1) 35 [o0, o1, o2, o3, o4, o5, o6, o7] [.ref s0] h Q := by
  subst e_1
  refine hs_astK_n dL_law_35 (by decide) (hk_nk1 rfl ho1) rfl ?_
  refine hs_iconst (v := 1) dL_law_36 (by decide) ?_
  refine hs_newl (N := 1) dL_law_37 (by decide) (by decide) ?_
  refine hs_astK_n dL_law_39 (by decide) (hk_nk1 rfl hk_c1r) rfl ?_
  refine hs_iconst (v := 2) dL_law_40 (by decide) ?_
  refine hs_istK dL_law_41 (by decide) (hk_nk1 rfl hk_c1r) rfl ?_
  exact k
theorem b_L_law_35N0 {G : hk_G} {d cb sb : Nat} {h : hk_H} {Q : hk_O → hk_H → Prop} {h_1 : hk_H} {o0 : Option Value} {o1 : Option Value} {o2 : Option Value} {o3 : Option Value} {o4 : Option Value} {o5 : Option Value} {o6 : Option Value} {o7 : Option Value} (e_1 : (hk_new h (.inl (1, 1, .inr (.inl (fun _ => 0))))) = h_1) (k : hk_S G m_L_law (d + 1) cb sb 43 [o0, o1, some (.null), some (.ref h.1), some (.int 2), o5, o6, o7] [] h_1 Q) (ho1 : hk_c1 o1 := by first | exact hk_c1i | exact hk_c1r | exact hk_c10 | exact hk_c1n) : hk_S G m_L_law (d + 1) (cb + 1) (sb + 1) 35 [o0, o1, o2, o3, o4, o5, o6, o7] [.null] h Q := by
  subst e_1
  refine hs_astKN_n dL_law_35 (by decide) (hk_nk1 rfl ho1) rfl ?_
  refine hs_iconst (v := 1) dL_law_36 (by decide) ?_
  refine hs_newl (N := 1) dL_law_37 (by decide) (by decide) ?_
  refine hs_astK_n dL_law_39 (by decide) (hk_nk1 rfl hk_c1n) rfl ?_
  refine hs_iconst (v := 2) dL_law_40 (by decide) ?_
  refine hs_istK dL_law_41 (by decide) (hk_nk1 rfl hk_c1r) rfl ?_
  exact k
theorem b_L_law_43 {G : hk_G} {d cb sb : Nat} {h : hk_H} {Q : hk_O → hk_H → Prop} {x4 : Int32} {r0 : Nat} {n1 : Nat} {t3 : Nat} {x2 : (Nat → Int32) ⊕ (Nat → Int64) ⊕ (Nat → UInt32) ⊕ (Nat → UInt64) ⊕ (Nat → Option Nat)} {o1 : Option Value} {o2 : Option Value} {o3 : Option Value} {o5 : Option Value} {o6 : Option Value} {o7 : Option Value} (ha4 : h.2 r0 = some (.inl (t3, n1, x2))) (ht5 : t3 < 5) (kt : ((Int32.ofNat n1) - 6) < x4 → hk_S G m_L_law (d + 1) cb sb 1980 [some (.ref r0), o1, o2, o3, some (.int x4), o5, o6, o7] [] h Q) (kf : ¬ ((Int32.ofNat n1) - 6) < x4 → hk_S G m_L_law (d + 1) cb sb 53 [some (.ref r0), o1, o2, o3, some (.int x4), o5, o6, o7] [] h Q) : hk_S G m_L_law (d + 1) cb sb 43 [some (.ref r0), o1, o2, o3, some (.int x4), o5, o6, o7] [] h Q := by
  refine hs_iload dL_law_43 rfl ?_
  refine hs_aload_n dL_law_45 rfl ?_
  refine hs_alen dL_law_46 ha4 ht5 ?_
  refine hs_bipush (v := 6) dL_law_47 (by decide) ?_
  refine hs_isub dL_law_49 ?_
  exact hs_icmp_gt dL_law_50 (by decide) kt kf
theorem b_L_law_53 {G : hk_G} {d cb sb : Nat} {h : hk_H} {Q : hk_O → hk_H → Prop} {r0 : Nat} {x4 : Int32} {n1 : Nat} {f2 : Nat → Int32} {o1 : Option Value} {o2 : Option Value} {o3 : Option Value} {o5 : Option Value} {o6 : Option Value} {o7 : Option Value} (ha3 : h.2 r0 = some (.inl (0, n1, .inl f2))) (j4 : Nat) (hi5 : (x4 : Int32).toInt = (j4 : Int)) (hj6 : j4 < n1) (k0 : ((f2 j4) &&& 63) = 0 → hk_S G m_L_law (d + 1) cb sb 236 [some (.ref r0), o1, o2, o3, some (.int x4), o5, o6, o7] [] h Q) (k1 : ((f2 j4) &&& 63) = 1 → hk_S G m_L_law (d + 1) cb sb 249 [some (.ref r0), o1, o2, o3, some (.int x4), o5, o6, o7] [] h Q) (k2 : ((f2 j4) &&& 63) = 2 → hk_S G m_L_law (d + 1) cb sb 298 [some (.ref r0), o1, o2, o3, some (.int x4), o5, o6, o7] [] h Q) (k3 : ((f2 j4) &&& 63) = 3 → hk_S G m_L_law (d + 1) cb sb 323 [some (.ref r0), o1, o2, o3, some (.int x4), o5, o6, o7] [] h Q) (k4 : ((f2 j4) &&& 63) = 4 → hk_S G m_L_law (d + 1) cb sb 372 [some (.ref r0), o1, o2, o3, some (.int x4), o5, o6, o7] [] h Q) (k5 : ((f2 j4) &&& 63) = 5 → hk_S G m_L_law (d + 1) cb sb 433 [some (.ref r0), o1, o2, o3, some (.int x4), o5, o6, o7] [] h Q) (k6 : ((f2 j4) &&& 63) = 6 → hk_S G m_L_law (d + 1) cb sb 494 [some (.ref r0), o1, o2, o3, some (.int x4), o5, o6, o7] [] h Q) (k7 : ((f2 j4) &&& 63) = 7 → hk_S G m_L_law (d + 1) cb sb 543 [some (.ref r0), o1, o2, o3, some (.int x4), o5, o6, o7] [] h Q) (k8 : ((f2 j4) &&& 63) = 8 → hk_S G m_L_law (d + 1) cb sb 580 [some (.ref r0), o1, o2, o3, some (.int x4), o5, o6, o7] [] h Q) (k9 : ((f2 j4) &&& 63) = 9 → hk_S G m_L_law (d + 1) cb sb 660 [some (.ref r0), o1, o2, o3, some (.int x4), o5, o6, o7] [] h Q) (k10 : ((f2 j4) &&& 63) = 10 → hk_S G m_L_law (d + 1) cb sb 709 [some (.ref r0), o1, o2, o3, some (.int x4), o5, o6, o7] [] h Q) (k11 : ((f2 j4) &&& 63) = 11 → hk_S G m_L_law (d + 1) cb sb 801 [some (.ref r0), o1, o2, o3, some (.int x4), o5, o6, o7] [] h Q) (k12 : ((f2 j4) &&& 63) = 12 → hk_S G m_L_law (d + 1) cb sb 838 [some (.ref r0), o1, o2, o3, some (.int x4), o5, o6, o7] [] h Q) (k13 : ((f2 j4) &&& 63) = 13 → hk_S G m_L_law (d + 1) cb sb 863 [some (.ref r0), o1, o2, o3, some (.int x4), o5, o6, o7] [] h Q) (k14 : ((f2 j4) &&& 63) = 14 → hk_S G m_L_law (d + 1) cb sb 928 [some (.ref r0), o1, o2, o3, some (.int x4), o5, o6, o7] [] h Q) (k15 : ((f2 j4) &&& 63) = 15 → hk_S G m_L_law (d + 1) cb sb 953 [some (.ref r0), o1, o2, o3, some (.int x4), o5, o6, o7] [] h Q) (k16 : ((f2 j4) &&& 63) = 16 → hk_S G m_L_law (d + 1) cb sb 978 [some (.ref r0), o1, o2, o3, some (.int x4), o5, o6, o7] [] h Q) (k17 : ((f2 j4) &&& 63) = 17 → hk_S G m_L_law (d + 1) cb sb 1061 [some (.ref r0), o1, o2, o3, some (.int x4), o5, o6, o7] [] h Q) (k18 : ((f2 j4) &&& 63) = 18 → hk_S G m_L_law (d + 1) cb sb 1116 [some (.ref r0), o1, o2, o3, some (.int x4), o5, o6, o7] [] h Q) (k19 : ((f2 j4) &&& 63) = 19 → hk_S G m_L_law (d + 1) cb sb 1220 [some (.ref r0), o1, o2, o3, some (.int x4), o5, o6, o7] [] h Q) (k20 : ((f2 j4) &&& 63) = 20 → hk_S G m_L_law (d + 1) cb sb 1257 [some (.ref r0), o1, o2, o3, some (.int x4), o5, o6, o7] [] h Q) (k21 : ((f2 j4) &&& 63) = 21 → hk_S G m_L_law (d + 1) cb sb 1349 [some (.ref r0), o1, o2, o3, some (.int x4), o5, o6, o7] [] h Q) (k22 : ((f2 j4) &&& 63) = 22 → hk_S G m_L_law (d + 1) cb sb 1374 [some (.ref r0), o1, o2, o3, some (.int x4), o5, o6, o7] [] h Q) (k23 : ((f2 j4) &&& 63) = 23 → hk_S G m_L_law (d + 1) cb sb 1411 [some (.ref r0), o1, o2, o3, some (.int x4), o5, o6, o7] [] h Q) (k24 : ((f2 j4) &&& 63) = 24 → hk_S G m_L_law (d + 1) cb sb 1436 [some (.ref r0), o1, o2, o3, some (.int x4), o5, o6, o7] [] h Q) (k25 : ((f2 j4) &&& 63) = 25 → hk_S G m_L_law (d + 1) cb sb 1473 [some (.ref r0), o1, o2, o3, some (.int x4), o5, o6, o7] [] h Q) (k26 : ((f2 j4) &&& 63) = 26 → hk_S G m_L_law (d + 1) cb sb 1486 [some (.ref r0), o1, o2, o3, some (.int x4), o5, o6, o7] [] h Q) (k27 : ((f2 j4) &&& 63) = 27 → hk_S G m_L_law (d + 1) cb sb 1511 [some (.ref r0), o1, o2, o3, some (.int x4), o5, o6, o7] [] h Q) (k28 : ((f2 j4) &&& 63) = 28 → hk_S G m_L_law (d + 1) cb sb 1536 [some (.ref r0), o1, o2, o3, some (.int x4), o5, o6, o7] [] h Q) (k29 : ((f2 j4) &&& 63) = 29 → hk_S G m_L_law (d + 1) cb sb 1561 [some (.ref r0), o1, o2, o3, some (.int x4), o5, o6, o7] [] h Q) (k30 : ((f2 j4) &&& 63) = 30 → hk_S G m_L_law (d + 1) cb sb 1586 [some (.ref r0), o1, o2, o3, some (.int x4), o5, o6, o7] [] h Q) (k31 : ((f2 j4) &&& 63) = 31 → hk_S G m_L_law (d + 1) cb sb 1611 [some (.ref r0), o1, o2, o3, some (.int x4), o5, o6, o7] [] h Q) (k32 : ((f2 j4) &&& 63) = 32 → hk_S G m_L_law (d + 1) cb sb 1636 [some (.ref r0), o1, o2, o3, some (.int x4), o5, o6, o7] [] h Q) (k33 : ((f2 j4) &&& 63) = 33 → hk_S G m_L_law (d + 1) cb sb 1661 [some (.ref r0), o1, o2, o3, some (.int x4), o5, o6, o7] [] h Q) (k34 : ((f2 j4) &&& 63) = 34 → hk_S G m_L_law (d + 1) cb sb 1686 [some (.ref r0), o1, o2, o3, some (.int x4), o5, o6, o7] [] h Q) (k35 : ((f2 j4) &&& 63) = 35 → hk_S G m_L_law (d + 1) cb sb 1735 [some (.ref r0), o1, o2, o3, some (.int x4), o5, o6, o7] [] h Q) (k36 : ((f2 j4) &&& 63) = 36 → hk_S G m_L_law (d + 1) cb sb 1784 [some (.ref r0), o1, o2, o3, some (.int x4), o5, o6, o7] [] h Q) (k37 : ((f2 j4) &&& 63) = 37 → hk_S G m_L_law (d + 1) cb sb 1851 [some (.ref r0), o1, o2, o3, some (.int x4), o5, o6, o7] [] h Q) (k38 : ((f2 j4) &&& 63) = 38 → hk_S G m_L_law (d + 1) cb sb 1924 [some (.ref r0), o1, o2, o3, some (.int x4), o5, o6, o7] [] h Q) (k39 : ((f2 j4) &&& 63) = 39 → hk_S G m_L_law (d + 1) cb sb 1949 [some (.ref r0), o1, o2, o3, some (.int x4), o5, o6, o7] [] h Q) (kd : ¬ ((f2 j4) &&& 63) = 0 → ¬ ((f2 j4) &&& 63) = 1 → ¬ ((f2 j4) &&& 63) = 2 → ¬ ((f2 j4) &&& 63) = 3 → ¬ ((f2 j4) &&& 63) = 4 → ¬ ((f2 j4) &&& 63) = 5 → ¬ ((f2 j4) &&& 63) = 6 → ¬ ((f2 j4) &&& 63) = 7 → ¬ ((f2 j4) &&& 63) = 8 → ¬ ((f2 j4) &&& 63) = 9 → ¬ ((f2 j4) &&& 63) = 10 → ¬ ((f2 j4) &&& 63) = 11 → ¬ ((f2 j4) &&& 63) = 12 → ¬ ((f2 j4) &&& 63) = 13 → ¬ ((f2 j4) &&& 63) = 14 → ¬ ((f2 j4) &&& 63) = 15 → ¬ ((f2 j4) &&& 63) = 16 → ¬ ((f2 j4) &&& 63) = 17 → ¬ ((f2 j4) &&& 63) = 18 → ¬ ((f2 j4) &&& 63) = 19 → ¬ ((f2 j4) &&& 63) = 20 → ¬ ((f2 j4) &&& 63) = 21 → ¬ ((f2 j4) &&& 63) = 22 → ¬ ((f2 j4) &&& 63) = 23 → ¬ ((f2 j4) &&& 63) = 24 → ¬ ((f2 j4) &&& 63) = 25 → ¬ ((f2 j4) &&& 63) = 26 → ¬ ((f2 j4) &&& 63) = 27 → ¬ ((f2 j4) &&& 63) = 28 → ¬ ((f2 j4) &&& 63) = 29 → ¬ ((f2 j4) &&& 63) = 30 → ¬ ((f2 j4) &&& 63) = 31 → ¬ ((f2 j4) &&& 63) = 32 → ¬ ((f2 j4) &&& 63) = 33 → ¬ ((f2 j4) &&& 63) = 34 → ¬ ((f2 j4) &&& 63) = 35 → ¬ ((f2 j4) &&& 63) = 36 → ¬ ((f2 j4) &&& 63) = 37 → ¬ ((f2 j4) &&& 63) = 38 → ¬ ((f2 j4) &&& 63) = 39 → hk_S G m_L_law (d + 1) cb sb 1974 [some (.ref r0), o1, o2, o3, some (.int x4), o5, o6, o7] [] h Q) : hk_S G m_L_law (d + 1) cb sb 53 [some (.ref r0), o1, o2, o3, some (.int x4), o5, o6, o7] [] h Q := by
  refine hs_aload_n dL_law_53 rfl ?_
  refine hs_iload dL_law_54 rfl ?_
  refine hs_iald j4 dL_law_56 ha3 hi5 hj6 ?_
  refine hs_bipush (v := 63) dL_law_57 (by decide) ?_
  refine hs_iand dL_law_59 ?_
  by_cases c0 : ((f2 j4) &&& 63) = 0
  · exact hs_tableIn dL_law_60 (by rw [c0]; decide) (by rw [c0]; decide) (off := 176) (by rw [c0]; rfl) (by decide) (k0 c0)
  by_cases c1 : ((f2 j4) &&& 63) = 1
  · exact hs_tableIn dL_law_60 (by rw [c1]; decide) (by rw [c1]; decide) (off := 189) (by rw [c1]; rfl) (by decide) (k1 c1)
  by_cases c2 : ((f2 j4) &&& 63) = 2
  · exact hs_tableIn dL_law_60 (by rw [c2]; decide) (by rw [c2]; decide) (off := 238) (by rw [c2]; rfl) (by decide) (k2 c2)
  by_cases c3 : ((f2 j4) &&& 63) = 3
  · exact hs_tableIn dL_law_60 (by rw [c3]; decide) (by rw [c3]; decide) (off := 263) (by rw [c3]; rfl) (by decide) (k3 c3)
  by_cases c4 : ((f2 j4) &&& 63) = 4
  · exact hs_tableIn dL_law_60 (by rw [c4]; decide) (by rw [c4]; decide) (off := 312) (by rw [c4]; rfl) (by decide) (k4 c4)
  by_cases c5 : ((f2 j4) &&& 63) = 5
  · exact hs_tableIn dL_law_60 (by rw [c5]; decide) (by rw [c5]; decide) (off := 373) (by rw [c5]; rfl) (by decide) (k5 c5)
  by_cases c6 : ((f2 j4) &&& 63) = 6
  · exact hs_tableIn dL_law_60 (by rw [c6]; decide) (by rw [c6]; decide) (off := 434) (by rw [c6]; rfl) (by decide) (k6 c6)
  by_cases c7 : ((f2 j4) &&& 63) = 7
  · exact hs_tableIn dL_law_60 (by rw [c7]; decide) (by rw [c7]; decide) (off := 483) (by rw [c7]; rfl) (by decide) (k7 c7)
  by_cases c8 : ((f2 j4) &&& 63) = 8
  · exact hs_tableIn dL_law_60 (by rw [c8]; decide) (by rw [c8]; decide) (off := 520) (by rw [c8]; rfl) (by decide) (k8 c8)
  by_cases c9 : ((f2 j4) &&& 63) = 9
  · exact hs_tableIn dL_law_60 (by rw [c9]; decide) (by rw [c9]; decide) (off := 600) (by rw [c9]; rfl) (by decide) (k9 c9)
  by_cases c10 : ((f2 j4) &&& 63) = 10
  · exact hs_tableIn dL_law_60 (by rw [c10]; decide) (by rw [c10]; decide) (off := 649) (by rw [c10]; rfl) (by decide) (k10 c10)
  by_cases c11 : ((f2 j4) &&& 63) = 11
  · exact hs_tableIn dL_law_60 (by rw [c11]; decide) (by rw [c11]; decide) (off := 741) (by rw [c11]; rfl) (by decide) (k11 c11)
  by_cases c12 : ((f2 j4) &&& 63) = 12
  · exact hs_tableIn dL_law_60 (by rw [c12]; decide) (by rw [c12]; decide) (off := 778) (by rw [c12]; rfl) (by decide) (k12 c12)
  by_cases c13 : ((f2 j4) &&& 63) = 13
  · exact hs_tableIn dL_law_60 (by rw [c13]; decide) (by rw [c13]; decide) (off := 803) (by rw [c13]; rfl) (by decide) (k13 c13)
  by_cases c14 : ((f2 j4) &&& 63) = 14
  · exact hs_tableIn dL_law_60 (by rw [c14]; decide) (by rw [c14]; decide) (off := 868) (by rw [c14]; rfl) (by decide) (k14 c14)
  by_cases c15 : ((f2 j4) &&& 63) = 15
  · exact hs_tableIn dL_law_60 (by rw [c15]; decide) (by rw [c15]; decide) (off := 893) (by rw [c15]; rfl) (by decide) (k15 c15)
  by_cases c16 : ((f2 j4) &&& 63) = 16
  · exact hs_tableIn dL_law_60 (by rw [c16]; decide) (by rw [c16]; decide) (off := 918) (by rw [c16]; rfl) (by decide) (k16 c16)
  by_cases c17 : ((f2 j4) &&& 63) = 17
  · exact hs_tableIn dL_law_60 (by rw [c17]; decide) (by rw [c17]; decide) (off := 1001) (by rw [c17]; rfl) (by decide) (k17 c17)
  by_cases c18 : ((f2 j4) &&& 63) = 18
  · exact hs_tableIn dL_law_60 (by rw [c18]; decide) (by rw [c18]; decide) (off := 1056) (by rw [c18]; rfl) (by decide) (k18 c18)
  by_cases c19 : ((f2 j4) &&& 63) = 19
  · exact hs_tableIn dL_law_60 (by rw [c19]; decide) (by rw [c19]; decide) (off := 1160) (by rw [c19]; rfl) (by decide) (k19 c19)
  by_cases c20 : ((f2 j4) &&& 63) = 20
  · exact hs_tableIn dL_law_60 (by rw [c20]; decide) (by rw [c20]; decide) (off := 1197) (by rw [c20]; rfl) (by decide) (k20 c20)
  by_cases c21 : ((f2 j4) &&& 63) = 21
  · exact hs_tableIn dL_law_60 (by rw [c21]; decide) (by rw [c21]; decide) (off := 1289) (by rw [c21]; rfl) (by decide) (k21 c21)
  by_cases c22 : ((f2 j4) &&& 63) = 22
  · exact hs_tableIn dL_law_60 (by rw [c22]; decide) (by rw [c22]; decide) (off := 1314) (by rw [c22]; rfl) (by decide) (k22 c22)
  by_cases c23 : ((f2 j4) &&& 63) = 23
  · exact hs_tableIn dL_law_60 (by rw [c23]; decide) (by rw [c23]; decide) (off := 1351) (by rw [c23]; rfl) (by decide) (k23 c23)
  by_cases c24 : ((f2 j4) &&& 63) = 24
  · exact hs_tableIn dL_law_60 (by rw [c24]; decide) (by rw [c24]; decide) (off := 1376) (by rw [c24]; rfl) (by decide) (k24 c24)
  by_cases c25 : ((f2 j4) &&& 63) = 25
  · exact hs_tableIn dL_law_60 (by rw [c25]; decide) (by rw [c25]; decide) (off := 1413) (by rw [c25]; rfl) (by decide) (k25 c25)
  by_cases c26 : ((f2 j4) &&& 63) = 26
  · exact hs_tableIn dL_law_60 (by rw [c26]; decide) (by rw [c26]; decide) (off := 1426) (by rw [c26]; rfl) (by decide) (k26 c26)
  by_cases c27 : ((f2 j4) &&& 63) = 27
  · exact hs_tableIn dL_law_60 (by rw [c27]; decide) (by rw [c27]; decide) (off := 1451) (by rw [c27]; rfl) (by decide) (k27 c27)
  by_cases c28 : ((f2 j4) &&& 63) = 28
  · exact hs_tableIn dL_law_60 (by rw [c28]; decide) (by rw [c28]; decide) (off := 1476) (by rw [c28]; rfl) (by decide) (k28 c28)
  by_cases c29 : ((f2 j4) &&& 63) = 29
  · exact hs_tableIn dL_law_60 (by rw [c29]; decide) (by rw [c29]; decide) (off := 1501) (by rw [c29]; rfl) (by decide) (k29 c29)
  by_cases c30 : ((f2 j4) &&& 63) = 30
  · exact hs_tableIn dL_law_60 (by rw [c30]; decide) (by rw [c30]; decide) (off := 1526) (by rw [c30]; rfl) (by decide) (k30 c30)
  by_cases c31 : ((f2 j4) &&& 63) = 31
  · exact hs_tableIn dL_law_60 (by rw [c31]; decide) (by rw [c31]; decide) (off := 1551) (by rw [c31]; rfl) (by decide) (k31 c31)
  by_cases c32 : ((f2 j4) &&& 63) = 32
  · exact hs_tableIn dL_law_60 (by rw [c32]; decide) (by rw [c32]; decide) (off := 1576) (by rw [c32]; rfl) (by decide) (k32 c32)
  by_cases c33 : ((f2 j4) &&& 63) = 33
  · exact hs_tableIn dL_law_60 (by rw [c33]; decide) (by rw [c33]; decide) (off := 1601) (by rw [c33]; rfl) (by decide) (k33 c33)
  by_cases c34 : ((f2 j4) &&& 63) = 34
  · exact hs_tableIn dL_law_60 (by rw [c34]; decide) (by rw [c34]; decide) (off := 1626) (by rw [c34]; rfl) (by decide) (k34 c34)
  by_cases c35 : ((f2 j4) &&& 63) = 35
  · exact hs_tableIn dL_law_60 (by rw [c35]; decide) (by rw [c35]; decide) (off := 1675) (by rw [c35]; rfl) (by decide) (k35 c35)
  by_cases c36 : ((f2 j4) &&& 63) = 36
  · exact hs_tableIn dL_law_60 (by rw [c36]; decide) (by rw [c36]; decide) (off := 1724) (by rw [c36]; rfl) (by decide) (k36 c36)
  by_cases c37 : ((f2 j4) &&& 63) = 37
  · exact hs_tableIn dL_law_60 (by rw [c37]; decide) (by rw [c37]; decide) (off := 1791) (by rw [c37]; rfl) (by decide) (k37 c37)
  by_cases c38 : ((f2 j4) &&& 63) = 38
  · exact hs_tableIn dL_law_60 (by rw [c38]; decide) (by rw [c38]; decide) (off := 1864) (by rw [c38]; rfl) (by decide) (k38 c38)
  by_cases c39 : ((f2 j4) &&& 63) = 39
  · exact hs_tableIn dL_law_60 (by rw [c39]; decide) (by rw [c39]; decide) (off := 1889) (by rw [c39]; rfl) (by decide) (k39 c39)
  have n0 := lv_neT (a := 0) c0 rfl
  have n1 := lv_neT (a := 1) c1 rfl
  have n2 := lv_neT (a := 2) c2 rfl
  have n3 := lv_neT (a := 3) c3 rfl
  have n4 := lv_neT (a := 4) c4 rfl
  have n5 := lv_neT (a := 5) c5 rfl
  have n6 := lv_neT (a := 6) c6 rfl
  have n7 := lv_neT (a := 7) c7 rfl
  have n8 := lv_neT (a := 8) c8 rfl
  have n9 := lv_neT (a := 9) c9 rfl
  have n10 := lv_neT (a := 10) c10 rfl
  have n11 := lv_neT (a := 11) c11 rfl
  have n12 := lv_neT (a := 12) c12 rfl
  have n13 := lv_neT (a := 13) c13 rfl
  have n14 := lv_neT (a := 14) c14 rfl
  have n15 := lv_neT (a := 15) c15 rfl
  have n16 := lv_neT (a := 16) c16 rfl
  have n17 := lv_neT (a := 17) c17 rfl
  have n18 := lv_neT (a := 18) c18 rfl
  have n19 := lv_neT (a := 19) c19 rfl
  have n20 := lv_neT (a := 20) c20 rfl
  have n21 := lv_neT (a := 21) c21 rfl
  have n22 := lv_neT (a := 22) c22 rfl
  have n23 := lv_neT (a := 23) c23 rfl
  have n24 := lv_neT (a := 24) c24 rfl
  have n25 := lv_neT (a := 25) c25 rfl
  have n26 := lv_neT (a := 26) c26 rfl
  have n27 := lv_neT (a := 27) c27 rfl
  have n28 := lv_neT (a := 28) c28 rfl
  have n29 := lv_neT (a := 29) c29 rfl
  have n30 := lv_neT (a := 30) c30 rfl
  have n31 := lv_neT (a := 31) c31 rfl
  have n32 := lv_neT (a := 32) c32 rfl
  have n33 := lv_neT (a := 33) c33 rfl
  have n34 := lv_neT (a := 34) c34 rfl
  have n35 := lv_neT (a := 35) c35 rfl
  have n36 := lv_neT (a := 36) c36 rfl
  have n37 := lv_neT (a := 37) c37 rfl
  have n38 := lv_neT (a := 38) c38 rfl
  have n39 := lv_neT (a := 39) c39 rfl
  exact hs_tableOut dL_law_60 (by omega) (by decide) (kd c0 c1 c2 c3 c4 c5 c6 c7 c8 c9 c10 c11 c12 c13 c14 c15 c16 c17 c18 c19 c20 c21 c22 c23 c24 c25 c26 c27 c28 c29 c30 c31 c32 c33 c34 c35 c36 c37 c38 c39)
theorem b_L_law_236 {G : hk_G} {d cb sb : Nat} {h : hk_H} {Q : hk_O → hk_H → Prop} {r1 : Nat} {fs_ : List Value} {o0 : Option Value} {o2 : Option Value} {o3 : Option Value} {o4 : Option Value} {o5 : Option Value} {o6 : Option Value} {o7 : Option Value} (hrec : h.2 r1 = some (.inr (9, fs_))) (hc : hk_Ci G m_X9_wish d 0 0 [.ref r1] h (fun z h' => hk_S G m_L_law (d + 1) cb sb 240 [o0, some (.ref r1), o2, o3, o4, o5, o6, o7] [.int z] h' Q)) : hk_S G m_L_law (d + 1) cb sb 236 [o0, some (.ref r1), o2, o3, o4, o5, o6, o7] [] h Q := by
  refine hs_aload_n dL_law_236 rfl ?_
  exact hk_z0 (hs_vir (M' := m_X9_wish) (vs := []) (c1 := 0) (s1 := 0) dL_law_237 wd_224 vi_X9_wish hrec rfl (Nat.le_of_ble_eq_true rfl) hc hq_i (hc_i (fun z h9 k9 => k9)))
theorem b_L_law_240 {G : hk_G} {d cb sb : Nat} {h : hk_H} {Q : hk_O → hk_H → Prop} {s0 : Int32} {r2 : Nat} {fs_ : List Value} {o0 : Option Value} {o1 : Option Value} {o3 : Option Value} {o4 : Option Value} {o5 : Option Value} {o6 : Option Value} {o7 : Option Value} (hrec : h.2 r2 = some (.inr (10, fs_))) (hc : hk_Ci G m_X10_wish d 0 0 [.ref r2] h (fun z h' => hk_S G m_L_law (d + 1) cb sb 244 [o0, o1, some (.ref r2), o3, o4, o5, o6, o7] [.int z, .int s0] h' Q)) : hk_S G m_L_law (d + 1) cb sb 240 [o0, o1, some (.ref r2), o3, o4, o5, o6, o7] [.int s0] h Q := by
  refine hs_aload_n dL_law_240 rfl ?_
  exact hk_z0 (hs_vir (M' := m_X10_wish) (vs := []) (c1 := 0) (s1 := 0) dL_law_241 wd_1218 vi_X10_wish hrec rfl (Nat.le_of_ble_eq_true rfl) hc hq_i (hc_i (fun z h9 k9 => k9)))
theorem b_L_law_244 {G : hk_G} {d cb sb : Nat} {h : hk_H} {Q : hk_O → hk_H → Prop} {s0 : Int32} {s1 : Int32} {o0 : Option Value} {o1 : Option Value} {o2 : Option Value} {o3 : Option Value} {o4 : Option Value} {o5 : Option Value} {o6 : Option Value} {o7 : Option Value} (kt : s0 = s1 → hk_S G m_L_law (d + 1) cb sb 1974 [o0, o1, o2, o3, o4, o5, o6, o7] [] h Q) (kf : ¬ s0 = s1 → hk_S G m_L_law (d + 1) cb sb 247 [o0, o1, o2, o3, o4, o5, o6, o7] [] h Q) : hk_S G m_L_law (d + 1) cb sb 244 [o0, o1, o2, o3, o4, o5, o6, o7] [.int s1, .int s0] h Q := by
  exact hs_icmp_eq dL_law_244 (by decide) kt kf
theorem b_L_law_247 {G : hk_G} {d cb sb : Nat} {h : hk_H} {Q : hk_O → hk_H → Prop} {o0 : Option Value} {o1 : Option Value} {o2 : Option Value} {o3 : Option Value} {o4 : Option Value} {o5 : Option Value} {o6 : Option Value} {o7 : Option Value} (hq : Q (.inl (some (.int 0))) h) : hk_S G m_L_law (d + 1) cb sb 247 [o0, o1, o2, o3, o4, o5, o6, o7] [] h Q := by
  refine hs_iconst (v := 0) dL_law_247 (by decide) ?_
  exact hs_zret dL_law_248 rfl (by decide) hq
theorem b_L_law_249 {G : hk_G} {d cb sb : Nat} {h : hk_H} {Q : hk_O → hk_H → Prop} {r1 : Nat} {r0 : Nat} {x4 : Int32} {n1 : Nat} {f2 : Nat → Int32} {fs_ : List Value} {o2 : Option Value} {o3 : Option Value} {o5 : Option Value} {o6 : Option Value} {o7 : Option Value} (ha3 : h.2 r0 = some (.inl (0, n1, .inl f2))) (j4 : Nat) (hi5 : (x4 + 1 : Int32).toInt = (j4 : Int)) (hj6 : j4 < n1) (j7 : Nat) (hi8 : (x4 + 2 : Int32).toInt = (j7 : Int)) (hj9 : j7 < n1) (j10 : Nat) (hi11 : (x4 + 3 : Int32).toInt = (j10 : Int)) (hj12 : j10 < n1) (hrec : h.2 r1 = some (.inr (9, fs_))) (hc : hk_Ci G m_X9_worth d 0 0 [.ref r1, .int (f2 j4), .int (f2 j7), .int (f2 j10)] h (fun z h' => hk_S G m_L_law (d + 1) cb sb 271 [some (.ref r0), some (.ref r1), o2, o3, some (.int x4), o5, o6, o7] [.int z] h' Q)) : hk_S G m_L_law (d + 1) cb sb 249 [some (.ref r0), some (.ref r1), o2, o3, some (.int x4), o5, o6, o7] [] h Q := by
  refine hs_aload_n dL_law_249 rfl ?_
  refine hs_aload_n dL_law_250 rfl ?_
  refine hs_iload dL_law_251 rfl ?_
  refine hs_iconst (v := 1) dL_law_253 (by decide) ?_
  refine hs_iadd dL_law_254 ?_
  refine hs_iald j4 dL_law_255 ha3 hi5 hj6 ?_
  refine hs_aload_n dL_law_256 rfl ?_
  refine hs_iload dL_law_257 rfl ?_
  refine hs_iconst (v := 2) dL_law_259 (by decide) ?_
  refine hs_iadd dL_law_260 ?_
  refine hs_iald j7 dL_law_261 ha3 hi8 hj9 ?_
  refine hs_aload_n dL_law_262 rfl ?_
  refine hs_iload dL_law_263 rfl ?_
  refine hs_iconst (v := 3) dL_law_265 (by decide) ?_
  refine hs_iadd dL_law_266 ?_
  refine hs_iald j10 dL_law_267 ha3 hi11 hj12 ?_
  exact hk_z0 (hs_vir (M' := m_X9_worth) (vs := [.int (f2 j4), .int (f2 j7), .int (f2 j10)]) (c1 := 0) (s1 := 0) dL_law_268 wd_232 vi_X9_worth hrec rfl (Nat.le_of_ble_eq_true rfl) hc hq_i (hc_i (fun z h9 k9 => k9)))
theorem b_L_law_271 {G : hk_G} {d cb sb : Nat} {h : hk_H} {Q : hk_O → hk_H → Prop} {s0 : Int32} {r2 : Nat} {r0 : Nat} {x4 : Int32} {n1 : Nat} {f2 : Nat → Int32} {fs_ : List Value} {o1 : Option Value} {o3 : Option Value} {o5 : Option Value} {o6 : Option Value} {o7 : Option Value} (ha3 : h.2 r0 = some (.inl (0, n1, .inl f2))) (j4 : Nat) (hi5 : (x4 + 1 : Int32).toInt = (j4 : Int)) (hj6 : j4 < n1) (j7 : Nat) (hi8 : (x4 + 2 : Int32).toInt = (j7 : Int)) (hj9 : j7 < n1) (j10 : Nat) (hi11 : (x4 + 3 : Int32).toInt = (j10 : Int)) (hj12 : j10 < n1) (hrec : h.2 r2 = some (.inr (10, fs_))) (hc : hk_Ci G m_X10_worth d 0 0 [.ref r2, .int (f2 j4), .int (f2 j7), .int (f2 j10)] h (fun z h' => hk_S G m_L_law (d + 1) cb sb 293 [some (.ref r0), o1, some (.ref r2), o3, some (.int x4), o5, o6, o7] [.int z, .int s0] h' Q)) : hk_S G m_L_law (d + 1) cb sb 271 [some (.ref r0), o1, some (.ref r2), o3, some (.int x4), o5, o6, o7] [.int s0] h Q := by
  refine hs_aload_n dL_law_271 rfl ?_
  refine hs_aload_n dL_law_272 rfl ?_
  refine hs_iload dL_law_273 rfl ?_
  refine hs_iconst (v := 1) dL_law_275 (by decide) ?_
  refine hs_iadd dL_law_276 ?_
  refine hs_iald j4 dL_law_277 ha3 hi5 hj6 ?_
  refine hs_aload_n dL_law_278 rfl ?_
  refine hs_iload dL_law_279 rfl ?_
  refine hs_iconst (v := 2) dL_law_281 (by decide) ?_
  refine hs_iadd dL_law_282 ?_
  refine hs_iald j7 dL_law_283 ha3 hi8 hj9 ?_
  refine hs_aload_n dL_law_284 rfl ?_
  refine hs_iload dL_law_285 rfl ?_
  refine hs_iconst (v := 3) dL_law_287 (by decide) ?_
  refine hs_iadd dL_law_288 ?_
  refine hs_iald j10 dL_law_289 ha3 hi11 hj12 ?_
  exact hk_z0 (hs_vir (M' := m_X10_worth) (vs := [.int (f2 j4), .int (f2 j7), .int (f2 j10)]) (c1 := 0) (s1 := 0) dL_law_290 wd_1222 vi_X10_worth hrec rfl (Nat.le_of_ble_eq_true rfl) hc hq_i (hc_i (fun z h9 k9 => k9)))
theorem b_L_law_293 {G : hk_G} {d cb sb : Nat} {h : hk_H} {Q : hk_O → hk_H → Prop} {s0 : Int32} {s1 : Int32} {o0 : Option Value} {o1 : Option Value} {o2 : Option Value} {o3 : Option Value} {o4 : Option Value} {o5 : Option Value} {o6 : Option Value} {o7 : Option Value} (kt : s0 = s1 → hk_S G m_L_law (d + 1) cb sb 1974 [o0, o1, o2, o3, o4, o5, o6, o7] [] h Q) (kf : ¬ s0 = s1 → hk_S G m_L_law (d + 1) cb sb 296 [o0, o1, o2, o3, o4, o5, o6, o7] [] h Q) : hk_S G m_L_law (d + 1) cb sb 293 [o0, o1, o2, o3, o4, o5, o6, o7] [.int s1, .int s0] h Q := by
  exact hs_icmp_eq dL_law_293 (by decide) kt kf
theorem b_L_law_296 {G : hk_G} {d cb sb : Nat} {h : hk_H} {Q : hk_O → hk_H → Prop} {o0 : Option Value} {o1 : Option Value} {o2 : Option Value} {o3 : Option Value} {o4 : Option Value} {o5 : Option Value} {o6 : Option Value} {o7 : Option Value} (hq : Q (.inl (some (.int 0))) h) : hk_S G m_L_law (d + 1) cb sb 296 [o0, o1, o2, o3, o4, o5, o6, o7] [] h Q := by
  refine hs_iconst (v := 0) dL_law_296 (by decide) ?_
  exact hs_zret dL_law_297 rfl (by decide) hq
theorem b_L_law_298 {G : hk_G} {d cb sb : Nat} {h : hk_H} {Q : hk_O → hk_H → Prop} {r1 : Nat} {r0 : Nat} {x4 : Int32} {n1 : Nat} {f2 : Nat → Int32} {cq : Nat} {sq : Nat} {fs_ : List Value} {o2 : Option Value} {o3 : Option Value} {o5 : Option Value} {o6 : Option Value} {o7 : Option Value} (ha3 : h.2 r0 = some (.inl (0, n1, .inl f2))) (j4 : Nat) (hi5 : (x4 + 1 : Int32).toInt = (j4 : Int)) (hj6 : j4 < n1) (hrec : h.2 r1 = some (.inr (9, fs_))) (hc : hk_Ci G m_X9_rule d cq sq [.ref r1, .int (f2 j4)] h (fun z h' => hk_S G m_L_law (d + 1) cb sb 308 [some (.ref r0), some (.ref r1), o2, o3, some (.int x4), o5, o6, o7] [.int z] h' Q)) : hk_S G m_L_law (d + 1) (cq + cb) (sq + sb) 298 [some (.ref r0), some (.ref r1), o2, o3, some (.int x4), o5, o6, o7] [] h Q := by
  refine hs_aload_n dL_law_298 rfl ?_
  refine hs_aload_n dL_law_299 rfl ?_
  refine hs_iload dL_law_300 rfl ?_
  refine hs_iconst (v := 1) dL_law_302 (by decide) ?_
  refine hs_iadd dL_law_303 ?_
  refine hs_iald j4 dL_law_304 ha3 hi5 hj6 ?_
  exact hs_vir (M' := m_X9_rule) (vs := [.int (f2 j4)]) dL_law_305 wd_255 vi_X9_rule hrec rfl (Nat.le_of_ble_eq_true rfl) hc hq_i (hc_i (fun z h9 k9 => k9))
theorem b_L_law_308 {G : hk_G} {d cb sb : Nat} {h : hk_H} {Q : hk_O → hk_H → Prop} {s0 : Int32} {r2 : Nat} {r0 : Nat} {x4 : Int32} {n1 : Nat} {f2 : Nat → Int32} {fs_ : List Value} {o1 : Option Value} {o3 : Option Value} {o5 : Option Value} {o6 : Option Value} {o7 : Option Value} (ha3 : h.2 r0 = some (.inl (0, n1, .inl f2))) (j4 : Nat) (hi5 : (x4 + 1 : Int32).toInt = (j4 : Int)) (hj6 : j4 < n1) (hrec : h.2 r2 = some (.inr (10, fs_))) (hc : hk_Ci G m_X10_rule d 0 0 [.ref r2, .int (f2 j4)] h (fun z h' => hk_S G m_L_law (d + 1) cb sb 318 [some (.ref r0), o1, some (.ref r2), o3, some (.int x4), o5, o6, o7] [.int z, .int s0] h' Q)) : hk_S G m_L_law (d + 1) cb sb 308 [some (.ref r0), o1, some (.ref r2), o3, some (.int x4), o5, o6, o7] [.int s0] h Q := by
  refine hs_aload_n dL_law_308 rfl ?_
  refine hs_aload_n dL_law_309 rfl ?_
  refine hs_iload dL_law_310 rfl ?_
  refine hs_iconst (v := 1) dL_law_312 (by decide) ?_
  refine hs_iadd dL_law_313 ?_
  refine hs_iald j4 dL_law_314 ha3 hi5 hj6 ?_
  exact hk_z0 (hs_vir (M' := m_X10_rule) (vs := [.int (f2 j4)]) (c1 := 0) (s1 := 0) dL_law_315 wd_1229 vi_X10_rule hrec rfl (Nat.le_of_ble_eq_true rfl) hc hq_i (hc_i (fun z h9 k9 => k9)))
theorem b_L_law_318 {G : hk_G} {d cb sb : Nat} {h : hk_H} {Q : hk_O → hk_H → Prop} {s0 : Int32} {s1 : Int32} {o0 : Option Value} {o1 : Option Value} {o2 : Option Value} {o3 : Option Value} {o4 : Option Value} {o5 : Option Value} {o6 : Option Value} {o7 : Option Value} (kt : s0 = s1 → hk_S G m_L_law (d + 1) cb sb 1974 [o0, o1, o2, o3, o4, o5, o6, o7] [] h Q) (kf : ¬ s0 = s1 → hk_S G m_L_law (d + 1) cb sb 321 [o0, o1, o2, o3, o4, o5, o6, o7] [] h Q) : hk_S G m_L_law (d + 1) cb sb 318 [o0, o1, o2, o3, o4, o5, o6, o7] [.int s1, .int s0] h Q := by
  exact hs_icmp_eq dL_law_318 (by decide) kt kf
theorem b_L_law_321 {G : hk_G} {d cb sb : Nat} {h : hk_H} {Q : hk_O → hk_H → Prop} {o0 : Option Value} {o1 : Option Value} {o2 : Option Value} {o3 : Option Value} {o4 : Option Value} {o5 : Option Value} {o6 : Option Value} {o7 : Option Value} (hq : Q (.inl (some (.int 0))) h) : hk_S G m_L_law (d + 1) cb sb 321 [o0, o1, o2, o3, o4, o5, o6, o7] [] h Q := by
  refine hs_iconst (v := 0) dL_law_321 (by decide) ?_
  exact hs_zret dL_law_322 rfl (by decide) hq
theorem b_L_law_323 {G : hk_G} {d cb sb : Nat} {h : hk_H} {Q : hk_O → hk_H → Prop} {r1 : Nat} {r0 : Nat} {x4 : Int32} {n1 : Nat} {f2 : Nat → Int32} {fs_ : List Value} {o2 : Option Value} {o3 : Option Value} {o5 : Option Value} {o6 : Option Value} {o7 : Option Value} (ha3 : h.2 r0 = some (.inl (0, n1, .inl f2))) (j4 : Nat) (hi5 : (x4 + 1 : Int32).toInt = (j4 : Int)) (hj6 : j4 < n1) (j7 : Nat) (hi8 : (x4 + 2 : Int32).toInt = (j7 : Int)) (hj9 : j7 < n1) (j10 : Nat) (hi11 : (x4 + 3 : Int32).toInt = (j10 : Int)) (hj12 : j10 < n1) (hrec : h.2 r1 = some (.inr (9, fs_))) (hc : hk_Ci G m_X9_put d 0 0 [.ref r1, .int (f2 j4), .int (f2 j7), .int (f2 j10)] h (fun z h' => hk_S G m_L_law (d + 1) cb sb 345 [some (.ref r0), some (.ref r1), o2, o3, some (.int x4), o5, o6, o7] [.int z] h' Q)) : hk_S G m_L_law (d + 1) cb sb 323 [some (.ref r0), some (.ref r1), o2, o3, some (.int x4), o5, o6, o7] [] h Q := by
  refine hs_aload_n dL_law_323 rfl ?_
  refine hs_aload_n dL_law_324 rfl ?_
  refine hs_iload dL_law_325 rfl ?_
  refine hs_iconst (v := 1) dL_law_327 (by decide) ?_
  refine hs_iadd dL_law_328 ?_
  refine hs_iald j4 dL_law_329 ha3 hi5 hj6 ?_
  refine hs_aload_n dL_law_330 rfl ?_
  refine hs_iload dL_law_331 rfl ?_
  refine hs_iconst (v := 2) dL_law_333 (by decide) ?_
  refine hs_iadd dL_law_334 ?_
  refine hs_iald j7 dL_law_335 ha3 hi8 hj9 ?_
  refine hs_aload_n dL_law_336 rfl ?_
  refine hs_iload dL_law_337 rfl ?_
  refine hs_iconst (v := 3) dL_law_339 (by decide) ?_
  refine hs_iadd dL_law_340 ?_
  refine hs_iald j10 dL_law_341 ha3 hi11 hj12 ?_
  exact hk_z0 (hs_vir (M' := m_X9_put) (vs := [.int (f2 j4), .int (f2 j7), .int (f2 j10)]) (c1 := 0) (s1 := 0) dL_law_342 wd_347 vi_X9_put hrec rfl (Nat.le_of_ble_eq_true rfl) hc hq_i (hc_i (fun z h9 k9 => k9)))
theorem b_L_law_345 {G : hk_G} {d cb sb : Nat} {h : hk_H} {Q : hk_O → hk_H → Prop} {s0 : Int32} {r2 : Nat} {r0 : Nat} {x4 : Int32} {n1 : Nat} {f2 : Nat → Int32} {fs_ : List Value} {o1 : Option Value} {o3 : Option Value} {o5 : Option Value} {o6 : Option Value} {o7 : Option Value} (ha3 : h.2 r0 = some (.inl (0, n1, .inl f2))) (j4 : Nat) (hi5 : (x4 + 1 : Int32).toInt = (j4 : Int)) (hj6 : j4 < n1) (j7 : Nat) (hi8 : (x4 + 2 : Int32).toInt = (j7 : Int)) (hj9 : j7 < n1) (j10 : Nat) (hi11 : (x4 + 3 : Int32).toInt = (j10 : Int)) (hj12 : j10 < n1) (hrec : h.2 r2 = some (.inr (10, fs_))) (hc : hk_Ci G m_X10_put d 0 0 [.ref r2, .int (f2 j4), .int (f2 j7), .int (f2 j10)] h (fun z h' => hk_S G m_L_law (d + 1) cb sb 367 [some (.ref r0), o1, some (.ref r2), o3, some (.int x4), o5, o6, o7] [.int z, .int s0] h' Q)) : hk_S G m_L_law (d + 1) cb sb 345 [some (.ref r0), o1, some (.ref r2), o3, some (.int x4), o5, o6, o7] [.int s0] h Q := by
  refine hs_aload_n dL_law_345 rfl ?_
  refine hs_aload_n dL_law_346 rfl ?_
  refine hs_iload dL_law_347 rfl ?_
  refine hs_iconst (v := 1) dL_law_349 (by decide) ?_
  refine hs_iadd dL_law_350 ?_
  refine hs_iald j4 dL_law_351 ha3 hi5 hj6 ?_
  refine hs_aload_n dL_law_352 rfl ?_
  refine hs_iload dL_law_353 rfl ?_
  refine hs_iconst (v := 2) dL_law_355 (by decide) ?_
  refine hs_iadd dL_law_356 ?_
  refine hs_iald j7 dL_law_357 ha3 hi8 hj9 ?_
  refine hs_aload_n dL_law_358 rfl ?_
  refine hs_iload dL_law_359 rfl ?_
  refine hs_iconst (v := 3) dL_law_361 (by decide) ?_
  refine hs_iadd dL_law_362 ?_
  refine hs_iald j10 dL_law_363 ha3 hi11 hj12 ?_
  exact hk_z0 (hs_vir (M' := m_X10_put) (vs := [.int (f2 j4), .int (f2 j7), .int (f2 j10)]) (c1 := 0) (s1 := 0) dL_law_364 wd_1233 vi_X10_put hrec rfl (Nat.le_of_ble_eq_true rfl) hc hq_i (hc_i (fun z h9 k9 => k9)))
theorem b_L_law_367 {G : hk_G} {d cb sb : Nat} {h : hk_H} {Q : hk_O → hk_H → Prop} {s0 : Int32} {s1 : Int32} {o0 : Option Value} {o1 : Option Value} {o2 : Option Value} {o3 : Option Value} {o4 : Option Value} {o5 : Option Value} {o6 : Option Value} {o7 : Option Value} (kt : s0 = s1 → hk_S G m_L_law (d + 1) cb sb 1974 [o0, o1, o2, o3, o4, o5, o6, o7] [] h Q) (kf : ¬ s0 = s1 → hk_S G m_L_law (d + 1) cb sb 370 [o0, o1, o2, o3, o4, o5, o6, o7] [] h Q) : hk_S G m_L_law (d + 1) cb sb 367 [o0, o1, o2, o3, o4, o5, o6, o7] [.int s1, .int s0] h Q := by
  exact hs_icmp_eq dL_law_367 (by decide) kt kf
theorem b_L_law_370 {G : hk_G} {d cb sb : Nat} {h : hk_H} {Q : hk_O → hk_H → Prop} {o0 : Option Value} {o1 : Option Value} {o2 : Option Value} {o3 : Option Value} {o4 : Option Value} {o5 : Option Value} {o6 : Option Value} {o7 : Option Value} (hq : Q (.inl (some (.int 0))) h) : hk_S G m_L_law (d + 1) cb sb 370 [o0, o1, o2, o3, o4, o5, o6, o7] [] h Q := by
  refine hs_iconst (v := 0) dL_law_370 (by decide) ?_
  exact hs_zret dL_law_371 rfl (by decide) hq
theorem b_L_law_372 {G : hk_G} {d cb sb : Nat} {h : hk_H} {Q : hk_O → hk_H → Prop} {r1 : Nat} {r0 : Nat} {x4 : Int32} {n1 : Nat} {f2 : Nat → Int32} {fs_ : List Value} {o2 : Option Value} {o3 : Option Value} {o5 : Option Value} {o6 : Option Value} {o7 : Option Value} (ha3 : h.2 r0 = some (.inl (0, n1, .inl f2))) (j4 : Nat) (hi5 : (x4 + 1 : Int32).toInt = (j4 : Int)) (hj6 : j4 < n1) (j7 : Nat) (hi8 : (x4 + 2 : Int32).toInt = (j7 : Int)) (hj9 : j7 < n1) (j10 : Nat) (hi11 : (x4 + 3 : Int32).toInt = (j10 : Int)) (hj12 : j10 < n1) (j13 : Nat) (hi14 : (x4 + 4 : Int32).toInt = (j13 : Int)) (hj15 : j13 < n1) (hrec : h.2 r1 = some (.inr (9, fs_))) (hc : hk_Ci G m_X9_pay d 0 0 [.ref r1, .int (f2 j4), .int (f2 j7), .int (f2 j10), .int (f2 j13)] h (fun z h' => hk_S G m_L_law (d + 1) cb sb 400 [some (.ref r0), some (.ref r1), o2, o3, some (.int x4), o5, o6, o7] [.int z] h' Q)) : hk_S G m_L_law (d + 1) cb sb 372 [some (.ref r0), some (.ref r1), o2, o3, some (.int x4), o5, o6, o7] [] h Q := by
  refine hs_aload_n dL_law_372 rfl ?_
  refine hs_aload_n dL_law_373 rfl ?_
  refine hs_iload dL_law_374 rfl ?_
  refine hs_iconst (v := 1) dL_law_376 (by decide) ?_
  refine hs_iadd dL_law_377 ?_
  refine hs_iald j4 dL_law_378 ha3 hi5 hj6 ?_
  refine hs_aload_n dL_law_379 rfl ?_
  refine hs_iload dL_law_380 rfl ?_
  refine hs_iconst (v := 2) dL_law_382 (by decide) ?_
  refine hs_iadd dL_law_383 ?_
  refine hs_iald j7 dL_law_384 ha3 hi8 hj9 ?_
  refine hs_aload_n dL_law_385 rfl ?_
  refine hs_iload dL_law_386 rfl ?_
  refine hs_iconst (v := 3) dL_law_388 (by decide) ?_
  refine hs_iadd dL_law_389 ?_
  refine hs_iald j10 dL_law_390 ha3 hi11 hj12 ?_
  refine hs_aload_n dL_law_391 rfl ?_
  refine hs_iload dL_law_392 rfl ?_
  refine hs_iconst (v := 4) dL_law_394 (by decide) ?_
  refine hs_iadd dL_law_395 ?_
  refine hs_iald j13 dL_law_396 ha3 hi14 hj15 ?_
  exact hk_z0 (hs_vir (M' := m_X9_pay) (vs := [.int (f2 j4), .int (f2 j7), .int (f2 j10), .int (f2 j13)]) (c1 := 0) (s1 := 0) dL_law_397 wd_371 vi_X9_pay hrec rfl (Nat.le_of_ble_eq_true rfl) hc hq_i (hc_i (fun z h9 k9 => k9)))
theorem b_L_law_400 {G : hk_G} {d cb sb : Nat} {h : hk_H} {Q : hk_O → hk_H → Prop} {s0 : Int32} {r2 : Nat} {r0 : Nat} {x4 : Int32} {n1 : Nat} {f2 : Nat → Int32} {fs_ : List Value} {o1 : Option Value} {o3 : Option Value} {o5 : Option Value} {o6 : Option Value} {o7 : Option Value} (ha3 : h.2 r0 = some (.inl (0, n1, .inl f2))) (j4 : Nat) (hi5 : (x4 + 1 : Int32).toInt = (j4 : Int)) (hj6 : j4 < n1) (j7 : Nat) (hi8 : (x4 + 2 : Int32).toInt = (j7 : Int)) (hj9 : j7 < n1) (j10 : Nat) (hi11 : (x4 + 3 : Int32).toInt = (j10 : Int)) (hj12 : j10 < n1) (j13 : Nat) (hi14 : (x4 + 4 : Int32).toInt = (j13 : Int)) (hj15 : j13 < n1) (hrec : h.2 r2 = some (.inr (10, fs_))) (hc : hk_Ci G m_X10_pay d 0 0 [.ref r2, .int (f2 j4), .int (f2 j7), .int (f2 j10), .int (f2 j13)] h (fun z h' => hk_S G m_L_law (d + 1) cb sb 428 [some (.ref r0), o1, some (.ref r2), o3, some (.int x4), o5, o6, o7] [.int z, .int s0] h' Q)) : hk_S G m_L_law (d + 1) cb sb 400 [some (.ref r0), o1, some (.ref r2), o3, some (.int x4), o5, o6, o7] [.int s0] h Q := by
  refine hs_aload_n dL_law_400 rfl ?_
  refine hs_aload_n dL_law_401 rfl ?_
  refine hs_iload dL_law_402 rfl ?_
  refine hs_iconst (v := 1) dL_law_404 (by decide) ?_
  refine hs_iadd dL_law_405 ?_
  refine hs_iald j4 dL_law_406 ha3 hi5 hj6 ?_
  refine hs_aload_n dL_law_407 rfl ?_
  refine hs_iload dL_law_408 rfl ?_
  refine hs_iconst (v := 2) dL_law_410 (by decide) ?_
  refine hs_iadd dL_law_411 ?_
  refine hs_iald j7 dL_law_412 ha3 hi8 hj9 ?_
  refine hs_aload_n dL_law_413 rfl ?_
  refine hs_iload dL_law_414 rfl ?_
  refine hs_iconst (v := 3) dL_law_416 (by decide) ?_
  refine hs_iadd dL_law_417 ?_
  refine hs_iald j10 dL_law_418 ha3 hi11 hj12 ?_
  refine hs_aload_n dL_law_419 rfl ?_
  refine hs_iload dL_law_420 rfl ?_
  refine hs_iconst (v := 4) dL_law_422 (by decide) ?_
  refine hs_iadd dL_law_423 ?_
  refine hs_iald j13 dL_law_424 ha3 hi14 hj15 ?_
  exact hk_z0 (hs_vir (M' := m_X10_pay) (vs := [.int (f2 j4), .int (f2 j7), .int (f2 j10), .int (f2 j13)]) (c1 := 0) (s1 := 0) dL_law_425 wd_1241 vi_X10_pay hrec rfl (Nat.le_of_ble_eq_true rfl) hc hq_i (hc_i (fun z h9 k9 => k9)))
theorem b_L_law_428 {G : hk_G} {d cb sb : Nat} {h : hk_H} {Q : hk_O → hk_H → Prop} {s0 : Int32} {s1 : Int32} {o0 : Option Value} {o1 : Option Value} {o2 : Option Value} {o3 : Option Value} {o4 : Option Value} {o5 : Option Value} {o6 : Option Value} {o7 : Option Value} (kt : s0 = s1 → hk_S G m_L_law (d + 1) cb sb 1974 [o0, o1, o2, o3, o4, o5, o6, o7] [] h Q) (kf : ¬ s0 = s1 → hk_S G m_L_law (d + 1) cb sb 431 [o0, o1, o2, o3, o4, o5, o6, o7] [] h Q) : hk_S G m_L_law (d + 1) cb sb 428 [o0, o1, o2, o3, o4, o5, o6, o7] [.int s1, .int s0] h Q := by
  exact hs_icmp_eq dL_law_428 (by decide) kt kf
theorem b_L_law_431 {G : hk_G} {d cb sb : Nat} {h : hk_H} {Q : hk_O → hk_H → Prop} {o0 : Option Value} {o1 : Option Value} {o2 : Option Value} {o3 : Option Value} {o4 : Option Value} {o5 : Option Value} {o6 : Option Value} {o7 : Option Value} (hq : Q (.inl (some (.int 0))) h) : hk_S G m_L_law (d + 1) cb sb 431 [o0, o1, o2, o3, o4, o5, o6, o7] [] h Q := by
  refine hs_iconst (v := 0) dL_law_431 (by decide) ?_
  exact hs_zret dL_law_432 rfl (by decide) hq
theorem b_L_law_433 {G : hk_G} {d cb sb : Nat} {h : hk_H} {Q : hk_O → hk_H → Prop} {r1 : Nat} {r0 : Nat} {x4 : Int32} {n1 : Nat} {f2 : Nat → Int32} {fs_ : List Value} {o2 : Option Value} {o3 : Option Value} {o5 : Option Value} {o6 : Option Value} {o7 : Option Value} (ha3 : h.2 r0 = some (.inl (0, n1, .inl f2))) (j4 : Nat) (hi5 : (x4 + 1 : Int32).toInt = (j4 : Int)) (hj6 : j4 < n1) (j7 : Nat) (hi8 : (x4 + 2 : Int32).toInt = (j7 : Int)) (hj9 : j7 < n1) (j10 : Nat) (hi11 : (x4 + 3 : Int32).toInt = (j10 : Int)) (hj12 : j10 < n1) (j13 : Nat) (hi14 : (x4 + 4 : Int32).toInt = (j13 : Int)) (hj15 : j13 < n1) (hrec : h.2 r1 = some (.inr (9, fs_))) (hc : hk_Ci G m_X9_gift d 0 0 [.ref r1, .int (f2 j4), .int (f2 j7), .int (f2 j10), .int (f2 j13)] h (fun z h' => hk_S G m_L_law (d + 1) cb sb 461 [some (.ref r0), some (.ref r1), o2, o3, some (.int x4), o5, o6, o7] [.int z] h' Q)) : hk_S G m_L_law (d + 1) cb sb 433 [some (.ref r0), some (.ref r1), o2, o3, some (.int x4), o5, o6, o7] [] h Q := by
  refine hs_aload_n dL_law_433 rfl ?_
  refine hs_aload_n dL_law_434 rfl ?_
  refine hs_iload dL_law_435 rfl ?_
  refine hs_iconst (v := 1) dL_law_437 (by decide) ?_
  refine hs_iadd dL_law_438 ?_
  refine hs_iald j4 dL_law_439 ha3 hi5 hj6 ?_
  refine hs_aload_n dL_law_440 rfl ?_
  refine hs_iload dL_law_441 rfl ?_
  refine hs_iconst (v := 2) dL_law_443 (by decide) ?_
  refine hs_iadd dL_law_444 ?_
  refine hs_iald j7 dL_law_445 ha3 hi8 hj9 ?_
  refine hs_aload_n dL_law_446 rfl ?_
  refine hs_iload dL_law_447 rfl ?_
  refine hs_iconst (v := 3) dL_law_449 (by decide) ?_
  refine hs_iadd dL_law_450 ?_
  refine hs_iald j10 dL_law_451 ha3 hi11 hj12 ?_
  refine hs_aload_n dL_law_452 rfl ?_
  refine hs_iload dL_law_453 rfl ?_
  refine hs_iconst (v := 4) dL_law_455 (by decide) ?_
  refine hs_iadd dL_law_456 ?_
  refine hs_iald j13 dL_law_457 ha3 hi14 hj15 ?_
  exact hk_z0 (hs_vir (M' := m_X9_gift) (vs := [.int (f2 j4), .int (f2 j7), .int (f2 j10), .int (f2 j13)]) (c1 := 0) (s1 := 0) dL_law_458 wd_391 vi_X9_gift hrec rfl (Nat.le_of_ble_eq_true rfl) hc hq_i (hc_i (fun z h9 k9 => k9)))
theorem b_L_law_461 {G : hk_G} {d cb sb : Nat} {h : hk_H} {Q : hk_O → hk_H → Prop} {s0 : Int32} {r2 : Nat} {r0 : Nat} {x4 : Int32} {n1 : Nat} {f2 : Nat → Int32} {fs_ : List Value} {o1 : Option Value} {o3 : Option Value} {o5 : Option Value} {o6 : Option Value} {o7 : Option Value} (ha3 : h.2 r0 = some (.inl (0, n1, .inl f2))) (j4 : Nat) (hi5 : (x4 + 1 : Int32).toInt = (j4 : Int)) (hj6 : j4 < n1) (j7 : Nat) (hi8 : (x4 + 2 : Int32).toInt = (j7 : Int)) (hj9 : j7 < n1) (j10 : Nat) (hi11 : (x4 + 3 : Int32).toInt = (j10 : Int)) (hj12 : j10 < n1) (j13 : Nat) (hi14 : (x4 + 4 : Int32).toInt = (j13 : Int)) (hj15 : j13 < n1) (hrec : h.2 r2 = some (.inr (10, fs_))) (hc : hk_Ci G m_X10_gift d 0 0 [.ref r2, .int (f2 j4), .int (f2 j7), .int (f2 j10), .int (f2 j13)] h (fun z h' => hk_S G m_L_law (d + 1) cb sb 489 [some (.ref r0), o1, some (.ref r2), o3, some (.int x4), o5, o6, o7] [.int z, .int s0] h' Q)) : hk_S G m_L_law (d + 1) cb sb 461 [some (.ref r0), o1, some (.ref r2), o3, some (.int x4), o5, o6, o7] [.int s0] h Q := by
  refine hs_aload_n dL_law_461 rfl ?_
  refine hs_aload_n dL_law_462 rfl ?_
  refine hs_iload dL_law_463 rfl ?_
  refine hs_iconst (v := 1) dL_law_465 (by decide) ?_
  refine hs_iadd dL_law_466 ?_
  refine hs_iald j4 dL_law_467 ha3 hi5 hj6 ?_
  refine hs_aload_n dL_law_468 rfl ?_
  refine hs_iload dL_law_469 rfl ?_
  refine hs_iconst (v := 2) dL_law_471 (by decide) ?_
  refine hs_iadd dL_law_472 ?_
  refine hs_iald j7 dL_law_473 ha3 hi8 hj9 ?_
  refine hs_aload_n dL_law_474 rfl ?_
  refine hs_iload dL_law_475 rfl ?_
  refine hs_iconst (v := 3) dL_law_477 (by decide) ?_
  refine hs_iadd dL_law_478 ?_
  refine hs_iald j10 dL_law_479 ha3 hi11 hj12 ?_
  refine hs_aload_n dL_law_480 rfl ?_
  refine hs_iload dL_law_481 rfl ?_
  refine hs_iconst (v := 4) dL_law_483 (by decide) ?_
  refine hs_iadd dL_law_484 ?_
  refine hs_iald j13 dL_law_485 ha3 hi14 hj15 ?_
  exact hk_z0 (hs_vir (M' := m_X10_gift) (vs := [.int (f2 j4), .int (f2 j7), .int (f2 j10), .int (f2 j13)]) (c1 := 0) (s1 := 0) dL_law_486 wd_1245 vi_X10_gift hrec rfl (Nat.le_of_ble_eq_true rfl) hc hq_i (hc_i (fun z h9 k9 => k9)))
theorem b_L_law_489 {G : hk_G} {d cb sb : Nat} {h : hk_H} {Q : hk_O → hk_H → Prop} {s0 : Int32} {s1 : Int32} {o0 : Option Value} {o1 : Option Value} {o2 : Option Value} {o3 : Option Value} {o4 : Option Value} {o5 : Option Value} {o6 : Option Value} {o7 : Option Value} (kt : s0 = s1 → hk_S G m_L_law (d + 1) cb sb 1974 [o0, o1, o2, o3, o4, o5, o6, o7] [] h Q) (kf : ¬ s0 = s1 → hk_S G m_L_law (d + 1) cb sb 492 [o0, o1, o2, o3, o4, o5, o6, o7] [] h Q) : hk_S G m_L_law (d + 1) cb sb 489 [o0, o1, o2, o3, o4, o5, o6, o7] [.int s1, .int s0] h Q := by
  exact hs_icmp_eq dL_law_489 (by decide) kt kf
theorem b_L_law_492 {G : hk_G} {d cb sb : Nat} {h : hk_H} {Q : hk_O → hk_H → Prop} {o0 : Option Value} {o1 : Option Value} {o2 : Option Value} {o3 : Option Value} {o4 : Option Value} {o5 : Option Value} {o6 : Option Value} {o7 : Option Value} (hq : Q (.inl (some (.int 0))) h) : hk_S G m_L_law (d + 1) cb sb 492 [o0, o1, o2, o3, o4, o5, o6, o7] [] h Q := by
  refine hs_iconst (v := 0) dL_law_492 (by decide) ?_
  exact hs_zret dL_law_493 rfl (by decide) hq
theorem b_L_law_494 {G : hk_G} {d cb sb : Nat} {h : hk_H} {Q : hk_O → hk_H → Prop} {r1 : Nat} {r0 : Nat} {x4 : Int32} {n1 : Nat} {f2 : Nat → Int32} {fs_ : List Value} {o2 : Option Value} {o3 : Option Value} {o5 : Option Value} {o6 : Option Value} {o7 : Option Value} (ha3 : h.2 r0 = some (.inl (0, n1, .inl f2))) (j4 : Nat) (hi5 : (x4 + 1 : Int32).toInt = (j4 : Int)) (hj6 : j4 < n1) (j7 : Nat) (hi8 : (x4 + 2 : Int32).toInt = (j7 : Int)) (hj9 : j7 < n1) (j10 : Nat) (hi11 : (x4 + 3 : Int32).toInt = (j10 : Int)) (hj12 : j10 < n1) (hrec : h.2 r1 = some (.inr (9, fs_))) (hc : hk_Ci G m_X9_middle d 0 0 [.ref r1, .int (f2 j4), .int (f2 j7), .int (f2 j10)] h (fun z h' => hk_S G m_L_law (d + 1) cb sb 516 [some (.ref r0), some (.ref r1), o2, o3, some (.int x4), o5, o6, o7] [.int z] h' Q)) : hk_S G m_L_law (d + 1) cb sb 494 [some (.ref r0), some (.ref r1), o2, o3, some (.int x4), o5, o6, o7] [] h Q := by
  refine hs_aload_n dL_law_494 rfl ?_
  refine hs_aload_n dL_law_495 rfl ?_
  refine hs_iload dL_law_496 rfl ?_
  refine hs_iconst (v := 1) dL_law_498 (by decide) ?_
  refine hs_iadd dL_law_499 ?_
  refine hs_iald j4 dL_law_500 ha3 hi5 hj6 ?_
  refine hs_aload_n dL_law_501 rfl ?_
  refine hs_iload dL_law_502 rfl ?_
  refine hs_iconst (v := 2) dL_law_504 (by decide) ?_
  refine hs_iadd dL_law_505 ?_
  refine hs_iald j7 dL_law_506 ha3 hi8 hj9 ?_
  refine hs_aload_n dL_law_507 rfl ?_
  refine hs_iload dL_law_508 rfl ?_
  refine hs_iconst (v := 3) dL_law_510 (by decide) ?_
  refine hs_iadd dL_law_511 ?_
  refine hs_iald j10 dL_law_512 ha3 hi11 hj12 ?_
  exact hk_z0 (hs_vir (M' := m_X9_middle) (vs := [.int (f2 j4), .int (f2 j7), .int (f2 j10)]) (c1 := 0) (s1 := 0) dL_law_513 wd_419 vi_X9_middle hrec rfl (Nat.le_of_ble_eq_true rfl) hc hq_i (hc_i (fun z h9 k9 => k9)))
theorem b_L_law_516 {G : hk_G} {d cb sb : Nat} {h : hk_H} {Q : hk_O → hk_H → Prop} {s0 : Int32} {r2 : Nat} {r0 : Nat} {x4 : Int32} {n1 : Nat} {f2 : Nat → Int32} {fs_ : List Value} {o1 : Option Value} {o3 : Option Value} {o5 : Option Value} {o6 : Option Value} {o7 : Option Value} (ha3 : h.2 r0 = some (.inl (0, n1, .inl f2))) (j4 : Nat) (hi5 : (x4 + 1 : Int32).toInt = (j4 : Int)) (hj6 : j4 < n1) (j7 : Nat) (hi8 : (x4 + 2 : Int32).toInt = (j7 : Int)) (hj9 : j7 < n1) (j10 : Nat) (hi11 : (x4 + 3 : Int32).toInt = (j10 : Int)) (hj12 : j10 < n1) (hrec : h.2 r2 = some (.inr (10, fs_))) (hc : hk_Ci G m_X10_middle d 0 0 [.ref r2, .int (f2 j4), .int (f2 j7), .int (f2 j10)] h (fun z h' => hk_S G m_L_law (d + 1) cb sb 538 [some (.ref r0), o1, some (.ref r2), o3, some (.int x4), o5, o6, o7] [.int z, .int s0] h' Q)) : hk_S G m_L_law (d + 1) cb sb 516 [some (.ref r0), o1, some (.ref r2), o3, some (.int x4), o5, o6, o7] [.int s0] h Q := by
  refine hs_aload_n dL_law_516 rfl ?_
  refine hs_aload_n dL_law_517 rfl ?_
  refine hs_iload dL_law_518 rfl ?_
  refine hs_iconst (v := 1) dL_law_520 (by decide) ?_
  refine hs_iadd dL_law_521 ?_
  refine hs_iald j4 dL_law_522 ha3 hi5 hj6 ?_
  refine hs_aload_n dL_law_523 rfl ?_
  refine hs_iload dL_law_524 rfl ?_
  refine hs_iconst (v := 2) dL_law_526 (by decide) ?_
  refine hs_iadd dL_law_527 ?_
  refine hs_iald j7 dL_law_528 ha3 hi8 hj9 ?_
  refine hs_aload_n dL_law_529 rfl ?_
  refine hs_iload dL_law_530 rfl ?_
  refine hs_iconst (v := 3) dL_law_532 (by decide) ?_
  refine hs_iadd dL_law_533 ?_
  refine hs_iald j10 dL_law_534 ha3 hi11 hj12 ?_
  exact hk_z0 (hs_vir (M' := m_X10_middle) (vs := [.int (f2 j4), .int (f2 j7), .int (f2 j10)]) (c1 := 0) (s1 := 0) dL_law_535 wd_1249 vi_X10_middle hrec rfl (Nat.le_of_ble_eq_true rfl) hc hq_i (hc_i (fun z h9 k9 => k9)))
theorem b_L_law_538 {G : hk_G} {d cb sb : Nat} {h : hk_H} {Q : hk_O → hk_H → Prop} {s0 : Int32} {s1 : Int32} {o0 : Option Value} {o1 : Option Value} {o2 : Option Value} {o3 : Option Value} {o4 : Option Value} {o5 : Option Value} {o6 : Option Value} {o7 : Option Value} (kt : s0 = s1 → hk_S G m_L_law (d + 1) cb sb 1974 [o0, o1, o2, o3, o4, o5, o6, o7] [] h Q) (kf : ¬ s0 = s1 → hk_S G m_L_law (d + 1) cb sb 541 [o0, o1, o2, o3, o4, o5, o6, o7] [] h Q) : hk_S G m_L_law (d + 1) cb sb 538 [o0, o1, o2, o3, o4, o5, o6, o7] [.int s1, .int s0] h Q := by
  exact hs_icmp_eq dL_law_538 (by decide) kt kf
theorem b_L_law_541 {G : hk_G} {d cb sb : Nat} {h : hk_H} {Q : hk_O → hk_H → Prop} {o0 : Option Value} {o1 : Option Value} {o2 : Option Value} {o3 : Option Value} {o4 : Option Value} {o5 : Option Value} {o6 : Option Value} {o7 : Option Value} (hq : Q (.inl (some (.int 0))) h) : hk_S G m_L_law (d + 1) cb sb 541 [o0, o1, o2, o3, o4, o5, o6, o7] [] h Q := by
  refine hs_iconst (v := 0) dL_law_541 (by decide) ?_
  exact hs_zret dL_law_542 rfl (by decide) hq
theorem b_L_law_543 {G : hk_G} {d cb sb : Nat} {h : hk_H} {Q : hk_O → hk_H → Prop} {r1 : Nat} {r0 : Nat} {x4 : Int32} {n1 : Nat} {f2 : Nat → Int32} {fs_ : List Value} {o2 : Option Value} {o3 : Option Value} {o5 : Option Value} {o6 : Option Value} {o7 : Option Value} (ha3 : h.2 r0 = some (.inl (0, n1, .inl f2))) (j4 : Nat) (hi5 : (x4 + 1 : Int32).toInt = (j4 : Int)) (hj6 : j4 < n1) (j7 : Nat) (hi8 : (x4 + 2 : Int32).toInt = (j7 : Int)) (hj9 : j7 < n1) (hrec : h.2 r1 = some (.inr (9, fs_))) (hc : hk_Ci G m_X9_end d 0 0 [.ref r1, .int (f2 j4), .int (f2 j7)] h (fun z h' => hk_S G m_L_law (d + 1) cb sb 559 [some (.ref r0), some (.ref r1), o2, o3, some (.int x4), o5, o6, o7] [.int z] h' Q)) : hk_S G m_L_law (d + 1) cb sb 543 [some (.ref r0), some (.ref r1), o2, o3, some (.int x4), o5, o6, o7] [] h Q := by
  refine hs_aload_n dL_law_543 rfl ?_
  refine hs_aload_n dL_law_544 rfl ?_
  refine hs_iload dL_law_545 rfl ?_
  refine hs_iconst (v := 1) dL_law_547 (by decide) ?_
  refine hs_iadd dL_law_548 ?_
  refine hs_iald j4 dL_law_549 ha3 hi5 hj6 ?_
  refine hs_aload_n dL_law_550 rfl ?_
  refine hs_iload dL_law_551 rfl ?_
  refine hs_iconst (v := 2) dL_law_553 (by decide) ?_
  refine hs_iadd dL_law_554 ?_
  refine hs_iald j7 dL_law_555 ha3 hi8 hj9 ?_
  exact hk_z0 (hs_vir (M' := m_X9_end) (vs := [.int (f2 j4), .int (f2 j7)]) (c1 := 0) (s1 := 0) dL_law_556 wd_433 vi_X9_end hrec rfl (Nat.le_of_ble_eq_true rfl) hc hq_i (hc_i (fun z h9 k9 => k9)))
theorem b_L_law_559 {G : hk_G} {d cb sb : Nat} {h : hk_H} {Q : hk_O → hk_H → Prop} {s0 : Int32} {r2 : Nat} {r0 : Nat} {x4 : Int32} {n1 : Nat} {f2 : Nat → Int32} {fs_ : List Value} {o1 : Option Value} {o3 : Option Value} {o5 : Option Value} {o6 : Option Value} {o7 : Option Value} (ha3 : h.2 r0 = some (.inl (0, n1, .inl f2))) (j4 : Nat) (hi5 : (x4 + 1 : Int32).toInt = (j4 : Int)) (hj6 : j4 < n1) (j7 : Nat) (hi8 : (x4 + 2 : Int32).toInt = (j7 : Int)) (hj9 : j7 < n1) (hrec : h.2 r2 = some (.inr (10, fs_))) (hc : hk_Ci G m_X10_end d 0 0 [.ref r2, .int (f2 j4), .int (f2 j7)] h (fun z h' => hk_S G m_L_law (d + 1) cb sb 575 [some (.ref r0), o1, some (.ref r2), o3, some (.int x4), o5, o6, o7] [.int z, .int s0] h' Q)) : hk_S G m_L_law (d + 1) cb sb 559 [some (.ref r0), o1, some (.ref r2), o3, some (.int x4), o5, o6, o7] [.int s0] h Q := by
  refine hs_aload_n dL_law_559 rfl ?_
  refine hs_aload_n dL_law_560 rfl ?_
  refine hs_iload dL_law_561 rfl ?_
  refine hs_iconst (v := 1) dL_law_563 (by decide) ?_
  refine hs_iadd dL_law_564 ?_
  refine hs_iald j4 dL_law_565 ha3 hi5 hj6 ?_
  refine hs_aload_n dL_law_566 rfl ?_
  refine hs_iload dL_law_567 rfl ?_
  refine hs_iconst (v := 2) dL_law_569 (by decide) ?_
  refine hs_iadd dL_law_570 ?_
  refine hs_iald j7 dL_law_571 ha3 hi8 hj9 ?_
  exact hk_z0 (hs_vir (M' := m_X10_end) (vs := [.int (f2 j4), .int (f2 j7)]) (c1 := 0) (s1 := 0) dL_law_572 wd_1253 vi_X10_end hrec rfl (Nat.le_of_ble_eq_true rfl) hc hq_i (hc_i (fun z h9 k9 => k9)))
theorem b_L_law_575 {G : hk_G} {d cb sb : Nat} {h : hk_H} {Q : hk_O → hk_H → Prop} {s0 : Int32} {s1 : Int32} {o0 : Option Value} {o1 : Option Value} {o2 : Option Value} {o3 : Option Value} {o4 : Option Value} {o5 : Option Value} {o6 : Option Value} {o7 : Option Value} (kt : s0 = s1 → hk_S G m_L_law (d + 1) cb sb 1974 [o0, o1, o2, o3, o4, o5, o6, o7] [] h Q) (kf : ¬ s0 = s1 → hk_S G m_L_law (d + 1) cb sb 578 [o0, o1, o2, o3, o4, o5, o6, o7] [] h Q) : hk_S G m_L_law (d + 1) cb sb 575 [o0, o1, o2, o3, o4, o5, o6, o7] [.int s1, .int s0] h Q := by
  exact hs_icmp_eq dL_law_575 (by decide) kt kf
theorem b_L_law_578 {G : hk_G} {d cb sb : Nat} {h : hk_H} {Q : hk_O → hk_H → Prop} {o0 : Option Value} {o1 : Option Value} {o2 : Option Value} {o3 : Option Value} {o4 : Option Value} {o5 : Option Value} {o6 : Option Value} {o7 : Option Value} (hq : Q (.inl (some (.int 0))) h) : hk_S G m_L_law (d + 1) cb sb 578 [o0, o1, o2, o3, o4, o5, o6, o7] [] h Q := by
  refine hs_iconst (v := 0) dL_law_578 (by decide) ?_
  exact hs_zret dL_law_579 rfl (by decide) hq
theorem b_L_law_580 {G : hk_G} {d cb sb : Nat} {h : hk_H} {Q : hk_O → hk_H → Prop} {r1 : Nat} {r0 : Nat} {x4 : Int32} {n1 : Nat} {f2 : Nat → Int32} {r3 : Nat} {cq : Nat} {sq : Nat} {o2 : Option Value} {o5 : Option Value} {o6 : Option Value} {o7 : Option Value} (ha3 : h.2 r0 = some (.inl (0, n1, .inl f2))) (j4 : Nat) (hi5 : (x4 + 1 : Int32).toInt = (j4 : Int)) (hj6 : j4 < n1) (j7 : Nat) (hi8 : (x4 + 2 : Int32).toInt = (j7 : Int)) (hj9 : j7 < n1) (j10 : Nat) (hi11 : (x4 + 3 : Int32).toInt = (j10 : Int)) (hj12 : j10 < n1) (hc : hk_Ci G m_L_pays d cq sq [.ref r1, .int (f2 j4), .int (f2 j7), .int (f2 j10), .ref r3] h (fun z h' => hk_S G m_L_law (d + 1) cb sb 603 [some (.ref r0), some (.ref r1), o2, some (.ref r3), some (.int x4), o5, o6, o7] [.int z] h' Q)) : hk_S G m_L_law (d + 1) (cq + cb) (sq + sb) 580 [some (.ref r0), some (.ref r1), o2, some (.ref r3), some (.int x4), o5, o6, o7] [] h Q := by
  refine hs_aload_n dL_law_580 rfl ?_
  refine hs_aload_n dL_law_581 rfl ?_
  refine hs_iload dL_law_582 rfl ?_
  refine hs_iconst (v := 1) dL_law_584 (by decide) ?_
  refine hs_iadd dL_law_585 ?_
  refine hs_iald j4 dL_law_586 ha3 hi5 hj6 ?_
  refine hs_aload_n dL_law_587 rfl ?_
  refine hs_iload dL_law_588 rfl ?_
  refine hs_iconst (v := 2) dL_law_590 (by decide) ?_
  refine hs_iadd dL_law_591 ?_
  refine hs_iald j7 dL_law_592 ha3 hi8 hj9 ?_
  refine hs_aload_n dL_law_593 rfl ?_
  refine hs_iload dL_law_594 rfl ?_
  refine hs_iconst (v := 3) dL_law_596 (by decide) ?_
  refine hs_iadd dL_law_597 ?_
  refine hs_iald j10 dL_law_598 ha3 hi11 hj12 ?_
  refine hs_aload_n dL_law_599 rfl ?_
  exact hs_callSH (M' := m_L_pays) (vs := [.ref r1, .int (f2 j4), .int (f2 j7), .int (f2 j10), .ref r3]) dL_law_600 ok_L_pays (by decide) wd_1020 wd_1021 rfl (Nat.le_of_ble_eq_true rfl) hc hq_i (hc_i (fun z h9 k9 => k9))
theorem b_L_law_603 {G : hk_G} {d cb sb : Nat} {h : hk_H} {Q : hk_O → hk_H → Prop} {s0 : Int32} {r2 : Nat} {r0 : Nat} {x4 : Int32} {n1 : Nat} {f2 : Nat → Int32} {fs_ : List Value} {o1 : Option Value} {o3 : Option Value} {o5 : Option Value} {o6 : Option Value} {o7 : Option Value} (ha3 : h.2 r0 = some (.inl (0, n1, .inl f2))) (j4 : Nat) (hi5 : (x4 + 1 : Int32).toInt = (j4 : Int)) (hj6 : j4 < n1) (j7 : Nat) (hi8 : (x4 + 2 : Int32).toInt = (j7 : Int)) (hj9 : j7 < n1) (j10 : Nat) (hi11 : (x4 + 3 : Int32).toInt = (j10 : Int)) (hj12 : j10 < n1) (hrec : h.2 r2 = some (.inr (10, fs_))) (hc : hk_Ci G m_X10_pays d 0 0 [.ref r2, .int (f2 j4), .int (f2 j7), .int (f2 j10)] h (fun z h' => hk_S G m_L_law (d + 1) cb sb 627 [some (.ref r0), o1, some (.ref r2), o3, some (.int x4), some (.int s0), o6, o7] [.int z] h' Q)) : hk_S G m_L_law (d + 1) cb sb 603 [some (.ref r0), o1, some (.ref r2), o3, some (.int x4), o5, o6, o7] [.int s0] h Q := by
  refine hs_istK dL_law_603 (by decide) (hk_nk1 rfl hk_c1i) rfl ?_
  refine hs_aload_n dL_law_605 rfl ?_
  refine hs_aload_n dL_law_606 rfl ?_
  refine hs_iload dL_law_607 rfl ?_
  refine hs_iconst (v := 1) dL_law_609 (by decide) ?_
  refine hs_iadd dL_law_610 ?_
  refine hs_iald j4 dL_law_611 ha3 hi5 hj6 ?_
  refine hs_aload_n dL_law_612 rfl ?_
  refine hs_iload dL_law_613 rfl ?_
  refine hs_iconst (v := 2) dL_law_615 (by decide) ?_
  refine hs_iadd dL_law_616 ?_
  refine hs_iald j7 dL_law_617 ha3 hi8 hj9 ?_
  refine hs_aload_n dL_law_618 rfl ?_
  refine hs_iload dL_law_619 rfl ?_
  refine hs_iconst (v := 3) dL_law_621 (by decide) ?_
  refine hs_iadd dL_law_622 ?_
  refine hs_iald j10 dL_law_623 ha3 hi11 hj12 ?_
  exact hk_z0 (hs_vir (M' := m_X10_pays) (vs := [.int (f2 j4), .int (f2 j7), .int (f2 j10)]) (c1 := 0) (s1 := 0) dL_law_624 wd_1281 vi_X10_pays hrec rfl (Nat.le_of_ble_eq_true rfl) hc hq_i (hc_i (fun z h9 k9 => k9)))
theorem b_L_law_627 {G : hk_G} {d cb sb : Nat} {h : hk_H} {Q : hk_O → hk_H → Prop} {s0 : Int32} {r2 : Nat} {fs_ : List Value} {o0 : Option Value} {o1 : Option Value} {o3 : Option Value} {o4 : Option Value} {o5 : Option Value} {o6 : Option Value} {o7 : Option Value} (hrec : h.2 r2 = some (.inr (10, fs_))) (hc : hk_Ci G m_X10_thrown d 0 0 [.ref r2] h (fun z h' => hk_S G m_L_law (d + 1) cb sb 633 [o0, o1, some (.ref r2), o3, o4, o5, some (.int s0), o7] [.int z] h' Q)) (ho5 : hk_c1 o5 := by first | exact hk_c1i | exact hk_c1r | exact hk_c10 | exact hk_c1n) : hk_S G m_L_law (d + 1) cb sb 627 [o0, o1, some (.ref r2), o3, o4, o5, o6, o7] [.int s0] h Q := by
  refine hs_istK dL_law_627 (by decide) (hk_nk1 rfl ho5) rfl ?_
  refine hs_aload_n dL_law_629 rfl ?_
  exact hk_z0 (hs_vir (M' := m_X10_thrown) (vs := []) (c1 := 0) (s1 := 0) dL_law_630 wd_1214 vi_X10_thrown hrec rfl (Nat.le_of_ble_eq_true rfl) hc hq_i (hc_i (fun z h9 k9 => k9)))
theorem b_L_law_633 {G : hk_G} {d cb sb : Nat} {h : hk_H} {Q : hk_O → hk_H → Prop} {s0 : Int32} {x5 : Int32} {o0 : Option Value} {o1 : Option Value} {o2 : Option Value} {o3 : Option Value} {o4 : Option Value} {o6 : Option Value} {o7 : Option Value} (kt : s0 = x5 → hk_S G m_L_law (d + 1) cb sb 640 [o0, o1, o2, o3, o4, some (.int x5), o6, o7] [] h Q) (kf : ¬ s0 = x5 → hk_S G m_L_law (d + 1) cb sb 638 [o0, o1, o2, o3, o4, some (.int x5), o6, o7] [] h Q) : hk_S G m_L_law (d + 1) cb sb 633 [o0, o1, o2, o3, o4, some (.int x5), o6, o7] [.int s0] h Q := by
  refine hs_iload dL_law_633 rfl ?_
  exact hs_icmp_eq dL_law_635 (by decide) kt kf
theorem b_L_law_638 {G : hk_G} {d cb sb : Nat} {h : hk_H} {Q : hk_O → hk_H → Prop} {o0 : Option Value} {o1 : Option Value} {o2 : Option Value} {o3 : Option Value} {o4 : Option Value} {o5 : Option Value} {o6 : Option Value} {o7 : Option Value} (hq : Q (.inl (some (.int 0))) h) : hk_S G m_L_law (d + 1) cb sb 638 [o0, o1, o2, o3, o4, o5, o6, o7] [] h Q := by
  refine hs_iconst (v := 0) dL_law_638 (by decide) ?_
  exact hs_zret dL_law_639 rfl (by decide) hq
theorem b_L_law_640 {G : hk_G} {d cb sb : Nat} {h : hk_H} {Q : hk_O → hk_H → Prop} {x5 : Int32} {o0 : Option Value} {o1 : Option Value} {o2 : Option Value} {o3 : Option Value} {o4 : Option Value} {o6 : Option Value} {o7 : Option Value} (kt : ¬ x5 = 0 → hk_S G m_L_law (d + 1) cb sb 657 [o0, o1, o2, o3, o4, some (.int x5), o6, o7] [] h Q) (kf : x5 = 0 → hk_S G m_L_law (d + 1) cb sb 645 [o0, o1, o2, o3, o4, some (.int x5), o6, o7] [] h Q) : hk_S G m_L_law (d + 1) cb sb 640 [o0, o1, o2, o3, o4, some (.int x5), o6, o7] [] h Q := by
  refine hs_iload dL_law_640 rfl ?_
  exact hs_if_ne dL_law_642 (by decide) kt kf
theorem b_L_law_645 {G : hk_G} {d cb sb : Nat} {h : hk_H} {Q : hk_O → hk_H → Prop} {r3 : Nat} {n1 : Nat} {f2 : Nat → Int64} {x6 : Int32} {o0 : Option Value} {o1 : Option Value} {o2 : Option Value} {o4 : Option Value} {o5 : Option Value} {o7 : Option Value} (ha3 : h.2 r3 = some (.inl (1, n1, .inr (.inl f2)))) (j4 : Nat) (hi5 : (0 : Int32).toInt = (j4 : Int)) (hj6 : j4 < n1) (kt : (lg_cmp (f2 j4) x6.toInt64) = 0 → hk_S G m_L_law (d + 1) cb sb 657 [o0, o1, o2, some (.ref r3), o4, o5, some (.int x6), o7] [] h Q) (kf : ¬ (lg_cmp (f2 j4) x6.toInt64) = 0 → hk_S G m_L_law (d + 1) cb sb 655 [o0, o1, o2, some (.ref r3), o4, o5, some (.int x6), o7] [] h Q) : hk_S G m_L_law (d + 1) cb sb 645 [o0, o1, o2, some (.ref r3), o4, o5, some (.int x6), o7] [] h Q := by
  refine hs_aload_n dL_law_645 rfl ?_
  refine hs_iconst (v := 0) dL_law_646 (by decide) ?_
  refine hs_lald j4 dL_law_647 ha3 hi5 hj6 ?_
  refine hs_iload dL_law_648 rfl ?_
  refine hs_i2l dL_law_650 ?_
  refine hs_lcmp dL_law_651 ?_
  exact hs_if_eq dL_law_652 (by decide) kt kf
theorem b_L_law_655 {G : hk_G} {d cb sb : Nat} {h : hk_H} {Q : hk_O → hk_H → Prop} {o0 : Option Value} {o1 : Option Value} {o2 : Option Value} {o3 : Option Value} {o4 : Option Value} {o5 : Option Value} {o6 : Option Value} {o7 : Option Value} (hq : Q (.inl (some (.int 0))) h) : hk_S G m_L_law (d + 1) cb sb 655 [o0, o1, o2, o3, o4, o5, o6, o7] [] h Q := by
  refine hs_iconst (v := 0) dL_law_655 (by decide) ?_
  exact hs_zret dL_law_656 rfl (by decide) hq
theorem b_L_law_657 {G : hk_G} {d cb sb : Nat} {h : hk_H} {Q : hk_O → hk_H → Prop} {x4 : Int32} {o0 : Option Value} {o1 : Option Value} {o2 : Option Value} {o3 : Option Value} {o5 : Option Value} {o6 : Option Value} {o7 : Option Value} (k : hk_S G m_L_law (d + 1) cb sb 43 [o0, o1, o2, o3, some (.int (x4 + 6)), o5, o6, o7] [] h Q) (ho3 : hk_c1 o3 := by first | exact hk_c1i | exact hk_c1r | exact hk_c10 | exact hk_c1n) : hk_S G m_L_law (d + 1) cb sb 657 [o0, o1, o2, o3, some (.int x4), o5, o6, o7] [] h Q := by
  refine hs_goto dL_law_657 (tgt := 1974) (by decide) ?_
  refine hs_iincK (v := 6) dL_law_1974 rfl (by decide) (by decide) (hk_nk1 rfl ho3) rfl ?_
  refine hs_goto dL_law_1977 (tgt := 43) (by decide) ?_
  exact k
theorem b_L_law_660 {G : hk_G} {d cb sb : Nat} {h : hk_H} {Q : hk_O → hk_H → Prop} {r1 : Nat} {r0 : Nat} {x4 : Int32} {n1 : Nat} {f2 : Nat → Int32} {fs_ : List Value} {o2 : Option Value} {o3 : Option Value} {o5 : Option Value} {o6 : Option Value} {o7 : Option Value} (ha3 : h.2 r0 = some (.inl (0, n1, .inl f2))) (j4 : Nat) (hi5 : (x4 + 1 : Int32).toInt = (j4 : Int)) (hj6 : j4 < n1) (j7 : Nat) (hi8 : (x4 + 2 : Int32).toInt = (j7 : Int)) (hj9 : j7 < n1) (j10 : Nat) (hi11 : (x4 + 3 : Int32).toInt = (j10 : Int)) (hj12 : j10 < n1) (hrec : h.2 r1 = some (.inr (9, fs_))) (hc : hk_Ci G m_X9_said d 0 0 [.ref r1, .int (f2 j4), .int (f2 j7), .int (f2 j10)] h (fun z h' => hk_S G m_L_law (d + 1) cb sb 682 [some (.ref r0), some (.ref r1), o2, o3, some (.int x4), o5, o6, o7] [.int z] h' Q)) : hk_S G m_L_law (d + 1) cb sb 660 [some (.ref r0), some (.ref r1), o2, o3, some (.int x4), o5, o6, o7] [] h Q := by
  refine hs_aload_n dL_law_660 rfl ?_
  refine hs_aload_n dL_law_661 rfl ?_
  refine hs_iload dL_law_662 rfl ?_
  refine hs_iconst (v := 1) dL_law_664 (by decide) ?_
  refine hs_iadd dL_law_665 ?_
  refine hs_iald j4 dL_law_666 ha3 hi5 hj6 ?_
  refine hs_aload_n dL_law_667 rfl ?_
  refine hs_iload dL_law_668 rfl ?_
  refine hs_iconst (v := 2) dL_law_670 (by decide) ?_
  refine hs_iadd dL_law_671 ?_
  refine hs_iald j7 dL_law_672 ha3 hi8 hj9 ?_
  refine hs_aload_n dL_law_673 rfl ?_
  refine hs_iload dL_law_674 rfl ?_
  refine hs_iconst (v := 3) dL_law_676 (by decide) ?_
  refine hs_iadd dL_law_677 ?_
  refine hs_iald j10 dL_law_678 ha3 hi11 hj12 ?_
  exact hk_z0 (hs_vir (M' := m_X9_said) (vs := [.int (f2 j4), .int (f2 j7), .int (f2 j10)]) (c1 := 0) (s1 := 0) dL_law_679 wd_487 vi_X9_said hrec rfl (Nat.le_of_ble_eq_true rfl) hc hq_i (hc_i (fun z h9 k9 => k9)))
theorem b_L_law_682 {G : hk_G} {d cb sb : Nat} {h : hk_H} {Q : hk_O → hk_H → Prop} {s0 : Int32} {r2 : Nat} {r0 : Nat} {x4 : Int32} {n1 : Nat} {f2 : Nat → Int32} {fs_ : List Value} {o1 : Option Value} {o3 : Option Value} {o5 : Option Value} {o6 : Option Value} {o7 : Option Value} (ha3 : h.2 r0 = some (.inl (0, n1, .inl f2))) (j4 : Nat) (hi5 : (x4 + 1 : Int32).toInt = (j4 : Int)) (hj6 : j4 < n1) (j7 : Nat) (hi8 : (x4 + 2 : Int32).toInt = (j7 : Int)) (hj9 : j7 < n1) (j10 : Nat) (hi11 : (x4 + 3 : Int32).toInt = (j10 : Int)) (hj12 : j10 < n1) (hrec : h.2 r2 = some (.inr (10, fs_))) (hc : hk_Ci G m_X10_said d 0 0 [.ref r2, .int (f2 j4), .int (f2 j7), .int (f2 j10)] h (fun z h' => hk_S G m_L_law (d + 1) cb sb 704 [some (.ref r0), o1, some (.ref r2), o3, some (.int x4), o5, o6, o7] [.int z, .int s0] h' Q)) : hk_S G m_L_law (d + 1) cb sb 682 [some (.ref r0), o1, some (.ref r2), o3, some (.int x4), o5, o6, o7] [.int s0] h Q := by
  refine hs_aload_n dL_law_682 rfl ?_
  refine hs_aload_n dL_law_683 rfl ?_
  refine hs_iload dL_law_684 rfl ?_
  refine hs_iconst (v := 1) dL_law_686 (by decide) ?_
  refine hs_iadd dL_law_687 ?_
  refine hs_iald j4 dL_law_688 ha3 hi5 hj6 ?_
  refine hs_aload_n dL_law_689 rfl ?_
  refine hs_iload dL_law_690 rfl ?_
  refine hs_iconst (v := 2) dL_law_692 (by decide) ?_
  refine hs_iadd dL_law_693 ?_
  refine hs_iald j7 dL_law_694 ha3 hi8 hj9 ?_
  refine hs_aload_n dL_law_695 rfl ?_
  refine hs_iload dL_law_696 rfl ?_
  refine hs_iconst (v := 3) dL_law_698 (by decide) ?_
  refine hs_iadd dL_law_699 ?_
  refine hs_iald j10 dL_law_700 ha3 hi11 hj12 ?_
  exact hk_z0 (hs_vir (M' := m_X10_said) (vs := [.int (f2 j4), .int (f2 j7), .int (f2 j10)]) (c1 := 0) (s1 := 0) dL_law_701 wd_1293 vi_X10_said hrec rfl (Nat.le_of_ble_eq_true rfl) hc hq_i (hc_i (fun z h9 k9 => k9)))
theorem b_L_law_704 {G : hk_G} {d cb sb : Nat} {h : hk_H} {Q : hk_O → hk_H → Prop} {s0 : Int32} {s1 : Int32} {o0 : Option Value} {o1 : Option Value} {o2 : Option Value} {o3 : Option Value} {o4 : Option Value} {o5 : Option Value} {o6 : Option Value} {o7 : Option Value} (kt : s0 = s1 → hk_S G m_L_law (d + 1) cb sb 1974 [o0, o1, o2, o3, o4, o5, o6, o7] [] h Q) (kf : ¬ s0 = s1 → hk_S G m_L_law (d + 1) cb sb 707 [o0, o1, o2, o3, o4, o5, o6, o7] [] h Q) : hk_S G m_L_law (d + 1) cb sb 704 [o0, o1, o2, o3, o4, o5, o6, o7] [.int s1, .int s0] h Q := by
  exact hs_icmp_eq dL_law_704 (by decide) kt kf
theorem b_L_law_707 {G : hk_G} {d cb sb : Nat} {h : hk_H} {Q : hk_O → hk_H → Prop} {o0 : Option Value} {o1 : Option Value} {o2 : Option Value} {o3 : Option Value} {o4 : Option Value} {o5 : Option Value} {o6 : Option Value} {o7 : Option Value} (hq : Q (.inl (some (.int 0))) h) : hk_S G m_L_law (d + 1) cb sb 707 [o0, o1, o2, o3, o4, o5, o6, o7] [] h Q := by
  refine hs_iconst (v := 0) dL_law_707 (by decide) ?_
  exact hs_zret dL_law_708 rfl (by decide) hq
theorem b_L_law_709 {G : hk_G} {d cb sb : Nat} {h : hk_H} {Q : hk_O → hk_H → Prop} {r1 : Nat} {r0 : Nat} {x4 : Int32} {n1 : Nat} {f2 : Nat → Int32} {r3 : Nat} {cq : Nat} {sq : Nat} {o2 : Option Value} {o5 : Option Value} {o6 : Option Value} {o7 : Option Value} (ha3 : h.2 r0 = some (.inl (0, n1, .inl f2))) (j4 : Nat) (hi5 : (x4 + 1 : Int32).toInt = (j4 : Int)) (hj6 : j4 < n1) (j7 : Nat) (hi8 : (x4 + 2 : Int32).toInt = (j7 : Int)) (hj9 : j7 < n1) (j10 : Nat) (hi11 : (x4 + 3 : Int32).toInt = (j10 : Int)) (hj12 : j10 < n1) (j13 : Nat) (hi14 : (x4 + 4 : Int32).toInt = (j13 : Int)) (hj15 : j13 < n1) (hc : hk_Ci G m_L_gain d cq sq [.ref r1, .int (f2 j4), .int (f2 j7), .int (f2 j10), .int (f2 j13), .ref r3] h (fun z h' => hk_S G m_L_law (d + 1) cb sb 738 [some (.ref r0), some (.ref r1), o2, some (.ref r3), some (.int x4), o5, o6, o7] [.int z] h' Q)) : hk_S G m_L_law (d + 1) (cq + cb) (sq + sb) 709 [some (.ref r0), some (.ref r1), o2, some (.ref r3), some (.int x4), o5, o6, o7] [] h Q := by
  refine hs_aload_n dL_law_709 rfl ?_
  refine hs_aload_n dL_law_710 rfl ?_
  refine hs_iload dL_law_711 rfl ?_
  refine hs_iconst (v := 1) dL_law_713 (by decide) ?_
  refine hs_iadd dL_law_714 ?_
  refine hs_iald j4 dL_law_715 ha3 hi5 hj6 ?_
  refine hs_aload_n dL_law_716 rfl ?_
  refine hs_iload dL_law_717 rfl ?_
  refine hs_iconst (v := 2) dL_law_719 (by decide) ?_
  refine hs_iadd dL_law_720 ?_
  refine hs_iald j7 dL_law_721 ha3 hi8 hj9 ?_
  refine hs_aload_n dL_law_722 rfl ?_
  refine hs_iload dL_law_723 rfl ?_
  refine hs_iconst (v := 3) dL_law_725 (by decide) ?_
  refine hs_iadd dL_law_726 ?_
  refine hs_iald j10 dL_law_727 ha3 hi11 hj12 ?_
  refine hs_aload_n dL_law_728 rfl ?_
  refine hs_iload dL_law_729 rfl ?_
  refine hs_iconst (v := 4) dL_law_731 (by decide) ?_
  refine hs_iadd dL_law_732 ?_
  refine hs_iald j13 dL_law_733 ha3 hi14 hj15 ?_
  refine hs_aload_n dL_law_734 rfl ?_
  exact hs_callSH (M' := m_L_gain) (vs := [.ref r1, .int (f2 j4), .int (f2 j7), .int (f2 j10), .int (f2 j13), .ref r3]) dL_law_735 ok_L_gain (by decide) wd_1044 wd_1045 rfl (Nat.le_of_ble_eq_true rfl) hc hq_i (hc_i (fun z h9 k9 => k9))
theorem b_L_law_738 {G : hk_G} {d cb sb : Nat} {h : hk_H} {Q : hk_O → hk_H → Prop} {s0 : Int32} {r2 : Nat} {r0 : Nat} {x4 : Int32} {n1 : Nat} {f2 : Nat → Int32} {fs_ : List Value} {o1 : Option Value} {o3 : Option Value} {o5 : Option Value} {o6 : Option Value} {o7 : Option Value} (ha3 : h.2 r0 = some (.inl (0, n1, .inl f2))) (j4 : Nat) (hi5 : (x4 + 1 : Int32).toInt = (j4 : Int)) (hj6 : j4 < n1) (j7 : Nat) (hi8 : (x4 + 2 : Int32).toInt = (j7 : Int)) (hj9 : j7 < n1) (j10 : Nat) (hi11 : (x4 + 3 : Int32).toInt = (j10 : Int)) (hj12 : j10 < n1) (j13 : Nat) (hi14 : (x4 + 4 : Int32).toInt = (j13 : Int)) (hj15 : j13 < n1) (hrec : h.2 r2 = some (.inr (10, fs_))) (hc : hk_Ci G m_X10_gain d 0 0 [.ref r2, .int (f2 j4), .int (f2 j7), .int (f2 j10), .int (f2 j13)] h (fun z h' => hk_S G m_L_law (d + 1) cb sb 768 [some (.ref r0), o1, some (.ref r2), o3, some (.int x4), some (.int s0), o6, o7] [.int z] h' Q)) : hk_S G m_L_law (d + 1) cb sb 738 [some (.ref r0), o1, some (.ref r2), o3, some (.int x4), o5, o6, o7] [.int s0] h Q := by
  refine hs_istK dL_law_738 (by decide) (hk_nk1 rfl hk_c1i) rfl ?_
  refine hs_aload_n dL_law_740 rfl ?_
  refine hs_aload_n dL_law_741 rfl ?_
  refine hs_iload dL_law_742 rfl ?_
  refine hs_iconst (v := 1) dL_law_744 (by decide) ?_
  refine hs_iadd dL_law_745 ?_
  refine hs_iald j4 dL_law_746 ha3 hi5 hj6 ?_
  refine hs_aload_n dL_law_747 rfl ?_
  refine hs_iload dL_law_748 rfl ?_
  refine hs_iconst (v := 2) dL_law_750 (by decide) ?_
  refine hs_iadd dL_law_751 ?_
  refine hs_iald j7 dL_law_752 ha3 hi8 hj9 ?_
  refine hs_aload_n dL_law_753 rfl ?_
  refine hs_iload dL_law_754 rfl ?_
  refine hs_iconst (v := 3) dL_law_756 (by decide) ?_
  refine hs_iadd dL_law_757 ?_
  refine hs_iald j10 dL_law_758 ha3 hi11 hj12 ?_
  refine hs_aload_n dL_law_759 rfl ?_
  refine hs_iload dL_law_760 rfl ?_
  refine hs_iconst (v := 4) dL_law_762 (by decide) ?_
  refine hs_iadd dL_law_763 ?_
  refine hs_iald j13 dL_law_764 ha3 hi14 hj15 ?_
  exact hk_z0 (hs_vir (M' := m_X10_gain) (vs := [.int (f2 j4), .int (f2 j7), .int (f2 j10), .int (f2 j13)]) (c1 := 0) (s1 := 0) dL_law_765 wd_1301 vi_X10_gain hrec rfl (Nat.le_of_ble_eq_true rfl) hc hq_i (hc_i (fun z h9 k9 => k9)))
theorem b_L_law_768 {G : hk_G} {d cb sb : Nat} {h : hk_H} {Q : hk_O → hk_H → Prop} {s0 : Int32} {r2 : Nat} {fs_ : List Value} {o0 : Option Value} {o1 : Option Value} {o3 : Option Value} {o4 : Option Value} {o5 : Option Value} {o6 : Option Value} {o7 : Option Value} (hrec : h.2 r2 = some (.inr (10, fs_))) (hc : hk_Ci G m_X10_thrown d 0 0 [.ref r2] h (fun z h' => hk_S G m_L_law (d + 1) cb sb 774 [o0, o1, some (.ref r2), o3, o4, o5, some (.int s0), o7] [.int z] h' Q)) (ho5 : hk_c1 o5 := by first | exact hk_c1i | exact hk_c1r | exact hk_c10 | exact hk_c1n) : hk_S G m_L_law (d + 1) cb sb 768 [o0, o1, some (.ref r2), o3, o4, o5, o6, o7] [.int s0] h Q := by
  refine hs_istK dL_law_768 (by decide) (hk_nk1 rfl ho5) rfl ?_
  refine hs_aload_n dL_law_770 rfl ?_
  exact hk_z0 (hs_vir (M' := m_X10_thrown) (vs := []) (c1 := 0) (s1 := 0) dL_law_771 wd_1214 vi_X10_thrown hrec rfl (Nat.le_of_ble_eq_true rfl) hc hq_i (hc_i (fun z h9 k9 => k9)))
theorem b_L_law_774 {G : hk_G} {d cb sb : Nat} {h : hk_H} {Q : hk_O → hk_H → Prop} {s0 : Int32} {x5 : Int32} {o0 : Option Value} {o1 : Option Value} {o2 : Option Value} {o3 : Option Value} {o4 : Option Value} {o6 : Option Value} {o7 : Option Value} (kt : s0 = x5 → hk_S G m_L_law (d + 1) cb sb 781 [o0, o1, o2, o3, o4, some (.int x5), o6, o7] [] h Q) (kf : ¬ s0 = x5 → hk_S G m_L_law (d + 1) cb sb 779 [o0, o1, o2, o3, o4, some (.int x5), o6, o7] [] h Q) : hk_S G m_L_law (d + 1) cb sb 774 [o0, o1, o2, o3, o4, some (.int x5), o6, o7] [.int s0] h Q := by
  refine hs_iload dL_law_774 rfl ?_
  exact hs_icmp_eq dL_law_776 (by decide) kt kf
theorem b_L_law_779 {G : hk_G} {d cb sb : Nat} {h : hk_H} {Q : hk_O → hk_H → Prop} {o0 : Option Value} {o1 : Option Value} {o2 : Option Value} {o3 : Option Value} {o4 : Option Value} {o5 : Option Value} {o6 : Option Value} {o7 : Option Value} (hq : Q (.inl (some (.int 0))) h) : hk_S G m_L_law (d + 1) cb sb 779 [o0, o1, o2, o3, o4, o5, o6, o7] [] h Q := by
  refine hs_iconst (v := 0) dL_law_779 (by decide) ?_
  exact hs_zret dL_law_780 rfl (by decide) hq
theorem b_L_law_781 {G : hk_G} {d cb sb : Nat} {h : hk_H} {Q : hk_O → hk_H → Prop} {x5 : Int32} {o0 : Option Value} {o1 : Option Value} {o2 : Option Value} {o3 : Option Value} {o4 : Option Value} {o6 : Option Value} {o7 : Option Value} (kt : ¬ x5 = 0 → hk_S G m_L_law (d + 1) cb sb 798 [o0, o1, o2, o3, o4, some (.int x5), o6, o7] [] h Q) (kf : x5 = 0 → hk_S G m_L_law (d + 1) cb sb 786 [o0, o1, o2, o3, o4, some (.int x5), o6, o7] [] h Q) : hk_S G m_L_law (d + 1) cb sb 781 [o0, o1, o2, o3, o4, some (.int x5), o6, o7] [] h Q := by
  refine hs_iload dL_law_781 rfl ?_
  exact hs_if_ne dL_law_783 (by decide) kt kf
theorem b_L_law_786 {G : hk_G} {d cb sb : Nat} {h : hk_H} {Q : hk_O → hk_H → Prop} {r3 : Nat} {n1 : Nat} {f2 : Nat → Int64} {x6 : Int32} {o0 : Option Value} {o1 : Option Value} {o2 : Option Value} {o4 : Option Value} {o5 : Option Value} {o7 : Option Value} (ha3 : h.2 r3 = some (.inl (1, n1, .inr (.inl f2)))) (j4 : Nat) (hi5 : (0 : Int32).toInt = (j4 : Int)) (hj6 : j4 < n1) (kt : (lg_cmp (f2 j4) x6.toInt64) = 0 → hk_S G m_L_law (d + 1) cb sb 798 [o0, o1, o2, some (.ref r3), o4, o5, some (.int x6), o7] [] h Q) (kf : ¬ (lg_cmp (f2 j4) x6.toInt64) = 0 → hk_S G m_L_law (d + 1) cb sb 796 [o0, o1, o2, some (.ref r3), o4, o5, some (.int x6), o7] [] h Q) : hk_S G m_L_law (d + 1) cb sb 786 [o0, o1, o2, some (.ref r3), o4, o5, some (.int x6), o7] [] h Q := by
  refine hs_aload_n dL_law_786 rfl ?_
  refine hs_iconst (v := 0) dL_law_787 (by decide) ?_
  refine hs_lald j4 dL_law_788 ha3 hi5 hj6 ?_
  refine hs_iload dL_law_789 rfl ?_
  refine hs_i2l dL_law_791 ?_
  refine hs_lcmp dL_law_792 ?_
  exact hs_if_eq dL_law_793 (by decide) kt kf
theorem b_L_law_796 {G : hk_G} {d cb sb : Nat} {h : hk_H} {Q : hk_O → hk_H → Prop} {o0 : Option Value} {o1 : Option Value} {o2 : Option Value} {o3 : Option Value} {o4 : Option Value} {o5 : Option Value} {o6 : Option Value} {o7 : Option Value} (hq : Q (.inl (some (.int 0))) h) : hk_S G m_L_law (d + 1) cb sb 796 [o0, o1, o2, o3, o4, o5, o6, o7] [] h Q := by
  refine hs_iconst (v := 0) dL_law_796 (by decide) ?_
  exact hs_zret dL_law_797 rfl (by decide) hq
theorem b_L_law_798 {G : hk_G} {d cb sb : Nat} {h : hk_H} {Q : hk_O → hk_H → Prop} {x4 : Int32} {o0 : Option Value} {o1 : Option Value} {o2 : Option Value} {o3 : Option Value} {o5 : Option Value} {o6 : Option Value} {o7 : Option Value} (k : hk_S G m_L_law (d + 1) cb sb 43 [o0, o1, o2, o3, some (.int (x4 + 6)), o5, o6, o7] [] h Q) (ho3 : hk_c1 o3 := by first | exact hk_c1i | exact hk_c1r | exact hk_c10 | exact hk_c1n) : hk_S G m_L_law (d + 1) cb sb 798 [o0, o1, o2, o3, some (.int x4), o5, o6, o7] [] h Q := by
  refine hs_goto dL_law_798 (tgt := 1974) (by decide) ?_
  refine hs_iincK (v := 6) dL_law_1974 rfl (by decide) (by decide) (hk_nk1 rfl ho3) rfl ?_
  refine hs_goto dL_law_1977 (tgt := 43) (by decide) ?_
  exact k
theorem b_L_law_801 {G : hk_G} {d cb sb : Nat} {h : hk_H} {Q : hk_O → hk_H → Prop} {r1 : Nat} {r0 : Nat} {x4 : Int32} {n1 : Nat} {f2 : Nat → Int32} {fs_ : List Value} {o2 : Option Value} {o3 : Option Value} {o5 : Option Value} {o6 : Option Value} {o7 : Option Value} (ha3 : h.2 r0 = some (.inl (0, n1, .inl f2))) (j4 : Nat) (hi5 : (x4 + 1 : Int32).toInt = (j4 : Int)) (hj6 : j4 < n1) (j7 : Nat) (hi8 : (x4 + 2 : Int32).toInt = (j7 : Int)) (hj9 : j7 < n1) (hrec : h.2 r1 = some (.inr (9, fs_))) (hc : hk_Ci G m_X9_lie d 0 0 [.ref r1, .int (f2 j4), .int (f2 j7)] h (fun z h' => hk_S G m_L_law (d + 1) cb sb 817 [some (.ref r0), some (.ref r1), o2, o3, some (.int x4), o5, o6, o7] [.int z] h' Q)) : hk_S G m_L_law (d + 1) cb sb 801 [some (.ref r0), some (.ref r1), o2, o3, some (.int x4), o5, o6, o7] [] h Q := by
  refine hs_aload_n dL_law_801 rfl ?_
  refine hs_aload_n dL_law_802 rfl ?_
  refine hs_iload dL_law_803 rfl ?_
  refine hs_iconst (v := 1) dL_law_805 (by decide) ?_
  refine hs_iadd dL_law_806 ?_
  refine hs_iald j4 dL_law_807 ha3 hi5 hj6 ?_
  refine hs_aload_n dL_law_808 rfl ?_
  refine hs_iload dL_law_809 rfl ?_
  refine hs_iconst (v := 2) dL_law_811 (by decide) ?_
  refine hs_iadd dL_law_812 ?_
  refine hs_iald j7 dL_law_813 ha3 hi8 hj9 ?_
  exact hk_z0 (hs_vir (M' := m_X9_lie) (vs := [.int (f2 j4), .int (f2 j7)]) (c1 := 0) (s1 := 0) dL_law_814 wd_496 vi_X9_lie hrec rfl (Nat.le_of_ble_eq_true rfl) hc hq_i (hc_i (fun z h9 k9 => k9)))
theorem b_L_law_817 {G : hk_G} {d cb sb : Nat} {h : hk_H} {Q : hk_O → hk_H → Prop} {s0 : Int32} {r2 : Nat} {r0 : Nat} {x4 : Int32} {n1 : Nat} {f2 : Nat → Int32} {fs_ : List Value} {o1 : Option Value} {o3 : Option Value} {o5 : Option Value} {o6 : Option Value} {o7 : Option Value} (ha3 : h.2 r0 = some (.inl (0, n1, .inl f2))) (j4 : Nat) (hi5 : (x4 + 1 : Int32).toInt = (j4 : Int)) (hj6 : j4 < n1) (j7 : Nat) (hi8 : (x4 + 2 : Int32).toInt = (j7 : Int)) (hj9 : j7 < n1) (hrec : h.2 r2 = some (.inr (10, fs_))) (hc : hk_Ci G m_X10_lie d 0 0 [.ref r2, .int (f2 j4), .int (f2 j7)] h (fun z h' => hk_S G m_L_law (d + 1) cb sb 833 [some (.ref r0), o1, some (.ref r2), o3, some (.int x4), o5, o6, o7] [.int z, .int s0] h' Q)) : hk_S G m_L_law (d + 1) cb sb 817 [some (.ref r0), o1, some (.ref r2), o3, some (.int x4), o5, o6, o7] [.int s0] h Q := by
  refine hs_aload_n dL_law_817 rfl ?_
  refine hs_aload_n dL_law_818 rfl ?_
  refine hs_iload dL_law_819 rfl ?_
  refine hs_iconst (v := 1) dL_law_821 (by decide) ?_
  refine hs_iadd dL_law_822 ?_
  refine hs_iald j4 dL_law_823 ha3 hi5 hj6 ?_
  refine hs_aload_n dL_law_824 rfl ?_
  refine hs_iload dL_law_825 rfl ?_
  refine hs_iconst (v := 2) dL_law_827 (by decide) ?_
  refine hs_iadd dL_law_828 ?_
  refine hs_iald j7 dL_law_829 ha3 hi8 hj9 ?_
  exact hk_z0 (hs_vir (M' := m_X10_lie) (vs := [.int (f2 j4), .int (f2 j7)]) (c1 := 0) (s1 := 0) dL_law_830 wd_1313 vi_X10_lie hrec rfl (Nat.le_of_ble_eq_true rfl) hc hq_i (hc_i (fun z h9 k9 => k9)))
theorem b_L_law_833 {G : hk_G} {d cb sb : Nat} {h : hk_H} {Q : hk_O → hk_H → Prop} {s0 : Int32} {s1 : Int32} {o0 : Option Value} {o1 : Option Value} {o2 : Option Value} {o3 : Option Value} {o4 : Option Value} {o5 : Option Value} {o6 : Option Value} {o7 : Option Value} (kt : s0 = s1 → hk_S G m_L_law (d + 1) cb sb 1974 [o0, o1, o2, o3, o4, o5, o6, o7] [] h Q) (kf : ¬ s0 = s1 → hk_S G m_L_law (d + 1) cb sb 836 [o0, o1, o2, o3, o4, o5, o6, o7] [] h Q) : hk_S G m_L_law (d + 1) cb sb 833 [o0, o1, o2, o3, o4, o5, o6, o7] [.int s1, .int s0] h Q := by
  exact hs_icmp_eq dL_law_833 (by decide) kt kf
theorem b_L_law_836 {G : hk_G} {d cb sb : Nat} {h : hk_H} {Q : hk_O → hk_H → Prop} {o0 : Option Value} {o1 : Option Value} {o2 : Option Value} {o3 : Option Value} {o4 : Option Value} {o5 : Option Value} {o6 : Option Value} {o7 : Option Value} (hq : Q (.inl (some (.int 0))) h) : hk_S G m_L_law (d + 1) cb sb 836 [o0, o1, o2, o3, o4, o5, o6, o7] [] h Q := by
  refine hs_iconst (v := 0) dL_law_836 (by decide) ?_
  exact hs_zret dL_law_837 rfl (by decide) hq
theorem b_L_law_838 {G : hk_G} {d cb sb : Nat} {h : hk_H} {Q : hk_O → hk_H → Prop} {r1 : Nat} {r0 : Nat} {x4 : Int32} {n1 : Nat} {f2 : Nat → Int32} {fs_ : List Value} {o2 : Option Value} {o3 : Option Value} {o5 : Option Value} {o6 : Option Value} {o7 : Option Value} (ha3 : h.2 r0 = some (.inl (0, n1, .inl f2))) (j4 : Nat) (hi5 : (x4 + 1 : Int32).toInt = (j4 : Int)) (hj6 : j4 < n1) (hrec : h.2 r1 = some (.inr (9, fs_))) (hc : hk_Ci G m_X9_lies d 0 0 [.ref r1, .int (f2 j4)] h (fun z h' => hk_S G m_L_law (d + 1) cb sb 848 [some (.ref r0), some (.ref r1), o2, o3, some (.int x4), o5, o6, o7] [.int z] h' Q)) : hk_S G m_L_law (d + 1) cb sb 838 [some (.ref r0), some (.ref r1), o2, o3, some (.int x4), o5, o6, o7] [] h Q := by
  refine hs_aload_n dL_law_838 rfl ?_
  refine hs_aload_n dL_law_839 rfl ?_
  refine hs_iload dL_law_840 rfl ?_
  refine hs_iconst (v := 1) dL_law_842 (by decide) ?_
  refine hs_iadd dL_law_843 ?_
  refine hs_iald j4 dL_law_844 ha3 hi5 hj6 ?_
  exact hk_z0 (hs_vir (M' := m_X9_lies) (vs := [.int (f2 j4)]) (c1 := 0) (s1 := 0) dL_law_845 wd_532 vi_X9_lies hrec rfl (Nat.le_of_ble_eq_true rfl) hc hq_i (hc_i (fun z h9 k9 => k9)))
theorem b_L_law_848 {G : hk_G} {d cb sb : Nat} {h : hk_H} {Q : hk_O → hk_H → Prop} {s0 : Int32} {r2 : Nat} {r0 : Nat} {x4 : Int32} {n1 : Nat} {f2 : Nat → Int32} {fs_ : List Value} {o1 : Option Value} {o3 : Option Value} {o5 : Option Value} {o6 : Option Value} {o7 : Option Value} (ha3 : h.2 r0 = some (.inl (0, n1, .inl f2))) (j4 : Nat) (hi5 : (x4 + 1 : Int32).toInt = (j4 : Int)) (hj6 : j4 < n1) (hrec : h.2 r2 = some (.inr (10, fs_))) (hc : hk_Ci G m_X10_lies d 0 0 [.ref r2, .int (f2 j4)] h (fun z h' => hk_S G m_L_law (d + 1) cb sb 858 [some (.ref r0), o1, some (.ref r2), o3, some (.int x4), o5, o6, o7] [.int z, .int s0] h' Q)) : hk_S G m_L_law (d + 1) cb sb 848 [some (.ref r0), o1, some (.ref r2), o3, some (.int x4), o5, o6, o7] [.int s0] h Q := by
  refine hs_aload_n dL_law_848 rfl ?_
  refine hs_aload_n dL_law_849 rfl ?_
  refine hs_iload dL_law_850 rfl ?_
  refine hs_iconst (v := 1) dL_law_852 (by decide) ?_
  refine hs_iadd dL_law_853 ?_
  refine hs_iald j4 dL_law_854 ha3 hi5 hj6 ?_
  exact hk_z0 (hs_vir (M' := m_X10_lies) (vs := [.int (f2 j4)]) (c1 := 0) (s1 := 0) dL_law_855 wd_1317 vi_X10_lies hrec rfl (Nat.le_of_ble_eq_true rfl) hc hq_i (hc_i (fun z h9 k9 => k9)))
theorem b_L_law_858 {G : hk_G} {d cb sb : Nat} {h : hk_H} {Q : hk_O → hk_H → Prop} {s0 : Int32} {s1 : Int32} {o0 : Option Value} {o1 : Option Value} {o2 : Option Value} {o3 : Option Value} {o4 : Option Value} {o5 : Option Value} {o6 : Option Value} {o7 : Option Value} (kt : s0 = s1 → hk_S G m_L_law (d + 1) cb sb 1974 [o0, o1, o2, o3, o4, o5, o6, o7] [] h Q) (kf : ¬ s0 = s1 → hk_S G m_L_law (d + 1) cb sb 861 [o0, o1, o2, o3, o4, o5, o6, o7] [] h Q) : hk_S G m_L_law (d + 1) cb sb 858 [o0, o1, o2, o3, o4, o5, o6, o7] [.int s1, .int s0] h Q := by
  exact hs_icmp_eq dL_law_858 (by decide) kt kf
theorem b_L_law_861 {G : hk_G} {d cb sb : Nat} {h : hk_H} {Q : hk_O → hk_H → Prop} {o0 : Option Value} {o1 : Option Value} {o2 : Option Value} {o3 : Option Value} {o4 : Option Value} {o5 : Option Value} {o6 : Option Value} {o7 : Option Value} (hq : Q (.inl (some (.int 0))) h) : hk_S G m_L_law (d + 1) cb sb 861 [o0, o1, o2, o3, o4, o5, o6, o7] [] h Q := by
  refine hs_iconst (v := 0) dL_law_861 (by decide) ?_
  exact hs_zret dL_law_862 rfl (by decide) hq
theorem b_L_law_863 {G : hk_G} {d cb sb : Nat} {h : hk_H} {Q : hk_O → hk_H → Prop} {r1 : Nat} {r0 : Nat} {x4 : Int32} {n1 : Nat} {f2 : Nat → Int32} {o2 : Option Value} {o3 : Option Value} {o5 : Option Value} {o6 : Option Value} {o7 : Option Value} (ha3 : h.2 r0 = some (.inl (0, n1, .inl f2))) (j4 : Nat) (hi5 : (x4 + 1 : Int32).toInt = (j4 : Int)) (hj6 : j4 < n1) (j7 : Nat) (hi8 : (x4 + 2 : Int32).toInt = (j7 : Int)) (hj9 : j7 < n1) (j10 : Nat) (hi11 : (x4 + 3 : Int32).toInt = (j10 : Int)) (hj12 : j10 < n1) (kt : (f2 j10) = 0 → hk_S G m_L_law (d + 1) cb sb 889 [some (.ref r0), some (.ref r1), o2, o3, some (.int x4), o5, o6, o7] [.int (f2 j7), .int (f2 j4), .ref r1] h Q) (kf : ¬ (f2 j10) = 0 → hk_S G m_L_law (d + 1) cb sb 885 [some (.ref r0), some (.ref r1), o2, o3, some (.int x4), o5, o6, o7] [.int (f2 j7), .int (f2 j4), .ref r1] h Q) : hk_S G m_L_law (d + 1) cb sb 863 [some (.ref r0), some (.ref r1), o2, o3, some (.int x4), o5, o6, o7] [] h Q := by
  refine hs_aload_n dL_law_863 rfl ?_
  refine hs_aload_n dL_law_864 rfl ?_
  refine hs_iload dL_law_865 rfl ?_
  refine hs_iconst (v := 1) dL_law_867 (by decide) ?_
  refine hs_iadd dL_law_868 ?_
  refine hs_iald j4 dL_law_869 ha3 hi5 hj6 ?_
  refine hs_aload_n dL_law_870 rfl ?_
  refine hs_iload dL_law_871 rfl ?_
  refine hs_iconst (v := 2) dL_law_873 (by decide) ?_
  refine hs_iadd dL_law_874 ?_
  refine hs_iald j7 dL_law_875 ha3 hi8 hj9 ?_
  refine hs_aload_n dL_law_876 rfl ?_
  refine hs_iload dL_law_877 rfl ?_
  refine hs_iconst (v := 3) dL_law_879 (by decide) ?_
  refine hs_iadd dL_law_880 ?_
  refine hs_iald j10 dL_law_881 ha3 hi11 hj12 ?_
  exact hs_if_eq dL_law_882 (by decide) kt kf
theorem b_L_law_885 {G : hk_G} {d cb sb : Nat} {h : hk_H} {Q : hk_O → hk_H → Prop} {s0 : Nat} {s1 : Int32} {s2 : Int32} {fs_ : List Value} {o0 : Option Value} {o1 : Option Value} {o2 : Option Value} {o3 : Option Value} {o4 : Option Value} {o5 : Option Value} {o6 : Option Value} {o7 : Option Value} (hrec : h.2 s0 = some (.inr (9, fs_))) (hc : hk_Ci G m_X9_heap d 0 0 [.ref s0, .int s1, .int s2, .int 1] h (fun z h' => hk_S G m_L_law (d + 1) cb sb 893 [o0, o1, o2, o3, o4, o5, o6, o7] [.int z] h' Q)) : hk_S G m_L_law (d + 1) cb sb 885 [o0, o1, o2, o3, o4, o5, o6, o7] [.int s2, .int s1, .ref s0] h Q := by
  refine hs_iconst (v := 1) dL_law_885 (by decide) ?_
  refine hs_goto dL_law_886 (tgt := 890) (by decide) ?_
  exact hk_z0 (hs_vir (M' := m_X9_heap) (vs := [.int s1, .int s2, .int 1]) (c1 := 0) (s1 := 0) dL_law_890 wd_540 vi_X9_heap hrec rfl (Nat.le_of_ble_eq_true rfl) hc hq_i (hc_i (fun z h9 k9 => k9)))
theorem b_L_law_889 {G : hk_G} {d cb sb : Nat} {h : hk_H} {Q : hk_O → hk_H → Prop} {s0 : Nat} {s1 : Int32} {s2 : Int32} {fs_ : List Value} {o0 : Option Value} {o1 : Option Value} {o2 : Option Value} {o3 : Option Value} {o4 : Option Value} {o5 : Option Value} {o6 : Option Value} {o7 : Option Value} (hrec : h.2 s0 = some (.inr (9, fs_))) (hc : hk_Ci G m_X9_heap d 0 0 [.ref s0, .int s1, .int s2, .int 0] h (fun z h' => hk_S G m_L_law (d + 1) cb sb 893 [o0, o1, o2, o3, o4, o5, o6, o7] [.int z] h' Q)) : hk_S G m_L_law (d + 1) cb sb 889 [o0, o1, o2, o3, o4, o5, o6, o7] [.int s2, .int s1, .ref s0] h Q := by
  refine hs_iconst (v := 0) dL_law_889 (by decide) ?_
  exact hk_z0 (hs_vir (M' := m_X9_heap) (vs := [.int s1, .int s2, .int 0]) (c1 := 0) (s1 := 0) dL_law_890 wd_540 vi_X9_heap hrec rfl (Nat.le_of_ble_eq_true rfl) hc hq_i (hc_i (fun z h9 k9 => k9)))
theorem b_L_law_890 {G : hk_G} {d cb sb : Nat} {h : hk_H} {Q : hk_O → hk_H → Prop} {s0 : Nat} {s1 : Int32} {s2 : Int32} {s3 : Int32} {fs_ : List Value} {o0 : Option Value} {o1 : Option Value} {o2 : Option Value} {o3 : Option Value} {o4 : Option Value} {o5 : Option Value} {o6 : Option Value} {o7 : Option Value} (hrec : h.2 s0 = some (.inr (9, fs_))) (hc : hk_Ci G m_X9_heap d 0 0 [.ref s0, .int s1, .int s2, .int s3] h (fun z h' => hk_S G m_L_law (d + 1) cb sb 893 [o0, o1, o2, o3, o4, o5, o6, o7] [.int z] h' Q)) : hk_S G m_L_law (d + 1) cb sb 890 [o0, o1, o2, o3, o4, o5, o6, o7] [.int s3, .int s2, .int s1, .ref s0] h Q := by
  exact hk_z0 (hs_vir (M' := m_X9_heap) (vs := [.int s1, .int s2, .int s3]) (c1 := 0) (s1 := 0) dL_law_890 wd_540 vi_X9_heap hrec rfl (Nat.le_of_ble_eq_true rfl) hc hq_i (hc_i (fun z h9 k9 => k9)))
theorem b_L_law_893 {G : hk_G} {d cb sb : Nat} {h : hk_H} {Q : hk_O → hk_H → Prop} {s0 : Int32} {r2 : Nat} {r0 : Nat} {x4 : Int32} {n1 : Nat} {f2 : Nat → Int32} {o1 : Option Value} {o3 : Option Value} {o5 : Option Value} {o6 : Option Value} {o7 : Option Value} (ha3 : h.2 r0 = some (.inl (0, n1, .inl f2))) (j4 : Nat) (hi5 : (x4 + 1 : Int32).toInt = (j4 : Int)) (hj6 : j4 < n1) (j7 : Nat) (hi8 : (x4 + 2 : Int32).toInt = (j7 : Int)) (hj9 : j7 < n1) (j10 : Nat) (hi11 : (x4 + 3 : Int32).toInt = (j10 : Int)) (hj12 : j10 < n1) (kt : (f2 j10) = 0 → hk_S G m_L_law (d + 1) cb sb 919 [some (.ref r0), o1, some (.ref r2), o3, some (.int x4), o5, o6, o7] [.int (f2 j7), .int (f2 j4), .ref r2, .int s0] h Q) (kf : ¬ (f2 j10) = 0 → hk_S G m_L_law (d + 1) cb sb 915 [some (.ref r0), o1, some (.ref r2), o3, some (.int x4), o5, o6, o7] [.int (f2 j7), .int (f2 j4), .ref r2, .int s0] h Q) : hk_S G m_L_law (d + 1) cb sb 893 [some (.ref r0), o1, some (.ref r2), o3, some (.int x4), o5, o6, o7] [.int s0] h Q := by
  refine hs_aload_n dL_law_893 rfl ?_
  refine hs_aload_n dL_law_894 rfl ?_
  refine hs_iload dL_law_895 rfl ?_
  refine hs_iconst (v := 1) dL_law_897 (by decide) ?_
  refine hs_iadd dL_law_898 ?_
  refine hs_iald j4 dL_law_899 ha3 hi5 hj6 ?_
  refine hs_aload_n dL_law_900 rfl ?_
  refine hs_iload dL_law_901 rfl ?_
  refine hs_iconst (v := 2) dL_law_903 (by decide) ?_
  refine hs_iadd dL_law_904 ?_
  refine hs_iald j7 dL_law_905 ha3 hi8 hj9 ?_
  refine hs_aload_n dL_law_906 rfl ?_
  refine hs_iload dL_law_907 rfl ?_
  refine hs_iconst (v := 3) dL_law_909 (by decide) ?_
  refine hs_iadd dL_law_910 ?_
  refine hs_iald j10 dL_law_911 ha3 hi11 hj12 ?_
  exact hs_if_eq dL_law_912 (by decide) kt kf
theorem b_L_law_915 {G : hk_G} {d cb sb : Nat} {h : hk_H} {Q : hk_O → hk_H → Prop} {s0 : Int32} {s1 : Nat} {s2 : Int32} {s3 : Int32} {fs_ : List Value} {o0 : Option Value} {o1 : Option Value} {o2 : Option Value} {o3 : Option Value} {o4 : Option Value} {o5 : Option Value} {o6 : Option Value} {o7 : Option Value} (hrec : h.2 s1 = some (.inr (10, fs_))) (hc : hk_Ci G m_X10_heap d 0 0 [.ref s1, .int s2, .int s3, .int 1] h (fun z h' => hk_S G m_L_law (d + 1) cb sb 923 [o0, o1, o2, o3, o4, o5, o6, o7] [.int z, .int s0] h' Q)) : hk_S G m_L_law (d + 1) cb sb 915 [o0, o1, o2, o3, o4, o5, o6, o7] [.int s3, .int s2, .ref s1, .int s0] h Q := by
  refine hs_iconst (v := 1) dL_law_915 (by decide) ?_
  refine hs_goto dL_law_916 (tgt := 920) (by decide) ?_
  exact hk_z0 (hs_vir (M' := m_X10_heap) (vs := [.int s2, .int s3, .int 1]) (c1 := 0) (s1 := 0) dL_law_920 wd_1321 vi_X10_heap hrec rfl (Nat.le_of_ble_eq_true rfl) hc hq_i (hc_i (fun z h9 k9 => k9)))
theorem b_L_law_919 {G : hk_G} {d cb sb : Nat} {h : hk_H} {Q : hk_O → hk_H → Prop} {s0 : Int32} {s1 : Nat} {s2 : Int32} {s3 : Int32} {fs_ : List Value} {o0 : Option Value} {o1 : Option Value} {o2 : Option Value} {o3 : Option Value} {o4 : Option Value} {o5 : Option Value} {o6 : Option Value} {o7 : Option Value} (hrec : h.2 s1 = some (.inr (10, fs_))) (hc : hk_Ci G m_X10_heap d 0 0 [.ref s1, .int s2, .int s3, .int 0] h (fun z h' => hk_S G m_L_law (d + 1) cb sb 923 [o0, o1, o2, o3, o4, o5, o6, o7] [.int z, .int s0] h' Q)) : hk_S G m_L_law (d + 1) cb sb 919 [o0, o1, o2, o3, o4, o5, o6, o7] [.int s3, .int s2, .ref s1, .int s0] h Q := by
  refine hs_iconst (v := 0) dL_law_919 (by decide) ?_
  exact hk_z0 (hs_vir (M' := m_X10_heap) (vs := [.int s2, .int s3, .int 0]) (c1 := 0) (s1 := 0) dL_law_920 wd_1321 vi_X10_heap hrec rfl (Nat.le_of_ble_eq_true rfl) hc hq_i (hc_i (fun z h9 k9 => k9)))
theorem b_L_law_920 {G : hk_G} {d cb sb : Nat} {h : hk_H} {Q : hk_O → hk_H → Prop} {s0 : Int32} {s1 : Nat} {s2 : Int32} {s3 : Int32} {s4 : Int32} {fs_ : List Value} {o0 : Option Value} {o1 : Option Value} {o2 : Option Value} {o3 : Option Value} {o4 : Option Value} {o5 : Option Value} {o6 : Option Value} {o7 : Option Value} (hrec : h.2 s1 = some (.inr (10, fs_))) (hc : hk_Ci G m_X10_heap d 0 0 [.ref s1, .int s2, .int s3, .int s4] h (fun z h' => hk_S G m_L_law (d + 1) cb sb 923 [o0, o1, o2, o3, o4, o5, o6, o7] [.int z, .int s0] h' Q)) : hk_S G m_L_law (d + 1) cb sb 920 [o0, o1, o2, o3, o4, o5, o6, o7] [.int s4, .int s3, .int s2, .ref s1, .int s0] h Q := by
  exact hk_z0 (hs_vir (M' := m_X10_heap) (vs := [.int s2, .int s3, .int s4]) (c1 := 0) (s1 := 0) dL_law_920 wd_1321 vi_X10_heap hrec rfl (Nat.le_of_ble_eq_true rfl) hc hq_i (hc_i (fun z h9 k9 => k9)))
theorem b_L_law_923 {G : hk_G} {d cb sb : Nat} {h : hk_H} {Q : hk_O → hk_H → Prop} {s0 : Int32} {s1 : Int32} {o0 : Option Value} {o1 : Option Value} {o2 : Option Value} {o3 : Option Value} {o4 : Option Value} {o5 : Option Value} {o6 : Option Value} {o7 : Option Value} (kt : s0 = s1 → hk_S G m_L_law (d + 1) cb sb 1974 [o0, o1, o2, o3, o4, o5, o6, o7] [] h Q) (kf : ¬ s0 = s1 → hk_S G m_L_law (d + 1) cb sb 926 [o0, o1, o2, o3, o4, o5, o6, o7] [] h Q) : hk_S G m_L_law (d + 1) cb sb 923 [o0, o1, o2, o3, o4, o5, o6, o7] [.int s1, .int s0] h Q := by
  exact hs_icmp_eq dL_law_923 (by decide) kt kf
theorem b_L_law_926 {G : hk_G} {d cb sb : Nat} {h : hk_H} {Q : hk_O → hk_H → Prop} {o0 : Option Value} {o1 : Option Value} {o2 : Option Value} {o3 : Option Value} {o4 : Option Value} {o5 : Option Value} {o6 : Option Value} {o7 : Option Value} (hq : Q (.inl (some (.int 0))) h) : hk_S G m_L_law (d + 1) cb sb 926 [o0, o1, o2, o3, o4, o5, o6, o7] [] h Q := by
  refine hs_iconst (v := 0) dL_law_926 (by decide) ?_
  exact hs_zret dL_law_927 rfl (by decide) hq
theorem b_L_law_928 {G : hk_G} {d cb sb : Nat} {h : hk_H} {Q : hk_O → hk_H → Prop} {r1 : Nat} {r0 : Nat} {x4 : Int32} {n1 : Nat} {f2 : Nat → Int32} {fs_ : List Value} {o2 : Option Value} {o3 : Option Value} {o5 : Option Value} {o6 : Option Value} {o7 : Option Value} (ha3 : h.2 r0 = some (.inl (0, n1, .inl f2))) (j4 : Nat) (hi5 : (x4 + 1 : Int32).toInt = (j4 : Int)) (hj6 : j4 < n1) (hrec : h.2 r1 = some (.inr (9, fs_))) (hc : hk_Ci G m_X9_onto d 0 0 [.ref r1, .int (f2 j4)] h (fun z h' => hk_S G m_L_law (d + 1) cb sb 938 [some (.ref r0), some (.ref r1), o2, o3, some (.int x4), o5, o6, o7] [.int z] h' Q)) : hk_S G m_L_law (d + 1) cb sb 928 [some (.ref r0), some (.ref r1), o2, o3, some (.int x4), o5, o6, o7] [] h Q := by
  refine hs_aload_n dL_law_928 rfl ?_
  refine hs_aload_n dL_law_929 rfl ?_
  refine hs_iload dL_law_930 rfl ?_
  refine hs_iconst (v := 1) dL_law_932 (by decide) ?_
  refine hs_iadd dL_law_933 ?_
  refine hs_iald j4 dL_law_934 ha3 hi5 hj6 ?_
  exact hk_z0 (hs_vir (M' := m_X9_onto) (vs := [.int (f2 j4)]) (c1 := 0) (s1 := 0) dL_law_935 wd_609 vi_X9_onto hrec rfl (Nat.le_of_ble_eq_true rfl) hc hq_i (hc_i (fun z h9 k9 => k9)))
theorem b_L_law_938 {G : hk_G} {d cb sb : Nat} {h : hk_H} {Q : hk_O → hk_H → Prop} {s0 : Int32} {r2 : Nat} {r0 : Nat} {x4 : Int32} {n1 : Nat} {f2 : Nat → Int32} {fs_ : List Value} {o1 : Option Value} {o3 : Option Value} {o5 : Option Value} {o6 : Option Value} {o7 : Option Value} (ha3 : h.2 r0 = some (.inl (0, n1, .inl f2))) (j4 : Nat) (hi5 : (x4 + 1 : Int32).toInt = (j4 : Int)) (hj6 : j4 < n1) (hrec : h.2 r2 = some (.inr (10, fs_))) (hc : hk_Ci G m_X10_onto d 0 0 [.ref r2, .int (f2 j4)] h (fun z h' => hk_S G m_L_law (d + 1) cb sb 948 [some (.ref r0), o1, some (.ref r2), o3, some (.int x4), o5, o6, o7] [.int z, .int s0] h' Q)) : hk_S G m_L_law (d + 1) cb sb 938 [some (.ref r0), o1, some (.ref r2), o3, some (.int x4), o5, o6, o7] [.int s0] h Q := by
  refine hs_aload_n dL_law_938 rfl ?_
  refine hs_aload_n dL_law_939 rfl ?_
  refine hs_iload dL_law_940 rfl ?_
  refine hs_iconst (v := 1) dL_law_942 (by decide) ?_
  refine hs_iadd dL_law_943 ?_
  refine hs_iald j4 dL_law_944 ha3 hi5 hj6 ?_
  exact hk_z0 (hs_vir (M' := m_X10_onto) (vs := [.int (f2 j4)]) (c1 := 0) (s1 := 0) dL_law_945 wd_1333 vi_X10_onto hrec rfl (Nat.le_of_ble_eq_true rfl) hc hq_i (hc_i (fun z h9 k9 => k9)))
theorem b_L_law_948 {G : hk_G} {d cb sb : Nat} {h : hk_H} {Q : hk_O → hk_H → Prop} {s0 : Int32} {s1 : Int32} {o0 : Option Value} {o1 : Option Value} {o2 : Option Value} {o3 : Option Value} {o4 : Option Value} {o5 : Option Value} {o6 : Option Value} {o7 : Option Value} (kt : s0 = s1 → hk_S G m_L_law (d + 1) cb sb 1974 [o0, o1, o2, o3, o4, o5, o6, o7] [] h Q) (kf : ¬ s0 = s1 → hk_S G m_L_law (d + 1) cb sb 951 [o0, o1, o2, o3, o4, o5, o6, o7] [] h Q) : hk_S G m_L_law (d + 1) cb sb 948 [o0, o1, o2, o3, o4, o5, o6, o7] [.int s1, .int s0] h Q := by
  exact hs_icmp_eq dL_law_948 (by decide) kt kf
theorem b_L_law_951 {G : hk_G} {d cb sb : Nat} {h : hk_H} {Q : hk_O → hk_H → Prop} {o0 : Option Value} {o1 : Option Value} {o2 : Option Value} {o3 : Option Value} {o4 : Option Value} {o5 : Option Value} {o6 : Option Value} {o7 : Option Value} (hq : Q (.inl (some (.int 0))) h) : hk_S G m_L_law (d + 1) cb sb 951 [o0, o1, o2, o3, o4, o5, o6, o7] [] h Q := by
  refine hs_iconst (v := 0) dL_law_951 (by decide) ?_
  exact hs_zret dL_law_952 rfl (by decide) hq
theorem b_L_law_953 {G : hk_G} {d cb sb : Nat} {h : hk_H} {Q : hk_O → hk_H → Prop} {r1 : Nat} {r0 : Nat} {x4 : Int32} {n1 : Nat} {f2 : Nat → Int32} {fs_ : List Value} {o2 : Option Value} {o3 : Option Value} {o5 : Option Value} {o6 : Option Value} {o7 : Option Value} (ha3 : h.2 r0 = some (.inl (0, n1, .inl f2))) (j4 : Nat) (hi5 : (x4 + 1 : Int32).toInt = (j4 : Int)) (hj6 : j4 < n1) (hrec : h.2 r1 = some (.inr (9, fs_))) (hc : hk_Ci G m_X9_dictator d 0 0 [.ref r1, .int (f2 j4)] h (fun z h' => hk_S G m_L_law (d + 1) cb sb 963 [some (.ref r0), some (.ref r1), o2, o3, some (.int x4), o5, o6, o7] [.int z] h' Q)) : hk_S G m_L_law (d + 1) cb sb 953 [some (.ref r0), some (.ref r1), o2, o3, some (.int x4), o5, o6, o7] [] h Q := by
  refine hs_aload_n dL_law_953 rfl ?_
  refine hs_aload_n dL_law_954 rfl ?_
  refine hs_iload dL_law_955 rfl ?_
  refine hs_iconst (v := 1) dL_law_957 (by decide) ?_
  refine hs_iadd dL_law_958 ?_
  refine hs_iald j4 dL_law_959 ha3 hi5 hj6 ?_
  exact hk_z0 (hs_vir (M' := m_X9_dictator) (vs := [.int (f2 j4)]) (c1 := 0) (s1 := 0) dL_law_960 wd_614 vi_X9_dictator hrec rfl (Nat.le_of_ble_eq_true rfl) hc hq_i (hc_i (fun z h9 k9 => k9)))
theorem b_L_law_963 {G : hk_G} {d cb sb : Nat} {h : hk_H} {Q : hk_O → hk_H → Prop} {s0 : Int32} {r2 : Nat} {r0 : Nat} {x4 : Int32} {n1 : Nat} {f2 : Nat → Int32} {fs_ : List Value} {o1 : Option Value} {o3 : Option Value} {o5 : Option Value} {o6 : Option Value} {o7 : Option Value} (ha3 : h.2 r0 = some (.inl (0, n1, .inl f2))) (j4 : Nat) (hi5 : (x4 + 1 : Int32).toInt = (j4 : Int)) (hj6 : j4 < n1) (hrec : h.2 r2 = some (.inr (10, fs_))) (hc : hk_Ci G m_X10_dictator d 0 0 [.ref r2, .int (f2 j4)] h (fun z h' => hk_S G m_L_law (d + 1) cb sb 973 [some (.ref r0), o1, some (.ref r2), o3, some (.int x4), o5, o6, o7] [.int z, .int s0] h' Q)) : hk_S G m_L_law (d + 1) cb sb 963 [some (.ref r0), o1, some (.ref r2), o3, some (.int x4), o5, o6, o7] [.int s0] h Q := by
  refine hs_aload_n dL_law_963 rfl ?_
  refine hs_aload_n dL_law_964 rfl ?_
  refine hs_iload dL_law_965 rfl ?_
  refine hs_iconst (v := 1) dL_law_967 (by decide) ?_
  refine hs_iadd dL_law_968 ?_
  refine hs_iald j4 dL_law_969 ha3 hi5 hj6 ?_
  exact hk_z0 (hs_vir (M' := m_X10_dictator) (vs := [.int (f2 j4)]) (c1 := 0) (s1 := 0) dL_law_970 wd_1337 vi_X10_dictator hrec rfl (Nat.le_of_ble_eq_true rfl) hc hq_i (hc_i (fun z h9 k9 => k9)))
theorem b_L_law_973 {G : hk_G} {d cb sb : Nat} {h : hk_H} {Q : hk_O → hk_H → Prop} {s0 : Int32} {s1 : Int32} {o0 : Option Value} {o1 : Option Value} {o2 : Option Value} {o3 : Option Value} {o4 : Option Value} {o5 : Option Value} {o6 : Option Value} {o7 : Option Value} (kt : s0 = s1 → hk_S G m_L_law (d + 1) cb sb 1974 [o0, o1, o2, o3, o4, o5, o6, o7] [] h Q) (kf : ¬ s0 = s1 → hk_S G m_L_law (d + 1) cb sb 976 [o0, o1, o2, o3, o4, o5, o6, o7] [] h Q) : hk_S G m_L_law (d + 1) cb sb 973 [o0, o1, o2, o3, o4, o5, o6, o7] [.int s1, .int s0] h Q := by
  exact hs_icmp_eq dL_law_973 (by decide) kt kf
theorem b_L_law_976 {G : hk_G} {d cb sb : Nat} {h : hk_H} {Q : hk_O → hk_H → Prop} {o0 : Option Value} {o1 : Option Value} {o2 : Option Value} {o3 : Option Value} {o4 : Option Value} {o5 : Option Value} {o6 : Option Value} {o7 : Option Value} (hq : Q (.inl (some (.int 0))) h) : hk_S G m_L_law (d + 1) cb sb 976 [o0, o1, o2, o3, o4, o5, o6, o7] [] h Q := by
  refine hs_iconst (v := 0) dL_law_976 (by decide) ?_
  exact hs_zret dL_law_977 rfl (by decide) hq
theorem b_L_law_978 {G : hk_G} {d cb sb : Nat} {h : hk_H} {Q : hk_O → hk_H → Prop} {r1 : Nat} {r0 : Nat} {x4 : Int32} {n1 : Nat} {f2 : Nat → Int32} {o2 : Option Value} {o3 : Option Value} {o5 : Option Value} {o6 : Option Value} {o7 : Option Value} (ha3 : h.2 r0 = some (.inl (0, n1, .inl f2))) (j4 : Nat) (hi5 : (x4 + 1 : Int32).toInt = (j4 : Int)) (hj6 : j4 < n1) (j7 : Nat) (hi8 : (x4 + 2 : Int32).toInt = (j7 : Int)) (hj9 : j7 < n1) (kt : (f2 j7) = 0 → hk_S G m_L_law (d + 1) cb sb 998 [some (.ref r0), some (.ref r1), o2, o3, some (.int x4), o5, o6, o7] [.int (f2 j4), .ref r1] h Q) (kf : ¬ (f2 j7) = 0 → hk_S G m_L_law (d + 1) cb sb 994 [some (.ref r0), some (.ref r1), o2, o3, some (.int x4), o5, o6, o7] [.int (f2 j4), .ref r1] h Q) : hk_S G m_L_law (d + 1) cb sb 978 [some (.ref r0), some (.ref r1), o2, o3, some (.int x4), o5, o6, o7] [] h Q := by
  refine hs_aload_n dL_law_978 rfl ?_
  refine hs_aload_n dL_law_979 rfl ?_
  refine hs_iload dL_law_980 rfl ?_
  refine hs_iconst (v := 1) dL_law_982 (by decide) ?_
  refine hs_iadd dL_law_983 ?_
  refine hs_iald j4 dL_law_984 ha3 hi5 hj6 ?_
  refine hs_aload_n dL_law_985 rfl ?_
  refine hs_iload dL_law_986 rfl ?_
  refine hs_iconst (v := 2) dL_law_988 (by decide) ?_
  refine hs_iadd dL_law_989 ?_
  refine hs_iald j7 dL_law_990 ha3 hi8 hj9 ?_
  exact hs_if_eq dL_law_991 (by decide) kt kf
theorem b_L_law_994 {G : hk_G} {d cb sb : Nat} {h : hk_H} {Q : hk_O → hk_H → Prop} {s0 : Nat} {s1 : Int32} {r3 : Nat} {cq : Nat} {sq : Nat} {o0 : Option Value} {o1 : Option Value} {o2 : Option Value} {o4 : Option Value} {o5 : Option Value} {o6 : Option Value} {o7 : Option Value} (hc : hk_Ci G m_L_budget d cq sq [.ref s0, .int s1, .int 1, .ref r3] h (fun z h' => hk_S G m_L_law (d + 1) cb sb 1003 [o0, o1, o2, some (.ref r3), o4, o5, o6, o7] [.int z] h' Q)) : hk_S G m_L_law (d + 1) (cq + cb) (sq + sb) 994 [o0, o1, o2, some (.ref r3), o4, o5, o6, o7] [.int s1, .ref s0] h Q := by
  refine hs_iconst (v := 1) dL_law_994 (by decide) ?_
  refine hs_goto dL_law_995 (tgt := 999) (by decide) ?_
  refine hs_aload_n dL_law_999 rfl ?_
  exact hs_callSH (M' := m_L_budget) (vs := [.ref s0, .int s1, .int 1, .ref r3]) dL_law_1000 ok_L_budget (by decide) wd_1052 wd_1053 rfl (Nat.le_of_ble_eq_true rfl) hc hq_i (hc_i (fun z h9 k9 => k9))
theorem b_L_law_998 {G : hk_G} {d cb sb : Nat} {h : hk_H} {Q : hk_O → hk_H → Prop} {s0 : Nat} {s1 : Int32} {r3 : Nat} {cq : Nat} {sq : Nat} {o0 : Option Value} {o1 : Option Value} {o2 : Option Value} {o4 : Option Value} {o5 : Option Value} {o6 : Option Value} {o7 : Option Value} (hc : hk_Ci G m_L_budget d cq sq [.ref s0, .int s1, .int 0, .ref r3] h (fun z h' => hk_S G m_L_law (d + 1) cb sb 1003 [o0, o1, o2, some (.ref r3), o4, o5, o6, o7] [.int z] h' Q)) : hk_S G m_L_law (d + 1) (cq + cb) (sq + sb) 998 [o0, o1, o2, some (.ref r3), o4, o5, o6, o7] [.int s1, .ref s0] h Q := by
  refine hs_iconst (v := 0) dL_law_998 (by decide) ?_
  refine hs_aload_n dL_law_999 rfl ?_
  exact hs_callSH (M' := m_L_budget) (vs := [.ref s0, .int s1, .int 0, .ref r3]) dL_law_1000 ok_L_budget (by decide) wd_1052 wd_1053 rfl (Nat.le_of_ble_eq_true rfl) hc hq_i (hc_i (fun z h9 k9 => k9))
theorem b_L_law_999 {G : hk_G} {d cb sb : Nat} {h : hk_H} {Q : hk_O → hk_H → Prop} {s0 : Nat} {s1 : Int32} {s2 : Int32} {r3 : Nat} {cq : Nat} {sq : Nat} {o0 : Option Value} {o1 : Option Value} {o2 : Option Value} {o4 : Option Value} {o5 : Option Value} {o6 : Option Value} {o7 : Option Value} (hc : hk_Ci G m_L_budget d cq sq [.ref s0, .int s1, .int s2, .ref r3] h (fun z h' => hk_S G m_L_law (d + 1) cb sb 1003 [o0, o1, o2, some (.ref r3), o4, o5, o6, o7] [.int z] h' Q)) : hk_S G m_L_law (d + 1) (cq + cb) (sq + sb) 999 [o0, o1, o2, some (.ref r3), o4, o5, o6, o7] [.int s2, .int s1, .ref s0] h Q := by
  refine hs_aload_n dL_law_999 rfl ?_
  exact hs_callSH (M' := m_L_budget) (vs := [.ref s0, .int s1, .int s2, .ref r3]) dL_law_1000 ok_L_budget (by decide) wd_1052 wd_1053 rfl (Nat.le_of_ble_eq_true rfl) hc hq_i (hc_i (fun z h9 k9 => k9))
theorem b_L_law_1003 {G : hk_G} {d cb sb : Nat} {h : hk_H} {Q : hk_O → hk_H → Prop} {s0 : Int32} {r2 : Nat} {r0 : Nat} {x4 : Int32} {n1 : Nat} {f2 : Nat → Int32} {o1 : Option Value} {o3 : Option Value} {o5 : Option Value} {o6 : Option Value} {o7 : Option Value} (ha3 : h.2 r0 = some (.inl (0, n1, .inl f2))) (j4 : Nat) (hi5 : (x4 + 1 : Int32).toInt = (j4 : Int)) (hj6 : j4 < n1) (j7 : Nat) (hi8 : (x4 + 2 : Int32).toInt = (j7 : Int)) (hj9 : j7 < n1) (kt : (f2 j7) = 0 → hk_S G m_L_law (d + 1) cb sb 1025 [some (.ref r0), o1, some (.ref r2), o3, some (.int x4), some (.int s0), o6, o7] [.int (f2 j4), .ref r2] h Q) (kf : ¬ (f2 j7) = 0 → hk_S G m_L_law (d + 1) cb sb 1021 [some (.ref r0), o1, some (.ref r2), o3, some (.int x4), some (.int s0), o6, o7] [.int (f2 j4), .ref r2] h Q) : hk_S G m_L_law (d + 1) cb sb 1003 [some (.ref r0), o1, some (.ref r2), o3, some (.int x4), o5, o6, o7] [.int s0] h Q := by
  refine hs_istK dL_law_1003 (by decide) (hk_nk1 rfl hk_c1i) rfl ?_
  refine hs_aload_n dL_law_1005 rfl ?_
  refine hs_aload_n dL_law_1006 rfl ?_
  refine hs_iload dL_law_1007 rfl ?_
  refine hs_iconst (v := 1) dL_law_1009 (by decide) ?_
  refine hs_iadd dL_law_1010 ?_
  refine hs_iald j4 dL_law_1011 ha3 hi5 hj6 ?_
  refine hs_aload_n dL_law_1012 rfl ?_
  refine hs_iload dL_law_1013 rfl ?_
  refine hs_iconst (v := 2) dL_law_1015 (by decide) ?_
  refine hs_iadd dL_law_1016 ?_
  refine hs_iald j7 dL_law_1017 ha3 hi8 hj9 ?_
  exact hs_if_eq dL_law_1018 (by decide) kt kf
theorem b_L_law_1021 {G : hk_G} {d cb sb : Nat} {h : hk_H} {Q : hk_O → hk_H → Prop} {s0 : Nat} {s1 : Int32} {fs_ : List Value} {o0 : Option Value} {o1 : Option Value} {o2 : Option Value} {o3 : Option Value} {o4 : Option Value} {o5 : Option Value} {o6 : Option Value} {o7 : Option Value} (hrec : h.2 s0 = some (.inr (10, fs_))) (hc : hk_Cl G m_X10_budget d 0 0 [.ref s0, .int s1, .int 1] h (fun z h' => hk_S G m_L_law (d + 1) cb sb 1029 [o0, o1, o2, o3, o4, o5, o6, o7] [.long z] h' Q)) : hk_S G m_L_law (d + 1) cb sb 1021 [o0, o1, o2, o3, o4, o5, o6, o7] [.int s1, .ref s0] h Q := by
  refine hs_iconst (v := 1) dL_law_1021 (by decide) ?_
  refine hs_goto dL_law_1022 (tgt := 1026) (by decide) ?_
  exact hk_z0 (hs_vir (M' := m_X10_budget) (vs := [.int s1, .int 1]) (c1 := 0) (s1 := 0) dL_law_1026 wd_1341 vi_X10_budget hrec rfl (Nat.le_of_ble_eq_true rfl) hc hq_l (hc_l (fun z h9 k9 => k9)))
theorem b_L_law_1025 {G : hk_G} {d cb sb : Nat} {h : hk_H} {Q : hk_O → hk_H → Prop} {s0 : Nat} {s1 : Int32} {fs_ : List Value} {o0 : Option Value} {o1 : Option Value} {o2 : Option Value} {o3 : Option Value} {o4 : Option Value} {o5 : Option Value} {o6 : Option Value} {o7 : Option Value} (hrec : h.2 s0 = some (.inr (10, fs_))) (hc : hk_Cl G m_X10_budget d 0 0 [.ref s0, .int s1, .int 0] h (fun z h' => hk_S G m_L_law (d + 1) cb sb 1029 [o0, o1, o2, o3, o4, o5, o6, o7] [.long z] h' Q)) : hk_S G m_L_law (d + 1) cb sb 1025 [o0, o1, o2, o3, o4, o5, o6, o7] [.int s1, .ref s0] h Q := by
  refine hs_iconst (v := 0) dL_law_1025 (by decide) ?_
  exact hk_z0 (hs_vir (M' := m_X10_budget) (vs := [.int s1, .int 0]) (c1 := 0) (s1 := 0) dL_law_1026 wd_1341 vi_X10_budget hrec rfl (Nat.le_of_ble_eq_true rfl) hc hq_l (hc_l (fun z h9 k9 => k9)))
theorem b_L_law_1026 {G : hk_G} {d cb sb : Nat} {h : hk_H} {Q : hk_O → hk_H → Prop} {s0 : Nat} {s1 : Int32} {s2 : Int32} {fs_ : List Value} {o0 : Option Value} {o1 : Option Value} {o2 : Option Value} {o3 : Option Value} {o4 : Option Value} {o5 : Option Value} {o6 : Option Value} {o7 : Option Value} (hrec : h.2 s0 = some (.inr (10, fs_))) (hc : hk_Cl G m_X10_budget d 0 0 [.ref s0, .int s1, .int s2] h (fun z h' => hk_S G m_L_law (d + 1) cb sb 1029 [o0, o1, o2, o3, o4, o5, o6, o7] [.long z] h' Q)) : hk_S G m_L_law (d + 1) cb sb 1026 [o0, o1, o2, o3, o4, o5, o6, o7] [.int s2, .int s1, .ref s0] h Q := by
  exact hk_z0 (hs_vir (M' := m_X10_budget) (vs := [.int s1, .int s2]) (c1 := 0) (s1 := 0) dL_law_1026 wd_1341 vi_X10_budget hrec rfl (Nat.le_of_ble_eq_true rfl) hc hq_l (hc_l (fun z h9 k9 => k9)))
theorem b_L_law_1029 {G : hk_G} {d cb sb : Nat} {h : hk_H} {Q : hk_O → hk_H → Prop} {s0 : Int64} {r2 : Nat} {fs_ : List Value} {o0 : Option Value} {o1 : Option Value} {o3 : Option Value} {o4 : Option Value} {o5 : Option Value} {o6 : Option Value} {o7 : Option Value} (hrec : h.2 r2 = some (.inr (10, fs_))) (hc : hk_Ci G m_X10_thrown d 0 0 [.ref r2] h (fun z h' => hk_S G m_L_law (d + 1) cb sb 1035 [o0, o1, some (.ref r2), o3, o4, o5, some (.long s0), none] [.int z] h' Q)) (ho5 : hk_c1 o5 := by first | exact hk_c1i | exact hk_c1r | exact hk_c10 | exact hk_c1n) : hk_S G m_L_law (d + 1) cb sb 1029 [o0, o1, some (.ref r2), o3, o4, o5, o6, o7] [.long s0] h Q := by
  refine hs_lstK dL_law_1029 (by decide) (hk_nk1 rfl ho5) rfl ?_
  refine hs_aload_n dL_law_1031 rfl ?_
  exact hk_z0 (hs_vir (M' := m_X10_thrown) (vs := []) (c1 := 0) (s1 := 0) dL_law_1032 wd_1214 vi_X10_thrown hrec rfl (Nat.le_of_ble_eq_true rfl) hc hq_i (hc_i (fun z h9 k9 => k9)))
theorem b_L_law_1035 {G : hk_G} {d cb sb : Nat} {h : hk_H} {Q : hk_O → hk_H → Prop} {s0 : Int32} {x5 : Int32} {o0 : Option Value} {o1 : Option Value} {o2 : Option Value} {o3 : Option Value} {o4 : Option Value} {o6 : Option Value} {o7 : Option Value} (kt : s0 = x5 → hk_S G m_L_law (d + 1) cb sb 1042 [o0, o1, o2, o3, o4, some (.int x5), o6, o7] [] h Q) (kf : ¬ s0 = x5 → hk_S G m_L_law (d + 1) cb sb 1040 [o0, o1, o2, o3, o4, some (.int x5), o6, o7] [] h Q) : hk_S G m_L_law (d + 1) cb sb 1035 [o0, o1, o2, o3, o4, some (.int x5), o6, o7] [.int s0] h Q := by
  refine hs_iload dL_law_1035 rfl ?_
  exact hs_icmp_eq dL_law_1037 (by decide) kt kf
theorem b_L_law_1040 {G : hk_G} {d cb sb : Nat} {h : hk_H} {Q : hk_O → hk_H → Prop} {o0 : Option Value} {o1 : Option Value} {o2 : Option Value} {o3 : Option Value} {o4 : Option Value} {o5 : Option Value} {o6 : Option Value} {o7 : Option Value} (hq : Q (.inl (some (.int 0))) h) : hk_S G m_L_law (d + 1) cb sb 1040 [o0, o1, o2, o3, o4, o5, o6, o7] [] h Q := by
  refine hs_iconst (v := 0) dL_law_1040 (by decide) ?_
  exact hs_zret dL_law_1041 rfl (by decide) hq
theorem b_L_law_1042 {G : hk_G} {d cb sb : Nat} {h : hk_H} {Q : hk_O → hk_H → Prop} {x5 : Int32} {o0 : Option Value} {o1 : Option Value} {o2 : Option Value} {o3 : Option Value} {o4 : Option Value} {o6 : Option Value} {o7 : Option Value} (kt : ¬ x5 = 0 → hk_S G m_L_law (d + 1) cb sb 1058 [o0, o1, o2, o3, o4, some (.int x5), o6, o7] [] h Q) (kf : x5 = 0 → hk_S G m_L_law (d + 1) cb sb 1047 [o0, o1, o2, o3, o4, some (.int x5), o6, o7] [] h Q) : hk_S G m_L_law (d + 1) cb sb 1042 [o0, o1, o2, o3, o4, some (.int x5), o6, o7] [] h Q := by
  refine hs_iload dL_law_1042 rfl ?_
  exact hs_if_ne dL_law_1044 (by decide) kt kf
theorem b_L_law_1047 {G : hk_G} {d cb sb : Nat} {h : hk_H} {Q : hk_O → hk_H → Prop} {r3 : Nat} {n1 : Nat} {f2 : Nat → Int64} {l6 : Int64} {o0 : Option Value} {o1 : Option Value} {o2 : Option Value} {o4 : Option Value} {o5 : Option Value} {o7 : Option Value} (ha3 : h.2 r3 = some (.inl (1, n1, .inr (.inl f2)))) (j4 : Nat) (hi5 : (0 : Int32).toInt = (j4 : Int)) (hj6 : j4 < n1) (kt : (lg_cmp (f2 j4) l6) = 0 → hk_S G m_L_law (d + 1) cb sb 1058 [o0, o1, o2, some (.ref r3), o4, o5, some (.long l6), o7] [] h Q) (kf : ¬ (lg_cmp (f2 j4) l6) = 0 → hk_S G m_L_law (d + 1) cb sb 1056 [o0, o1, o2, some (.ref r3), o4, o5, some (.long l6), o7] [] h Q) : hk_S G m_L_law (d + 1) cb sb 1047 [o0, o1, o2, some (.ref r3), o4, o5, some (.long l6), o7] [] h Q := by
  refine hs_aload_n dL_law_1047 rfl ?_
  refine hs_iconst (v := 0) dL_law_1048 (by decide) ?_
  refine hs_lald j4 dL_law_1049 ha3 hi5 hj6 ?_
  refine hs_lload dL_law_1050 rfl ?_
  refine hs_lcmp dL_law_1052 ?_
  exact hs_if_eq dL_law_1053 (by decide) kt kf
theorem b_L_law_1056 {G : hk_G} {d cb sb : Nat} {h : hk_H} {Q : hk_O → hk_H → Prop} {o0 : Option Value} {o1 : Option Value} {o2 : Option Value} {o3 : Option Value} {o4 : Option Value} {o5 : Option Value} {o6 : Option Value} {o7 : Option Value} (hq : Q (.inl (some (.int 0))) h) : hk_S G m_L_law (d + 1) cb sb 1056 [o0, o1, o2, o3, o4, o5, o6, o7] [] h Q := by
  refine hs_iconst (v := 0) dL_law_1056 (by decide) ?_
  exact hs_zret dL_law_1057 rfl (by decide) hq
theorem b_L_law_1058 {G : hk_G} {d cb sb : Nat} {h : hk_H} {Q : hk_O → hk_H → Prop} {x4 : Int32} {o0 : Option Value} {o1 : Option Value} {o2 : Option Value} {o3 : Option Value} {o5 : Option Value} {o6 : Option Value} {o7 : Option Value} (k : hk_S G m_L_law (d + 1) cb sb 43 [o0, o1, o2, o3, some (.int (x4 + 6)), o5, o6, o7] [] h Q) (ho3 : hk_c1 o3 := by first | exact hk_c1i | exact hk_c1r | exact hk_c10 | exact hk_c1n) : hk_S G m_L_law (d + 1) cb sb 1058 [o0, o1, o2, o3, some (.int x4), o5, o6, o7] [] h Q := by
  refine hs_goto dL_law_1058 (tgt := 1974) (by decide) ?_
  refine hs_iincK (v := 6) dL_law_1974 rfl (by decide) (by decide) (hk_nk1 rfl ho3) rfl ?_
  refine hs_goto dL_law_1977 (tgt := 43) (by decide) ?_
  exact k
theorem b_L_law_1061 {G : hk_G} {d cb sb : Nat} {h : hk_H} {Q : hk_O → hk_H → Prop} {r1 : Nat} {r0 : Nat} {x4 : Int32} {n1 : Nat} {f2 : Nat → Int32} {r3 : Nat} {cq : Nat} {sq : Nat} {o2 : Option Value} {o5 : Option Value} {o6 : Option Value} {o7 : Option Value} (ha3 : h.2 r0 = some (.inl (0, n1, .inl f2))) (j4 : Nat) (hi5 : (x4 + 1 : Int32).toInt = (j4 : Int)) (hj6 : j4 < n1) (hc : hk_Ci G m_L_welfare d cq sq [.ref r1, .int (f2 j4), .ref r3] h (fun z h' => hk_S G m_L_law (d + 1) cb sb 1072 [some (.ref r0), some (.ref r1), o2, some (.ref r3), some (.int x4), o5, o6, o7] [.int z] h' Q)) : hk_S G m_L_law (d + 1) (cq + cb) (sq + sb) 1061 [some (.ref r0), some (.ref r1), o2, some (.ref r3), some (.int x4), o5, o6, o7] [] h Q := by
  refine hs_aload_n dL_law_1061 rfl ?_
  refine hs_aload_n dL_law_1062 rfl ?_
  refine hs_iload dL_law_1063 rfl ?_
  refine hs_iconst (v := 1) dL_law_1065 (by decide) ?_
  refine hs_iadd dL_law_1066 ?_
  refine hs_iald j4 dL_law_1067 ha3 hi5 hj6 ?_
  refine hs_aload_n dL_law_1068 rfl ?_
  exact hs_callSH (M' := m_L_welfare) (vs := [.ref r1, .int (f2 j4), .ref r3]) dL_law_1069 ok_L_welfare (by decide) wd_1065 wd_1066 rfl (Nat.le_of_ble_eq_true rfl) hc hq_i (hc_i (fun z h9 k9 => k9))
theorem b_L_law_1072 {G : hk_G} {d cb sb : Nat} {h : hk_H} {Q : hk_O → hk_H → Prop} {s0 : Int32} {r2 : Nat} {r0 : Nat} {x4 : Int32} {n1 : Nat} {f2 : Nat → Int32} {fs_ : List Value} {o1 : Option Value} {o3 : Option Value} {o5 : Option Value} {o6 : Option Value} {o7 : Option Value} (ha3 : h.2 r0 = some (.inl (0, n1, .inl f2))) (j4 : Nat) (hi5 : (x4 + 1 : Int32).toInt = (j4 : Int)) (hj6 : j4 < n1) (hrec : h.2 r2 = some (.inr (10, fs_))) (hc : hk_Cl G m_X10_welfare d 0 0 [.ref r2, .int (f2 j4)] h (fun z h' => hk_S G m_L_law (d + 1) cb sb 1084 [some (.ref r0), o1, some (.ref r2), o3, some (.int x4), some (.int s0), o6, o7] [.long z] h' Q)) : hk_S G m_L_law (d + 1) cb sb 1072 [some (.ref r0), o1, some (.ref r2), o3, some (.int x4), o5, o6, o7] [.int s0] h Q := by
  refine hs_istK dL_law_1072 (by decide) (hk_nk1 rfl hk_c1i) rfl ?_
  refine hs_aload_n dL_law_1074 rfl ?_
  refine hs_aload_n dL_law_1075 rfl ?_
  refine hs_iload dL_law_1076 rfl ?_
  refine hs_iconst (v := 1) dL_law_1078 (by decide) ?_
  refine hs_iadd dL_law_1079 ?_
  refine hs_iald j4 dL_law_1080 ha3 hi5 hj6 ?_
  exact hk_z0 (hs_vir (M' := m_X10_welfare) (vs := [.int (f2 j4)]) (c1 := 0) (s1 := 0) dL_law_1081 wd_1345 vi_X10_welfare hrec rfl (Nat.le_of_ble_eq_true rfl) hc hq_l (hc_l (fun z h9 k9 => k9)))
theorem b_L_law_1084 {G : hk_G} {d cb sb : Nat} {h : hk_H} {Q : hk_O → hk_H → Prop} {s0 : Int64} {r2 : Nat} {fs_ : List Value} {o0 : Option Value} {o1 : Option Value} {o3 : Option Value} {o4 : Option Value} {o5 : Option Value} {o6 : Option Value} {o7 : Option Value} (hrec : h.2 r2 = some (.inr (10, fs_))) (hc : hk_Ci G m_X10_thrown d 0 0 [.ref r2] h (fun z h' => hk_S G m_L_law (d + 1) cb sb 1090 [o0, o1, some (.ref r2), o3, o4, o5, some (.long s0), none] [.int z] h' Q)) (ho5 : hk_c1 o5 := by first | exact hk_c1i | exact hk_c1r | exact hk_c10 | exact hk_c1n) : hk_S G m_L_law (d + 1) cb sb 1084 [o0, o1, some (.ref r2), o3, o4, o5, o6, o7] [.long s0] h Q := by
  refine hs_lstK dL_law_1084 (by decide) (hk_nk1 rfl ho5) rfl ?_
  refine hs_aload_n dL_law_1086 rfl ?_
  exact hk_z0 (hs_vir (M' := m_X10_thrown) (vs := []) (c1 := 0) (s1 := 0) dL_law_1087 wd_1214 vi_X10_thrown hrec rfl (Nat.le_of_ble_eq_true rfl) hc hq_i (hc_i (fun z h9 k9 => k9)))
theorem b_L_law_1090 {G : hk_G} {d cb sb : Nat} {h : hk_H} {Q : hk_O → hk_H → Prop} {s0 : Int32} {x5 : Int32} {o0 : Option Value} {o1 : Option Value} {o2 : Option Value} {o3 : Option Value} {o4 : Option Value} {o6 : Option Value} {o7 : Option Value} (kt : s0 = x5 → hk_S G m_L_law (d + 1) cb sb 1097 [o0, o1, o2, o3, o4, some (.int x5), o6, o7] [] h Q) (kf : ¬ s0 = x5 → hk_S G m_L_law (d + 1) cb sb 1095 [o0, o1, o2, o3, o4, some (.int x5), o6, o7] [] h Q) : hk_S G m_L_law (d + 1) cb sb 1090 [o0, o1, o2, o3, o4, some (.int x5), o6, o7] [.int s0] h Q := by
  refine hs_iload dL_law_1090 rfl ?_
  exact hs_icmp_eq dL_law_1092 (by decide) kt kf
theorem b_L_law_1095 {G : hk_G} {d cb sb : Nat} {h : hk_H} {Q : hk_O → hk_H → Prop} {o0 : Option Value} {o1 : Option Value} {o2 : Option Value} {o3 : Option Value} {o4 : Option Value} {o5 : Option Value} {o6 : Option Value} {o7 : Option Value} (hq : Q (.inl (some (.int 0))) h) : hk_S G m_L_law (d + 1) cb sb 1095 [o0, o1, o2, o3, o4, o5, o6, o7] [] h Q := by
  refine hs_iconst (v := 0) dL_law_1095 (by decide) ?_
  exact hs_zret dL_law_1096 rfl (by decide) hq
theorem b_L_law_1097 {G : hk_G} {d cb sb : Nat} {h : hk_H} {Q : hk_O → hk_H → Prop} {x5 : Int32} {o0 : Option Value} {o1 : Option Value} {o2 : Option Value} {o3 : Option Value} {o4 : Option Value} {o6 : Option Value} {o7 : Option Value} (kt : ¬ x5 = 0 → hk_S G m_L_law (d + 1) cb sb 1113 [o0, o1, o2, o3, o4, some (.int x5), o6, o7] [] h Q) (kf : x5 = 0 → hk_S G m_L_law (d + 1) cb sb 1102 [o0, o1, o2, o3, o4, some (.int x5), o6, o7] [] h Q) : hk_S G m_L_law (d + 1) cb sb 1097 [o0, o1, o2, o3, o4, some (.int x5), o6, o7] [] h Q := by
  refine hs_iload dL_law_1097 rfl ?_
  exact hs_if_ne dL_law_1099 (by decide) kt kf
theorem b_L_law_1102 {G : hk_G} {d cb sb : Nat} {h : hk_H} {Q : hk_O → hk_H → Prop} {r3 : Nat} {n1 : Nat} {f2 : Nat → Int64} {l6 : Int64} {o0 : Option Value} {o1 : Option Value} {o2 : Option Value} {o4 : Option Value} {o5 : Option Value} {o7 : Option Value} (ha3 : h.2 r3 = some (.inl (1, n1, .inr (.inl f2)))) (j4 : Nat) (hi5 : (0 : Int32).toInt = (j4 : Int)) (hj6 : j4 < n1) (kt : (lg_cmp (f2 j4) l6) = 0 → hk_S G m_L_law (d + 1) cb sb 1113 [o0, o1, o2, some (.ref r3), o4, o5, some (.long l6), o7] [] h Q) (kf : ¬ (lg_cmp (f2 j4) l6) = 0 → hk_S G m_L_law (d + 1) cb sb 1111 [o0, o1, o2, some (.ref r3), o4, o5, some (.long l6), o7] [] h Q) : hk_S G m_L_law (d + 1) cb sb 1102 [o0, o1, o2, some (.ref r3), o4, o5, some (.long l6), o7] [] h Q := by
  refine hs_aload_n dL_law_1102 rfl ?_
  refine hs_iconst (v := 0) dL_law_1103 (by decide) ?_
  refine hs_lald j4 dL_law_1104 ha3 hi5 hj6 ?_
  refine hs_lload dL_law_1105 rfl ?_
  refine hs_lcmp dL_law_1107 ?_
  exact hs_if_eq dL_law_1108 (by decide) kt kf
theorem b_L_law_1111 {G : hk_G} {d cb sb : Nat} {h : hk_H} {Q : hk_O → hk_H → Prop} {o0 : Option Value} {o1 : Option Value} {o2 : Option Value} {o3 : Option Value} {o4 : Option Value} {o5 : Option Value} {o6 : Option Value} {o7 : Option Value} (hq : Q (.inl (some (.int 0))) h) : hk_S G m_L_law (d + 1) cb sb 1111 [o0, o1, o2, o3, o4, o5, o6, o7] [] h Q := by
  refine hs_iconst (v := 0) dL_law_1111 (by decide) ?_
  exact hs_zret dL_law_1112 rfl (by decide) hq
theorem b_L_law_1113 {G : hk_G} {d cb sb : Nat} {h : hk_H} {Q : hk_O → hk_H → Prop} {x4 : Int32} {o0 : Option Value} {o1 : Option Value} {o2 : Option Value} {o3 : Option Value} {o5 : Option Value} {o6 : Option Value} {o7 : Option Value} (k : hk_S G m_L_law (d + 1) cb sb 43 [o0, o1, o2, o3, some (.int (x4 + 6)), o5, o6, o7] [] h Q) (ho3 : hk_c1 o3 := by first | exact hk_c1i | exact hk_c1r | exact hk_c10 | exact hk_c1n) : hk_S G m_L_law (d + 1) cb sb 1113 [o0, o1, o2, o3, some (.int x4), o5, o6, o7] [] h Q := by
  refine hs_goto dL_law_1113 (tgt := 1974) (by decide) ?_
  refine hs_iincK (v := 6) dL_law_1974 rfl (by decide) (by decide) (hk_nk1 rfl ho3) rfl ?_
  refine hs_goto dL_law_1977 (tgt := 43) (by decide) ?_
  exact k
theorem b_L_law_1116 {G : hk_G} {d cb sb : Nat} {h : hk_H} {Q : hk_O → hk_H → Prop} {r1 : Nat} {r0 : Nat} {x4 : Int32} {n1 : Nat} {f2 : Nat → Int32} {r3 : Nat} {cq : Nat} {sq : Nat} {o2 : Option Value} {o5 : Option Value} {o6 : Option Value} {o7 : Option Value} (ha3 : h.2 r0 = some (.inl (0, n1, .inl f2))) (j4 : Nat) (hi5 : (x4 + 1 : Int32).toInt = (j4 : Int)) (hj6 : j4 < n1) (j7 : Nat) (hi8 : (x4 + 2 : Int32).toInt = (j7 : Int)) (hj9 : j7 < n1) (j10 : Nat) (hi11 : (x4 + 3 : Int32).toInt = (j10 : Int)) (hj12 : j10 < n1) (j13 : Nat) (hi14 : (x4 + 4 : Int32).toInt = (j13 : Int)) (hj15 : j13 < n1) (j16 : Nat) (hi17 : (x4 + 5 : Int32).toInt = (j16 : Int)) (hj18 : j16 < n1) (hc : hk_Ci G m_L_span d cq sq [.ref r1, .int (f2 j4), .int (f2 j7), .int (f2 j10), .int (f2 j13), .int (f2 j16), .ref r3] h (fun z h' => hk_S G m_L_law (d + 1) cb sb 1151 [some (.ref r0), some (.ref r1), o2, some (.ref r3), some (.int x4), o5, o6, o7] [.int z] h' Q)) : hk_S G m_L_law (d + 1) (cq + cb) (sq + sb) 1116 [some (.ref r0), some (.ref r1), o2, some (.ref r3), some (.int x4), o5, o6, o7] [] h Q := by
  refine hs_aload_n dL_law_1116 rfl ?_
  refine hs_aload_n dL_law_1117 rfl ?_
  refine hs_iload dL_law_1118 rfl ?_
  refine hs_iconst (v := 1) dL_law_1120 (by decide) ?_
  refine hs_iadd dL_law_1121 ?_
  refine hs_iald j4 dL_law_1122 ha3 hi5 hj6 ?_
  refine hs_aload_n dL_law_1123 rfl ?_
  refine hs_iload dL_law_1124 rfl ?_
  refine hs_iconst (v := 2) dL_law_1126 (by decide) ?_
  refine hs_iadd dL_law_1127 ?_
  refine hs_iald j7 dL_law_1128 ha3 hi8 hj9 ?_
  refine hs_aload_n dL_law_1129 rfl ?_
  refine hs_iload dL_law_1130 rfl ?_
  refine hs_iconst (v := 3) dL_law_1132 (by decide) ?_
  refine hs_iadd dL_law_1133 ?_
  refine hs_iald j10 dL_law_1134 ha3 hi11 hj12 ?_
  refine hs_aload_n dL_law_1135 rfl ?_
  refine hs_iload dL_law_1136 rfl ?_
  refine hs_iconst (v := 4) dL_law_1138 (by decide) ?_
  refine hs_iadd dL_law_1139 ?_
  refine hs_iald j13 dL_law_1140 ha3 hi14 hj15 ?_
  refine hs_aload_n dL_law_1141 rfl ?_
  refine hs_iload dL_law_1142 rfl ?_
  refine hs_iconst (v := 5) dL_law_1144 (by decide) ?_
  refine hs_iadd dL_law_1145 ?_
  refine hs_iald j16 dL_law_1146 ha3 hi17 hj18 ?_
  refine hs_aload_n dL_law_1147 rfl ?_
  exact hs_callSH (M' := m_L_span) (vs := [.ref r1, .int (f2 j4), .int (f2 j7), .int (f2 j10), .int (f2 j13), .int (f2 j16), .ref r3]) dL_law_1148 ok_L_span (by decide) wd_1072 wd_1073 rfl (Nat.le_of_ble_eq_true rfl) hc hq_i (hc_i (fun z h9 k9 => k9))
theorem b_L_law_1151 {G : hk_G} {d cb sb : Nat} {h : hk_H} {Q : hk_O → hk_H → Prop} {s0 : Int32} {r2 : Nat} {r0 : Nat} {x4 : Int32} {n1 : Nat} {f2 : Nat → Int32} {fs_ : List Value} {o1 : Option Value} {o3 : Option Value} {o5 : Option Value} {o6 : Option Value} {o7 : Option Value} (ha3 : h.2 r0 = some (.inl (0, n1, .inl f2))) (j4 : Nat) (hi5 : (x4 + 1 : Int32).toInt = (j4 : Int)) (hj6 : j4 < n1) (j7 : Nat) (hi8 : (x4 + 2 : Int32).toInt = (j7 : Int)) (hj9 : j7 < n1) (j10 : Nat) (hi11 : (x4 + 3 : Int32).toInt = (j10 : Int)) (hj12 : j10 < n1) (j13 : Nat) (hi14 : (x4 + 4 : Int32).toInt = (j13 : Int)) (hj15 : j13 < n1) (j16 : Nat) (hi17 : (x4 + 5 : Int32).toInt = (j16 : Int)) (hj18 : j16 < n1) (hrec : h.2 r2 = some (.inr (10, fs_))) (hc : hk_Ci G m_X10_span d 0 0 [.ref r2, .int (f2 j4), .int (f2 j7), .int (f2 j10), .int (f2 j13), .int (f2 j16)] h (fun z h' => hk_S G m_L_law (d + 1) cb sb 1187 [some (.ref r0), o1, some (.ref r2), o3, some (.int x4), some (.int s0), o6, o7] [.int z] h' Q)) : hk_S G m_L_law (d + 1) cb sb 1151 [some (.ref r0), o1, some (.ref r2), o3, some (.int x4), o5, o6, o7] [.int s0] h Q := by
  refine hs_istK dL_law_1151 (by decide) (hk_nk1 rfl hk_c1i) rfl ?_
  refine hs_aload_n dL_law_1153 rfl ?_
  refine hs_aload_n dL_law_1154 rfl ?_
  refine hs_iload dL_law_1155 rfl ?_
  refine hs_iconst (v := 1) dL_law_1157 (by decide) ?_
  refine hs_iadd dL_law_1158 ?_
  refine hs_iald j4 dL_law_1159 ha3 hi5 hj6 ?_
  refine hs_aload_n dL_law_1160 rfl ?_
  refine hs_iload dL_law_1161 rfl ?_
  refine hs_iconst (v := 2) dL_law_1163 (by decide) ?_
  refine hs_iadd dL_law_1164 ?_
  refine hs_iald j7 dL_law_1165 ha3 hi8 hj9 ?_
  refine hs_aload_n dL_law_1166 rfl ?_
  refine hs_iload dL_law_1167 rfl ?_
  refine hs_iconst (v := 3) dL_law_1169 (by decide) ?_
  refine hs_iadd dL_law_1170 ?_
  refine hs_iald j10 dL_law_1171 ha3 hi11 hj12 ?_
  refine hs_aload_n dL_law_1172 rfl ?_
  refine hs_iload dL_law_1173 rfl ?_
  refine hs_iconst (v := 4) dL_law_1175 (by decide) ?_
  refine hs_iadd dL_law_1176 ?_
  refine hs_iald j13 dL_law_1177 ha3 hi14 hj15 ?_
  refine hs_aload_n dL_law_1178 rfl ?_
  refine hs_iload dL_law_1179 rfl ?_
  refine hs_iconst (v := 5) dL_law_1181 (by decide) ?_
  refine hs_iadd dL_law_1182 ?_
  refine hs_iald j16 dL_law_1183 ha3 hi17 hj18 ?_
  exact hk_z0 (hs_vir (M' := m_X10_span) (vs := [.int (f2 j4), .int (f2 j7), .int (f2 j10), .int (f2 j13), .int (f2 j16)]) (c1 := 0) (s1 := 0) dL_law_1184 wd_1349 vi_X10_span hrec rfl (Nat.le_of_ble_eq_true rfl) hc hq_i (hc_i (fun z h9 k9 => k9)))
theorem b_L_law_1187 {G : hk_G} {d cb sb : Nat} {h : hk_H} {Q : hk_O → hk_H → Prop} {s0 : Int32} {r2 : Nat} {fs_ : List Value} {o0 : Option Value} {o1 : Option Value} {o3 : Option Value} {o4 : Option Value} {o5 : Option Value} {o6 : Option Value} {o7 : Option Value} (hrec : h.2 r2 = some (.inr (10, fs_))) (hc : hk_Ci G m_X10_thrown d 0 0 [.ref r2] h (fun z h' => hk_S G m_L_law (d + 1) cb sb 1193 [o0, o1, some (.ref r2), o3, o4, o5, some (.int s0), o7] [.int z] h' Q)) (ho5 : hk_c1 o5 := by first | exact hk_c1i | exact hk_c1r | exact hk_c10 | exact hk_c1n) : hk_S G m_L_law (d + 1) cb sb 1187 [o0, o1, some (.ref r2), o3, o4, o5, o6, o7] [.int s0] h Q := by
  refine hs_istK dL_law_1187 (by decide) (hk_nk1 rfl ho5) rfl ?_
  refine hs_aload_n dL_law_1189 rfl ?_
  exact hk_z0 (hs_vir (M' := m_X10_thrown) (vs := []) (c1 := 0) (s1 := 0) dL_law_1190 wd_1214 vi_X10_thrown hrec rfl (Nat.le_of_ble_eq_true rfl) hc hq_i (hc_i (fun z h9 k9 => k9)))
theorem b_L_law_1193 {G : hk_G} {d cb sb : Nat} {h : hk_H} {Q : hk_O → hk_H → Prop} {s0 : Int32} {x5 : Int32} {o0 : Option Value} {o1 : Option Value} {o2 : Option Value} {o3 : Option Value} {o4 : Option Value} {o6 : Option Value} {o7 : Option Value} (kt : s0 = x5 → hk_S G m_L_law (d + 1) cb sb 1200 [o0, o1, o2, o3, o4, some (.int x5), o6, o7] [] h Q) (kf : ¬ s0 = x5 → hk_S G m_L_law (d + 1) cb sb 1198 [o0, o1, o2, o3, o4, some (.int x5), o6, o7] [] h Q) : hk_S G m_L_law (d + 1) cb sb 1193 [o0, o1, o2, o3, o4, some (.int x5), o6, o7] [.int s0] h Q := by
  refine hs_iload dL_law_1193 rfl ?_
  exact hs_icmp_eq dL_law_1195 (by decide) kt kf
theorem b_L_law_1198 {G : hk_G} {d cb sb : Nat} {h : hk_H} {Q : hk_O → hk_H → Prop} {o0 : Option Value} {o1 : Option Value} {o2 : Option Value} {o3 : Option Value} {o4 : Option Value} {o5 : Option Value} {o6 : Option Value} {o7 : Option Value} (hq : Q (.inl (some (.int 0))) h) : hk_S G m_L_law (d + 1) cb sb 1198 [o0, o1, o2, o3, o4, o5, o6, o7] [] h Q := by
  refine hs_iconst (v := 0) dL_law_1198 (by decide) ?_
  exact hs_zret dL_law_1199 rfl (by decide) hq
theorem b_L_law_1200 {G : hk_G} {d cb sb : Nat} {h : hk_H} {Q : hk_O → hk_H → Prop} {x5 : Int32} {o0 : Option Value} {o1 : Option Value} {o2 : Option Value} {o3 : Option Value} {o4 : Option Value} {o6 : Option Value} {o7 : Option Value} (kt : ¬ x5 = 0 → hk_S G m_L_law (d + 1) cb sb 1217 [o0, o1, o2, o3, o4, some (.int x5), o6, o7] [] h Q) (kf : x5 = 0 → hk_S G m_L_law (d + 1) cb sb 1205 [o0, o1, o2, o3, o4, some (.int x5), o6, o7] [] h Q) : hk_S G m_L_law (d + 1) cb sb 1200 [o0, o1, o2, o3, o4, some (.int x5), o6, o7] [] h Q := by
  refine hs_iload dL_law_1200 rfl ?_
  exact hs_if_ne dL_law_1202 (by decide) kt kf
theorem b_L_law_1205 {G : hk_G} {d cb sb : Nat} {h : hk_H} {Q : hk_O → hk_H → Prop} {r3 : Nat} {n1 : Nat} {f2 : Nat → Int64} {x6 : Int32} {o0 : Option Value} {o1 : Option Value} {o2 : Option Value} {o4 : Option Value} {o5 : Option Value} {o7 : Option Value} (ha3 : h.2 r3 = some (.inl (1, n1, .inr (.inl f2)))) (j4 : Nat) (hi5 : (0 : Int32).toInt = (j4 : Int)) (hj6 : j4 < n1) (kt : (lg_cmp (f2 j4) x6.toInt64) = 0 → hk_S G m_L_law (d + 1) cb sb 1217 [o0, o1, o2, some (.ref r3), o4, o5, some (.int x6), o7] [] h Q) (kf : ¬ (lg_cmp (f2 j4) x6.toInt64) = 0 → hk_S G m_L_law (d + 1) cb sb 1215 [o0, o1, o2, some (.ref r3), o4, o5, some (.int x6), o7] [] h Q) : hk_S G m_L_law (d + 1) cb sb 1205 [o0, o1, o2, some (.ref r3), o4, o5, some (.int x6), o7] [] h Q := by
  refine hs_aload_n dL_law_1205 rfl ?_
  refine hs_iconst (v := 0) dL_law_1206 (by decide) ?_
  refine hs_lald j4 dL_law_1207 ha3 hi5 hj6 ?_
  refine hs_iload dL_law_1208 rfl ?_
  refine hs_i2l dL_law_1210 ?_
  refine hs_lcmp dL_law_1211 ?_
  exact hs_if_eq dL_law_1212 (by decide) kt kf
theorem b_L_law_1215 {G : hk_G} {d cb sb : Nat} {h : hk_H} {Q : hk_O → hk_H → Prop} {o0 : Option Value} {o1 : Option Value} {o2 : Option Value} {o3 : Option Value} {o4 : Option Value} {o5 : Option Value} {o6 : Option Value} {o7 : Option Value} (hq : Q (.inl (some (.int 0))) h) : hk_S G m_L_law (d + 1) cb sb 1215 [o0, o1, o2, o3, o4, o5, o6, o7] [] h Q := by
  refine hs_iconst (v := 0) dL_law_1215 (by decide) ?_
  exact hs_zret dL_law_1216 rfl (by decide) hq
theorem b_L_law_1217 {G : hk_G} {d cb sb : Nat} {h : hk_H} {Q : hk_O → hk_H → Prop} {x4 : Int32} {o0 : Option Value} {o1 : Option Value} {o2 : Option Value} {o3 : Option Value} {o5 : Option Value} {o6 : Option Value} {o7 : Option Value} (k : hk_S G m_L_law (d + 1) cb sb 43 [o0, o1, o2, o3, some (.int (x4 + 6)), o5, o6, o7] [] h Q) (ho3 : hk_c1 o3 := by first | exact hk_c1i | exact hk_c1r | exact hk_c10 | exact hk_c1n) : hk_S G m_L_law (d + 1) cb sb 1217 [o0, o1, o2, o3, some (.int x4), o5, o6, o7] [] h Q := by
  refine hs_goto dL_law_1217 (tgt := 1974) (by decide) ?_
  refine hs_iincK (v := 6) dL_law_1974 rfl (by decide) (by decide) (hk_nk1 rfl ho3) rfl ?_
  refine hs_goto dL_law_1977 (tgt := 43) (by decide) ?_
  exact k
theorem b_L_law_1220 {G : hk_G} {d cb sb : Nat} {h : hk_H} {Q : hk_O → hk_H → Prop} {r1 : Nat} {r0 : Nat} {x4 : Int32} {n1 : Nat} {f2 : Nat → Int32} {fs_ : List Value} {o2 : Option Value} {o3 : Option Value} {o5 : Option Value} {o6 : Option Value} {o7 : Option Value} (ha3 : h.2 r0 = some (.inl (0, n1, .inl f2))) (j4 : Nat) (hi5 : (x4 + 1 : Int32).toInt = (j4 : Int)) (hj6 : j4 < n1) (j7 : Nat) (hi8 : (x4 + 2 : Int32).toInt = (j7 : Int)) (hj9 : j7 < n1) (hrec : h.2 r1 = some (.inr (9, fs_))) (hc : hk_Ci G m_X9_round d 0 0 [.ref r1, .int (f2 j4), .int (f2 j7)] h (fun z h' => hk_S G m_L_law (d + 1) cb sb 1236 [some (.ref r0), some (.ref r1), o2, o3, some (.int x4), o5, o6, o7] [.int z] h' Q)) : hk_S G m_L_law (d + 1) cb sb 1220 [some (.ref r0), some (.ref r1), o2, o3, some (.int x4), o5, o6, o7] [] h Q := by
  refine hs_aload_n dL_law_1220 rfl ?_
  refine hs_aload_n dL_law_1221 rfl ?_
  refine hs_iload dL_law_1222 rfl ?_
  refine hs_iconst (v := 1) dL_law_1224 (by decide) ?_
  refine hs_iadd dL_law_1225 ?_
  refine hs_iald j4 dL_law_1226 ha3 hi5 hj6 ?_
  refine hs_aload_n dL_law_1227 rfl ?_
  refine hs_iload dL_law_1228 rfl ?_
  refine hs_iconst (v := 2) dL_law_1230 (by decide) ?_
  refine hs_iadd dL_law_1231 ?_
  refine hs_iald j7 dL_law_1232 ha3 hi8 hj9 ?_
  exact hk_z0 (hs_vir (M' := m_X9_round) (vs := [.int (f2 j4), .int (f2 j7)]) (c1 := 0) (s1 := 0) dL_law_1233 wd_623 vi_X9_round hrec rfl (Nat.le_of_ble_eq_true rfl) hc hq_i (hc_i (fun z h9 k9 => k9)))
theorem b_L_law_1236 {G : hk_G} {d cb sb : Nat} {h : hk_H} {Q : hk_O → hk_H → Prop} {s0 : Int32} {r2 : Nat} {r0 : Nat} {x4 : Int32} {n1 : Nat} {f2 : Nat → Int32} {fs_ : List Value} {o1 : Option Value} {o3 : Option Value} {o5 : Option Value} {o6 : Option Value} {o7 : Option Value} (ha3 : h.2 r0 = some (.inl (0, n1, .inl f2))) (j4 : Nat) (hi5 : (x4 + 1 : Int32).toInt = (j4 : Int)) (hj6 : j4 < n1) (j7 : Nat) (hi8 : (x4 + 2 : Int32).toInt = (j7 : Int)) (hj9 : j7 < n1) (hrec : h.2 r2 = some (.inr (10, fs_))) (hc : hk_Ci G m_X10_round d 0 0 [.ref r2, .int (f2 j4), .int (f2 j7)] h (fun z h' => hk_S G m_L_law (d + 1) cb sb 1252 [some (.ref r0), o1, some (.ref r2), o3, some (.int x4), o5, o6, o7] [.int z, .int s0] h' Q)) : hk_S G m_L_law (d + 1) cb sb 1236 [some (.ref r0), o1, some (.ref r2), o3, some (.int x4), o5, o6, o7] [.int s0] h Q := by
  refine hs_aload_n dL_law_1236 rfl ?_
  refine hs_aload_n dL_law_1237 rfl ?_
  refine hs_iload dL_law_1238 rfl ?_
  refine hs_iconst (v := 1) dL_law_1240 (by decide) ?_
  refine hs_iadd dL_law_1241 ?_
  refine hs_iald j4 dL_law_1242 ha3 hi5 hj6 ?_
  refine hs_aload_n dL_law_1243 rfl ?_
  refine hs_iload dL_law_1244 rfl ?_
  refine hs_iconst (v := 2) dL_law_1246 (by decide) ?_
  refine hs_iadd dL_law_1247 ?_
  refine hs_iald j7 dL_law_1248 ha3 hi8 hj9 ?_
  exact hk_z0 (hs_vir (M' := m_X10_round) (vs := [.int (f2 j4), .int (f2 j7)]) (c1 := 0) (s1 := 0) dL_law_1249 wd_1359 vi_X10_round hrec rfl (Nat.le_of_ble_eq_true rfl) hc hq_i (hc_i (fun z h9 k9 => k9)))
theorem b_L_law_1252 {G : hk_G} {d cb sb : Nat} {h : hk_H} {Q : hk_O → hk_H → Prop} {s0 : Int32} {s1 : Int32} {o0 : Option Value} {o1 : Option Value} {o2 : Option Value} {o3 : Option Value} {o4 : Option Value} {o5 : Option Value} {o6 : Option Value} {o7 : Option Value} (kt : s0 = s1 → hk_S G m_L_law (d + 1) cb sb 1974 [o0, o1, o2, o3, o4, o5, o6, o7] [] h Q) (kf : ¬ s0 = s1 → hk_S G m_L_law (d + 1) cb sb 1255 [o0, o1, o2, o3, o4, o5, o6, o7] [] h Q) : hk_S G m_L_law (d + 1) cb sb 1252 [o0, o1, o2, o3, o4, o5, o6, o7] [.int s1, .int s0] h Q := by
  exact hs_icmp_eq dL_law_1252 (by decide) kt kf
theorem b_L_law_1255 {G : hk_G} {d cb sb : Nat} {h : hk_H} {Q : hk_O → hk_H → Prop} {o0 : Option Value} {o1 : Option Value} {o2 : Option Value} {o3 : Option Value} {o4 : Option Value} {o5 : Option Value} {o6 : Option Value} {o7 : Option Value} (hq : Q (.inl (some (.int 0))) h) : hk_S G m_L_law (d + 1) cb sb 1255 [o0, o1, o2, o3, o4, o5, o6, o7] [] h Q := by
  refine hs_iconst (v := 0) dL_law_1255 (by decide) ?_
  exact hs_zret dL_law_1256 rfl (by decide) hq
theorem b_L_law_1257 {G : hk_G} {d cb sb : Nat} {h : hk_H} {Q : hk_O → hk_H → Prop} {r1 : Nat} {r0 : Nat} {x4 : Int32} {n1 : Nat} {f2 : Nat → Int32} {r3 : Nat} {cq : Nat} {sq : Nat} {o2 : Option Value} {o5 : Option Value} {o6 : Option Value} {o7 : Option Value} (ha3 : h.2 r0 = some (.inl (0, n1, .inl f2))) (j4 : Nat) (hi5 : (x4 + 1 : Int32).toInt = (j4 : Int)) (hj6 : j4 < n1) (j7 : Nat) (hi8 : (x4 + 2 : Int32).toInt = (j7 : Int)) (hj9 : j7 < n1) (j10 : Nat) (hi11 : (x4 + 3 : Int32).toInt = (j10 : Int)) (hj12 : j10 < n1) (j13 : Nat) (hi14 : (x4 + 4 : Int32).toInt = (j13 : Int)) (hj15 : j13 < n1) (hc : hk_Ci G m_L_price d cq sq [.ref r1, .int (f2 j4), .int (f2 j7), .int (f2 j10), .int (f2 j13), .ref r3] h (fun z h' => hk_S G m_L_law (d + 1) cb sb 1286 [some (.ref r0), some (.ref r1), o2, some (.ref r3), some (.int x4), o5, o6, o7] [.int z] h' Q)) : hk_S G m_L_law (d + 1) (cq + cb) (sq + sb) 1257 [some (.ref r0), some (.ref r1), o2, some (.ref r3), some (.int x4), o5, o6, o7] [] h Q := by
  refine hs_aload_n dL_law_1257 rfl ?_
  refine hs_aload_n dL_law_1258 rfl ?_
  refine hs_iload dL_law_1259 rfl ?_
  refine hs_iconst (v := 1) dL_law_1261 (by decide) ?_
  refine hs_iadd dL_law_1262 ?_
  refine hs_iald j4 dL_law_1263 ha3 hi5 hj6 ?_
  refine hs_aload_n dL_law_1264 rfl ?_
  refine hs_iload dL_law_1265 rfl ?_
  refine hs_iconst (v := 2) dL_law_1267 (by decide) ?_
  refine hs_iadd dL_law_1268 ?_
  refine hs_iald j7 dL_law_1269 ha3 hi8 hj9 ?_
  refine hs_aload_n dL_law_1270 rfl ?_
  refine hs_iload dL_law_1271 rfl ?_
  refine hs_iconst (v := 3) dL_law_1273 (by decide) ?_
  refine hs_iadd dL_law_1274 ?_
  refine hs_iald j10 dL_law_1275 ha3 hi11 hj12 ?_
  refine hs_aload_n dL_law_1276 rfl ?_
  refine hs_iload dL_law_1277 rfl ?_
  refine hs_iconst (v := 4) dL_law_1279 (by decide) ?_
  refine hs_iadd dL_law_1280 ?_
  refine hs_iald j13 dL_law_1281 ha3 hi14 hj15 ?_
  refine hs_aload_n dL_law_1282 rfl ?_
  exact hs_callSH (M' := m_L_price) (vs := [.ref r1, .int (f2 j4), .int (f2 j7), .int (f2 j10), .int (f2 j13), .ref r3]) dL_law_1283 ok_L_price (by decide) wd_1088 wd_1089 rfl (Nat.le_of_ble_eq_true rfl) hc hq_i (hc_i (fun z h9 k9 => k9))
theorem b_L_law_1286 {G : hk_G} {d cb sb : Nat} {h : hk_H} {Q : hk_O → hk_H → Prop} {s0 : Int32} {r2 : Nat} {r0 : Nat} {x4 : Int32} {n1 : Nat} {f2 : Nat → Int32} {fs_ : List Value} {o1 : Option Value} {o3 : Option Value} {o5 : Option Value} {o6 : Option Value} {o7 : Option Value} (ha3 : h.2 r0 = some (.inl (0, n1, .inl f2))) (j4 : Nat) (hi5 : (x4 + 1 : Int32).toInt = (j4 : Int)) (hj6 : j4 < n1) (j7 : Nat) (hi8 : (x4 + 2 : Int32).toInt = (j7 : Int)) (hj9 : j7 < n1) (j10 : Nat) (hi11 : (x4 + 3 : Int32).toInt = (j10 : Int)) (hj12 : j10 < n1) (j13 : Nat) (hi14 : (x4 + 4 : Int32).toInt = (j13 : Int)) (hj15 : j13 < n1) (hrec : h.2 r2 = some (.inr (10, fs_))) (hc : hk_Ci G m_X10_price d 0 0 [.ref r2, .int (f2 j4), .int (f2 j7), .int (f2 j10), .int (f2 j13)] h (fun z h' => hk_S G m_L_law (d + 1) cb sb 1316 [some (.ref r0), o1, some (.ref r2), o3, some (.int x4), some (.int s0), o6, o7] [.int z] h' Q)) : hk_S G m_L_law (d + 1) cb sb 1286 [some (.ref r0), o1, some (.ref r2), o3, some (.int x4), o5, o6, o7] [.int s0] h Q := by
  refine hs_istK dL_law_1286 (by decide) (hk_nk1 rfl hk_c1i) rfl ?_
  refine hs_aload_n dL_law_1288 rfl ?_
  refine hs_aload_n dL_law_1289 rfl ?_
  refine hs_iload dL_law_1290 rfl ?_
  refine hs_iconst (v := 1) dL_law_1292 (by decide) ?_
  refine hs_iadd dL_law_1293 ?_
  refine hs_iald j4 dL_law_1294 ha3 hi5 hj6 ?_
  refine hs_aload_n dL_law_1295 rfl ?_
  refine hs_iload dL_law_1296 rfl ?_
  refine hs_iconst (v := 2) dL_law_1298 (by decide) ?_
  refine hs_iadd dL_law_1299 ?_
  refine hs_iald j7 dL_law_1300 ha3 hi8 hj9 ?_
  refine hs_aload_n dL_law_1301 rfl ?_
  refine hs_iload dL_law_1302 rfl ?_
  refine hs_iconst (v := 3) dL_law_1304 (by decide) ?_
  refine hs_iadd dL_law_1305 ?_
  refine hs_iald j10 dL_law_1306 ha3 hi11 hj12 ?_
  refine hs_aload_n dL_law_1307 rfl ?_
  refine hs_iload dL_law_1308 rfl ?_
  refine hs_iconst (v := 4) dL_law_1310 (by decide) ?_
  refine hs_iadd dL_law_1311 ?_
  refine hs_iald j13 dL_law_1312 ha3 hi14 hj15 ?_
  exact hk_z0 (hs_vir (M' := m_X10_price) (vs := [.int (f2 j4), .int (f2 j7), .int (f2 j10), .int (f2 j13)]) (c1 := 0) (s1 := 0) dL_law_1313 wd_1371 vi_X10_price hrec rfl (Nat.le_of_ble_eq_true rfl) hc hq_i (hc_i (fun z h9 k9 => k9)))
theorem b_L_law_1316 {G : hk_G} {d cb sb : Nat} {h : hk_H} {Q : hk_O → hk_H → Prop} {s0 : Int32} {r2 : Nat} {fs_ : List Value} {o0 : Option Value} {o1 : Option Value} {o3 : Option Value} {o4 : Option Value} {o5 : Option Value} {o6 : Option Value} {o7 : Option Value} (hrec : h.2 r2 = some (.inr (10, fs_))) (hc : hk_Ci G m_X10_thrown d 0 0 [.ref r2] h (fun z h' => hk_S G m_L_law (d + 1) cb sb 1322 [o0, o1, some (.ref r2), o3, o4, o5, some (.int s0), o7] [.int z] h' Q)) (ho5 : hk_c1 o5 := by first | exact hk_c1i | exact hk_c1r | exact hk_c10 | exact hk_c1n) : hk_S G m_L_law (d + 1) cb sb 1316 [o0, o1, some (.ref r2), o3, o4, o5, o6, o7] [.int s0] h Q := by
  refine hs_istK dL_law_1316 (by decide) (hk_nk1 rfl ho5) rfl ?_
  refine hs_aload_n dL_law_1318 rfl ?_
  exact hk_z0 (hs_vir (M' := m_X10_thrown) (vs := []) (c1 := 0) (s1 := 0) dL_law_1319 wd_1214 vi_X10_thrown hrec rfl (Nat.le_of_ble_eq_true rfl) hc hq_i (hc_i (fun z h9 k9 => k9)))
theorem b_L_law_1322 {G : hk_G} {d cb sb : Nat} {h : hk_H} {Q : hk_O → hk_H → Prop} {s0 : Int32} {x5 : Int32} {o0 : Option Value} {o1 : Option Value} {o2 : Option Value} {o3 : Option Value} {o4 : Option Value} {o6 : Option Value} {o7 : Option Value} (kt : s0 = x5 → hk_S G m_L_law (d + 1) cb sb 1329 [o0, o1, o2, o3, o4, some (.int x5), o6, o7] [] h Q) (kf : ¬ s0 = x5 → hk_S G m_L_law (d + 1) cb sb 1327 [o0, o1, o2, o3, o4, some (.int x5), o6, o7] [] h Q) : hk_S G m_L_law (d + 1) cb sb 1322 [o0, o1, o2, o3, o4, some (.int x5), o6, o7] [.int s0] h Q := by
  refine hs_iload dL_law_1322 rfl ?_
  exact hs_icmp_eq dL_law_1324 (by decide) kt kf
theorem b_L_law_1327 {G : hk_G} {d cb sb : Nat} {h : hk_H} {Q : hk_O → hk_H → Prop} {o0 : Option Value} {o1 : Option Value} {o2 : Option Value} {o3 : Option Value} {o4 : Option Value} {o5 : Option Value} {o6 : Option Value} {o7 : Option Value} (hq : Q (.inl (some (.int 0))) h) : hk_S G m_L_law (d + 1) cb sb 1327 [o0, o1, o2, o3, o4, o5, o6, o7] [] h Q := by
  refine hs_iconst (v := 0) dL_law_1327 (by decide) ?_
  exact hs_zret dL_law_1328 rfl (by decide) hq
theorem b_L_law_1329 {G : hk_G} {d cb sb : Nat} {h : hk_H} {Q : hk_O → hk_H → Prop} {x5 : Int32} {o0 : Option Value} {o1 : Option Value} {o2 : Option Value} {o3 : Option Value} {o4 : Option Value} {o6 : Option Value} {o7 : Option Value} (kt : ¬ x5 = 0 → hk_S G m_L_law (d + 1) cb sb 1346 [o0, o1, o2, o3, o4, some (.int x5), o6, o7] [] h Q) (kf : x5 = 0 → hk_S G m_L_law (d + 1) cb sb 1334 [o0, o1, o2, o3, o4, some (.int x5), o6, o7] [] h Q) : hk_S G m_L_law (d + 1) cb sb 1329 [o0, o1, o2, o3, o4, some (.int x5), o6, o7] [] h Q := by
  refine hs_iload dL_law_1329 rfl ?_
  exact hs_if_ne dL_law_1331 (by decide) kt kf
theorem b_L_law_1334 {G : hk_G} {d cb sb : Nat} {h : hk_H} {Q : hk_O → hk_H → Prop} {r3 : Nat} {n1 : Nat} {f2 : Nat → Int64} {x6 : Int32} {o0 : Option Value} {o1 : Option Value} {o2 : Option Value} {o4 : Option Value} {o5 : Option Value} {o7 : Option Value} (ha3 : h.2 r3 = some (.inl (1, n1, .inr (.inl f2)))) (j4 : Nat) (hi5 : (0 : Int32).toInt = (j4 : Int)) (hj6 : j4 < n1) (kt : (lg_cmp (f2 j4) x6.toInt64) = 0 → hk_S G m_L_law (d + 1) cb sb 1346 [o0, o1, o2, some (.ref r3), o4, o5, some (.int x6), o7] [] h Q) (kf : ¬ (lg_cmp (f2 j4) x6.toInt64) = 0 → hk_S G m_L_law (d + 1) cb sb 1344 [o0, o1, o2, some (.ref r3), o4, o5, some (.int x6), o7] [] h Q) : hk_S G m_L_law (d + 1) cb sb 1334 [o0, o1, o2, some (.ref r3), o4, o5, some (.int x6), o7] [] h Q := by
  refine hs_aload_n dL_law_1334 rfl ?_
  refine hs_iconst (v := 0) dL_law_1335 (by decide) ?_
  refine hs_lald j4 dL_law_1336 ha3 hi5 hj6 ?_
  refine hs_iload dL_law_1337 rfl ?_
  refine hs_i2l dL_law_1339 ?_
  refine hs_lcmp dL_law_1340 ?_
  exact hs_if_eq dL_law_1341 (by decide) kt kf
theorem b_L_law_1344 {G : hk_G} {d cb sb : Nat} {h : hk_H} {Q : hk_O → hk_H → Prop} {o0 : Option Value} {o1 : Option Value} {o2 : Option Value} {o3 : Option Value} {o4 : Option Value} {o5 : Option Value} {o6 : Option Value} {o7 : Option Value} (hq : Q (.inl (some (.int 0))) h) : hk_S G m_L_law (d + 1) cb sb 1344 [o0, o1, o2, o3, o4, o5, o6, o7] [] h Q := by
  refine hs_iconst (v := 0) dL_law_1344 (by decide) ?_
  exact hs_zret dL_law_1345 rfl (by decide) hq
theorem b_L_law_1346 {G : hk_G} {d cb sb : Nat} {h : hk_H} {Q : hk_O → hk_H → Prop} {x4 : Int32} {o0 : Option Value} {o1 : Option Value} {o2 : Option Value} {o3 : Option Value} {o5 : Option Value} {o6 : Option Value} {o7 : Option Value} (k : hk_S G m_L_law (d + 1) cb sb 43 [o0, o1, o2, o3, some (.int (x4 + 6)), o5, o6, o7] [] h Q) (ho3 : hk_c1 o3 := by first | exact hk_c1i | exact hk_c1r | exact hk_c10 | exact hk_c1n) : hk_S G m_L_law (d + 1) cb sb 1346 [o0, o1, o2, o3, some (.int x4), o5, o6, o7] [] h Q := by
  refine hs_goto dL_law_1346 (tgt := 1974) (by decide) ?_
  refine hs_iincK (v := 6) dL_law_1974 rfl (by decide) (by decide) (hk_nk1 rfl ho3) rfl ?_
  refine hs_goto dL_law_1977 (tgt := 43) (by decide) ?_
  exact k
theorem b_L_law_1349 {G : hk_G} {d cb sb : Nat} {h : hk_H} {Q : hk_O → hk_H → Prop} {r1 : Nat} {r0 : Nat} {x4 : Int32} {n1 : Nat} {f2 : Nat → Int32} {cq : Nat} {sq : Nat} {fs_ : List Value} {o2 : Option Value} {o3 : Option Value} {o5 : Option Value} {o6 : Option Value} {o7 : Option Value} (ha3 : h.2 r0 = some (.inl (0, n1, .inl f2))) (j4 : Nat) (hi5 : (x4 + 1 : Int32).toInt = (j4 : Int)) (hj6 : j4 < n1) (hrec : h.2 r1 = some (.inr (9, fs_))) (hc : hk_Ci G m_X9_honest d cq sq [.ref r1, .int (f2 j4)] h (fun z h' => hk_S G m_L_law (d + 1) cb sb 1359 [some (.ref r0), some (.ref r1), o2, o3, some (.int x4), o5, o6, o7] [.int z] h' Q)) : hk_S G m_L_law (d + 1) (cq + cb) (sq + sb) 1349 [some (.ref r0), some (.ref r1), o2, o3, some (.int x4), o5, o6, o7] [] h Q := by
  refine hs_aload_n dL_law_1349 rfl ?_
  refine hs_aload_n dL_law_1350 rfl ?_
  refine hs_iload dL_law_1351 rfl ?_
  refine hs_iconst (v := 1) dL_law_1353 (by decide) ?_
  refine hs_iadd dL_law_1354 ?_
  refine hs_iald j4 dL_law_1355 ha3 hi5 hj6 ?_
  exact hs_vir (M' := m_X9_honest) (vs := [.int (f2 j4)]) dL_law_1356 wd_684 vi_X9_honest hrec rfl (Nat.le_of_ble_eq_true rfl) hc hq_i (hc_i (fun z h9 k9 => k9))
theorem b_L_law_1359 {G : hk_G} {d cb sb : Nat} {h : hk_H} {Q : hk_O → hk_H → Prop} {s0 : Int32} {r2 : Nat} {r0 : Nat} {x4 : Int32} {n1 : Nat} {f2 : Nat → Int32} {fs_ : List Value} {o1 : Option Value} {o3 : Option Value} {o5 : Option Value} {o6 : Option Value} {o7 : Option Value} (ha3 : h.2 r0 = some (.inl (0, n1, .inl f2))) (j4 : Nat) (hi5 : (x4 + 1 : Int32).toInt = (j4 : Int)) (hj6 : j4 < n1) (hrec : h.2 r2 = some (.inr (10, fs_))) (hc : hk_Ci G m_X10_honest d 0 0 [.ref r2, .int (f2 j4)] h (fun z h' => hk_S G m_L_law (d + 1) cb sb 1369 [some (.ref r0), o1, some (.ref r2), o3, some (.int x4), o5, o6, o7] [.int z, .int s0] h' Q)) : hk_S G m_L_law (d + 1) cb sb 1359 [some (.ref r0), o1, some (.ref r2), o3, some (.int x4), o5, o6, o7] [.int s0] h Q := by
  refine hs_aload_n dL_law_1359 rfl ?_
  refine hs_aload_n dL_law_1360 rfl ?_
  refine hs_iload dL_law_1361 rfl ?_
  refine hs_iconst (v := 1) dL_law_1363 (by decide) ?_
  refine hs_iadd dL_law_1364 ?_
  refine hs_iald j4 dL_law_1365 ha3 hi5 hj6 ?_
  exact hk_z0 (hs_vir (M' := m_X10_honest) (vs := [.int (f2 j4)]) (c1 := 0) (s1 := 0) dL_law_1366 wd_1379 vi_X10_honest hrec rfl (Nat.le_of_ble_eq_true rfl) hc hq_i (hc_i (fun z h9 k9 => k9)))
theorem b_L_law_1369 {G : hk_G} {d cb sb : Nat} {h : hk_H} {Q : hk_O → hk_H → Prop} {s0 : Int32} {s1 : Int32} {o0 : Option Value} {o1 : Option Value} {o2 : Option Value} {o3 : Option Value} {o4 : Option Value} {o5 : Option Value} {o6 : Option Value} {o7 : Option Value} (kt : s0 = s1 → hk_S G m_L_law (d + 1) cb sb 1974 [o0, o1, o2, o3, o4, o5, o6, o7] [] h Q) (kf : ¬ s0 = s1 → hk_S G m_L_law (d + 1) cb sb 1372 [o0, o1, o2, o3, o4, o5, o6, o7] [] h Q) : hk_S G m_L_law (d + 1) cb sb 1369 [o0, o1, o2, o3, o4, o5, o6, o7] [.int s1, .int s0] h Q := by
  exact hs_icmp_eq dL_law_1369 (by decide) kt kf
theorem b_L_law_1372 {G : hk_G} {d cb sb : Nat} {h : hk_H} {Q : hk_O → hk_H → Prop} {o0 : Option Value} {o1 : Option Value} {o2 : Option Value} {o3 : Option Value} {o4 : Option Value} {o5 : Option Value} {o6 : Option Value} {o7 : Option Value} (hq : Q (.inl (some (.int 0))) h) : hk_S G m_L_law (d + 1) cb sb 1372 [o0, o1, o2, o3, o4, o5, o6, o7] [] h Q := by
  refine hs_iconst (v := 0) dL_law_1372 (by decide) ?_
  exact hs_zret dL_law_1373 rfl (by decide) hq
theorem b_L_law_1374 {G : hk_G} {d cb sb : Nat} {h : hk_H} {Q : hk_O → hk_H → Prop} {r1 : Nat} {r0 : Nat} {x4 : Int32} {n1 : Nat} {f2 : Nat → Int32} {fs_ : List Value} {o2 : Option Value} {o3 : Option Value} {o5 : Option Value} {o6 : Option Value} {o7 : Option Value} (ha3 : h.2 r0 = some (.inl (0, n1, .inl f2))) (j4 : Nat) (hi5 : (x4 + 1 : Int32).toInt = (j4 : Int)) (hj6 : j4 < n1) (j7 : Nat) (hi8 : (x4 + 2 : Int32).toInt = (j7 : Int)) (hj9 : j7 < n1) (hrec : h.2 r1 = some (.inr (9, fs_))) (hc : hk_Ci G m_X9_same d 0 0 [.ref r1, .int (f2 j4), .int (f2 j7)] h (fun z h' => hk_S G m_L_law (d + 1) cb sb 1390 [some (.ref r0), some (.ref r1), o2, o3, some (.int x4), o5, o6, o7] [.int z] h' Q)) : hk_S G m_L_law (d + 1) cb sb 1374 [some (.ref r0), some (.ref r1), o2, o3, some (.int x4), o5, o6, o7] [] h Q := by
  refine hs_aload_n dL_law_1374 rfl ?_
  refine hs_aload_n dL_law_1375 rfl ?_
  refine hs_iload dL_law_1376 rfl ?_
  refine hs_iconst (v := 1) dL_law_1378 (by decide) ?_
  refine hs_iadd dL_law_1379 ?_
  refine hs_iald j4 dL_law_1380 ha3 hi5 hj6 ?_
  refine hs_aload_n dL_law_1381 rfl ?_
  refine hs_iload dL_law_1382 rfl ?_
  refine hs_iconst (v := 2) dL_law_1384 (by decide) ?_
  refine hs_iadd dL_law_1385 ?_
  refine hs_iald j7 dL_law_1386 ha3 hi8 hj9 ?_
  exact hk_z0 (hs_vir (M' := m_X9_same) (vs := [.int (f2 j4), .int (f2 j7)]) (c1 := 0) (s1 := 0) dL_law_1387 wd_712 vi_X9_same hrec rfl (Nat.le_of_ble_eq_true rfl) hc hq_i (hc_i (fun z h9 k9 => k9)))
theorem b_L_law_1390 {G : hk_G} {d cb sb : Nat} {h : hk_H} {Q : hk_O → hk_H → Prop} {s0 : Int32} {r2 : Nat} {r0 : Nat} {x4 : Int32} {n1 : Nat} {f2 : Nat → Int32} {fs_ : List Value} {o1 : Option Value} {o3 : Option Value} {o5 : Option Value} {o6 : Option Value} {o7 : Option Value} (ha3 : h.2 r0 = some (.inl (0, n1, .inl f2))) (j4 : Nat) (hi5 : (x4 + 1 : Int32).toInt = (j4 : Int)) (hj6 : j4 < n1) (j7 : Nat) (hi8 : (x4 + 2 : Int32).toInt = (j7 : Int)) (hj9 : j7 < n1) (hrec : h.2 r2 = some (.inr (10, fs_))) (hc : hk_Ci G m_X10_same d 0 0 [.ref r2, .int (f2 j4), .int (f2 j7)] h (fun z h' => hk_S G m_L_law (d + 1) cb sb 1406 [some (.ref r0), o1, some (.ref r2), o3, some (.int x4), o5, o6, o7] [.int z, .int s0] h' Q)) : hk_S G m_L_law (d + 1) cb sb 1390 [some (.ref r0), o1, some (.ref r2), o3, some (.int x4), o5, o6, o7] [.int s0] h Q := by
  refine hs_aload_n dL_law_1390 rfl ?_
  refine hs_aload_n dL_law_1391 rfl ?_
  refine hs_iload dL_law_1392 rfl ?_
  refine hs_iconst (v := 1) dL_law_1394 (by decide) ?_
  refine hs_iadd dL_law_1395 ?_
  refine hs_iald j4 dL_law_1396 ha3 hi5 hj6 ?_
  refine hs_aload_n dL_law_1397 rfl ?_
  refine hs_iload dL_law_1398 rfl ?_
  refine hs_iconst (v := 2) dL_law_1400 (by decide) ?_
  refine hs_iadd dL_law_1401 ?_
  refine hs_iald j7 dL_law_1402 ha3 hi8 hj9 ?_
  exact hk_z0 (hs_vir (M' := m_X10_same) (vs := [.int (f2 j4), .int (f2 j7)]) (c1 := 0) (s1 := 0) dL_law_1403 wd_1385 vi_X10_same hrec rfl (Nat.le_of_ble_eq_true rfl) hc hq_i (hc_i (fun z h9 k9 => k9)))
theorem b_L_law_1406 {G : hk_G} {d cb sb : Nat} {h : hk_H} {Q : hk_O → hk_H → Prop} {s0 : Int32} {s1 : Int32} {o0 : Option Value} {o1 : Option Value} {o2 : Option Value} {o3 : Option Value} {o4 : Option Value} {o5 : Option Value} {o6 : Option Value} {o7 : Option Value} (kt : s0 = s1 → hk_S G m_L_law (d + 1) cb sb 1974 [o0, o1, o2, o3, o4, o5, o6, o7] [] h Q) (kf : ¬ s0 = s1 → hk_S G m_L_law (d + 1) cb sb 1409 [o0, o1, o2, o3, o4, o5, o6, o7] [] h Q) : hk_S G m_L_law (d + 1) cb sb 1406 [o0, o1, o2, o3, o4, o5, o6, o7] [.int s1, .int s0] h Q := by
  exact hs_icmp_eq dL_law_1406 (by decide) kt kf
theorem b_L_law_1409 {G : hk_G} {d cb sb : Nat} {h : hk_H} {Q : hk_O → hk_H → Prop} {o0 : Option Value} {o1 : Option Value} {o2 : Option Value} {o3 : Option Value} {o4 : Option Value} {o5 : Option Value} {o6 : Option Value} {o7 : Option Value} (hq : Q (.inl (some (.int 0))) h) : hk_S G m_L_law (d + 1) cb sb 1409 [o0, o1, o2, o3, o4, o5, o6, o7] [] h Q := by
  refine hs_iconst (v := 0) dL_law_1409 (by decide) ?_
  exact hs_zret dL_law_1410 rfl (by decide) hq
theorem b_L_law_1411 {G : hk_G} {d cb sb : Nat} {h : hk_H} {Q : hk_O → hk_H → Prop} {r1 : Nat} {r0 : Nat} {x4 : Int32} {n1 : Nat} {f2 : Nat → Int32} {fs_ : List Value} {o2 : Option Value} {o3 : Option Value} {o5 : Option Value} {o6 : Option Value} {o7 : Option Value} (ha3 : h.2 r0 = some (.inl (0, n1, .inl f2))) (j4 : Nat) (hi5 : (x4 + 1 : Int32).toInt = (j4 : Int)) (hj6 : j4 < n1) (hrec : h.2 r1 = some (.inr (9, fs_))) (hc : hk_Ci G m_X9_fair d 0 0 [.ref r1, .int (f2 j4)] h (fun z h' => hk_S G m_L_law (d + 1) cb sb 1421 [some (.ref r0), some (.ref r1), o2, o3, some (.int x4), o5, o6, o7] [.int z] h' Q)) : hk_S G m_L_law (d + 1) cb sb 1411 [some (.ref r0), some (.ref r1), o2, o3, some (.int x4), o5, o6, o7] [] h Q := by
  refine hs_aload_n dL_law_1411 rfl ?_
  refine hs_aload_n dL_law_1412 rfl ?_
  refine hs_iload dL_law_1413 rfl ?_
  refine hs_iconst (v := 1) dL_law_1415 (by decide) ?_
  refine hs_iadd dL_law_1416 ?_
  refine hs_iald j4 dL_law_1417 ha3 hi5 hj6 ?_
  exact hk_z0 (hs_vir (M' := m_X9_fair) (vs := [.int (f2 j4)]) (c1 := 0) (s1 := 0) dL_law_1418 wd_721 vi_X9_fair hrec rfl (Nat.le_of_ble_eq_true rfl) hc hq_i (hc_i (fun z h9 k9 => k9)))
theorem b_L_law_1421 {G : hk_G} {d cb sb : Nat} {h : hk_H} {Q : hk_O → hk_H → Prop} {s0 : Int32} {r2 : Nat} {r0 : Nat} {x4 : Int32} {n1 : Nat} {f2 : Nat → Int32} {fs_ : List Value} {o1 : Option Value} {o3 : Option Value} {o5 : Option Value} {o6 : Option Value} {o7 : Option Value} (ha3 : h.2 r0 = some (.inl (0, n1, .inl f2))) (j4 : Nat) (hi5 : (x4 + 1 : Int32).toInt = (j4 : Int)) (hj6 : j4 < n1) (hrec : h.2 r2 = some (.inr (10, fs_))) (hc : hk_Ci G m_X10_fair d 0 0 [.ref r2, .int (f2 j4)] h (fun z h' => hk_S G m_L_law (d + 1) cb sb 1431 [some (.ref r0), o1, some (.ref r2), o3, some (.int x4), o5, o6, o7] [.int z, .int s0] h' Q)) : hk_S G m_L_law (d + 1) cb sb 1421 [some (.ref r0), o1, some (.ref r2), o3, some (.int x4), o5, o6, o7] [.int s0] h Q := by
  refine hs_aload_n dL_law_1421 rfl ?_
  refine hs_aload_n dL_law_1422 rfl ?_
  refine hs_iload dL_law_1423 rfl ?_
  refine hs_iconst (v := 1) dL_law_1425 (by decide) ?_
  refine hs_iadd dL_law_1426 ?_
  refine hs_iald j4 dL_law_1427 ha3 hi5 hj6 ?_
  exact hk_z0 (hs_vir (M' := m_X10_fair) (vs := [.int (f2 j4)]) (c1 := 0) (s1 := 0) dL_law_1428 wd_1389 vi_X10_fair hrec rfl (Nat.le_of_ble_eq_true rfl) hc hq_i (hc_i (fun z h9 k9 => k9)))
theorem b_L_law_1431 {G : hk_G} {d cb sb : Nat} {h : hk_H} {Q : hk_O → hk_H → Prop} {s0 : Int32} {s1 : Int32} {o0 : Option Value} {o1 : Option Value} {o2 : Option Value} {o3 : Option Value} {o4 : Option Value} {o5 : Option Value} {o6 : Option Value} {o7 : Option Value} (kt : s0 = s1 → hk_S G m_L_law (d + 1) cb sb 1974 [o0, o1, o2, o3, o4, o5, o6, o7] [] h Q) (kf : ¬ s0 = s1 → hk_S G m_L_law (d + 1) cb sb 1434 [o0, o1, o2, o3, o4, o5, o6, o7] [] h Q) : hk_S G m_L_law (d + 1) cb sb 1431 [o0, o1, o2, o3, o4, o5, o6, o7] [.int s1, .int s0] h Q := by
  exact hs_icmp_eq dL_law_1431 (by decide) kt kf
theorem b_L_law_1434 {G : hk_G} {d cb sb : Nat} {h : hk_H} {Q : hk_O → hk_H → Prop} {o0 : Option Value} {o1 : Option Value} {o2 : Option Value} {o3 : Option Value} {o4 : Option Value} {o5 : Option Value} {o6 : Option Value} {o7 : Option Value} (hq : Q (.inl (some (.int 0))) h) : hk_S G m_L_law (d + 1) cb sb 1434 [o0, o1, o2, o3, o4, o5, o6, o7] [] h Q := by
  refine hs_iconst (v := 0) dL_law_1434 (by decide) ?_
  exact hs_zret dL_law_1435 rfl (by decide) hq
theorem b_L_law_1436 {G : hk_G} {d cb sb : Nat} {h : hk_H} {Q : hk_O → hk_H → Prop} {r1 : Nat} {r0 : Nat} {x4 : Int32} {n1 : Nat} {f2 : Nat → Int32} {fs_ : List Value} {o2 : Option Value} {o3 : Option Value} {o5 : Option Value} {o6 : Option Value} {o7 : Option Value} (ha3 : h.2 r0 = some (.inl (0, n1, .inl f2))) (j4 : Nat) (hi5 : (x4 + 1 : Int32).toInt = (j4 : Int)) (hj6 : j4 < n1) (j7 : Nat) (hi8 : (x4 + 2 : Int32).toInt = (j7 : Int)) (hj9 : j7 < n1) (hrec : h.2 r1 = some (.inr (9, fs_))) (hc : hk_Ci G m_X9_likes d 0 0 [.ref r1, .int (f2 j4), .int (f2 j7)] h (fun z h' => hk_S G m_L_law (d + 1) cb sb 1452 [some (.ref r0), some (.ref r1), o2, o3, some (.int x4), o5, o6, o7] [.int z] h' Q)) : hk_S G m_L_law (d + 1) cb sb 1436 [some (.ref r0), some (.ref r1), o2, o3, some (.int x4), o5, o6, o7] [] h Q := by
  refine hs_aload_n dL_law_1436 rfl ?_
  refine hs_aload_n dL_law_1437 rfl ?_
  refine hs_iload dL_law_1438 rfl ?_
  refine hs_iconst (v := 1) dL_law_1440 (by decide) ?_
  refine hs_iadd dL_law_1441 ?_
  refine hs_iald j4 dL_law_1442 ha3 hi5 hj6 ?_
  refine hs_aload_n dL_law_1443 rfl ?_
  refine hs_iload dL_law_1444 rfl ?_
  refine hs_iconst (v := 2) dL_law_1446 (by decide) ?_
  refine hs_iadd dL_law_1447 ?_
  refine hs_iald j7 dL_law_1448 ha3 hi8 hj9 ?_
  exact hk_z0 (hs_vir (M' := m_X9_likes) (vs := [.int (f2 j4), .int (f2 j7)]) (c1 := 0) (s1 := 0) dL_law_1449 wd_729 vi_X9_likes hrec rfl (Nat.le_of_ble_eq_true rfl) hc hq_i (hc_i (fun z h9 k9 => k9)))
theorem b_L_law_1452 {G : hk_G} {d cb sb : Nat} {h : hk_H} {Q : hk_O → hk_H → Prop} {s0 : Int32} {r2 : Nat} {r0 : Nat} {x4 : Int32} {n1 : Nat} {f2 : Nat → Int32} {fs_ : List Value} {o1 : Option Value} {o3 : Option Value} {o5 : Option Value} {o6 : Option Value} {o7 : Option Value} (ha3 : h.2 r0 = some (.inl (0, n1, .inl f2))) (j4 : Nat) (hi5 : (x4 + 1 : Int32).toInt = (j4 : Int)) (hj6 : j4 < n1) (j7 : Nat) (hi8 : (x4 + 2 : Int32).toInt = (j7 : Int)) (hj9 : j7 < n1) (hrec : h.2 r2 = some (.inr (10, fs_))) (hc : hk_Ci G m_X10_likes d 0 0 [.ref r2, .int (f2 j4), .int (f2 j7)] h (fun z h' => hk_S G m_L_law (d + 1) cb sb 1468 [some (.ref r0), o1, some (.ref r2), o3, some (.int x4), o5, o6, o7] [.int z, .int s0] h' Q)) : hk_S G m_L_law (d + 1) cb sb 1452 [some (.ref r0), o1, some (.ref r2), o3, some (.int x4), o5, o6, o7] [.int s0] h Q := by
  refine hs_aload_n dL_law_1452 rfl ?_
  refine hs_aload_n dL_law_1453 rfl ?_
  refine hs_iload dL_law_1454 rfl ?_
  refine hs_iconst (v := 1) dL_law_1456 (by decide) ?_
  refine hs_iadd dL_law_1457 ?_
  refine hs_iald j4 dL_law_1458 ha3 hi5 hj6 ?_
  refine hs_aload_n dL_law_1459 rfl ?_
  refine hs_iload dL_law_1460 rfl ?_
  refine hs_iconst (v := 2) dL_law_1462 (by decide) ?_
  refine hs_iadd dL_law_1463 ?_
  refine hs_iald j7 dL_law_1464 ha3 hi8 hj9 ?_
  exact hk_z0 (hs_vir (M' := m_X10_likes) (vs := [.int (f2 j4), .int (f2 j7)]) (c1 := 0) (s1 := 0) dL_law_1465 wd_1393 vi_X10_likes hrec rfl (Nat.le_of_ble_eq_true rfl) hc hq_i (hc_i (fun z h9 k9 => k9)))
theorem b_L_law_1468 {G : hk_G} {d cb sb : Nat} {h : hk_H} {Q : hk_O → hk_H → Prop} {s0 : Int32} {s1 : Int32} {o0 : Option Value} {o1 : Option Value} {o2 : Option Value} {o3 : Option Value} {o4 : Option Value} {o5 : Option Value} {o6 : Option Value} {o7 : Option Value} (kt : s0 = s1 → hk_S G m_L_law (d + 1) cb sb 1974 [o0, o1, o2, o3, o4, o5, o6, o7] [] h Q) (kf : ¬ s0 = s1 → hk_S G m_L_law (d + 1) cb sb 1471 [o0, o1, o2, o3, o4, o5, o6, o7] [] h Q) : hk_S G m_L_law (d + 1) cb sb 1468 [o0, o1, o2, o3, o4, o5, o6, o7] [.int s1, .int s0] h Q := by
  exact hs_icmp_eq dL_law_1468 (by decide) kt kf
theorem b_L_law_1471 {G : hk_G} {d cb sb : Nat} {h : hk_H} {Q : hk_O → hk_H → Prop} {o0 : Option Value} {o1 : Option Value} {o2 : Option Value} {o3 : Option Value} {o4 : Option Value} {o5 : Option Value} {o6 : Option Value} {o7 : Option Value} (hq : Q (.inl (some (.int 0))) h) : hk_S G m_L_law (d + 1) cb sb 1471 [o0, o1, o2, o3, o4, o5, o6, o7] [] h Q := by
  refine hs_iconst (v := 0) dL_law_1471 (by decide) ?_
  exact hs_zret dL_law_1472 rfl (by decide) hq
theorem b_L_law_1473 {G : hk_G} {d cb sb : Nat} {h : hk_H} {Q : hk_O → hk_H → Prop} {r1 : Nat} {fs_ : List Value} {o0 : Option Value} {o2 : Option Value} {o3 : Option Value} {o4 : Option Value} {o5 : Option Value} {o6 : Option Value} {o7 : Option Value} (hrec : h.2 r1 = some (.inr (9, fs_))) (hc : hk_Ci G m_X9_rings d 0 0 [.ref r1] h (fun z h' => hk_S G m_L_law (d + 1) cb sb 1477 [o0, some (.ref r1), o2, o3, o4, o5, o6, o7] [.int z] h' Q)) : hk_S G m_L_law (d + 1) cb sb 1473 [o0, some (.ref r1), o2, o3, o4, o5, o6, o7] [] h Q := by
  refine hs_aload_n dL_law_1473 rfl ?_
  exact hk_z0 (hs_vir (M' := m_X9_rings) (vs := []) (c1 := 0) (s1 := 0) dL_law_1474 wd_745 vi_X9_rings hrec rfl (Nat.le_of_ble_eq_true rfl) hc hq_i (hc_i (fun z h9 k9 => k9)))
theorem b_L_law_1477 {G : hk_G} {d cb sb : Nat} {h : hk_H} {Q : hk_O → hk_H → Prop} {s0 : Int32} {r2 : Nat} {fs_ : List Value} {o0 : Option Value} {o1 : Option Value} {o3 : Option Value} {o4 : Option Value} {o5 : Option Value} {o6 : Option Value} {o7 : Option Value} (hrec : h.2 r2 = some (.inr (10, fs_))) (hc : hk_Ci G m_X10_rings d 0 0 [.ref r2] h (fun z h' => hk_S G m_L_law (d + 1) cb sb 1481 [o0, o1, some (.ref r2), o3, o4, o5, o6, o7] [.int z, .int s0] h' Q)) : hk_S G m_L_law (d + 1) cb sb 1477 [o0, o1, some (.ref r2), o3, o4, o5, o6, o7] [.int s0] h Q := by
  refine hs_aload_n dL_law_1477 rfl ?_
  exact hk_z0 (hs_vir (M' := m_X10_rings) (vs := []) (c1 := 0) (s1 := 0) dL_law_1478 wd_1401 vi_X10_rings hrec rfl (Nat.le_of_ble_eq_true rfl) hc hq_i (hc_i (fun z h9 k9 => k9)))
theorem b_L_law_1481 {G : hk_G} {d cb sb : Nat} {h : hk_H} {Q : hk_O → hk_H → Prop} {s0 : Int32} {s1 : Int32} {o0 : Option Value} {o1 : Option Value} {o2 : Option Value} {o3 : Option Value} {o4 : Option Value} {o5 : Option Value} {o6 : Option Value} {o7 : Option Value} (kt : s0 = s1 → hk_S G m_L_law (d + 1) cb sb 1974 [o0, o1, o2, o3, o4, o5, o6, o7] [] h Q) (kf : ¬ s0 = s1 → hk_S G m_L_law (d + 1) cb sb 1484 [o0, o1, o2, o3, o4, o5, o6, o7] [] h Q) : hk_S G m_L_law (d + 1) cb sb 1481 [o0, o1, o2, o3, o4, o5, o6, o7] [.int s1, .int s0] h Q := by
  exact hs_icmp_eq dL_law_1481 (by decide) kt kf
theorem b_L_law_1484 {G : hk_G} {d cb sb : Nat} {h : hk_H} {Q : hk_O → hk_H → Prop} {o0 : Option Value} {o1 : Option Value} {o2 : Option Value} {o3 : Option Value} {o4 : Option Value} {o5 : Option Value} {o6 : Option Value} {o7 : Option Value} (hq : Q (.inl (some (.int 0))) h) : hk_S G m_L_law (d + 1) cb sb 1484 [o0, o1, o2, o3, o4, o5, o6, o7] [] h Q := by
  refine hs_iconst (v := 0) dL_law_1484 (by decide) ?_
  exact hs_zret dL_law_1485 rfl (by decide) hq
theorem b_L_law_1486 {G : hk_G} {d cb sb : Nat} {h : hk_H} {Q : hk_O → hk_H → Prop} {r1 : Nat} {r0 : Nat} {x4 : Int32} {n1 : Nat} {f2 : Nat → Int32} {fs_ : List Value} {o2 : Option Value} {o3 : Option Value} {o5 : Option Value} {o6 : Option Value} {o7 : Option Value} (ha3 : h.2 r0 = some (.inl (0, n1, .inl f2))) (j4 : Nat) (hi5 : (x4 + 1 : Int32).toInt = (j4 : Int)) (hj6 : j4 < n1) (hrec : h.2 r1 = some (.inr (9, fs_))) (hc : hk_Ci G m_X9_leaves d 0 0 [.ref r1, .int (f2 j4)] h (fun z h' => hk_S G m_L_law (d + 1) cb sb 1496 [some (.ref r0), some (.ref r1), o2, o3, some (.int x4), o5, o6, o7] [.int z] h' Q)) : hk_S G m_L_law (d + 1) cb sb 1486 [some (.ref r0), some (.ref r1), o2, o3, some (.int x4), o5, o6, o7] [] h Q := by
  refine hs_aload_n dL_law_1486 rfl ?_
  refine hs_aload_n dL_law_1487 rfl ?_
  refine hs_iload dL_law_1488 rfl ?_
  refine hs_iconst (v := 1) dL_law_1490 (by decide) ?_
  refine hs_iadd dL_law_1491 ?_
  refine hs_iald j4 dL_law_1492 ha3 hi5 hj6 ?_
  exact hk_z0 (hs_vir (M' := m_X9_leaves) (vs := [.int (f2 j4)]) (c1 := 0) (s1 := 0) dL_law_1493 wd_769 vi_X9_leaves hrec rfl (Nat.le_of_ble_eq_true rfl) hc hq_i (hc_i (fun z h9 k9 => k9)))
theorem b_L_law_1496 {G : hk_G} {d cb sb : Nat} {h : hk_H} {Q : hk_O → hk_H → Prop} {s0 : Int32} {r2 : Nat} {r0 : Nat} {x4 : Int32} {n1 : Nat} {f2 : Nat → Int32} {fs_ : List Value} {o1 : Option Value} {o3 : Option Value} {o5 : Option Value} {o6 : Option Value} {o7 : Option Value} (ha3 : h.2 r0 = some (.inl (0, n1, .inl f2))) (j4 : Nat) (hi5 : (x4 + 1 : Int32).toInt = (j4 : Int)) (hj6 : j4 < n1) (hrec : h.2 r2 = some (.inr (10, fs_))) (hc : hk_Ci G m_X10_leaves d 0 0 [.ref r2, .int (f2 j4)] h (fun z h' => hk_S G m_L_law (d + 1) cb sb 1506 [some (.ref r0), o1, some (.ref r2), o3, some (.int x4), o5, o6, o7] [.int z, .int s0] h' Q)) : hk_S G m_L_law (d + 1) cb sb 1496 [some (.ref r0), o1, some (.ref r2), o3, some (.int x4), o5, o6, o7] [.int s0] h Q := by
  refine hs_aload_n dL_law_1496 rfl ?_
  refine hs_aload_n dL_law_1497 rfl ?_
  refine hs_iload dL_law_1498 rfl ?_
  refine hs_iconst (v := 1) dL_law_1500 (by decide) ?_
  refine hs_iadd dL_law_1501 ?_
  refine hs_iald j4 dL_law_1502 ha3 hi5 hj6 ?_
  exact hk_z0 (hs_vir (M' := m_X10_leaves) (vs := [.int (f2 j4)]) (c1 := 0) (s1 := 0) dL_law_1503 wd_1417 vi_X10_leaves hrec rfl (Nat.le_of_ble_eq_true rfl) hc hq_i (hc_i (fun z h9 k9 => k9)))
theorem b_L_law_1506 {G : hk_G} {d cb sb : Nat} {h : hk_H} {Q : hk_O → hk_H → Prop} {s0 : Int32} {s1 : Int32} {o0 : Option Value} {o1 : Option Value} {o2 : Option Value} {o3 : Option Value} {o4 : Option Value} {o5 : Option Value} {o6 : Option Value} {o7 : Option Value} (kt : s0 = s1 → hk_S G m_L_law (d + 1) cb sb 1974 [o0, o1, o2, o3, o4, o5, o6, o7] [] h Q) (kf : ¬ s0 = s1 → hk_S G m_L_law (d + 1) cb sb 1509 [o0, o1, o2, o3, o4, o5, o6, o7] [] h Q) : hk_S G m_L_law (d + 1) cb sb 1506 [o0, o1, o2, o3, o4, o5, o6, o7] [.int s1, .int s0] h Q := by
  exact hs_icmp_eq dL_law_1506 (by decide) kt kf
theorem b_L_law_1509 {G : hk_G} {d cb sb : Nat} {h : hk_H} {Q : hk_O → hk_H → Prop} {o0 : Option Value} {o1 : Option Value} {o2 : Option Value} {o3 : Option Value} {o4 : Option Value} {o5 : Option Value} {o6 : Option Value} {o7 : Option Value} (hq : Q (.inl (some (.int 0))) h) : hk_S G m_L_law (d + 1) cb sb 1509 [o0, o1, o2, o3, o4, o5, o6, o7] [] h Q := by
  refine hs_iconst (v := 0) dL_law_1509 (by decide) ?_
  exact hs_zret dL_law_1510 rfl (by decide) hq
theorem b_L_law_1511 {G : hk_G} {d cb sb : Nat} {h : hk_H} {Q : hk_O → hk_H → Prop} {r1 : Nat} {r0 : Nat} {x4 : Int32} {n1 : Nat} {f2 : Nat → Int32} {fs_ : List Value} {o2 : Option Value} {o3 : Option Value} {o5 : Option Value} {o6 : Option Value} {o7 : Option Value} (ha3 : h.2 r0 = some (.inl (0, n1, .inl f2))) (j4 : Nat) (hi5 : (x4 + 1 : Int32).toInt = (j4 : Int)) (hj6 : j4 < n1) (hrec : h.2 r1 = some (.inr (9, fs_))) (hc : hk_Ci G m_X9_turns d 0 0 [.ref r1, .int (f2 j4)] h (fun z h' => hk_S G m_L_law (d + 1) cb sb 1521 [some (.ref r0), some (.ref r1), o2, o3, some (.int x4), o5, o6, o7] [.int z] h' Q)) : hk_S G m_L_law (d + 1) cb sb 1511 [some (.ref r0), some (.ref r1), o2, o3, some (.int x4), o5, o6, o7] [] h Q := by
  refine hs_aload_n dL_law_1511 rfl ?_
  refine hs_aload_n dL_law_1512 rfl ?_
  refine hs_iload dL_law_1513 rfl ?_
  refine hs_iconst (v := 1) dL_law_1515 (by decide) ?_
  refine hs_iadd dL_law_1516 ?_
  refine hs_iald j4 dL_law_1517 ha3 hi5 hj6 ?_
  exact hk_z0 (hs_vir (M' := m_X9_turns) (vs := [.int (f2 j4)]) (c1 := 0) (s1 := 0) dL_law_1518 wd_773 vi_X9_turns hrec rfl (Nat.le_of_ble_eq_true rfl) hc hq_i (hc_i (fun z h9 k9 => k9)))
theorem b_L_law_1521 {G : hk_G} {d cb sb : Nat} {h : hk_H} {Q : hk_O → hk_H → Prop} {s0 : Int32} {r2 : Nat} {r0 : Nat} {x4 : Int32} {n1 : Nat} {f2 : Nat → Int32} {fs_ : List Value} {o1 : Option Value} {o3 : Option Value} {o5 : Option Value} {o6 : Option Value} {o7 : Option Value} (ha3 : h.2 r0 = some (.inl (0, n1, .inl f2))) (j4 : Nat) (hi5 : (x4 + 1 : Int32).toInt = (j4 : Int)) (hj6 : j4 < n1) (hrec : h.2 r2 = some (.inr (10, fs_))) (hc : hk_Ci G m_X10_turns d 0 0 [.ref r2, .int (f2 j4)] h (fun z h' => hk_S G m_L_law (d + 1) cb sb 1531 [some (.ref r0), o1, some (.ref r2), o3, some (.int x4), o5, o6, o7] [.int z, .int s0] h' Q)) : hk_S G m_L_law (d + 1) cb sb 1521 [some (.ref r0), o1, some (.ref r2), o3, some (.int x4), o5, o6, o7] [.int s0] h Q := by
  refine hs_aload_n dL_law_1521 rfl ?_
  refine hs_aload_n dL_law_1522 rfl ?_
  refine hs_iload dL_law_1523 rfl ?_
  refine hs_iconst (v := 1) dL_law_1525 (by decide) ?_
  refine hs_iadd dL_law_1526 ?_
  refine hs_iald j4 dL_law_1527 ha3 hi5 hj6 ?_
  exact hk_z0 (hs_vir (M' := m_X10_turns) (vs := [.int (f2 j4)]) (c1 := 0) (s1 := 0) dL_law_1528 wd_1421 vi_X10_turns hrec rfl (Nat.le_of_ble_eq_true rfl) hc hq_i (hc_i (fun z h9 k9 => k9)))
theorem b_L_law_1531 {G : hk_G} {d cb sb : Nat} {h : hk_H} {Q : hk_O → hk_H → Prop} {s0 : Int32} {s1 : Int32} {o0 : Option Value} {o1 : Option Value} {o2 : Option Value} {o3 : Option Value} {o4 : Option Value} {o5 : Option Value} {o6 : Option Value} {o7 : Option Value} (kt : s0 = s1 → hk_S G m_L_law (d + 1) cb sb 1974 [o0, o1, o2, o3, o4, o5, o6, o7] [] h Q) (kf : ¬ s0 = s1 → hk_S G m_L_law (d + 1) cb sb 1534 [o0, o1, o2, o3, o4, o5, o6, o7] [] h Q) : hk_S G m_L_law (d + 1) cb sb 1531 [o0, o1, o2, o3, o4, o5, o6, o7] [.int s1, .int s0] h Q := by
  exact hs_icmp_eq dL_law_1531 (by decide) kt kf
theorem b_L_law_1534 {G : hk_G} {d cb sb : Nat} {h : hk_H} {Q : hk_O → hk_H → Prop} {o0 : Option Value} {o1 : Option Value} {o2 : Option Value} {o3 : Option Value} {o4 : Option Value} {o5 : Option Value} {o6 : Option Value} {o7 : Option Value} (hq : Q (.inl (some (.int 0))) h) : hk_S G m_L_law (d + 1) cb sb 1534 [o0, o1, o2, o3, o4, o5, o6, o7] [] h Q := by
  refine hs_iconst (v := 0) dL_law_1534 (by decide) ?_
  exact hs_zret dL_law_1535 rfl (by decide) hq
theorem b_L_law_1536 {G : hk_G} {d cb sb : Nat} {h : hk_H} {Q : hk_O → hk_H → Prop} {r1 : Nat} {r0 : Nat} {x4 : Int32} {n1 : Nat} {f2 : Nat → Int32} {fs_ : List Value} {o2 : Option Value} {o3 : Option Value} {o5 : Option Value} {o6 : Option Value} {o7 : Option Value} (ha3 : h.2 r0 = some (.inl (0, n1, .inl f2))) (j4 : Nat) (hi5 : (x4 + 1 : Int32).toInt = (j4 : Int)) (hj6 : j4 < n1) (hrec : h.2 r1 = some (.inr (9, fs_))) (hc : hk_Ci G m_X9_blocks d 0 0 [.ref r1, .int (f2 j4)] h (fun z h' => hk_S G m_L_law (d + 1) cb sb 1546 [some (.ref r0), some (.ref r1), o2, o3, some (.int x4), o5, o6, o7] [.int z] h' Q)) : hk_S G m_L_law (d + 1) cb sb 1536 [some (.ref r0), some (.ref r1), o2, o3, some (.int x4), o5, o6, o7] [] h Q := by
  refine hs_aload_n dL_law_1536 rfl ?_
  refine hs_aload_n dL_law_1537 rfl ?_
  refine hs_iload dL_law_1538 rfl ?_
  refine hs_iconst (v := 1) dL_law_1540 (by decide) ?_
  refine hs_iadd dL_law_1541 ?_
  refine hs_iald j4 dL_law_1542 ha3 hi5 hj6 ?_
  exact hk_z0 (hs_vir (M' := m_X9_blocks) (vs := [.int (f2 j4)]) (c1 := 0) (s1 := 0) dL_law_1543 wd_781 vi_X9_blocks hrec rfl (Nat.le_of_ble_eq_true rfl) hc hq_i (hc_i (fun z h9 k9 => k9)))
theorem b_L_law_1546 {G : hk_G} {d cb sb : Nat} {h : hk_H} {Q : hk_O → hk_H → Prop} {s0 : Int32} {r2 : Nat} {r0 : Nat} {x4 : Int32} {n1 : Nat} {f2 : Nat → Int32} {fs_ : List Value} {o1 : Option Value} {o3 : Option Value} {o5 : Option Value} {o6 : Option Value} {o7 : Option Value} (ha3 : h.2 r0 = some (.inl (0, n1, .inl f2))) (j4 : Nat) (hi5 : (x4 + 1 : Int32).toInt = (j4 : Int)) (hj6 : j4 < n1) (hrec : h.2 r2 = some (.inr (10, fs_))) (hc : hk_Ci G m_X10_blocks d 0 0 [.ref r2, .int (f2 j4)] h (fun z h' => hk_S G m_L_law (d + 1) cb sb 1556 [some (.ref r0), o1, some (.ref r2), o3, some (.int x4), o5, o6, o7] [.int z, .int s0] h' Q)) : hk_S G m_L_law (d + 1) cb sb 1546 [some (.ref r0), o1, some (.ref r2), o3, some (.int x4), o5, o6, o7] [.int s0] h Q := by
  refine hs_aload_n dL_law_1546 rfl ?_
  refine hs_aload_n dL_law_1547 rfl ?_
  refine hs_iload dL_law_1548 rfl ?_
  refine hs_iconst (v := 1) dL_law_1550 (by decide) ?_
  refine hs_iadd dL_law_1551 ?_
  refine hs_iald j4 dL_law_1552 ha3 hi5 hj6 ?_
  exact hk_z0 (hs_vir (M' := m_X10_blocks) (vs := [.int (f2 j4)]) (c1 := 0) (s1 := 0) dL_law_1553 wd_1429 vi_X10_blocks hrec rfl (Nat.le_of_ble_eq_true rfl) hc hq_i (hc_i (fun z h9 k9 => k9)))
theorem b_L_law_1556 {G : hk_G} {d cb sb : Nat} {h : hk_H} {Q : hk_O → hk_H → Prop} {s0 : Int32} {s1 : Int32} {o0 : Option Value} {o1 : Option Value} {o2 : Option Value} {o3 : Option Value} {o4 : Option Value} {o5 : Option Value} {o6 : Option Value} {o7 : Option Value} (kt : s0 = s1 → hk_S G m_L_law (d + 1) cb sb 1974 [o0, o1, o2, o3, o4, o5, o6, o7] [] h Q) (kf : ¬ s0 = s1 → hk_S G m_L_law (d + 1) cb sb 1559 [o0, o1, o2, o3, o4, o5, o6, o7] [] h Q) : hk_S G m_L_law (d + 1) cb sb 1556 [o0, o1, o2, o3, o4, o5, o6, o7] [.int s1, .int s0] h Q := by
  exact hs_icmp_eq dL_law_1556 (by decide) kt kf
theorem b_L_law_1559 {G : hk_G} {d cb sb : Nat} {h : hk_H} {Q : hk_O → hk_H → Prop} {o0 : Option Value} {o1 : Option Value} {o2 : Option Value} {o3 : Option Value} {o4 : Option Value} {o5 : Option Value} {o6 : Option Value} {o7 : Option Value} (hq : Q (.inl (some (.int 0))) h) : hk_S G m_L_law (d + 1) cb sb 1559 [o0, o1, o2, o3, o4, o5, o6, o7] [] h Q := by
  refine hs_iconst (v := 0) dL_law_1559 (by decide) ?_
  exact hs_zret dL_law_1560 rfl (by decide) hq
theorem b_L_law_1561 {G : hk_G} {d cb sb : Nat} {h : hk_H} {Q : hk_O → hk_H → Prop} {r1 : Nat} {r0 : Nat} {x4 : Int32} {n1 : Nat} {f2 : Nat → Int32} {fs_ : List Value} {o2 : Option Value} {o3 : Option Value} {o5 : Option Value} {o6 : Option Value} {o7 : Option Value} (ha3 : h.2 r0 = some (.inl (0, n1, .inl f2))) (j4 : Nat) (hi5 : (x4 + 1 : Int32).toInt = (j4 : Int)) (hj6 : j4 < n1) (hrec : h.2 r1 = some (.inr (9, fs_))) (hc : hk_Ci G m_X9_core d 0 0 [.ref r1, .int (f2 j4)] h (fun z h' => hk_S G m_L_law (d + 1) cb sb 1571 [some (.ref r0), some (.ref r1), o2, o3, some (.int x4), o5, o6, o7] [.int z] h' Q)) : hk_S G m_L_law (d + 1) cb sb 1561 [some (.ref r0), some (.ref r1), o2, o3, some (.int x4), o5, o6, o7] [] h Q := by
  refine hs_aload_n dL_law_1561 rfl ?_
  refine hs_aload_n dL_law_1562 rfl ?_
  refine hs_iload dL_law_1563 rfl ?_
  refine hs_iconst (v := 1) dL_law_1565 (by decide) ?_
  refine hs_iadd dL_law_1566 ?_
  refine hs_iald j4 dL_law_1567 ha3 hi5 hj6 ?_
  exact hk_z0 (hs_vir (M' := m_X9_core) (vs := [.int (f2 j4)]) (c1 := 0) (s1 := 0) dL_law_1568 wd_801 vi_X9_core hrec rfl (Nat.le_of_ble_eq_true rfl) hc hq_i (hc_i (fun z h9 k9 => k9)))
theorem b_L_law_1571 {G : hk_G} {d cb sb : Nat} {h : hk_H} {Q : hk_O → hk_H → Prop} {s0 : Int32} {r2 : Nat} {r0 : Nat} {x4 : Int32} {n1 : Nat} {f2 : Nat → Int32} {fs_ : List Value} {o1 : Option Value} {o3 : Option Value} {o5 : Option Value} {o6 : Option Value} {o7 : Option Value} (ha3 : h.2 r0 = some (.inl (0, n1, .inl f2))) (j4 : Nat) (hi5 : (x4 + 1 : Int32).toInt = (j4 : Int)) (hj6 : j4 < n1) (hrec : h.2 r2 = some (.inr (10, fs_))) (hc : hk_Ci G m_X10_core d 0 0 [.ref r2, .int (f2 j4)] h (fun z h' => hk_S G m_L_law (d + 1) cb sb 1581 [some (.ref r0), o1, some (.ref r2), o3, some (.int x4), o5, o6, o7] [.int z, .int s0] h' Q)) : hk_S G m_L_law (d + 1) cb sb 1571 [some (.ref r0), o1, some (.ref r2), o3, some (.int x4), o5, o6, o7] [.int s0] h Q := by
  refine hs_aload_n dL_law_1571 rfl ?_
  refine hs_aload_n dL_law_1572 rfl ?_
  refine hs_iload dL_law_1573 rfl ?_
  refine hs_iconst (v := 1) dL_law_1575 (by decide) ?_
  refine hs_iadd dL_law_1576 ?_
  refine hs_iald j4 dL_law_1577 ha3 hi5 hj6 ?_
  exact hk_z0 (hs_vir (M' := m_X10_core) (vs := [.int (f2 j4)]) (c1 := 0) (s1 := 0) dL_law_1578 wd_1453 vi_X10_core hrec rfl (Nat.le_of_ble_eq_true rfl) hc hq_i (hc_i (fun z h9 k9 => k9)))
theorem b_L_law_1581 {G : hk_G} {d cb sb : Nat} {h : hk_H} {Q : hk_O → hk_H → Prop} {s0 : Int32} {s1 : Int32} {o0 : Option Value} {o1 : Option Value} {o2 : Option Value} {o3 : Option Value} {o4 : Option Value} {o5 : Option Value} {o6 : Option Value} {o7 : Option Value} (kt : s0 = s1 → hk_S G m_L_law (d + 1) cb sb 1974 [o0, o1, o2, o3, o4, o5, o6, o7] [] h Q) (kf : ¬ s0 = s1 → hk_S G m_L_law (d + 1) cb sb 1584 [o0, o1, o2, o3, o4, o5, o6, o7] [] h Q) : hk_S G m_L_law (d + 1) cb sb 1581 [o0, o1, o2, o3, o4, o5, o6, o7] [.int s1, .int s0] h Q := by
  exact hs_icmp_eq dL_law_1581 (by decide) kt kf
theorem b_L_law_1584 {G : hk_G} {d cb sb : Nat} {h : hk_H} {Q : hk_O → hk_H → Prop} {o0 : Option Value} {o1 : Option Value} {o2 : Option Value} {o3 : Option Value} {o4 : Option Value} {o5 : Option Value} {o6 : Option Value} {o7 : Option Value} (hq : Q (.inl (some (.int 0))) h) : hk_S G m_L_law (d + 1) cb sb 1584 [o0, o1, o2, o3, o4, o5, o6, o7] [] h Q := by
  refine hs_iconst (v := 0) dL_law_1584 (by decide) ?_
  exact hs_zret dL_law_1585 rfl (by decide) hq
theorem b_L_law_1586 {G : hk_G} {d cb sb : Nat} {h : hk_H} {Q : hk_O → hk_H → Prop} {r1 : Nat} {r0 : Nat} {x4 : Int32} {n1 : Nat} {f2 : Nat → Int32} {fs_ : List Value} {o2 : Option Value} {o3 : Option Value} {o5 : Option Value} {o6 : Option Value} {o7 : Option Value} (ha3 : h.2 r0 = some (.inl (0, n1, .inl f2))) (j4 : Nat) (hi5 : (x4 + 1 : Int32).toInt = (j4 : Int)) (hj6 : j4 < n1) (hrec : h.2 r1 = some (.inr (9, fs_))) (hc : hk_Ci G m_X9_good d 0 0 [.ref r1, .int (f2 j4)] h (fun z h' => hk_S G m_L_law (d + 1) cb sb 1596 [some (.ref r0), some (.ref r1), o2, o3, some (.int x4), o5, o6, o7] [.int z] h' Q)) : hk_S G m_L_law (d + 1) cb sb 1586 [some (.ref r0), some (.ref r1), o2, o3, some (.int x4), o5, o6, o7] [] h Q := by
  refine hs_aload_n dL_law_1586 rfl ?_
  refine hs_aload_n dL_law_1587 rfl ?_
  refine hs_iload dL_law_1588 rfl ?_
  refine hs_iconst (v := 1) dL_law_1590 (by decide) ?_
  refine hs_iadd dL_law_1591 ?_
  refine hs_iald j4 dL_law_1592 ha3 hi5 hj6 ?_
  exact hk_z0 (hs_vir (M' := m_X9_good) (vs := [.int (f2 j4)]) (c1 := 0) (s1 := 0) dL_law_1593 wd_805 vi_X9_good hrec rfl (Nat.le_of_ble_eq_true rfl) hc hq_i (hc_i (fun z h9 k9 => k9)))
theorem b_L_law_1596 {G : hk_G} {d cb sb : Nat} {h : hk_H} {Q : hk_O → hk_H → Prop} {s0 : Int32} {r2 : Nat} {r0 : Nat} {x4 : Int32} {n1 : Nat} {f2 : Nat → Int32} {fs_ : List Value} {o1 : Option Value} {o3 : Option Value} {o5 : Option Value} {o6 : Option Value} {o7 : Option Value} (ha3 : h.2 r0 = some (.inl (0, n1, .inl f2))) (j4 : Nat) (hi5 : (x4 + 1 : Int32).toInt = (j4 : Int)) (hj6 : j4 < n1) (hrec : h.2 r2 = some (.inr (10, fs_))) (hc : hk_Ci G m_X10_good d 0 0 [.ref r2, .int (f2 j4)] h (fun z h' => hk_S G m_L_law (d + 1) cb sb 1606 [some (.ref r0), o1, some (.ref r2), o3, some (.int x4), o5, o6, o7] [.int z, .int s0] h' Q)) : hk_S G m_L_law (d + 1) cb sb 1596 [some (.ref r0), o1, some (.ref r2), o3, some (.int x4), o5, o6, o7] [.int s0] h Q := by
  refine hs_aload_n dL_law_1596 rfl ?_
  refine hs_aload_n dL_law_1597 rfl ?_
  refine hs_iload dL_law_1598 rfl ?_
  refine hs_iconst (v := 1) dL_law_1600 (by decide) ?_
  refine hs_iadd dL_law_1601 ?_
  refine hs_iald j4 dL_law_1602 ha3 hi5 hj6 ?_
  exact hk_z0 (hs_vir (M' := m_X10_good) (vs := [.int (f2 j4)]) (c1 := 0) (s1 := 0) dL_law_1603 wd_1457 vi_X10_good hrec rfl (Nat.le_of_ble_eq_true rfl) hc hq_i (hc_i (fun z h9 k9 => k9)))
theorem b_L_law_1606 {G : hk_G} {d cb sb : Nat} {h : hk_H} {Q : hk_O → hk_H → Prop} {s0 : Int32} {s1 : Int32} {o0 : Option Value} {o1 : Option Value} {o2 : Option Value} {o3 : Option Value} {o4 : Option Value} {o5 : Option Value} {o6 : Option Value} {o7 : Option Value} (kt : s0 = s1 → hk_S G m_L_law (d + 1) cb sb 1974 [o0, o1, o2, o3, o4, o5, o6, o7] [] h Q) (kf : ¬ s0 = s1 → hk_S G m_L_law (d + 1) cb sb 1609 [o0, o1, o2, o3, o4, o5, o6, o7] [] h Q) : hk_S G m_L_law (d + 1) cb sb 1606 [o0, o1, o2, o3, o4, o5, o6, o7] [.int s1, .int s0] h Q := by
  exact hs_icmp_eq dL_law_1606 (by decide) kt kf
theorem b_L_law_1609 {G : hk_G} {d cb sb : Nat} {h : hk_H} {Q : hk_O → hk_H → Prop} {o0 : Option Value} {o1 : Option Value} {o2 : Option Value} {o3 : Option Value} {o4 : Option Value} {o5 : Option Value} {o6 : Option Value} {o7 : Option Value} (hq : Q (.inl (some (.int 0))) h) : hk_S G m_L_law (d + 1) cb sb 1609 [o0, o1, o2, o3, o4, o5, o6, o7] [] h Q := by
  refine hs_iconst (v := 0) dL_law_1609 (by decide) ?_
  exact hs_zret dL_law_1610 rfl (by decide) hq
theorem b_L_law_1611 {G : hk_G} {d cb sb : Nat} {h : hk_H} {Q : hk_O → hk_H → Prop} {r1 : Nat} {r0 : Nat} {x4 : Int32} {n1 : Nat} {f2 : Nat → Int32} {fs_ : List Value} {o2 : Option Value} {o3 : Option Value} {o5 : Option Value} {o6 : Option Value} {o7 : Option Value} (ha3 : h.2 r0 = some (.inl (0, n1, .inl f2))) (j4 : Nat) (hi5 : (x4 + 1 : Int32).toInt = (j4 : Int)) (hj6 : j4 < n1) (hrec : h.2 r1 = some (.inr (9, fs_))) (hc : hk_Ci G m_X9_by d 0 0 [.ref r1, .int (f2 j4)] h (fun z h' => hk_S G m_L_law (d + 1) cb sb 1621 [some (.ref r0), some (.ref r1), o2, o3, some (.int x4), o5, o6, o7] [.int z] h' Q)) : hk_S G m_L_law (d + 1) cb sb 1611 [some (.ref r0), some (.ref r1), o2, o3, some (.int x4), o5, o6, o7] [] h Q := by
  refine hs_aload_n dL_law_1611 rfl ?_
  refine hs_aload_n dL_law_1612 rfl ?_
  refine hs_iload dL_law_1613 rfl ?_
  refine hs_iconst (v := 1) dL_law_1615 (by decide) ?_
  refine hs_iadd dL_law_1616 ?_
  refine hs_iald j4 dL_law_1617 ha3 hi5 hj6 ?_
  exact hk_z0 (hs_vir (M' := m_X9_by) (vs := [.int (f2 j4)]) (c1 := 0) (s1 := 0) dL_law_1618 wd_813 vi_X9_by hrec rfl (Nat.le_of_ble_eq_true rfl) hc hq_i (hc_i (fun z h9 k9 => k9)))
theorem b_L_law_1621 {G : hk_G} {d cb sb : Nat} {h : hk_H} {Q : hk_O → hk_H → Prop} {s0 : Int32} {r2 : Nat} {r0 : Nat} {x4 : Int32} {n1 : Nat} {f2 : Nat → Int32} {fs_ : List Value} {o1 : Option Value} {o3 : Option Value} {o5 : Option Value} {o6 : Option Value} {o7 : Option Value} (ha3 : h.2 r0 = some (.inl (0, n1, .inl f2))) (j4 : Nat) (hi5 : (x4 + 1 : Int32).toInt = (j4 : Int)) (hj6 : j4 < n1) (hrec : h.2 r2 = some (.inr (10, fs_))) (hc : hk_Ci G m_X10_by d 0 0 [.ref r2, .int (f2 j4)] h (fun z h' => hk_S G m_L_law (d + 1) cb sb 1631 [some (.ref r0), o1, some (.ref r2), o3, some (.int x4), o5, o6, o7] [.int z, .int s0] h' Q)) : hk_S G m_L_law (d + 1) cb sb 1621 [some (.ref r0), o1, some (.ref r2), o3, some (.int x4), o5, o6, o7] [.int s0] h Q := by
  refine hs_aload_n dL_law_1621 rfl ?_
  refine hs_aload_n dL_law_1622 rfl ?_
  refine hs_iload dL_law_1623 rfl ?_
  refine hs_iconst (v := 1) dL_law_1625 (by decide) ?_
  refine hs_iadd dL_law_1626 ?_
  refine hs_iald j4 dL_law_1627 ha3 hi5 hj6 ?_
  exact hk_z0 (hs_vir (M' := m_X10_by) (vs := [.int (f2 j4)]) (c1 := 0) (s1 := 0) dL_law_1628 wd_1461 vi_X10_by hrec rfl (Nat.le_of_ble_eq_true rfl) hc hq_i (hc_i (fun z h9 k9 => k9)))
theorem b_L_law_1631 {G : hk_G} {d cb sb : Nat} {h : hk_H} {Q : hk_O → hk_H → Prop} {s0 : Int32} {s1 : Int32} {o0 : Option Value} {o1 : Option Value} {o2 : Option Value} {o3 : Option Value} {o4 : Option Value} {o5 : Option Value} {o6 : Option Value} {o7 : Option Value} (kt : s0 = s1 → hk_S G m_L_law (d + 1) cb sb 1974 [o0, o1, o2, o3, o4, o5, o6, o7] [] h Q) (kf : ¬ s0 = s1 → hk_S G m_L_law (d + 1) cb sb 1634 [o0, o1, o2, o3, o4, o5, o6, o7] [] h Q) : hk_S G m_L_law (d + 1) cb sb 1631 [o0, o1, o2, o3, o4, o5, o6, o7] [.int s1, .int s0] h Q := by
  exact hs_icmp_eq dL_law_1631 (by decide) kt kf
theorem b_L_law_1634 {G : hk_G} {d cb sb : Nat} {h : hk_H} {Q : hk_O → hk_H → Prop} {o0 : Option Value} {o1 : Option Value} {o2 : Option Value} {o3 : Option Value} {o4 : Option Value} {o5 : Option Value} {o6 : Option Value} {o7 : Option Value} (hq : Q (.inl (some (.int 0))) h) : hk_S G m_L_law (d + 1) cb sb 1634 [o0, o1, o2, o3, o4, o5, o6, o7] [] h Q := by
  refine hs_iconst (v := 0) dL_law_1634 (by decide) ?_
  exact hs_zret dL_law_1635 rfl (by decide) hq
theorem b_L_law_1636 {G : hk_G} {d cb sb : Nat} {h : hk_H} {Q : hk_O → hk_H → Prop} {r1 : Nat} {r0 : Nat} {x4 : Int32} {n1 : Nat} {f2 : Nat → Int32} {fs_ : List Value} {o2 : Option Value} {o3 : Option Value} {o5 : Option Value} {o6 : Option Value} {o7 : Option Value} (ha3 : h.2 r0 = some (.inl (0, n1, .inl f2))) (j4 : Nat) (hi5 : (x4 + 1 : Int32).toInt = (j4 : Int)) (hj6 : j4 < n1) (hrec : h.2 r1 = some (.inr (9, fs_))) (hc : hk_Ci G m_X9_wrong d 0 0 [.ref r1, .int (f2 j4)] h (fun z h' => hk_S G m_L_law (d + 1) cb sb 1646 [some (.ref r0), some (.ref r1), o2, o3, some (.int x4), o5, o6, o7] [.int z] h' Q)) : hk_S G m_L_law (d + 1) cb sb 1636 [some (.ref r0), some (.ref r1), o2, o3, some (.int x4), o5, o6, o7] [] h Q := by
  refine hs_aload_n dL_law_1636 rfl ?_
  refine hs_aload_n dL_law_1637 rfl ?_
  refine hs_iload dL_law_1638 rfl ?_
  refine hs_iconst (v := 1) dL_law_1640 (by decide) ?_
  refine hs_iadd dL_law_1641 ?_
  refine hs_iald j4 dL_law_1642 ha3 hi5 hj6 ?_
  exact hk_z0 (hs_vir (M' := m_X9_wrong) (vs := [.int (f2 j4)]) (c1 := 0) (s1 := 0) dL_law_1643 wd_817 vi_X9_wrong hrec rfl (Nat.le_of_ble_eq_true rfl) hc hq_i (hc_i (fun z h9 k9 => k9)))
theorem b_L_law_1646 {G : hk_G} {d cb sb : Nat} {h : hk_H} {Q : hk_O → hk_H → Prop} {s0 : Int32} {r2 : Nat} {r0 : Nat} {x4 : Int32} {n1 : Nat} {f2 : Nat → Int32} {fs_ : List Value} {o1 : Option Value} {o3 : Option Value} {o5 : Option Value} {o6 : Option Value} {o7 : Option Value} (ha3 : h.2 r0 = some (.inl (0, n1, .inl f2))) (j4 : Nat) (hi5 : (x4 + 1 : Int32).toInt = (j4 : Int)) (hj6 : j4 < n1) (hrec : h.2 r2 = some (.inr (10, fs_))) (hc : hk_Ci G m_X10_wrong d 0 0 [.ref r2, .int (f2 j4)] h (fun z h' => hk_S G m_L_law (d + 1) cb sb 1656 [some (.ref r0), o1, some (.ref r2), o3, some (.int x4), o5, o6, o7] [.int z, .int s0] h' Q)) : hk_S G m_L_law (d + 1) cb sb 1646 [some (.ref r0), o1, some (.ref r2), o3, some (.int x4), o5, o6, o7] [.int s0] h Q := by
  refine hs_aload_n dL_law_1646 rfl ?_
  refine hs_aload_n dL_law_1647 rfl ?_
  refine hs_iload dL_law_1648 rfl ?_
  refine hs_iconst (v := 1) dL_law_1650 (by decide) ?_
  refine hs_iadd dL_law_1651 ?_
  refine hs_iald j4 dL_law_1652 ha3 hi5 hj6 ?_
  exact hk_z0 (hs_vir (M' := m_X10_wrong) (vs := [.int (f2 j4)]) (c1 := 0) (s1 := 0) dL_law_1653 wd_1465 vi_X10_wrong hrec rfl (Nat.le_of_ble_eq_true rfl) hc hq_i (hc_i (fun z h9 k9 => k9)))
theorem b_L_law_1656 {G : hk_G} {d cb sb : Nat} {h : hk_H} {Q : hk_O → hk_H → Prop} {s0 : Int32} {s1 : Int32} {o0 : Option Value} {o1 : Option Value} {o2 : Option Value} {o3 : Option Value} {o4 : Option Value} {o5 : Option Value} {o6 : Option Value} {o7 : Option Value} (kt : s0 = s1 → hk_S G m_L_law (d + 1) cb sb 1974 [o0, o1, o2, o3, o4, o5, o6, o7] [] h Q) (kf : ¬ s0 = s1 → hk_S G m_L_law (d + 1) cb sb 1659 [o0, o1, o2, o3, o4, o5, o6, o7] [] h Q) : hk_S G m_L_law (d + 1) cb sb 1656 [o0, o1, o2, o3, o4, o5, o6, o7] [.int s1, .int s0] h Q := by
  exact hs_icmp_eq dL_law_1656 (by decide) kt kf
theorem b_L_law_1659 {G : hk_G} {d cb sb : Nat} {h : hk_H} {Q : hk_O → hk_H → Prop} {o0 : Option Value} {o1 : Option Value} {o2 : Option Value} {o3 : Option Value} {o4 : Option Value} {o5 : Option Value} {o6 : Option Value} {o7 : Option Value} (hq : Q (.inl (some (.int 0))) h) : hk_S G m_L_law (d + 1) cb sb 1659 [o0, o1, o2, o3, o4, o5, o6, o7] [] h Q := by
  refine hs_iconst (v := 0) dL_law_1659 (by decide) ?_
  exact hs_zret dL_law_1660 rfl (by decide) hq
theorem b_L_law_1661 {G : hk_G} {d cb sb : Nat} {h : hk_H} {Q : hk_O → hk_H → Prop} {r1 : Nat} {r0 : Nat} {x4 : Int32} {n1 : Nat} {f2 : Nat → Int32} {fs_ : List Value} {o2 : Option Value} {o3 : Option Value} {o5 : Option Value} {o6 : Option Value} {o7 : Option Value} (ha3 : h.2 r0 = some (.inl (0, n1, .inl f2))) (j4 : Nat) (hi5 : (x4 + 1 : Int32).toInt = (j4 : Int)) (hj6 : j4 < n1) (hrec : h.2 r1 = some (.inr (9, fs_))) (hc : hk_Ci G m_X9_count d 0 0 [.ref r1, .int (f2 j4)] h (fun z h' => hk_S G m_L_law (d + 1) cb sb 1671 [some (.ref r0), some (.ref r1), o2, o3, some (.int x4), o5, o6, o7] [.int z] h' Q)) : hk_S G m_L_law (d + 1) cb sb 1661 [some (.ref r0), some (.ref r1), o2, o3, some (.int x4), o5, o6, o7] [] h Q := by
  refine hs_aload_n dL_law_1661 rfl ?_
  refine hs_aload_n dL_law_1662 rfl ?_
  refine hs_iload dL_law_1663 rfl ?_
  refine hs_iconst (v := 1) dL_law_1665 (by decide) ?_
  refine hs_iadd dL_law_1666 ?_
  refine hs_iald j4 dL_law_1667 ha3 hi5 hj6 ?_
  exact hk_z0 (hs_vir (M' := m_X9_count) (vs := [.int (f2 j4)]) (c1 := 0) (s1 := 0) dL_law_1668 wd_835 vi_X9_count hrec rfl (Nat.le_of_ble_eq_true rfl) hc hq_i (hc_i (fun z h9 k9 => k9)))
theorem b_L_law_1671 {G : hk_G} {d cb sb : Nat} {h : hk_H} {Q : hk_O → hk_H → Prop} {s0 : Int32} {r2 : Nat} {r0 : Nat} {x4 : Int32} {n1 : Nat} {f2 : Nat → Int32} {fs_ : List Value} {o1 : Option Value} {o3 : Option Value} {o5 : Option Value} {o6 : Option Value} {o7 : Option Value} (ha3 : h.2 r0 = some (.inl (0, n1, .inl f2))) (j4 : Nat) (hi5 : (x4 + 1 : Int32).toInt = (j4 : Int)) (hj6 : j4 < n1) (hrec : h.2 r2 = some (.inr (10, fs_))) (hc : hk_Ci G m_X10_count d 0 0 [.ref r2, .int (f2 j4)] h (fun z h' => hk_S G m_L_law (d + 1) cb sb 1681 [some (.ref r0), o1, some (.ref r2), o3, some (.int x4), o5, o6, o7] [.int z, .int s0] h' Q)) : hk_S G m_L_law (d + 1) cb sb 1671 [some (.ref r0), o1, some (.ref r2), o3, some (.int x4), o5, o6, o7] [.int s0] h Q := by
  refine hs_aload_n dL_law_1671 rfl ?_
  refine hs_aload_n dL_law_1672 rfl ?_
  refine hs_iload dL_law_1673 rfl ?_
  refine hs_iconst (v := 1) dL_law_1675 (by decide) ?_
  refine hs_iadd dL_law_1676 ?_
  refine hs_iald j4 dL_law_1677 ha3 hi5 hj6 ?_
  exact hk_z0 (hs_vir (M' := m_X10_count) (vs := [.int (f2 j4)]) (c1 := 0) (s1 := 0) dL_law_1678 wd_1469 vi_X10_count hrec rfl (Nat.le_of_ble_eq_true rfl) hc hq_i (hc_i (fun z h9 k9 => k9)))
theorem b_L_law_1681 {G : hk_G} {d cb sb : Nat} {h : hk_H} {Q : hk_O → hk_H → Prop} {s0 : Int32} {s1 : Int32} {o0 : Option Value} {o1 : Option Value} {o2 : Option Value} {o3 : Option Value} {o4 : Option Value} {o5 : Option Value} {o6 : Option Value} {o7 : Option Value} (kt : s0 = s1 → hk_S G m_L_law (d + 1) cb sb 1974 [o0, o1, o2, o3, o4, o5, o6, o7] [] h Q) (kf : ¬ s0 = s1 → hk_S G m_L_law (d + 1) cb sb 1684 [o0, o1, o2, o3, o4, o5, o6, o7] [] h Q) : hk_S G m_L_law (d + 1) cb sb 1681 [o0, o1, o2, o3, o4, o5, o6, o7] [.int s1, .int s0] h Q := by
  exact hs_icmp_eq dL_law_1681 (by decide) kt kf
theorem b_L_law_1684 {G : hk_G} {d cb sb : Nat} {h : hk_H} {Q : hk_O → hk_H → Prop} {o0 : Option Value} {o1 : Option Value} {o2 : Option Value} {o3 : Option Value} {o4 : Option Value} {o5 : Option Value} {o6 : Option Value} {o7 : Option Value} (hq : Q (.inl (some (.int 0))) h) : hk_S G m_L_law (d + 1) cb sb 1684 [o0, o1, o2, o3, o4, o5, o6, o7] [] h Q := by
  refine hs_iconst (v := 0) dL_law_1684 (by decide) ?_
  exact hs_zret dL_law_1685 rfl (by decide) hq
theorem b_L_law_1686 {G : hk_G} {d cb sb : Nat} {h : hk_H} {Q : hk_O → hk_H → Prop} {r1 : Nat} {r0 : Nat} {x4 : Int32} {n1 : Nat} {f2 : Nat → Int32} {fs_ : List Value} {o2 : Option Value} {o3 : Option Value} {o5 : Option Value} {o6 : Option Value} {o7 : Option Value} (ha3 : h.2 r0 = some (.inl (0, n1, .inl f2))) (j4 : Nat) (hi5 : (x4 + 1 : Int32).toInt = (j4 : Int)) (hj6 : j4 < n1) (j7 : Nat) (hi8 : (x4 + 2 : Int32).toInt = (j7 : Int)) (hj9 : j7 < n1) (j10 : Nat) (hi11 : (x4 + 3 : Int32).toInt = (j10 : Int)) (hj12 : j10 < n1) (hrec : h.2 r1 = some (.inr (9, fs_))) (hc : hk_Ci G m_X9_keep d 0 0 [.ref r1, .int (f2 j4), .int (f2 j7), .int (f2 j10)] h (fun z h' => hk_S G m_L_law (d + 1) cb sb 1708 [some (.ref r0), some (.ref r1), o2, o3, some (.int x4), o5, o6, o7] [.int z] h' Q)) : hk_S G m_L_law (d + 1) cb sb 1686 [some (.ref r0), some (.ref r1), o2, o3, some (.int x4), o5, o6, o7] [] h Q := by
  refine hs_aload_n dL_law_1686 rfl ?_
  refine hs_aload_n dL_law_1687 rfl ?_
  refine hs_iload dL_law_1688 rfl ?_
  refine hs_iconst (v := 1) dL_law_1690 (by decide) ?_
  refine hs_iadd dL_law_1691 ?_
  refine hs_iald j4 dL_law_1692 ha3 hi5 hj6 ?_
  refine hs_aload_n dL_law_1693 rfl ?_
  refine hs_iload dL_law_1694 rfl ?_
  refine hs_iconst (v := 2) dL_law_1696 (by decide) ?_
  refine hs_iadd dL_law_1697 ?_
  refine hs_iald j7 dL_law_1698 ha3 hi8 hj9 ?_
  refine hs_aload_n dL_law_1699 rfl ?_
  refine hs_iload dL_law_1700 rfl ?_
  refine hs_iconst (v := 3) dL_law_1702 (by decide) ?_
  refine hs_iadd dL_law_1703 ?_
  refine hs_iald j10 dL_law_1704 ha3 hi11 hj12 ?_
  exact hk_z0 (hs_vir (M' := m_X9_keep) (vs := [.int (f2 j4), .int (f2 j7), .int (f2 j10)]) (c1 := 0) (s1 := 0) dL_law_1705 wd_849 vi_X9_keep hrec rfl (Nat.le_of_ble_eq_true rfl) hc hq_i (hc_i (fun z h9 k9 => k9)))
theorem b_L_law_1708 {G : hk_G} {d cb sb : Nat} {h : hk_H} {Q : hk_O → hk_H → Prop} {s0 : Int32} {r2 : Nat} {r0 : Nat} {x4 : Int32} {n1 : Nat} {f2 : Nat → Int32} {fs_ : List Value} {o1 : Option Value} {o3 : Option Value} {o5 : Option Value} {o6 : Option Value} {o7 : Option Value} (ha3 : h.2 r0 = some (.inl (0, n1, .inl f2))) (j4 : Nat) (hi5 : (x4 + 1 : Int32).toInt = (j4 : Int)) (hj6 : j4 < n1) (j7 : Nat) (hi8 : (x4 + 2 : Int32).toInt = (j7 : Int)) (hj9 : j7 < n1) (j10 : Nat) (hi11 : (x4 + 3 : Int32).toInt = (j10 : Int)) (hj12 : j10 < n1) (hrec : h.2 r2 = some (.inr (10, fs_))) (hc : hk_Ci G m_X10_keep d 0 0 [.ref r2, .int (f2 j4), .int (f2 j7), .int (f2 j10)] h (fun z h' => hk_S G m_L_law (d + 1) cb sb 1730 [some (.ref r0), o1, some (.ref r2), o3, some (.int x4), o5, o6, o7] [.int z, .int s0] h' Q)) : hk_S G m_L_law (d + 1) cb sb 1708 [some (.ref r0), o1, some (.ref r2), o3, some (.int x4), o5, o6, o7] [.int s0] h Q := by
  refine hs_aload_n dL_law_1708 rfl ?_
  refine hs_aload_n dL_law_1709 rfl ?_
  refine hs_iload dL_law_1710 rfl ?_
  refine hs_iconst (v := 1) dL_law_1712 (by decide) ?_
  refine hs_iadd dL_law_1713 ?_
  refine hs_iald j4 dL_law_1714 ha3 hi5 hj6 ?_
  refine hs_aload_n dL_law_1715 rfl ?_
  refine hs_iload dL_law_1716 rfl ?_
  refine hs_iconst (v := 2) dL_law_1718 (by decide) ?_
  refine hs_iadd dL_law_1719 ?_
  refine hs_iald j7 dL_law_1720 ha3 hi8 hj9 ?_
  refine hs_aload_n dL_law_1721 rfl ?_
  refine hs_iload dL_law_1722 rfl ?_
  refine hs_iconst (v := 3) dL_law_1724 (by decide) ?_
  refine hs_iadd dL_law_1725 ?_
  refine hs_iald j10 dL_law_1726 ha3 hi11 hj12 ?_
  exact hk_z0 (hs_vir (M' := m_X10_keep) (vs := [.int (f2 j4), .int (f2 j7), .int (f2 j10)]) (c1 := 0) (s1 := 0) dL_law_1727 wd_1473 vi_X10_keep hrec rfl (Nat.le_of_ble_eq_true rfl) hc hq_i (hc_i (fun z h9 k9 => k9)))
theorem b_L_law_1730 {G : hk_G} {d cb sb : Nat} {h : hk_H} {Q : hk_O → hk_H → Prop} {s0 : Int32} {s1 : Int32} {o0 : Option Value} {o1 : Option Value} {o2 : Option Value} {o3 : Option Value} {o4 : Option Value} {o5 : Option Value} {o6 : Option Value} {o7 : Option Value} (kt : s0 = s1 → hk_S G m_L_law (d + 1) cb sb 1974 [o0, o1, o2, o3, o4, o5, o6, o7] [] h Q) (kf : ¬ s0 = s1 → hk_S G m_L_law (d + 1) cb sb 1733 [o0, o1, o2, o3, o4, o5, o6, o7] [] h Q) : hk_S G m_L_law (d + 1) cb sb 1730 [o0, o1, o2, o3, o4, o5, o6, o7] [.int s1, .int s0] h Q := by
  exact hs_icmp_eq dL_law_1730 (by decide) kt kf
theorem b_L_law_1733 {G : hk_G} {d cb sb : Nat} {h : hk_H} {Q : hk_O → hk_H → Prop} {o0 : Option Value} {o1 : Option Value} {o2 : Option Value} {o3 : Option Value} {o4 : Option Value} {o5 : Option Value} {o6 : Option Value} {o7 : Option Value} (hq : Q (.inl (some (.int 0))) h) : hk_S G m_L_law (d + 1) cb sb 1733 [o0, o1, o2, o3, o4, o5, o6, o7] [] h Q := by
  refine hs_iconst (v := 0) dL_law_1733 (by decide) ?_
  exact hs_zret dL_law_1734 rfl (by decide) hq
theorem b_L_law_1735 {G : hk_G} {d cb sb : Nat} {h : hk_H} {Q : hk_O → hk_H → Prop} {r1 : Nat} {r0 : Nat} {x4 : Int32} {n1 : Nat} {f2 : Nat → Int32} {fs_ : List Value} {o2 : Option Value} {o3 : Option Value} {o5 : Option Value} {o6 : Option Value} {o7 : Option Value} (ha3 : h.2 r0 = some (.inl (0, n1, .inl f2))) (j4 : Nat) (hi5 : (x4 + 1 : Int32).toInt = (j4 : Int)) (hj6 : j4 < n1) (j7 : Nat) (hi8 : (x4 + 2 : Int32).toInt = (j7 : Int)) (hj9 : j7 < n1) (j10 : Nat) (hi11 : (x4 + 3 : Int32).toInt = (j10 : Int)) (hj12 : j10 < n1) (hrec : h.2 r1 = some (.inr (9, fs_))) (hc : hk_Ci G m_X9_make d 0 0 [.ref r1, .int (f2 j4), .int (f2 j7), .int (f2 j10)] h (fun z h' => hk_S G m_L_law (d + 1) cb sb 1757 [some (.ref r0), some (.ref r1), o2, o3, some (.int x4), o5, o6, o7] [.int z] h' Q)) : hk_S G m_L_law (d + 1) cb sb 1735 [some (.ref r0), some (.ref r1), o2, o3, some (.int x4), o5, o6, o7] [] h Q := by
  refine hs_aload_n dL_law_1735 rfl ?_
  refine hs_aload_n dL_law_1736 rfl ?_
  refine hs_iload dL_law_1737 rfl ?_
  refine hs_iconst (v := 1) dL_law_1739 (by decide) ?_
  refine hs_iadd dL_law_1740 ?_
  refine hs_iald j4 dL_law_1741 ha3 hi5 hj6 ?_
  refine hs_aload_n dL_law_1742 rfl ?_
  refine hs_iload dL_law_1743 rfl ?_
  refine hs_iconst (v := 2) dL_law_1745 (by decide) ?_
  refine hs_iadd dL_law_1746 ?_
  refine hs_iald j7 dL_law_1747 ha3 hi8 hj9 ?_
  refine hs_aload_n dL_law_1748 rfl ?_
  refine hs_iload dL_law_1749 rfl ?_
  refine hs_iconst (v := 3) dL_law_1751 (by decide) ?_
  refine hs_iadd dL_law_1752 ?_
  refine hs_iald j10 dL_law_1753 ha3 hi11 hj12 ?_
  exact hk_z0 (hs_vir (M' := m_X9_make) (vs := [.int (f2 j4), .int (f2 j7), .int (f2 j10)]) (c1 := 0) (s1 := 0) dL_law_1754 wd_903 vi_X9_make hrec rfl (Nat.le_of_ble_eq_true rfl) hc hq_i (hc_i (fun z h9 k9 => k9)))
theorem b_L_law_1757 {G : hk_G} {d cb sb : Nat} {h : hk_H} {Q : hk_O → hk_H → Prop} {s0 : Int32} {r2 : Nat} {r0 : Nat} {x4 : Int32} {n1 : Nat} {f2 : Nat → Int32} {fs_ : List Value} {o1 : Option Value} {o3 : Option Value} {o5 : Option Value} {o6 : Option Value} {o7 : Option Value} (ha3 : h.2 r0 = some (.inl (0, n1, .inl f2))) (j4 : Nat) (hi5 : (x4 + 1 : Int32).toInt = (j4 : Int)) (hj6 : j4 < n1) (j7 : Nat) (hi8 : (x4 + 2 : Int32).toInt = (j7 : Int)) (hj9 : j7 < n1) (j10 : Nat) (hi11 : (x4 + 3 : Int32).toInt = (j10 : Int)) (hj12 : j10 < n1) (hrec : h.2 r2 = some (.inr (10, fs_))) (hc : hk_Ci G m_X10_make d 0 0 [.ref r2, .int (f2 j4), .int (f2 j7), .int (f2 j10)] h (fun z h' => hk_S G m_L_law (d + 1) cb sb 1779 [some (.ref r0), o1, some (.ref r2), o3, some (.int x4), o5, o6, o7] [.int z, .int s0] h' Q)) : hk_S G m_L_law (d + 1) cb sb 1757 [some (.ref r0), o1, some (.ref r2), o3, some (.int x4), o5, o6, o7] [.int s0] h Q := by
  refine hs_aload_n dL_law_1757 rfl ?_
  refine hs_aload_n dL_law_1758 rfl ?_
  refine hs_iload dL_law_1759 rfl ?_
  refine hs_iconst (v := 1) dL_law_1761 (by decide) ?_
  refine hs_iadd dL_law_1762 ?_
  refine hs_iald j4 dL_law_1763 ha3 hi5 hj6 ?_
  refine hs_aload_n dL_law_1764 rfl ?_
  refine hs_iload dL_law_1765 rfl ?_
  refine hs_iconst (v := 2) dL_law_1767 (by decide) ?_
  refine hs_iadd dL_law_1768 ?_
  refine hs_iald j7 dL_law_1769 ha3 hi8 hj9 ?_
  refine hs_aload_n dL_law_1770 rfl ?_
  refine hs_iload dL_law_1771 rfl ?_
  refine hs_iconst (v := 3) dL_law_1773 (by decide) ?_
  refine hs_iadd dL_law_1774 ?_
  refine hs_iald j10 dL_law_1775 ha3 hi11 hj12 ?_
  exact hk_z0 (hs_vir (M' := m_X10_make) (vs := [.int (f2 j4), .int (f2 j7), .int (f2 j10)]) (c1 := 0) (s1 := 0) dL_law_1776 wd_1477 vi_X10_make hrec rfl (Nat.le_of_ble_eq_true rfl) hc hq_i (hc_i (fun z h9 k9 => k9)))
theorem b_L_law_1779 {G : hk_G} {d cb sb : Nat} {h : hk_H} {Q : hk_O → hk_H → Prop} {s0 : Int32} {s1 : Int32} {o0 : Option Value} {o1 : Option Value} {o2 : Option Value} {o3 : Option Value} {o4 : Option Value} {o5 : Option Value} {o6 : Option Value} {o7 : Option Value} (kt : s0 = s1 → hk_S G m_L_law (d + 1) cb sb 1974 [o0, o1, o2, o3, o4, o5, o6, o7] [] h Q) (kf : ¬ s0 = s1 → hk_S G m_L_law (d + 1) cb sb 1782 [o0, o1, o2, o3, o4, o5, o6, o7] [] h Q) : hk_S G m_L_law (d + 1) cb sb 1779 [o0, o1, o2, o3, o4, o5, o6, o7] [.int s1, .int s0] h Q := by
  exact hs_icmp_eq dL_law_1779 (by decide) kt kf
theorem b_L_law_1782 {G : hk_G} {d cb sb : Nat} {h : hk_H} {Q : hk_O → hk_H → Prop} {o0 : Option Value} {o1 : Option Value} {o2 : Option Value} {o3 : Option Value} {o4 : Option Value} {o5 : Option Value} {o6 : Option Value} {o7 : Option Value} (hq : Q (.inl (some (.int 0))) h) : hk_S G m_L_law (d + 1) cb sb 1782 [o0, o1, o2, o3, o4, o5, o6, o7] [] h Q := by
  refine hs_iconst (v := 0) dL_law_1782 (by decide) ?_
  exact hs_zret dL_law_1783 rfl (by decide) hq
theorem b_L_law_1784 {G : hk_G} {d cb sb : Nat} {h : hk_H} {Q : hk_O → hk_H → Prop} {r1 : Nat} {r0 : Nat} {x4 : Int32} {n1 : Nat} {f2 : Nat → Int32} {r3 : Nat} {cq : Nat} {sq : Nat} {o2 : Option Value} {o5 : Option Value} {o6 : Option Value} {o7 : Option Value} (ha3 : h.2 r0 = some (.inl (0, n1, .inl f2))) (j4 : Nat) (hi5 : (x4 + 1 : Int32).toInt = (j4 : Int)) (hj6 : j4 < n1) (j7 : Nat) (hi8 : (x4 + 2 : Int32).toInt = (j7 : Int)) (hj9 : j7 < n1) (hc : hk_Ci G m_L_element d cq sq [.ref r1, .int (f2 j4), .int (f2 j7), .ref r3] h (fun z h' => hk_S G m_L_law (d + 1) cb sb 1801 [some (.ref r0), some (.ref r1), o2, some (.ref r3), some (.int x4), o5, o6, o7] [.int z] h' Q)) : hk_S G m_L_law (d + 1) (cq + cb) (sq + sb) 1784 [some (.ref r0), some (.ref r1), o2, some (.ref r3), some (.int x4), o5, o6, o7] [] h Q := by
  refine hs_aload_n dL_law_1784 rfl ?_
  refine hs_aload_n dL_law_1785 rfl ?_
  refine hs_iload dL_law_1786 rfl ?_
  refine hs_iconst (v := 1) dL_law_1788 (by decide) ?_
  refine hs_iadd dL_law_1789 ?_
  refine hs_iald j4 dL_law_1790 ha3 hi5 hj6 ?_
  refine hs_aload_n dL_law_1791 rfl ?_
  refine hs_iload dL_law_1792 rfl ?_
  refine hs_iconst (v := 2) dL_law_1794 (by decide) ?_
  refine hs_iadd dL_law_1795 ?_
  refine hs_iald j7 dL_law_1796 ha3 hi8 hj9 ?_
  refine hs_aload_n dL_law_1797 rfl ?_
  exact hs_callSH (M' := m_L_element) (vs := [.ref r1, .int (f2 j4), .int (f2 j7), .ref r3]) dL_law_1798 ok_L_element (by decide) wd_1096 wd_1097 rfl (Nat.le_of_ble_eq_true rfl) hc hq_i (hc_i (fun z h9 k9 => k9))
theorem b_L_law_1801 {G : hk_G} {d cb sb : Nat} {h : hk_H} {Q : hk_O → hk_H → Prop} {s0 : Int32} {r2 : Nat} {r0 : Nat} {x4 : Int32} {n1 : Nat} {f2 : Nat → Int32} {fs_ : List Value} {o1 : Option Value} {o3 : Option Value} {o5 : Option Value} {o6 : Option Value} {o7 : Option Value} (ha3 : h.2 r0 = some (.inl (0, n1, .inl f2))) (j4 : Nat) (hi5 : (x4 + 1 : Int32).toInt = (j4 : Int)) (hj6 : j4 < n1) (j7 : Nat) (hi8 : (x4 + 2 : Int32).toInt = (j7 : Int)) (hj9 : j7 < n1) (hrec : h.2 r2 = some (.inr (10, fs_))) (hc : hk_Cl G m_X10_element d 0 0 [.ref r2, .int (f2 j4), .int (f2 j7)] h (fun z h' => hk_S G m_L_law (d + 1) cb sb 1819 [some (.ref r0), o1, some (.ref r2), o3, some (.int x4), some (.int s0), o6, o7] [.long z] h' Q)) : hk_S G m_L_law (d + 1) cb sb 1801 [some (.ref r0), o1, some (.ref r2), o3, some (.int x4), o5, o6, o7] [.int s0] h Q := by
  refine hs_istK dL_law_1801 (by decide) (hk_nk1 rfl hk_c1i) rfl ?_
  refine hs_aload_n dL_law_1803 rfl ?_
  refine hs_aload_n dL_law_1804 rfl ?_
  refine hs_iload dL_law_1805 rfl ?_
  refine hs_iconst (v := 1) dL_law_1807 (by decide) ?_
  refine hs_iadd dL_law_1808 ?_
  refine hs_iald j4 dL_law_1809 ha3 hi5 hj6 ?_
  refine hs_aload_n dL_law_1810 rfl ?_
  refine hs_iload dL_law_1811 rfl ?_
  refine hs_iconst (v := 2) dL_law_1813 (by decide) ?_
  refine hs_iadd dL_law_1814 ?_
  refine hs_iald j7 dL_law_1815 ha3 hi8 hj9 ?_
  exact hk_z0 (hs_vir (M' := m_X10_element) (vs := [.int (f2 j4), .int (f2 j7)]) (c1 := 0) (s1 := 0) dL_law_1816 wd_1481 vi_X10_element hrec rfl (Nat.le_of_ble_eq_true rfl) hc hq_l (hc_l (fun z h9 k9 => k9)))
theorem b_L_law_1819 {G : hk_G} {d cb sb : Nat} {h : hk_H} {Q : hk_O → hk_H → Prop} {s0 : Int64} {r2 : Nat} {fs_ : List Value} {o0 : Option Value} {o1 : Option Value} {o3 : Option Value} {o4 : Option Value} {o5 : Option Value} {o6 : Option Value} {o7 : Option Value} (hrec : h.2 r2 = some (.inr (10, fs_))) (hc : hk_Ci G m_X10_thrown d 0 0 [.ref r2] h (fun z h' => hk_S G m_L_law (d + 1) cb sb 1825 [o0, o1, some (.ref r2), o3, o4, o5, some (.long s0), none] [.int z] h' Q)) (ho5 : hk_c1 o5 := by first | exact hk_c1i | exact hk_c1r | exact hk_c10 | exact hk_c1n) : hk_S G m_L_law (d + 1) cb sb 1819 [o0, o1, some (.ref r2), o3, o4, o5, o6, o7] [.long s0] h Q := by
  refine hs_lstK dL_law_1819 (by decide) (hk_nk1 rfl ho5) rfl ?_
  refine hs_aload_n dL_law_1821 rfl ?_
  exact hk_z0 (hs_vir (M' := m_X10_thrown) (vs := []) (c1 := 0) (s1 := 0) dL_law_1822 wd_1214 vi_X10_thrown hrec rfl (Nat.le_of_ble_eq_true rfl) hc hq_i (hc_i (fun z h9 k9 => k9)))
theorem b_L_law_1825 {G : hk_G} {d cb sb : Nat} {h : hk_H} {Q : hk_O → hk_H → Prop} {s0 : Int32} {x5 : Int32} {o0 : Option Value} {o1 : Option Value} {o2 : Option Value} {o3 : Option Value} {o4 : Option Value} {o6 : Option Value} {o7 : Option Value} (kt : s0 = x5 → hk_S G m_L_law (d + 1) cb sb 1832 [o0, o1, o2, o3, o4, some (.int x5), o6, o7] [] h Q) (kf : ¬ s0 = x5 → hk_S G m_L_law (d + 1) cb sb 1830 [o0, o1, o2, o3, o4, some (.int x5), o6, o7] [] h Q) : hk_S G m_L_law (d + 1) cb sb 1825 [o0, o1, o2, o3, o4, some (.int x5), o6, o7] [.int s0] h Q := by
  refine hs_iload dL_law_1825 rfl ?_
  exact hs_icmp_eq dL_law_1827 (by decide) kt kf
theorem b_L_law_1830 {G : hk_G} {d cb sb : Nat} {h : hk_H} {Q : hk_O → hk_H → Prop} {o0 : Option Value} {o1 : Option Value} {o2 : Option Value} {o3 : Option Value} {o4 : Option Value} {o5 : Option Value} {o6 : Option Value} {o7 : Option Value} (hq : Q (.inl (some (.int 0))) h) : hk_S G m_L_law (d + 1) cb sb 1830 [o0, o1, o2, o3, o4, o5, o6, o7] [] h Q := by
  refine hs_iconst (v := 0) dL_law_1830 (by decide) ?_
  exact hs_zret dL_law_1831 rfl (by decide) hq
theorem b_L_law_1832 {G : hk_G} {d cb sb : Nat} {h : hk_H} {Q : hk_O → hk_H → Prop} {x5 : Int32} {o0 : Option Value} {o1 : Option Value} {o2 : Option Value} {o3 : Option Value} {o4 : Option Value} {o6 : Option Value} {o7 : Option Value} (kt : ¬ x5 = 0 → hk_S G m_L_law (d + 1) cb sb 1848 [o0, o1, o2, o3, o4, some (.int x5), o6, o7] [] h Q) (kf : x5 = 0 → hk_S G m_L_law (d + 1) cb sb 1837 [o0, o1, o2, o3, o4, some (.int x5), o6, o7] [] h Q) : hk_S G m_L_law (d + 1) cb sb 1832 [o0, o1, o2, o3, o4, some (.int x5), o6, o7] [] h Q := by
  refine hs_iload dL_law_1832 rfl ?_
  exact hs_if_ne dL_law_1834 (by decide) kt kf
theorem b_L_law_1837 {G : hk_G} {d cb sb : Nat} {h : hk_H} {Q : hk_O → hk_H → Prop} {r3 : Nat} {n1 : Nat} {f2 : Nat → Int64} {l6 : Int64} {o0 : Option Value} {o1 : Option Value} {o2 : Option Value} {o4 : Option Value} {o5 : Option Value} {o7 : Option Value} (ha3 : h.2 r3 = some (.inl (1, n1, .inr (.inl f2)))) (j4 : Nat) (hi5 : (0 : Int32).toInt = (j4 : Int)) (hj6 : j4 < n1) (kt : (lg_cmp (f2 j4) l6) = 0 → hk_S G m_L_law (d + 1) cb sb 1848 [o0, o1, o2, some (.ref r3), o4, o5, some (.long l6), o7] [] h Q) (kf : ¬ (lg_cmp (f2 j4) l6) = 0 → hk_S G m_L_law (d + 1) cb sb 1846 [o0, o1, o2, some (.ref r3), o4, o5, some (.long l6), o7] [] h Q) : hk_S G m_L_law (d + 1) cb sb 1837 [o0, o1, o2, some (.ref r3), o4, o5, some (.long l6), o7] [] h Q := by
  refine hs_aload_n dL_law_1837 rfl ?_
  refine hs_iconst (v := 0) dL_law_1838 (by decide) ?_
  refine hs_lald j4 dL_law_1839 ha3 hi5 hj6 ?_
  refine hs_lload dL_law_1840 rfl ?_
  refine hs_lcmp dL_law_1842 ?_
  exact hs_if_eq dL_law_1843 (by decide) kt kf
theorem b_L_law_1846 {G : hk_G} {d cb sb : Nat} {h : hk_H} {Q : hk_O → hk_H → Prop} {o0 : Option Value} {o1 : Option Value} {o2 : Option Value} {o3 : Option Value} {o4 : Option Value} {o5 : Option Value} {o6 : Option Value} {o7 : Option Value} (hq : Q (.inl (some (.int 0))) h) : hk_S G m_L_law (d + 1) cb sb 1846 [o0, o1, o2, o3, o4, o5, o6, o7] [] h Q := by
  refine hs_iconst (v := 0) dL_law_1846 (by decide) ?_
  exact hs_zret dL_law_1847 rfl (by decide) hq
theorem b_L_law_1848 {G : hk_G} {d cb sb : Nat} {h : hk_H} {Q : hk_O → hk_H → Prop} {x4 : Int32} {o0 : Option Value} {o1 : Option Value} {o2 : Option Value} {o3 : Option Value} {o5 : Option Value} {o6 : Option Value} {o7 : Option Value} (k : hk_S G m_L_law (d + 1) cb sb 43 [o0, o1, o2, o3, some (.int (x4 + 6)), o5, o6, o7] [] h Q) (ho3 : hk_c1 o3 := by first | exact hk_c1i | exact hk_c1r | exact hk_c10 | exact hk_c1n) : hk_S G m_L_law (d + 1) cb sb 1848 [o0, o1, o2, o3, some (.int x4), o5, o6, o7] [] h Q := by
  refine hs_goto dL_law_1848 (tgt := 1974) (by decide) ?_
  refine hs_iincK (v := 6) dL_law_1974 rfl (by decide) (by decide) (hk_nk1 rfl ho3) rfl ?_
  refine hs_goto dL_law_1977 (tgt := 43) (by decide) ?_
  exact k
theorem b_L_law_1851 {G : hk_G} {d cb sb : Nat} {h : hk_H} {Q : hk_O → hk_H → Prop} {r1 : Nat} {r0 : Nat} {x4 : Int32} {n1 : Nat} {f2 : Nat → Int32} {fs_ : List Value} {o2 : Option Value} {o3 : Option Value} {o5 : Option Value} {o6 : Option Value} {o7 : Option Value} (ha3 : h.2 r0 = some (.inl (0, n1, .inl f2))) (j4 : Nat) (hi5 : (x4 + 1 : Int32).toInt = (j4 : Int)) (hj6 : j4 < n1) (j7 : Nat) (hi8 : (x4 + 2 : Int32).toInt = (j7 : Int)) (hj9 : j7 < n1) (j10 : Nat) (hi11 : (x4 + 3 : Int32).toInt = (j10 : Int)) (hj12 : j10 < n1) (j13 : Nat) (hi14 : (x4 + 4 : Int32).toInt = (j13 : Int)) (hj15 : j13 < n1) (j16 : Nat) (hi17 : (x4 + 5 : Int32).toInt = (j16 : Int)) (hj18 : j16 < n1) (hrec : h.2 r1 = some (.inr (9, fs_))) (hc : hk_Ci G m_X9_copy d 0 0 [.ref r1, .int (f2 j4), .int (f2 j7), .int (f2 j10), .int (f2 j13), .int (f2 j16)] h (fun z h' => hk_S G m_L_law (d + 1) cb sb 1885 [some (.ref r0), some (.ref r1), o2, o3, some (.int x4), o5, o6, o7] [.int z] h' Q)) : hk_S G m_L_law (d + 1) cb sb 1851 [some (.ref r0), some (.ref r1), o2, o3, some (.int x4), o5, o6, o7] [] h Q := by
  refine hs_aload_n dL_law_1851 rfl ?_
  refine hs_aload_n dL_law_1852 rfl ?_
  refine hs_iload dL_law_1853 rfl ?_
  refine hs_iconst (v := 1) dL_law_1855 (by decide) ?_
  refine hs_iadd dL_law_1856 ?_
  refine hs_iald j4 dL_law_1857 ha3 hi5 hj6 ?_
  refine hs_aload_n dL_law_1858 rfl ?_
  refine hs_iload dL_law_1859 rfl ?_
  refine hs_iconst (v := 2) dL_law_1861 (by decide) ?_
  refine hs_iadd dL_law_1862 ?_
  refine hs_iald j7 dL_law_1863 ha3 hi8 hj9 ?_
  refine hs_aload_n dL_law_1864 rfl ?_
  refine hs_iload dL_law_1865 rfl ?_
  refine hs_iconst (v := 3) dL_law_1867 (by decide) ?_
  refine hs_iadd dL_law_1868 ?_
  refine hs_iald j10 dL_law_1869 ha3 hi11 hj12 ?_
  refine hs_aload_n dL_law_1870 rfl ?_
  refine hs_iload dL_law_1871 rfl ?_
  refine hs_iconst (v := 4) dL_law_1873 (by decide) ?_
  refine hs_iadd dL_law_1874 ?_
  refine hs_iald j13 dL_law_1875 ha3 hi14 hj15 ?_
  refine hs_aload_n dL_law_1876 rfl ?_
  refine hs_iload dL_law_1877 rfl ?_
  refine hs_iconst (v := 5) dL_law_1879 (by decide) ?_
  refine hs_iadd dL_law_1880 ?_
  refine hs_iald j16 dL_law_1881 ha3 hi17 hj18 ?_
  exact hk_z0 (hs_vir (M' := m_X9_copy) (vs := [.int (f2 j4), .int (f2 j7), .int (f2 j10), .int (f2 j13), .int (f2 j16)]) (c1 := 0) (s1 := 0) dL_law_1882 wd_907 vi_X9_copy hrec rfl (Nat.le_of_ble_eq_true rfl) hc hq_i (hc_i (fun z h9 k9 => k9)))
theorem b_L_law_1885 {G : hk_G} {d cb sb : Nat} {h : hk_H} {Q : hk_O → hk_H → Prop} {s0 : Int32} {r2 : Nat} {r0 : Nat} {x4 : Int32} {n1 : Nat} {f2 : Nat → Int32} {fs_ : List Value} {o1 : Option Value} {o3 : Option Value} {o5 : Option Value} {o6 : Option Value} {o7 : Option Value} (ha3 : h.2 r0 = some (.inl (0, n1, .inl f2))) (j4 : Nat) (hi5 : (x4 + 1 : Int32).toInt = (j4 : Int)) (hj6 : j4 < n1) (j7 : Nat) (hi8 : (x4 + 2 : Int32).toInt = (j7 : Int)) (hj9 : j7 < n1) (j10 : Nat) (hi11 : (x4 + 3 : Int32).toInt = (j10 : Int)) (hj12 : j10 < n1) (j13 : Nat) (hi14 : (x4 + 4 : Int32).toInt = (j13 : Int)) (hj15 : j13 < n1) (j16 : Nat) (hi17 : (x4 + 5 : Int32).toInt = (j16 : Int)) (hj18 : j16 < n1) (hrec : h.2 r2 = some (.inr (10, fs_))) (hc : hk_Ci G m_X10_copy d 0 0 [.ref r2, .int (f2 j4), .int (f2 j7), .int (f2 j10), .int (f2 j13), .int (f2 j16)] h (fun z h' => hk_S G m_L_law (d + 1) cb sb 1919 [some (.ref r0), o1, some (.ref r2), o3, some (.int x4), o5, o6, o7] [.int z, .int s0] h' Q)) : hk_S G m_L_law (d + 1) cb sb 1885 [some (.ref r0), o1, some (.ref r2), o3, some (.int x4), o5, o6, o7] [.int s0] h Q := by
  refine hs_aload_n dL_law_1885 rfl ?_
  refine hs_aload_n dL_law_1886 rfl ?_
  refine hs_iload dL_law_1887 rfl ?_
  refine hs_iconst (v := 1) dL_law_1889 (by decide) ?_
  refine hs_iadd dL_law_1890 ?_
  refine hs_iald j4 dL_law_1891 ha3 hi5 hj6 ?_
  refine hs_aload_n dL_law_1892 rfl ?_
  refine hs_iload dL_law_1893 rfl ?_
  refine hs_iconst (v := 2) dL_law_1895 (by decide) ?_
  refine hs_iadd dL_law_1896 ?_
  refine hs_iald j7 dL_law_1897 ha3 hi8 hj9 ?_
  refine hs_aload_n dL_law_1898 rfl ?_
  refine hs_iload dL_law_1899 rfl ?_
  refine hs_iconst (v := 3) dL_law_1901 (by decide) ?_
  refine hs_iadd dL_law_1902 ?_
  refine hs_iald j10 dL_law_1903 ha3 hi11 hj12 ?_
  refine hs_aload_n dL_law_1904 rfl ?_
  refine hs_iload dL_law_1905 rfl ?_
  refine hs_iconst (v := 4) dL_law_1907 (by decide) ?_
  refine hs_iadd dL_law_1908 ?_
  refine hs_iald j13 dL_law_1909 ha3 hi14 hj15 ?_
  refine hs_aload_n dL_law_1910 rfl ?_
  refine hs_iload dL_law_1911 rfl ?_
  refine hs_iconst (v := 5) dL_law_1913 (by decide) ?_
  refine hs_iadd dL_law_1914 ?_
  refine hs_iald j16 dL_law_1915 ha3 hi17 hj18 ?_
  exact hk_z0 (hs_vir (M' := m_X10_copy) (vs := [.int (f2 j4), .int (f2 j7), .int (f2 j10), .int (f2 j13), .int (f2 j16)]) (c1 := 0) (s1 := 0) dL_law_1916 wd_1485 vi_X10_copy hrec rfl (Nat.le_of_ble_eq_true rfl) hc hq_i (hc_i (fun z h9 k9 => k9)))
theorem b_L_law_1919 {G : hk_G} {d cb sb : Nat} {h : hk_H} {Q : hk_O → hk_H → Prop} {s0 : Int32} {s1 : Int32} {o0 : Option Value} {o1 : Option Value} {o2 : Option Value} {o3 : Option Value} {o4 : Option Value} {o5 : Option Value} {o6 : Option Value} {o7 : Option Value} (kt : s0 = s1 → hk_S G m_L_law (d + 1) cb sb 1974 [o0, o1, o2, o3, o4, o5, o6, o7] [] h Q) (kf : ¬ s0 = s1 → hk_S G m_L_law (d + 1) cb sb 1922 [o0, o1, o2, o3, o4, o5, o6, o7] [] h Q) : hk_S G m_L_law (d + 1) cb sb 1919 [o0, o1, o2, o3, o4, o5, o6, o7] [.int s1, .int s0] h Q := by
  exact hs_icmp_eq dL_law_1919 (by decide) kt kf
theorem b_L_law_1922 {G : hk_G} {d cb sb : Nat} {h : hk_H} {Q : hk_O → hk_H → Prop} {o0 : Option Value} {o1 : Option Value} {o2 : Option Value} {o3 : Option Value} {o4 : Option Value} {o5 : Option Value} {o6 : Option Value} {o7 : Option Value} (hq : Q (.inl (some (.int 0))) h) : hk_S G m_L_law (d + 1) cb sb 1922 [o0, o1, o2, o3, o4, o5, o6, o7] [] h Q := by
  refine hs_iconst (v := 0) dL_law_1922 (by decide) ?_
  exact hs_zret dL_law_1923 rfl (by decide) hq
theorem b_L_law_1924 {G : hk_G} {d cb sb : Nat} {h : hk_H} {Q : hk_O → hk_H → Prop} {r1 : Nat} {r0 : Nat} {x4 : Int32} {n1 : Nat} {f2 : Nat → Int32} {fs_ : List Value} {o2 : Option Value} {o3 : Option Value} {o5 : Option Value} {o6 : Option Value} {o7 : Option Value} (ha3 : h.2 r0 = some (.inl (0, n1, .inl f2))) (j4 : Nat) (hi5 : (x4 + 1 : Int32).toInt = (j4 : Int)) (hj6 : j4 < n1) (hrec : h.2 r1 = some (.inr (9, fs_))) (hc : hk_Ci G m_X9_weight d 0 0 [.ref r1, .int (f2 j4)] h (fun z h' => hk_S G m_L_law (d + 1) cb sb 1934 [some (.ref r0), some (.ref r1), o2, o3, some (.int x4), o5, o6, o7] [.int z] h' Q)) : hk_S G m_L_law (d + 1) cb sb 1924 [some (.ref r0), some (.ref r1), o2, o3, some (.int x4), o5, o6, o7] [] h Q := by
  refine hs_aload_n dL_law_1924 rfl ?_
  refine hs_aload_n dL_law_1925 rfl ?_
  refine hs_iload dL_law_1926 rfl ?_
  refine hs_iconst (v := 1) dL_law_1928 (by decide) ?_
  refine hs_iadd dL_law_1929 ?_
  refine hs_iald j4 dL_law_1930 ha3 hi5 hj6 ?_
  exact hk_z0 (hs_vir (M' := m_X9_weight) (vs := [.int (f2 j4)]) (c1 := 0) (s1 := 0) dL_law_1931 wd_920 vi_X9_weight hrec rfl (Nat.le_of_ble_eq_true rfl) hc hq_i (hc_i (fun z h9 k9 => k9)))
theorem b_L_law_1934 {G : hk_G} {d cb sb : Nat} {h : hk_H} {Q : hk_O → hk_H → Prop} {s0 : Int32} {r2 : Nat} {r0 : Nat} {x4 : Int32} {n1 : Nat} {f2 : Nat → Int32} {fs_ : List Value} {o1 : Option Value} {o3 : Option Value} {o5 : Option Value} {o6 : Option Value} {o7 : Option Value} (ha3 : h.2 r0 = some (.inl (0, n1, .inl f2))) (j4 : Nat) (hi5 : (x4 + 1 : Int32).toInt = (j4 : Int)) (hj6 : j4 < n1) (hrec : h.2 r2 = some (.inr (10, fs_))) (hc : hk_Ci G m_X10_weight d 0 0 [.ref r2, .int (f2 j4)] h (fun z h' => hk_S G m_L_law (d + 1) cb sb 1944 [some (.ref r0), o1, some (.ref r2), o3, some (.int x4), o5, o6, o7] [.int z, .int s0] h' Q)) : hk_S G m_L_law (d + 1) cb sb 1934 [some (.ref r0), o1, some (.ref r2), o3, some (.int x4), o5, o6, o7] [.int s0] h Q := by
  refine hs_aload_n dL_law_1934 rfl ?_
  refine hs_aload_n dL_law_1935 rfl ?_
  refine hs_iload dL_law_1936 rfl ?_
  refine hs_iconst (v := 1) dL_law_1938 (by decide) ?_
  refine hs_iadd dL_law_1939 ?_
  refine hs_iald j4 dL_law_1940 ha3 hi5 hj6 ?_
  exact hk_z0 (hs_vir (M' := m_X10_weight) (vs := [.int (f2 j4)]) (c1 := 0) (s1 := 0) dL_law_1941 wd_1489 vi_X10_weight hrec rfl (Nat.le_of_ble_eq_true rfl) hc hq_i (hc_i (fun z h9 k9 => k9)))
theorem b_L_law_1944 {G : hk_G} {d cb sb : Nat} {h : hk_H} {Q : hk_O → hk_H → Prop} {s0 : Int32} {s1 : Int32} {o0 : Option Value} {o1 : Option Value} {o2 : Option Value} {o3 : Option Value} {o4 : Option Value} {o5 : Option Value} {o6 : Option Value} {o7 : Option Value} (kt : s0 = s1 → hk_S G m_L_law (d + 1) cb sb 1974 [o0, o1, o2, o3, o4, o5, o6, o7] [] h Q) (kf : ¬ s0 = s1 → hk_S G m_L_law (d + 1) cb sb 1947 [o0, o1, o2, o3, o4, o5, o6, o7] [] h Q) : hk_S G m_L_law (d + 1) cb sb 1944 [o0, o1, o2, o3, o4, o5, o6, o7] [.int s1, .int s0] h Q := by
  exact hs_icmp_eq dL_law_1944 (by decide) kt kf
theorem b_L_law_1947 {G : hk_G} {d cb sb : Nat} {h : hk_H} {Q : hk_O → hk_H → Prop} {o0 : Option Value} {o1 : Option Value} {o2 : Option Value} {o3 : Option Value} {o4 : Option Value} {o5 : Option Value} {o6 : Option Value} {o7 : Option Value} (hq : Q (.inl (some (.int 0))) h) : hk_S G m_L_law (d + 1) cb sb 1947 [o0, o1, o2, o3, o4, o5, o6, o7] [] h Q := by
  refine hs_iconst (v := 0) dL_law_1947 (by decide) ?_
  exact hs_zret dL_law_1948 rfl (by decide) hq
theorem b_L_law_1949 {G : hk_G} {d cb sb : Nat} {h : hk_H} {Q : hk_O → hk_H → Prop} {r1 : Nat} {r0 : Nat} {x4 : Int32} {n1 : Nat} {f2 : Nat → Int32} {cq : Nat} {sq : Nat} {fs_ : List Value} {o2 : Option Value} {o3 : Option Value} {o5 : Option Value} {o6 : Option Value} {o7 : Option Value} (ha3 : h.2 r0 = some (.inl (0, n1, .inl f2))) (j4 : Nat) (hi5 : (x4 + 1 : Int32).toInt = (j4 : Int)) (hj6 : j4 < n1) (hrec : h.2 r1 = some (.inr (9, fs_))) (hc : hk_Ci G m_X9_toss d cq sq [.ref r1, .int (f2 j4)] h (fun z h' => hk_S G m_L_law (d + 1) cb sb 1959 [some (.ref r0), some (.ref r1), o2, o3, some (.int x4), o5, o6, o7] [.int z] h' Q)) : hk_S G m_L_law (d + 1) (cq + cb) (sq + sb) 1949 [some (.ref r0), some (.ref r1), o2, o3, some (.int x4), o5, o6, o7] [] h Q := by
  refine hs_aload_n dL_law_1949 rfl ?_
  refine hs_aload_n dL_law_1950 rfl ?_
  refine hs_iload dL_law_1951 rfl ?_
  refine hs_iconst (v := 1) dL_law_1953 (by decide) ?_
  refine hs_iadd dL_law_1954 ?_
  refine hs_iald j4 dL_law_1955 ha3 hi5 hj6 ?_
  exact hs_vir (M' := m_X9_toss) (vs := [.int (f2 j4)]) dL_law_1956 wd_927 vi_X9_toss hrec rfl (Nat.le_of_ble_eq_true rfl) hc hq_i (hc_i (fun z h9 k9 => k9))
theorem b_L_law_1959 {G : hk_G} {d cb sb : Nat} {h : hk_H} {Q : hk_O → hk_H → Prop} {s0 : Int32} {r2 : Nat} {r0 : Nat} {x4 : Int32} {n1 : Nat} {f2 : Nat → Int32} {fs_ : List Value} {o1 : Option Value} {o3 : Option Value} {o5 : Option Value} {o6 : Option Value} {o7 : Option Value} (ha3 : h.2 r0 = some (.inl (0, n1, .inl f2))) (j4 : Nat) (hi5 : (x4 + 1 : Int32).toInt = (j4 : Int)) (hj6 : j4 < n1) (hrec : h.2 r2 = some (.inr (10, fs_))) (hc : hk_Ci G m_X10_toss d 0 0 [.ref r2, .int (f2 j4)] h (fun z h' => hk_S G m_L_law (d + 1) cb sb 1969 [some (.ref r0), o1, some (.ref r2), o3, some (.int x4), o5, o6, o7] [.int z, .int s0] h' Q)) : hk_S G m_L_law (d + 1) cb sb 1959 [some (.ref r0), o1, some (.ref r2), o3, some (.int x4), o5, o6, o7] [.int s0] h Q := by
  refine hs_aload_n dL_law_1959 rfl ?_
  refine hs_aload_n dL_law_1960 rfl ?_
  refine hs_iload dL_law_1961 rfl ?_
  refine hs_iconst (v := 1) dL_law_1963 (by decide) ?_
  refine hs_iadd dL_law_1964 ?_
  refine hs_iald j4 dL_law_1965 ha3 hi5 hj6 ?_
  exact hk_z0 (hs_vir (M' := m_X10_toss) (vs := [.int (f2 j4)]) (c1 := 0) (s1 := 0) dL_law_1966 wd_1497 vi_X10_toss hrec rfl (Nat.le_of_ble_eq_true rfl) hc hq_i (hc_i (fun z h9 k9 => k9)))
theorem b_L_law_1969 {G : hk_G} {d cb sb : Nat} {h : hk_H} {Q : hk_O → hk_H → Prop} {s0 : Int32} {s1 : Int32} {o0 : Option Value} {o1 : Option Value} {o2 : Option Value} {o3 : Option Value} {o4 : Option Value} {o5 : Option Value} {o6 : Option Value} {o7 : Option Value} (kt : s0 = s1 → hk_S G m_L_law (d + 1) cb sb 1974 [o0, o1, o2, o3, o4, o5, o6, o7] [] h Q) (kf : ¬ s0 = s1 → hk_S G m_L_law (d + 1) cb sb 1972 [o0, o1, o2, o3, o4, o5, o6, o7] [] h Q) : hk_S G m_L_law (d + 1) cb sb 1969 [o0, o1, o2, o3, o4, o5, o6, o7] [.int s1, .int s0] h Q := by
  exact hs_icmp_eq dL_law_1969 (by decide) kt kf
theorem b_L_law_1972 {G : hk_G} {d cb sb : Nat} {h : hk_H} {Q : hk_O → hk_H → Prop} {o0 : Option Value} {o1 : Option Value} {o2 : Option Value} {o3 : Option Value} {o4 : Option Value} {o5 : Option Value} {o6 : Option Value} {o7 : Option Value} (hq : Q (.inl (some (.int 0))) h) : hk_S G m_L_law (d + 1) cb sb 1972 [o0, o1, o2, o3, o4, o5, o6, o7] [] h Q := by
  refine hs_iconst (v := 0) dL_law_1972 (by decide) ?_
  exact hs_zret dL_law_1973 rfl (by decide) hq
theorem b_L_law_1974 {G : hk_G} {d cb sb : Nat} {h : hk_H} {Q : hk_O → hk_H → Prop} {x4 : Int32} {o0 : Option Value} {o1 : Option Value} {o2 : Option Value} {o3 : Option Value} {o5 : Option Value} {o6 : Option Value} {o7 : Option Value} (k : hk_S G m_L_law (d + 1) cb sb 43 [o0, o1, o2, o3, some (.int (x4 + 6)), o5, o6, o7] [] h Q) (ho3 : hk_c1 o3 := by first | exact hk_c1i | exact hk_c1r | exact hk_c10 | exact hk_c1n) : hk_S G m_L_law (d + 1) cb sb 1974 [o0, o1, o2, o3, some (.int x4), o5, o6, o7] [] h Q := by
  refine hs_iincK (v := 6) dL_law_1974 rfl (by decide) (by decide) (hk_nk1 rfl ho3) rfl ?_
  refine hs_goto dL_law_1977 (tgt := 43) (by decide) ?_
  exact k
theorem b_L_law_1980 {G : hk_G} {d cb sb : Nat} {h : hk_H} {Q : hk_O → hk_H → Prop} {o0 : Option Value} {o1 : Option Value} {o2 : Option Value} {o3 : Option Value} {o4 : Option Value} {o5 : Option Value} {o6 : Option Value} {o7 : Option Value} (hq : Q (.inl (some (.int 1))) h) : hk_S G m_L_law (d + 1) cb sb 1980 [o0, o1, o2, o3, o4, o5, o6, o7] [] h Q := by
  refine hs_iconst (v := 1) dL_law_1980 (by decide) ?_
  exact hs_zret dL_law_1981 rfl (by decide) hq
