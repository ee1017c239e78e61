/-! The law's own small methods. -/
def hl_hp (a b : Nat) : String → Nat := fun E => if E = "java/lang/IllegalArgumentException" then a else b
theorem hl_hp1 {a b : Nat} : hl_hp a b "java/lang/IllegalArgumentException" = a := if_pos rfl
theorem hl_hp2 {a b : Nat} : hl_hp a b "java/lang/IllegalStateException" = b := if_neg (by decide)
def hl_cell (L : Nat) (xs : Nat → Int32) (k : Nat) : Int32 := if k < L then xs k else 0
section LB
variable {G : hk_G} {h : hk_H} {d L : Nat} {xs : Nat → Int32}
theorem hl_i1 {i : Nat} (h : i + 1 < 2147483648) : (hI (i : Int) + 1).toInt = ((i + 1 : Nat) : Int) := hl_ix 1 h
theorem hl_i2 {i : Nat} (h : i + 2 < 2147483648) : (hI (i : Int) + 2).toInt = ((i + 2 : Nat) : Int) := hl_ix 2 h
theorem hl_i3 {i : Nat} (h : i + 3 < 2147483648) : (hI (i : Int) + 3).toInt = ((i + 3 : Nat) : Int) := hl_ix 3 h
theorem hl_i4 {i : Nat} (h : i + 4 < 2147483648) : (hI (i : Int) + 4).toInt = ((i + 4 : Nat) : Int) := hl_ix 4 h
theorem hl_i5 {i : Nat} (h : i + 5 < 2147483648) : (hI (i : Int) + 5).toInt = ((i + 5 : Nat) : Int) := hl_ix 5 h
theorem s_cell {k : Nat} (hz : h.2 0 = some (hc_i32 L xs)) (hL : L < 2147483648) (hk2 : k < 2147483648) {K : Int32 → hk_H → Prop} (hk : K (hl_cell L xs k) h) : hk_Ci G m_L_cell d 0 0 [.ref 0, .int (hI k)] h K := by
  have e : Int32.ofNat L ≤ hI (k : Int) ↔ L ≤ k := by
    have := hI_le (a := (L : Int)) (b := (k : Int)) (hI_rN hL) (hI_rN hk2)
    rw [hI_ofNat, this]
    omega
  refine ⟨Nat.le_of_ble_eq_true rfl, b_L_cell_0 hz (by decide) (fun c => b_L_cell_12 ⟨_, rfl, ?_⟩) (fun c => ?_)⟩
  · unfold hl_cell at hk
    rw [if_neg (by have := e.mp c; omega)] at hk
    exact hk
  · have hlt : k < L := by
      rcases Nat.lt_or_ge k L with c2 | c2
      · exact c2
      · exact absurd (e.mpr c2) c
    refine b_L_cell_6 hz k (hI_at rfl hk2) hlt ⟨_, rfl, ?_⟩
    unfold hl_cell at hk
    rw [if_pos hlt] at hk
    exact hk
theorem r_thrown {n m w rc th : Nat} {num : Nat → Int} {Rs : Nat → hr_R} (B : hB h n m w rc num Rs th) {K : Int32 → hk_H → Prop} (hk : K (hI th) h) : hk_Ci G m_X10_thrown d 0 0 [.ref 43] h K := ⟨Nat.le_of_ble_eq_true rfl, b_X10_thrown_0 B.1 rfl ⟨_, rfl, hk⟩⟩
theorem hl_cmp (x : Int64) : lg_cmp x x = 0 := by simp [lg_cmp]
theorem hl_o1 (a : Nat ⊕ Int) (k : Nat) (e : a = .inl k) (h1 : k = 1) : hq_outI a = .inr "java/lang/IllegalArgumentException" ∧ hq_outL a = .inr "java/lang/IllegalArgumentException" := by subst e; subst h1; exact ⟨rfl, rfl⟩
theorem hl_o2 (a : Nat ⊕ Int) (k : Nat) (e : a = .inl k) (h1 : k = 2) : hq_outI a = .inr "java/lang/IllegalStateException" ∧ hq_outL a = .inr "java/lang/IllegalStateException" := by subst e; subst h1; exact ⟨rfl, rfl⟩
theorem hl_ct1_pays : hk_ct m_L_pays 7 "java/lang/IllegalArgumentException" 15 5 := ⟨[], (0, 12, 15, 13), [], rfl, (fun z hz => by cases hz), ⟨by decide, by decide⟩, by decide, wd_1023, by decide, rfl, by decide, Or.inr dL_pays_15⟩
theorem hl_cn1_pays : hk_cn m_L_pays 15 5 = 17 := if_pos dL_pays_15
theorem l_pays {x y z : Int32} {fs : List Value} {a : Nat ⊕ Int} {R : hk_H → Prop} {K : Int32 → hk_H → Prop} (hrec : h.2 4 = some (.inr (9, fs))) (hE : hk_E G m_X9_pays d 1 6 [.ref 4, .int x, .int y, .int z] h (fun o h' => o = hq_outI a ∧ R h')) (hx : ∀ k, a = .inl k → k = 1) (ho : ∀ h', R h' → ∃ g, h'.2 70 = some (hc_i64 1 g)) (hs : ∀ h' g, R h' → R (hk_set h' 70 (hc_i64 1 g)))
    (hk : ∀ h' g, R h' → h'.2 70 = some (hc_i64 1 g) → (∀ v, a = .inr v → g 0 = (hI v).toInt64) → K (hI (hq_th a)) h') : hk_Ci G m_L_pays (d + 1) 1 6 [.ref 4, .int x, .int y, .int z, .ref 70] h K := by
  refine ⟨Nat.le_of_ble_eq_true rfl, ?_⟩
  refine hs_aload dL_pays_0 rfl ?_
  refine hs_iconst (v := 0) dL_pays_2 (by decide) ?_
  refine hs_aload_n dL_pays_3 rfl ?_
  refine hs_iload_n dL_pays_4 rfl ?_
  refine hs_iload_n dL_pays_5 rfl ?_
  refine hs_iload_n dL_pays_6 rfl ?_
  refine hs_callVX (hp := fun _ => 15) (i := fun _ => 5) (c1 := 1) (s1 := 6) (c2 := 0) (s2 := 0) (vs := [.int x, .int y, .int z]) (st := [.int 0, .ref 70]) dL_pays_7 ok_X9_pays rfl wd_1024 wd_1025 (r := (RX9, TX9, 9)) (ci := 9) rfl wd_1026 hrec rfl (Nat.le_of_ble_eq_true rfl) hE (fun E h' hq => ?_) (fun v h' hq => ?_)
  · obtain ⟨e1, e2⟩ := hq
    cases a with
    | inr v => cases e1
    | inl k =>
      obtain ⟨g, eg⟩ := ho h' e2
      have hk := hk h' g e2 eg (fun v e => by cases e)
      have ek := hx k rfl
      subst ek
      rw [(hl_o1 (.inl 1) 1 rfl rfl).1] at e1
      cases e1
      refine ⟨hl_ct1_pays, ?_⟩
      rw [hl_cn1_pays]
      exact b_L_pays_17 ⟨_, rfl, hk⟩
  · obtain ⟨e1, e2⟩ := hq
    cases a with
    | inl k => cases e1
    | inr v =>
      obtain ⟨g, eg⟩ := ho h' e2
      cases e1
      refine b_L_pays_10 eg (by omega) 0 rfl (by omega) rfl ⟨_, rfl, hk _ _ (hs h' _ e2) hk_set_eq (fun v2 e => ?_)⟩
      cases e
      simp [vp_updL]
theorem hl_ct1_gain : hk_ct m_L_gain 9 "java/lang/IllegalArgumentException" 17 6 := ⟨[], (0, 14, 17, 13), [], rfl, (fun z hz => by cases hz), ⟨by decide, by decide⟩, by decide, wd_1023, by decide, rfl, by decide, Or.inr dL_gain_17⟩
theorem hl_cn1_gain : hk_cn m_L_gain 17 6 = 19 := if_pos dL_gain_17
theorem l_gain {x y z u : Int32} {fs : List Value} {a : Nat ⊕ Int} {R : hk_H → Prop} {K : Int32 → hk_H → Prop} (hrec : h.2 4 = some (.inr (9, fs))) (hE : hk_E G m_X9_gain d 1 6 [.ref 4, .int x, .int y, .int z, .int u] h (fun o h' => o = hq_outI a ∧ R h')) (hx : ∀ k, a = .inl k → k = 1) (ho : ∀ h', R h' → ∃ g, h'.2 70 = some (hc_i64 1 g)) (hs : ∀ h' g, R h' → R (hk_set h' 70 (hc_i64 1 g)))
    (hk : ∀ h' g, R h' → h'.2 70 = some (hc_i64 1 g) → (∀ v, a = .inr v → g 0 = (hI v).toInt64) → K (hI (hq_th a)) h') : hk_Ci G m_L_gain (d + 1) 1 6 [.ref 4, .int x, .int y, .int z, .int u, .ref 70] h K := by
  refine ⟨Nat.le_of_ble_eq_true rfl, ?_⟩
  refine hs_aload dL_gain_0 rfl ?_
  refine hs_iconst (v := 0) dL_gain_2 (by decide) ?_
  refine hs_aload_n dL_gain_3 rfl ?_
  refine hs_iload_n dL_gain_4 rfl ?_
  refine hs_iload_n dL_gain_5 rfl ?_
  refine hs_iload_n dL_gain_6 rfl ?_
  refine hs_iload dL_gain_7 rfl ?_
  refine hs_callVX (hp := fun _ => 17) (i := fun _ => 6) (c1 := 1) (s1 := 6) (c2 := 0) (s2 := 0) (vs := [.int x, .int y, .int z, .int u]) (st := [.int 0, .ref 70]) dL_gain_9 ok_X9_gain rfl wd_1047 wd_1048 (r := (RX9, TX9, 9)) (ci := 9) rfl wd_1049 hrec rfl (Nat.le_of_ble_eq_true rfl) hE (fun E h' hq => ?_) (fun v h' hq => ?_)
  · obtain ⟨e1, e2⟩ := hq
    cases a with
    | inr v => cases e1
    | inl k =>
      obtain ⟨g, eg⟩ := ho h' e2
      have hk := hk h' g e2 eg (fun v e => by cases e)
      have ek := hx k rfl
      subst ek
      rw [(hl_o1 (.inl 1) 1 rfl rfl).1] at e1
      cases e1
      refine ⟨hl_ct1_gain, ?_⟩
      rw [hl_cn1_gain]
      exact b_L_gain_19 ⟨_, rfl, hk⟩
  · obtain ⟨e1, e2⟩ := hq
    cases a with
    | inl k => cases e1
    | inr v =>
      obtain ⟨g, eg⟩ := ho h' e2
      cases e1
      refine b_L_gain_12 eg (by omega) 0 rfl (by omega) rfl ⟨_, rfl, hk _ _ (hs h' _ e2) hk_set_eq (fun v2 e => ?_)⟩
      cases e
      simp [vp_updL]
theorem hl_ct1_budget : hk_ct m_L_budget 5 "java/lang/IllegalArgumentException" 12 4 := ⟨[], (0, 9, 12, 13), [], rfl, (fun z hz => by cases hz), ⟨by decide, by decide⟩, by decide, wd_1023, by decide, rfl, by decide, Or.inr dL_budget_12⟩
theorem hl_cn1_budget : hk_cn m_L_budget 12 4 = 14 := if_pos dL_budget_12
theorem l_budget {x y : Int32} {fs : List Value} {a : Nat ⊕ Int} {R : hk_H → Prop} {K : Int32 → hk_H → Prop} (hrec : h.2 4 = some (.inr (9, fs))) (hE : hk_E G m_X9_budget d 1 6 [.ref 4, .int x, .int y] h (fun o h' => o = hq_outL a ∧ R h')) (hx : ∀ k, a = .inl k → k = 1) (ho : ∀ h', R h' → ∃ g, h'.2 70 = some (hc_i64 1 g)) (hs : ∀ h' g, R h' → R (hk_set h' 70 (hc_i64 1 g)))
    (hk : ∀ h' g, R h' → h'.2 70 = some (hc_i64 1 g) → (∀ v, a = .inr v → g 0 = hL v) → K (hI (hq_th a)) h') : hk_Ci G m_L_budget (d + 1) 1 6 [.ref 4, .int x, .int y, .ref 70] h K := by
  refine ⟨Nat.le_of_ble_eq_true rfl, ?_⟩
  refine hs_aload_n dL_budget_0 rfl ?_
  refine hs_iconst (v := 0) dL_budget_1 (by decide) ?_
  refine hs_aload_n dL_budget_2 rfl ?_
  refine hs_iload_n dL_budget_3 rfl ?_
  refine hs_iload_n dL_budget_4 rfl ?_
  refine hs_callVX (hp := fun _ => 12) (i := fun _ => 4) (c1 := 1) (s1 := 6) (c2 := 0) (s2 := 0) (vs := [.int x, .int y]) (st := [.int 0, .ref 70]) dL_budget_5 ok_X9_budget rfl wd_1055 wd_1056 (r := (RX9, TX9, 9)) (ci := 9) rfl wd_1057 hrec rfl (Nat.le_of_ble_eq_true rfl) hE (fun E h' hq => ?_) (fun v h' hq => ?_)
  · obtain ⟨e1, e2⟩ := hq
    cases a with
    | inr v => cases e1
    | inl k =>
      obtain ⟨g, eg⟩ := ho h' e2
      have hk := hk h' g e2 eg (fun v e => by cases e)
      have ek := hx k rfl
      subst ek
      rw [(hl_o1 (.inl 1) 1 rfl rfl).2] at e1
      cases e1
      refine ⟨hl_ct1_budget, ?_⟩
      rw [hl_cn1_budget]
      exact b_L_budget_14 ⟨_, rfl, hk⟩
  · obtain ⟨e1, e2⟩ := hq
    cases a with
    | inl k => cases e1
    | inr v =>
      obtain ⟨g, eg⟩ := ho h' e2
      cases e1
      refine b_L_budget_8 eg (by omega) 0 rfl (by omega) rfl ⟨_, rfl, hk _ _ (hs h' _ e2) hk_set_eq (fun v2 e => ?_)⟩
      cases e
      simp [vp_updL]
theorem hl_ct1_welfare : hk_ct m_L_welfare 4 "java/lang/IllegalArgumentException" 11 3 := ⟨[], (0, 8, 11, 13), [], rfl, (fun z hz => by cases hz), ⟨by decide, by decide⟩, by decide, wd_1023, by decide, rfl, by decide, Or.inl ⟨3, rfl, dL_welfare_11⟩⟩
theorem hl_cn1_welfare : hk_cn m_L_welfare 11 3 = 12 := by
  unfold hk_cn
  rw [if_neg]
  rw [show decode m_L_welfare.2.1 11 = _ from dL_welfare_11]
  intro h9
  cases h9
theorem l_welfare {x : Int32} {fs : List Value} {a : Nat ⊕ Int} {R : hk_H → Prop} {K : Int32 → hk_H → Prop} (hrec : h.2 4 = some (.inr (9, fs))) (hE : hk_E G m_X9_welfare d 1 6 [.ref 4, .int x] h (fun o h' => o = hq_outL a ∧ R h')) (hx : ∀ k, a = .inl k → k = 1) (ho : ∀ h', R h' → ∃ g, h'.2 70 = some (hc_i64 1 g)) (hs : ∀ h' g, R h' → R (hk_set h' 70 (hc_i64 1 g)))
    (hk : ∀ h' g, R h' → h'.2 70 = some (hc_i64 1 g) → (∀ v, a = .inr v → g 0 = hL v) → K (hI (hq_th a)) h') : hk_Ci G m_L_welfare (d + 1) 1 6 [.ref 4, .int x, .ref 70] h K := by
  refine ⟨Nat.le_of_ble_eq_true rfl, ?_⟩
  refine hs_aload_n dL_welfare_0 rfl ?_
  refine hs_iconst (v := 0) dL_welfare_1 (by decide) ?_
  refine hs_aload_n dL_welfare_2 rfl ?_
  refine hs_iload_n dL_welfare_3 rfl ?_
  refine hs_callVX (hp := fun _ => 11) (i := fun _ => 3) (c1 := 1) (s1 := 6) (c2 := 0) (s2 := 0) (vs := [.int x]) (st := [.int 0, .ref 70]) dL_welfare_4 ok_X9_welfare rfl wd_1068 wd_1069 (r := (RX9, TX9, 9)) (ci := 9) rfl wd_1070 hrec rfl (Nat.le_of_ble_eq_true rfl) hE (fun E h' hq => ?_) (fun v h' hq => ?_)
  · obtain ⟨e1, e2⟩ := hq
    cases a with
    | inr v => cases e1
    | inl k =>
      obtain ⟨g, eg⟩ := ho h' e2
      have hk := hk h' g e2 eg (fun v e => by cases e)
      have ek := hx k rfl
      subst ek
      rw [(hl_o1 (.inl 1) 1 rfl rfl).2] at e1
      cases e1
      refine ⟨hl_ct1_welfare, ?_⟩
      rw [hl_cn1_welfare]
      exact b_L_welfare_12 ⟨_, rfl, hk⟩
  · obtain ⟨e1, e2⟩ := hq
    cases a with
    | inl k => cases e1
    | inr v =>
      obtain ⟨g, eg⟩ := ho h' e2
      cases e1
      refine b_L_welfare_7 eg (by omega) 0 rfl (by omega) rfl ⟨_, rfl, hk _ _ (hs h' _ e2) hk_set_eq (fun v2 e => ?_)⟩
      cases e
      simp [vp_updL]
theorem hl_ct1_span : hk_ct m_L_span 11 "java/lang/IllegalArgumentException" 19 7 := ⟨[], (0, 16, 19, 13), [(0, 16, 23, 31)], rfl, (fun z hz => by cases hz), ⟨by decide, by decide⟩, by decide, wd_1023, by decide, rfl, by decide, Or.inr dL_span_19⟩
theorem hl_cn1_span : hk_cn m_L_span 19 7 = 21 := if_pos dL_span_19
theorem hl_ct2_span : hk_ct m_L_span 11 "java/lang/IllegalStateException" 23 7 := ⟨[(0, 16, 19, 13)], (0, 16, 23, 31), [], rfl, (fun z hz => by rw [List.mem_singleton] at hz; subst hz; exact Or.inr ⟨by decide, wd_1023, rfl⟩), ⟨by decide, by decide⟩, by decide, wd_1075, by decide, rfl, by decide, Or.inr dL_span_23⟩
theorem hl_cn2_span : hk_cn m_L_span 23 7 = 25 := if_pos dL_span_23
theorem l_span {x y z u v : Int32} {fs : List Value} {a : Nat ⊕ Int} {R : hk_H → Prop} {K : Int32 → hk_H → Prop} (hrec : h.2 4 = some (.inr (9, fs))) (hE : hk_E G m_X9_span d 1 6 [.ref 4, .int x, .int y, .int z, .int u, .int v] h (fun o h' => o = hq_outI a ∧ R h')) (hx : ∀ k, a = .inl k → k = 1 ∨ k = 2) (ho : ∀ h', R h' → ∃ g, h'.2 70 = some (hc_i64 1 g)) (hs : ∀ h' g, R h' → R (hk_set h' 70 (hc_i64 1 g)))
    (hk : ∀ h' g, R h' → h'.2 70 = some (hc_i64 1 g) → (∀ v, a = .inr v → g 0 = (hI v).toInt64) → K (hI (hq_th a)) h') : hk_Ci G m_L_span (d + 1) 1 6 [.ref 4, .int x, .int y, .int z, .int u, .int v, .ref 70] h K := by
  refine ⟨Nat.le_of_ble_eq_true rfl, ?_⟩
  refine hs_aload dL_span_0 rfl ?_
  refine hs_iconst (v := 0) dL_span_2 (by decide) ?_
  refine hs_aload_n dL_span_3 rfl ?_
  refine hs_iload_n dL_span_4 rfl ?_
  refine hs_iload_n dL_span_5 rfl ?_
  refine hs_iload_n dL_span_6 rfl ?_
  refine hs_iload dL_span_7 rfl ?_
  refine hs_iload dL_span_9 rfl ?_
  refine hs_callVX (hp := hl_hp 19 23) (i := fun _ => 7) (c1 := 1) (s1 := 6) (c2 := 0) (s2 := 0) (vs := [.int x, .int y, .int z, .int u, .int v]) (st := [.int 0, .ref 70]) dL_span_11 ok_X9_span rfl wd_1076 wd_1077 (r := (RX9, TX9, 9)) (ci := 9) rfl wd_1078 hrec rfl (Nat.le_of_ble_eq_true rfl) hE (fun E h' hq => ?_) (fun v h' hq => ?_)
  · obtain ⟨e1, e2⟩ := hq
    cases a with
    | inr v => cases e1
    | inl k =>
      obtain ⟨g, eg⟩ := ho h' e2
      have hk := hk h' g e2 eg (fun v e => by cases e)
      rcases hx k rfl with ek | ek
      · subst ek
        rw [(hl_o1 (.inl 1) 1 rfl rfl).1] at e1
        cases e1
        rw [hl_hp1]
        refine ⟨hl_ct1_span, ?_⟩
        rw [hl_cn1_span]
        exact b_L_span_21 ⟨_, rfl, hk⟩
      · subst ek
        rw [(hl_o2 (.inl 2) 2 rfl rfl).1] at e1
        cases e1
        rw [hl_hp2]
        refine ⟨hl_ct2_span, ?_⟩
        rw [hl_cn2_span]
        exact b_L_span_25 ⟨_, rfl, hk⟩
  · obtain ⟨e1, e2⟩ := hq
    cases a with
    | inl k => cases e1
    | inr v =>
      obtain ⟨g, eg⟩ := ho h' e2
      cases e1
      refine b_L_span_14 eg (by omega) 0 rfl (by omega) rfl ⟨_, rfl, hk _ _ (hs h' _ e2) hk_set_eq (fun v2 e => ?_)⟩
      cases e
      simp [vp_updL]
theorem hl_ct1_price : hk_ct m_L_price 9 "java/lang/IllegalArgumentException" 17 6 := ⟨[], (0, 14, 17, 13), [(0, 14, 21, 31)], rfl, (fun z hz => by cases hz), ⟨by decide, by decide⟩, by decide, wd_1023, by decide, rfl, by decide, Or.inr dL_price_17⟩
theorem hl_cn1_price : hk_cn m_L_price 17 6 = 19 := if_pos dL_price_17
theorem hl_ct2_price : hk_ct m_L_price 9 "java/lang/IllegalStateException" 21 6 := ⟨[(0, 14, 17, 13)], (0, 14, 21, 31), [], rfl, (fun z hz => by rw [List.mem_singleton] at hz; subst hz; exact Or.inr ⟨by decide, wd_1023, rfl⟩), ⟨by decide, by decide⟩, by decide, wd_1075, by decide, rfl, by decide, Or.inr dL_price_21⟩
theorem hl_cn2_price : hk_cn m_L_price 21 6 = 23 := if_pos dL_price_21
theorem l_price {x y z u : Int32} {fs : List Value} {a : Nat ⊕ Int} {R : hk_H → Prop} {K : Int32 → hk_H → Prop} (hrec : h.2 4 = some (.inr (9, fs))) (hE : hk_E G m_X9_price d 1 6 [.ref 4, .int x, .int y, .int z, .int u] h (fun o h' => o = hq_outI a ∧ R h')) (hx : ∀ k, a = .inl k → k = 1 ∨ k = 2) (ho : ∀ h', R h' → ∃ g, h'.2 70 = some (hc_i64 1 g)) (hs : ∀ h' g, R h' → R (hk_set h' 70 (hc_i64 1 g)))
    (hk : ∀ h' g, R h' → h'.2 70 = some (hc_i64 1 g) → (∀ v, a = .inr v → g 0 = (hI v).toInt64) → K (hI (hq_th a)) h') : hk_Ci G m_L_price (d + 1) 1 6 [.ref 4, .int x, .int y, .int z, .int u, .ref 70] h K := by
  refine ⟨Nat.le_of_ble_eq_true rfl, ?_⟩
  refine hs_aload dL_price_0 rfl ?_
  refine hs_iconst (v := 0) dL_price_2 (by decide) ?_
  refine hs_aload_n dL_price_3 rfl ?_
  refine hs_iload_n dL_price_4 rfl ?_
  refine hs_iload_n dL_price_5 rfl ?_
  refine hs_iload_n dL_price_6 rfl ?_
  refine hs_iload dL_price_7 rfl ?_
  refine hs_callVX (hp := hl_hp 17 21) (i := fun _ => 6) (c1 := 1) (s1 := 6) (c2 := 0) (s2 := 0) (vs := [.int x, .int y, .int z, .int u]) (st := [.int 0, .ref 70]) dL_price_9 ok_X9_price rfl wd_1091 wd_1092 (r := (RX9, TX9, 9)) (ci := 9) rfl wd_1093 hrec rfl (Nat.le_of_ble_eq_true rfl) hE (fun E h' hq => ?_) (fun v h' hq => ?_)
  · obtain ⟨e1, e2⟩ := hq
    cases a with
    | inr v => cases e1
    | inl k =>
      obtain ⟨g, eg⟩ := ho h' e2
      have hk := hk h' g e2 eg (fun v e => by cases e)
      rcases hx k rfl with ek | ek
      · subst ek
        rw [(hl_o1 (.inl 1) 1 rfl rfl).1] at e1
        cases e1
        rw [hl_hp1]
        refine ⟨hl_ct1_price, ?_⟩
        rw [hl_cn1_price]
        exact b_L_price_19 ⟨_, rfl, hk⟩
      · subst ek
        rw [(hl_o2 (.inl 2) 2 rfl rfl).1] at e1
        cases e1
        rw [hl_hp2]
        refine ⟨hl_ct2_price, ?_⟩
        rw [hl_cn2_price]
        exact b_L_price_23 ⟨_, rfl, hk⟩
  · obtain ⟨e1, e2⟩ := hq
    cases a with
    | inl k => cases e1
    | inr v =>
      obtain ⟨g, eg⟩ := ho h' e2
      cases e1
      refine b_L_price_12 eg (by omega) 0 rfl (by omega) rfl ⟨_, rfl, hk _ _ (hs h' _ e2) hk_set_eq (fun v2 e => ?_)⟩
      cases e
      simp [vp_updL]
theorem hl_ct1_element : hk_ct m_L_element 5 "java/lang/IllegalArgumentException" 12 4 := ⟨[], (0, 9, 12, 13), [(0, 9, 16, 31)], rfl, (fun z hz => by cases hz), ⟨by decide, by decide⟩, by decide, wd_1023, by decide, rfl, by decide, Or.inr dL_element_12⟩
theorem hl_cn1_element : hk_cn m_L_element 12 4 = 14 := if_pos dL_element_12
theorem hl_ct2_element : hk_ct m_L_element 5 "java/lang/IllegalStateException" 16 4 := ⟨[(0, 9, 12, 13)], (0, 9, 16, 31), [], rfl, (fun z hz => by rw [List.mem_singleton] at hz; subst hz; exact Or.inr ⟨by decide, wd_1023, rfl⟩), ⟨by decide, by decide⟩, by decide, wd_1075, by decide, rfl, by decide, Or.inr dL_element_16⟩
theorem hl_cn2_element : hk_cn m_L_element 16 4 = 18 := if_pos dL_element_16
theorem l_element {x y : Int32} {fs : List Value} {a : Nat ⊕ Int} {R : hk_H → Prop} {K : Int32 → hk_H → Prop} (hrec : h.2 4 = some (.inr (9, fs))) (hE : hk_E G m_X9_element d 1 6 [.ref 4, .int x, .int y] h (fun o h' => o = hq_outL a ∧ R h')) (hx : ∀ k, a = .inl k → k = 1 ∨ k = 2) (ho : ∀ h', R h' → ∃ g, h'.2 70 = some (hc_i64 1 g)) (hs : ∀ h' g, R h' → R (hk_set h' 70 (hc_i64 1 g)))
    (hk : ∀ h' g, R h' → h'.2 70 = some (hc_i64 1 g) → (∀ v, a = .inr v → g 0 = hL v) → K (hI (hq_th a)) h') : hk_Ci G m_L_element (d + 1) 1 6 [.ref 4, .int x, .int y, .ref 70] h K := by
  refine ⟨Nat.le_of_ble_eq_true rfl, ?_⟩
  refine hs_aload_n dL_element_0 rfl ?_
  refine hs_iconst (v := 0) dL_element_1 (by decide) ?_
  refine hs_aload_n dL_element_2 rfl ?_
  refine hs_iload_n dL_element_3 rfl ?_
  refine hs_iload_n dL_element_4 rfl ?_
  refine hs_callVX (hp := hl_hp 12 16) (i := fun _ => 4) (c1 := 1) (s1 := 6) (c2 := 0) (s2 := 0) (vs := [.int x, .int y]) (st := [.int 0, .ref 70]) dL_element_5 ok_X9_element rfl wd_1099 wd_1100 (r := (RX9, TX9, 9)) (ci := 9) rfl wd_1101 hrec rfl (Nat.le_of_ble_eq_true rfl) hE (fun E h' hq => ?_) (fun v h' hq => ?_)
  · obtain ⟨e1, e2⟩ := hq
    cases a with
    | inr v => cases e1
    | inl k =>
      obtain ⟨g, eg⟩ := ho h' e2
      have hk := hk h' g e2 eg (fun v e => by cases e)
      rcases hx k rfl with ek | ek
      · subst ek
        rw [(hl_o1 (.inl 1) 1 rfl rfl).2] at e1
        cases e1
        rw [hl_hp1]
        refine ⟨hl_ct1_element, ?_⟩
        rw [hl_cn1_element]
        exact b_L_element_14 ⟨_, rfl, hk⟩
      · subst ek
        rw [(hl_o2 (.inl 2) 2 rfl rfl).2] at e1
        cases e1
        rw [hl_hp2]
        refine ⟨hl_ct2_element, ?_⟩
        rw [hl_cn2_element]
        exact b_L_element_18 ⟨_, rfl, hk⟩
  · obtain ⟨e1, e2⟩ := hq
    cases a with
    | inl k => cases e1
    | inr v =>
      obtain ⟨g, eg⟩ := ho h' e2
      cases e1
      refine b_L_element_8 eg (by omega) 0 rfl (by omega) rfl ⟨_, rfl, hk _ _ (hs h' _ e2) hk_set_eq (fun v2 e => ?_)⟩
      cases e
      simp [vp_updL]
theorem hl_fin {a : Nat ⊕ Int} (hx : ∀ k, a = .inl k → k = 1 ∨ k = 2) {c : Int64} (e0 : hI (hq_th a) = 0) (hv : ∀ v, a = .inr v → c = (hI v).toInt64) : lg_cmp c (hI (hq_val a)).toInt64 = 0 := by
  cases a with
  | inl k => rcases hx k rfl with e | e <;> subst e <;> exact absurd e0 (by decide)
  | inr v => rw [hv v rfl]; exact hl_cmp _
theorem hl_finL {a : Nat ⊕ Int} (hx : ∀ k, a = .inl k → k = 1 ∨ k = 2) {c : Int64} (e0 : hI (hq_th a) = 0) (hv : ∀ v, a = .inr v → c = hL v) : lg_cmp c (hL (hq_val a)) = 0 := by
  cases a with
  | inl k => rcases hx k rfl with e | e <;> subst e <;> exact absurd e0 (by decide)
  | inr v => rw [hv v rfl]; exact hl_cmp _
theorem hx_pays {n m w rc : Nat} {num : Nat → Int} {Rs : Nat → hr_R} {x y z : Int32} (k : Nat) (e : hq_pays n m w rc num Rs x y z = .inl k) : k = 1 := by
  unfold hq_pays at e
  split at e <;> first | cases e; done | (cases e; rfl)
theorem hx_gain {n m w rc : Nat} {num : Nat → Int} {Rs : Nat → hr_R} {x y z u : Int32} (k : Nat) (e : hq_gain n m w rc num Rs x y z u = .inl k) : k = 1 := by
  unfold hq_gain at e
  split at e <;> first | cases e; done | (cases e; rfl)
theorem hx_budget {n m w rc : Nat} {num : Nat → Int} {Rs : Nat → hr_R} {x : Int32} {b : Bool} (k : Nat) (e : hq_budget n m w rc num Rs x b = .inl k) : k = 1 := by
  unfold hq_budget at e
  split at e <;> first | cases e; done | (cases e; rfl)
theorem hx_welfare {n m w rc : Nat} {num : Nat → Int} {Rs : Nat → hr_R} {x : Int32} (k : Nat) (e : hq_welfare n m w rc num Rs x = .inl k) : k = 1 := by
  unfold hq_welfare at e
  split at e <;> first | cases e; done | (cases e; rfl)
theorem hx_span {n m w rc : Nat} {num : Nat → Int} {Rs : Nat → hr_R} {x y z u v : Int32} (k : Nat) (e : hq_span n m w rc num Rs x y z u v = .inl k) : k = 1 ∨ k = 2 := by
  unfold hq_span at e
  split at e
  · split at e
    · cases e
    · cases e; exact Or.inr rfl
  · cases e; exact Or.inl rfl
theorem hx_price {n m w rc : Nat} {num : Nat → Int} {Rs : Nat → hr_R} {x y z u : Int32} (k : Nat) (e : hq_price n m w rc num Rs x y z u = .inl k) : k = 1 ∨ k = 2 := by
  unfold hq_price at e
  split at e
  · split at e
    · cases e
    · cases e; exact Or.inr rfl
  · cases e; exact Or.inl rfl
theorem hx_element {Ss : Nat → hv_S} {x y : Int32} (k : Nat) (e : hq_element Ss x y = .inl k) : k = 1 ∨ k = 2 := by
  unfold hq_element at e
  split at e
  · cases e; exact Or.inl rfl
  · split at e
    · split at e
      · cases e; exact Or.inr rfl
      · cases e
    · cases e; exact Or.inr rfl
end LB
