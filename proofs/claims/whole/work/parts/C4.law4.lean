/-! The law's cases: onto to leaves. -/
section LC
variable {G : hk_G} {h : hk_H} {d cb sb i L : Nat} {xs : Nat → Int32} {o5 o6 o7 : Option Value} {Q : hk_O → hk_H → Prop}
theorem c_onto (T : hT h L xs) (hL : L < 2147483648) (hi : i + 5 < L) (k : ∀ h' o5 o6 o7, hT h' L xs → hk_S G m_L_law (d + 10) cb sb 43 [some (.ref 0), some (.ref 4), some (.ref 43), some (.ref 70), some (.int (hI (i : Int) + 6)), o5, o6, o7] [] h' Q) : hk_S G m_L_law (d + 10) (6 + cb) (6501 + sb) 928 [some (.ref 0), some (.ref 4), some (.ref 43), some (.ref 70), some (.int (hI (i : Int))), o5, o6, o7] [] h Q := by
  obtain ⟨n, m, w, rc, num, Rs, rq, P, Ss, th, g, X, Y, Z⟩ := T
  refine hs_more (Nat.le_refl _) (Nat.le_add_left _ _) (Nat.le_add_left _ _) ?_
  refine b_L_law_928 Z.1 (i + 1) (hl_i1 (by omega)) (by omega) X.1.1 ?_
  refine s_onto X.1 fun h1 C1 F1 => ?_
  have X1 := X.lo C1 F1
  have f1 := hFc.lo F1
  have Y1 := Y.fc f1
  have Z1 := Z.fc f1
  refine b_L_law_938 Z1.1 (i + 1) (hl_i1 (by omega)) (by omega) Y1.1.1.1 ?_
  refine r_onto Y1.1.1 ?_
  have X2 := X1
  have Y2 := Y1
  have Z2 := Z1
  exact b_L_law_948 (fun _ => b_L_law_1974 (k _ _ _ _ ⟨_, _, _, _, _, _, _, _, _, _, _, X2, Y2, Z2⟩)) (fun e => absurd rfl e)
theorem c_dictator (T : hT h L xs) (hL : L < 2147483648) (hi : i + 5 < L) (k : ∀ h' o5 o6 o7, hT h' L xs → hk_S G m_L_law (d + 10) cb sb 43 [some (.ref 0), some (.ref 4), some (.ref 43), some (.ref 70), some (.int (hI (i : Int) + 6)), o5, o6, o7] [] h' Q) : hk_S G m_L_law (d + 10) (6 + cb) (6501 + sb) 953 [some (.ref 0), some (.ref 4), some (.ref 43), some (.ref 70), some (.int (hI (i : Int))), o5, o6, o7] [] h Q := by
  obtain ⟨n, m, w, rc, num, Rs, rq, P, Ss, th, g, X, Y, Z⟩ := T
  refine hs_more (Nat.le_refl _) (Nat.le_add_left _ _) (Nat.le_add_left _ _) ?_
  refine b_L_law_953 Z.1 (i + 1) (hl_i1 (by omega)) (by omega) X.1.1 ?_
  refine s_dictator X.1 fun h1 C1 F1 => ?_
  have X1 := X.lo C1 F1
  have f1 := hFc.lo F1
  have Y1 := Y.fc f1
  have Z1 := Z.fc f1
  refine b_L_law_963 Z1.1 (i + 1) (hl_i1 (by omega)) (by omega) Y1.1.1.1 ?_
  refine r_dictator Y1.1.1 ?_
  have X2 := X1
  have Y2 := Y1
  have Z2 := Z1
  exact b_L_law_973 (fun _ => b_L_law_1974 (k _ _ _ _ ⟨_, _, _, _, _, _, _, _, _, _, _, X2, Y2, Z2⟩)) (fun e => absurd rfl e)
theorem c_budget (T : hT h L xs) (hL : L < 2147483648) (hi : i + 5 < L) (k : ∀ h' o5 o6 o7, hT h' L xs → hk_S G m_L_law (d + 10) cb sb 43 [some (.ref 0), some (.ref 4), some (.ref 43), some (.ref 70), some (.int (hI (i : Int) + 6)), o5, o6, o7] [] h' Q) : hk_S G m_L_law (d + 10) (6 + cb) (6501 + sb) 978 [some (.ref 0), some (.ref 4), some (.ref 43), some (.ref 70), some (.int (hI (i : Int))), o5, o6, o7] [] h Q := by
  obtain ⟨n, m, w, rc, num, Rs, rq, P, Ss, th, g, X, Y, Z⟩ := T
  refine hs_more (cb := 1 + cb) (sb := 6 + sb) (Nat.le_refl _) (by omega) (by omega) ?_
  by_cases c0 : xs (i + 2) = 0
  · refine b_L_law_978 Z.1 (i + 1) (hl_i1 (by omega)) (by omega) (i + 2) (hl_i2 (by omega)) (by omega) (fun _ => ?_) (fun c => absurd c0 c)
    refine b_L_law_998 ?_
    refine l_budget (R := fun h' => hR0 h' n m w rc num Rs rq P Ss th L xs) (a := hq_budget n m w rc num Rs (xs (i + 1)) (!decide ((0 : Int32) = 0))) X.1.1 (s_budget X.1 fun h1 C1 F1 => ⟨rfl, X.lo C1 F1, Y.fc (hFc.lo F1), _, Z.fc (hFc.lo F1)⟩) hx_budget (fun h' r => r.out) (fun h' g' r => r.set) (fun h1 g1 r1 eg hv => ?_)
    obtain ⟨X1, Y1, g2, Z1⟩ := r1
    refine b_L_law_1003 Z1.1 (i + 1) (hl_i1 (by omega)) (by omega) (i + 2) (hl_i2 (by omega)) (by omega) (fun _ => ?_) (fun c => absurd c0 c)
    refine b_L_law_1025 Y1.1.1.1 ?_
    refine r_budget Y1.1.1 fun h2 B2 F2 => ?_
    have f2 := hFr.of F2 (fun a z => by unfold hP43 at z; omega)
    have Y2 := Y1.t B2 F2
    have X2 := X1.fr f2
    have Z2 := Z1.fr f2
    refine b_L_law_1029 Y2.1.1.1 ?_
    refine r_thrown Y2.1.1 ?_
    refine b_L_law_1035 (fun _ => ?_) (fun e => absurd rfl e)
    refine b_L_law_1042 (fun _ => b_L_law_1058 (k _ _ _ _ ⟨_, _, _, _, _, _, _, _, _, _, _, X2, Y2, Z2⟩)) (fun e0 => ?_)
    exact b_L_law_1047 ((f2.2 70 (by omega)).trans eg) 0 rfl (by omega) (fun _ => b_L_law_1058 (k _ _ _ _ ⟨_, _, _, _, _, _, _, _, _, _, _, X2, Y2, Z2⟩)) (fun e => absurd (hl_finL (fun k e => Or.inl (hx_budget k e)) e0 hv) e)
  · refine b_L_law_978 Z.1 (i + 1) (hl_i1 (by omega)) (by omega) (i + 2) (hl_i2 (by omega)) (by omega) (fun c => absurd c c0) (fun _ => ?_)
    refine b_L_law_994 ?_
    refine l_budget (R := fun h' => hR0 h' n m w rc num Rs rq P Ss th L xs) (a := hq_budget n m w rc num Rs (xs (i + 1)) (!decide ((1 : Int32) = 0))) X.1.1 (s_budget X.1 fun h1 C1 F1 => ⟨rfl, X.lo C1 F1, Y.fc (hFc.lo F1), _, Z.fc (hFc.lo F1)⟩) hx_budget (fun h' r => r.out) (fun h' g' r => r.set) (fun h1 g1 r1 eg hv => ?_)
    obtain ⟨X1, Y1, g2, Z1⟩ := r1
    refine b_L_law_1003 Z1.1 (i + 1) (hl_i1 (by omega)) (by omega) (i + 2) (hl_i2 (by omega)) (by omega) (fun c => absurd c c0) (fun _ => ?_)
    refine b_L_law_1021 Y1.1.1.1 ?_
    refine r_budget Y1.1.1 fun h2 B2 F2 => ?_
    have f2 := hFr.of F2 (fun a z => by unfold hP43 at z; omega)
    have Y2 := Y1.t B2 F2
    have X2 := X1.fr f2
    have Z2 := Z1.fr f2
    refine b_L_law_1029 Y2.1.1.1 ?_
    refine r_thrown Y2.1.1 ?_
    refine b_L_law_1035 (fun _ => ?_) (fun e => absurd rfl e)
    refine b_L_law_1042 (fun _ => b_L_law_1058 (k _ _ _ _ ⟨_, _, _, _, _, _, _, _, _, _, _, X2, Y2, Z2⟩)) (fun e0 => ?_)
    exact b_L_law_1047 ((f2.2 70 (by omega)).trans eg) 0 rfl (by omega) (fun _ => b_L_law_1058 (k _ _ _ _ ⟨_, _, _, _, _, _, _, _, _, _, _, X2, Y2, Z2⟩)) (fun e => absurd (hl_finL (fun k e => Or.inl (hx_budget k e)) e0 hv) e)
theorem c_welfare (T : hT h L xs) (hL : L < 2147483648) (hi : i + 5 < L) (k : ∀ h' o5 o6 o7, hT h' L xs → hk_S G m_L_law (d + 10) cb sb 43 [some (.ref 0), some (.ref 4), some (.ref 43), some (.ref 70), some (.int (hI (i : Int) + 6)), o5, o6, o7] [] h' Q) : hk_S G m_L_law (d + 10) (6 + cb) (6501 + sb) 1061 [some (.ref 0), some (.ref 4), some (.ref 43), some (.ref 70), some (.int (hI (i : Int))), o5, o6, o7] [] h Q := by
  obtain ⟨n, m, w, rc, num, Rs, rq, P, Ss, th, g, X, Y, Z⟩ := T
  refine hs_more (cb := 1 + cb) (sb := 6 + sb) (Nat.le_refl _) (by omega) (by omega) ?_
  refine b_L_law_1061 Z.1 (i + 1) (hl_i1 (by omega)) (by omega) ?_
  refine l_welfare (R := fun h' => hR0 h' n m w rc num Rs rq P Ss th L xs) (a := hq_welfare n m w rc num Rs (xs (i + 1))) X.1.1 (s_welfare X.1 fun h1 C1 F1 => ⟨rfl, X.lo C1 F1, Y.fc (hFc.lo F1), _, Z.fc (hFc.lo F1)⟩) hx_welfare (fun h' r => r.out) (fun h' g' r => r.set) (fun h1 g1 r1 eg hv => ?_)
  obtain ⟨X1, Y1, g2, Z1⟩ := r1
  refine b_L_law_1072 Z1.1 (i + 1) (hl_i1 (by omega)) (by omega) Y1.1.1.1 ?_
  refine r_welfare Y1.1.1 fun h2 B2 F2 => ?_
  have f2 := hFr.of F2 (fun a z => by unfold hP43 at z; omega)
  have Y2 := Y1.t B2 F2
  have X2 := X1.fr f2
  have Z2 := Z1.fr f2
  refine b_L_law_1084 Y2.1.1.1 ?_
  refine r_thrown Y2.1.1 ?_
  refine b_L_law_1090 (fun _ => ?_) (fun e => absurd rfl e)
  refine b_L_law_1097 (fun _ => b_L_law_1113 (k _ _ _ _ ⟨_, _, _, _, _, _, _, _, _, _, _, X2, Y2, Z2⟩)) (fun e0 => ?_)
  exact b_L_law_1102 ((f2.2 70 (by omega)).trans eg) 0 rfl (by omega) (fun _ => b_L_law_1113 (k _ _ _ _ ⟨_, _, _, _, _, _, _, _, _, _, _, X2, Y2, Z2⟩)) (fun e => absurd (hl_finL (fun k e => Or.inl (hx_welfare k e)) e0 hv) e)
theorem c_span (T : hT h L xs) (hL : L < 2147483648) (hi : i + 5 < L) (k : ∀ h' o5 o6 o7, hT h' L xs → hk_S G m_L_law (d + 10) cb sb 43 [some (.ref 0), some (.ref 4), some (.ref 43), some (.ref 70), some (.int (hI (i : Int) + 6)), o5, o6, o7] [] h' Q) : hk_S G m_L_law (d + 10) (6 + cb) (6501 + sb) 1116 [some (.ref 0), some (.ref 4), some (.ref 43), some (.ref 70), some (.int (hI (i : Int))), o5, o6, o7] [] h Q := by
  obtain ⟨n, m, w, rc, num, Rs, rq, P, Ss, th, g, X, Y, Z⟩ := T
  refine hs_more (cb := 1 + cb) (sb := 6 + sb) (Nat.le_refl _) (by omega) (by omega) ?_
  refine b_L_law_1116 Z.1 (i + 1) (hl_i1 (by omega)) (by omega) (i + 2) (hl_i2 (by omega)) (by omega) (i + 3) (hl_i3 (by omega)) (by omega) (i + 4) (hl_i4 (by omega)) (by omega) (i + 5) (hl_i5 (by omega)) (by omega) ?_
  refine l_span (R := fun h' => hR0 h' n m w rc num Rs rq P Ss th L xs) (a := hq_span n m w rc num Rs (xs (i + 1)) (xs (i + 2)) (xs (i + 3)) (xs (i + 4)) (xs (i + 5))) X.1.1 (s_span X.1 X.2.2.2.1 fun h1 C1 W1 F1 => ⟨rfl, X.wy C1 W1 (hFm_17 F1) (Nat.le_refl _) (fun _ _ => rfl), Y.fc (hFc.fm F1 (fun a z => by unfold hP17 at z; omega)), _, Z.fc (hFc.fm F1 (fun a z => by unfold hP17 at z; omega))⟩) hx_span (fun h' r => r.out) (fun h' g' r => r.set) (fun h1 g1 r1 eg hv => ?_)
  obtain ⟨X1, Y1, g2, Z1⟩ := r1
  refine b_L_law_1151 Z1.1 (i + 1) (hl_i1 (by omega)) (by omega) (i + 2) (hl_i2 (by omega)) (by omega) (i + 3) (hl_i3 (by omega)) (by omega) (i + 4) (hl_i4 (by omega)) (by omega) (i + 5) (hl_i5 (by omega)) (by omega) Y1.1.1.1 ?_
  refine r_span Y1.1.1 Y1.1.2.1 fun h2 B2 S2 F2 => ?_
  have f2 := hFr.of F2 (fun a z => by unfold hP5 at z; omega)
  have Y2 := Y1.s B2 S2 F2 (fun a z => by unfold hP5 at z; omega) (Nat.le_refl _) (fun _ _ => rfl)
  have X2 := X1.fr f2
  have Z2 := Z1.fr f2
  refine b_L_law_1187 Y2.1.1.1 ?_
  refine r_thrown Y2.1.1 ?_
  refine b_L_law_1193 (fun _ => ?_) (fun e => absurd rfl e)
  refine b_L_law_1200 (fun _ => b_L_law_1217 (k _ _ _ _ ⟨_, _, _, _, _, _, _, _, _, _, _, X2, Y2, Z2⟩)) (fun e0 => ?_)
  exact b_L_law_1205 ((f2.2 70 (by omega)).trans eg) 0 rfl (by omega) (fun _ => b_L_law_1217 (k _ _ _ _ ⟨_, _, _, _, _, _, _, _, _, _, _, X2, Y2, Z2⟩)) (fun e => absurd (hl_fin hx_span e0 hv) e)
theorem c_round (T : hT h L xs) (hL : L < 2147483648) (hi : i + 5 < L) (k : ∀ h' o5 o6 o7, hT h' L xs → hk_S G m_L_law (d + 10) cb sb 43 [some (.ref 0), some (.ref 4), some (.ref 43), some (.ref 70), some (.int (hI (i : Int) + 6)), o5, o6, o7] [] h' Q) : hk_S G m_L_law (d + 10) (6 + cb) (6501 + sb) 1220 [some (.ref 0), some (.ref 4), some (.ref 43), some (.ref 70), some (.int (hI (i : Int))), o5, o6, o7] [] h Q := by
  obtain ⟨n, m, w, rc, num, Rs, rq, P, Ss, th, g, X, Y, Z⟩ := T
  refine hs_more (Nat.le_refl _) (Nat.le_add_left _ _) (Nat.le_add_left _ _) ?_
  refine b_L_law_1220 Z.1 (i + 1) (hl_i1 (by omega)) (by omega) (i + 2) (hl_i2 (by omega)) (by omega) X.1.1 ?_
  refine s_round X.1 X.2.2.2.1 fun h1 C1 W1 F1 => ?_
  have X1 := X.wy C1 W1 (hFm_17 F1) (Nat.le_refl _) (fun _ _ => rfl)
  have f1 := hFc.fm F1 (fun a z => by unfold hP17 at z; omega)
  have Y1 := Y.fc f1
  have Z1 := Z.fc f1
  refine b_L_law_1236 Z1.1 (i + 1) (hl_i1 (by omega)) (by omega) (i + 2) (hl_i2 (by omega)) (by omega) Y1.1.1.1 ?_
  refine r_round Y1.1.1 Y1.1.2.1 fun h2 B2 S2 F2 => ?_
  have f2 := hFr.of F2 (fun a z => by unfold hP55 at z; omega)
  have Y2 := Y1.s B2 S2 F2 (fun a z => by unfold hP55 at z; omega) (Nat.le_refl _) (fun _ _ => rfl)
  have X2 := X1.fr f2
  have Z2 := Z1.fr f2
  exact b_L_law_1252 (fun _ => b_L_law_1974 (k _ _ _ _ ⟨_, _, _, _, _, _, _, _, _, _, _, X2, Y2, Z2⟩)) (fun e => absurd rfl e)
theorem c_price (T : hT h L xs) (hL : L < 2147483648) (hi : i + 5 < L) (k : ∀ h' o5 o6 o7, hT h' L xs → hk_S G m_L_law (d + 10) cb sb 43 [some (.ref 0), some (.ref 4), some (.ref 43), some (.ref 70), some (.int (hI (i : Int) + 6)), o5, o6, o7] [] h' Q) : hk_S G m_L_law (d + 10) (6 + cb) (6501 + sb) 1257 [some (.ref 0), some (.ref 4), some (.ref 43), some (.ref 70), some (.int (hI (i : Int))), o5, o6, o7] [] h Q := by
  obtain ⟨n, m, w, rc, num, Rs, rq, P, Ss, th, g, X, Y, Z⟩ := T
  refine hs_more (cb := 1 + cb) (sb := 6 + sb) (Nat.le_refl _) (by omega) (by omega) ?_
  refine b_L_law_1257 Z.1 (i + 1) (hl_i1 (by omega)) (by omega) (i + 2) (hl_i2 (by omega)) (by omega) (i + 3) (hl_i3 (by omega)) (by omega) (i + 4) (hl_i4 (by omega)) (by omega) ?_
  refine l_price (R := fun h' => hR0 h' n m w rc num Rs rq P Ss th L xs) (a := hq_price n m w rc num Rs (xs (i + 1)) (xs (i + 2)) (xs (i + 3)) (xs (i + 4))) X.1.1 (s_price X.1 X.2.2.2.1 fun h1 C1 W1 F1 => ⟨rfl, X.wy C1 W1 (hFm_17 F1) (Nat.le_refl _) (fun _ _ => rfl), Y.fc (hFc.fm F1 (fun a z => by unfold hP17 at z; omega)), _, Z.fc (hFc.fm F1 (fun a z => by unfold hP17 at z; omega))⟩) hx_price (fun h' r => r.out) (fun h' g' r => r.set) (fun h1 g1 r1 eg hv => ?_)
  obtain ⟨X1, Y1, g2, Z1⟩ := r1
  refine b_L_law_1286 Z1.1 (i + 1) (hl_i1 (by omega)) (by omega) (i + 2) (hl_i2 (by omega)) (by omega) (i + 3) (hl_i3 (by omega)) (by omega) (i + 4) (hl_i4 (by omega)) (by omega) Y1.1.1.1 ?_
  refine r_price Y1.1.1 Y1.1.2.1 fun h2 B2 S2 F2 => ?_
  have f2 := hFr.of F2 (fun a z => by unfold hP5 at z; omega)
  have Y2 := Y1.s B2 S2 F2 (fun a z => by unfold hP5 at z; omega) (Nat.le_refl _) (fun _ _ => rfl)
  have X2 := X1.fr f2
  have Z2 := Z1.fr f2
  refine b_L_law_1316 Y2.1.1.1 ?_
  refine r_thrown Y2.1.1 ?_
  refine b_L_law_1322 (fun _ => ?_) (fun e => absurd rfl e)
  refine b_L_law_1329 (fun _ => b_L_law_1346 (k _ _ _ _ ⟨_, _, _, _, _, _, _, _, _, _, _, X2, Y2, Z2⟩)) (fun e0 => ?_)
  exact b_L_law_1334 ((f2.2 70 (by omega)).trans eg) 0 rfl (by omega) (fun _ => b_L_law_1346 (k _ _ _ _ ⟨_, _, _, _, _, _, _, _, _, _, _, X2, Y2, Z2⟩)) (fun e => absurd (hl_fin hx_price e0 hv) e)
theorem c_honest (T : hT h L xs) (hL : L < 2147483648) (hi : i + 5 < L) (k : ∀ h' o5 o6 o7, hT h' L xs → hk_S G m_L_law (d + 10) cb sb 43 [some (.ref 0), some (.ref 4), some (.ref 43), some (.ref 70), some (.int (hI (i : Int) + 6)), o5, o6, o7] [] h' Q) : hk_S G m_L_law (d + 10) (6 + cb) (6501 + sb) 1349 [some (.ref 0), some (.ref 4), some (.ref 43), some (.ref 70), some (.int (hI (i : Int))), o5, o6, o7] [] h Q := by
  obtain ⟨n, m, w, rc, num, Rs, rq, P, Ss, th, g, X, Y, Z⟩ := T
  refine b_L_law_1349 Z.1 (i + 1) (hl_i1 (by omega)) (by omega) X.1.1 ?_
  refine s_honest X.1 X.2.2.2.1 fun h1 rq1 C1 E1 W1 F1 => ?_
  have X1 := X.wy C1 W1 F1 (hk_honest _).1 E1
  have f1 := hFc.fm F1 (fun a z => by unfold hPhon hP48 hP17 at z; omega)
  have Y1 := Y.fc f1
  have Z1 := Z.fc f1
  refine b_L_law_1359 Z1.1 (i + 1) (hl_i1 (by omega)) (by omega) Y1.1.1.1 ?_
  refine r_honest Y1.1.1 Y1.1.2.1 fun h2 B2 S2 F2 => ?_
  have f2 := hFr.of F2 (fun a z => by unfold hPh at z; omega)
  have Y2 := Y1.s B2 S2 F2 (fun a z => by unfold hPh at z; omega) (hk_honest _).1 (hk_honest _).2
  have X2 := X1.fr f2
  have Z2 := Z1.fr f2
  exact b_L_law_1369 (fun _ => b_L_law_1974 (k _ _ _ _ ⟨_, _, _, _, _, _, _, _, _, _, _, X2, Y2, Z2⟩)) (fun e => absurd rfl e)
theorem c_same (T : hT h L xs) (hL : L < 2147483648) (hi : i + 5 < L) (k : ∀ h' o5 o6 o7, hT h' L xs → hk_S G m_L_law (d + 10) cb sb 43 [some (.ref 0), some (.ref 4), some (.ref 43), some (.ref 70), some (.int (hI (i : Int) + 6)), o5, o6, o7] [] h' Q) : hk_S G m_L_law (d + 10) (6 + cb) (6501 + sb) 1374 [some (.ref 0), some (.ref 4), some (.ref 43), some (.ref 70), some (.int (hI (i : Int))), o5, o6, o7] [] h Q := by
  obtain ⟨n, m, w, rc, num, Rs, rq, P, Ss, th, g, X, Y, Z⟩ := T
  refine hs_more (Nat.le_refl _) (Nat.le_add_left _ _) (Nat.le_add_left _ _) ?_
  refine b_L_law_1374 Z.1 (i + 1) (hl_i1 (by omega)) (by omega) (i + 2) (hl_i2 (by omega)) (by omega) X.1.1 ?_
  refine s_same X.1 fun h1 C1 F1 => ?_
  have X1 := X.lo C1 F1
  have f1 := hFc.lo F1
  have Y1 := Y.fc f1
  have Z1 := Z.fc f1
  refine b_L_law_1390 Z1.1 (i + 1) (hl_i1 (by omega)) (by omega) (i + 2) (hl_i2 (by omega)) (by omega) Y1.1.1.1 ?_
  refine r_same Y1.1.1 ?_
  have X2 := X1
  have Y2 := Y1
  have Z2 := Z1
  exact b_L_law_1406 (fun _ => b_L_law_1974 (k _ _ _ _ ⟨_, _, _, _, _, _, _, _, _, _, _, X2, Y2, Z2⟩)) (fun e => absurd rfl e)
theorem c_fair (T : hT h L xs) (hL : L < 2147483648) (hi : i + 5 < L) (k : ∀ h' o5 o6 o7, hT h' L xs → hk_S G m_L_law (d + 10) cb sb 43 [some (.ref 0), some (.ref 4), some (.ref 43), some (.ref 70), some (.int (hI (i : Int) + 6)), o5, o6, o7] [] h' Q) : hk_S G m_L_law (d + 10) (6 + cb) (6501 + sb) 1411 [some (.ref 0), some (.ref 4), some (.ref 43), some (.ref 70), some (.int (hI (i : Int))), o5, o6, o7] [] h Q := by
  obtain ⟨n, m, w, rc, num, Rs, rq, P, Ss, th, g, X, Y, Z⟩ := T
  refine hs_more (Nat.le_refl _) (Nat.le_add_left _ _) (Nat.le_add_left _ _) ?_
  refine b_L_law_1411 Z.1 (i + 1) (hl_i1 (by omega)) (by omega) X.1.1 ?_
  refine s_fair X.1 fun h1 C1 F1 => ?_
  have X1 := X.lo C1 F1
  have f1 := hFc.lo F1
  have Y1 := Y.fc f1
  have Z1 := Z.fc f1
  refine b_L_law_1421 Z1.1 (i + 1) (hl_i1 (by omega)) (by omega) Y1.1.1.1 ?_
  refine r_fair Y1.1.1 ?_
  have X2 := X1
  have Y2 := Y1
  have Z2 := Z1
  exact b_L_law_1431 (fun _ => b_L_law_1974 (k _ _ _ _ ⟨_, _, _, _, _, _, _, _, _, _, _, X2, Y2, Z2⟩)) (fun e => absurd rfl e)
theorem c_likes (T : hT h L xs) (hL : L < 2147483648) (hi : i + 5 < L) (k : ∀ h' o5 o6 o7, hT h' L xs → hk_S G m_L_law (d + 10) cb sb 43 [some (.ref 0), some (.ref 4), some (.ref 43), some (.ref 70), some (.int (hI (i : Int) + 6)), o5, o6, o7] [] h' Q) : hk_S G m_L_law (d + 10) (6 + cb) (6501 + sb) 1436 [some (.ref 0), some (.ref 4), some (.ref 43), some (.ref 70), some (.int (hI (i : Int))), o5, o6, o7] [] h Q := by
  obtain ⟨n, m, w, rc, num, Rs, rq, P, Ss, th, g, X, Y, Z⟩ := T
  refine hs_more (Nat.le_refl _) (Nat.le_add_left _ _) (Nat.le_add_left _ _) ?_
  refine b_L_law_1436 Z.1 (i + 1) (hl_i1 (by omega)) (by omega) (i + 2) (hl_i2 (by omega)) (by omega) X.1.1 ?_
  refine s_likes X.1 X.2.2.2.2 fun h1 M1 F1 => ?_
  have X1 := X.mk M1 F1
  have f1 := hFc.mf F1
  have Y1 := Y.fc f1
  have Z1 := Z.fc f1
  refine b_L_law_1452 Z1.1 (i + 1) (hl_i1 (by omega)) (by omega) (i + 2) (hl_i2 (by omega)) (by omega) Y1.1.1.1 ?_
  refine r_likes Y1.1 fun h2 A2 F2 => ?_
  have f2 := hFr.of F2 (fun a z => by unfold hP57 at z; omega)
  have Y2 := Y1.a A2 F2
  have X2 := X1.fr f2
  have Z2 := Z1.fr f2
  exact b_L_law_1468 (fun _ => b_L_law_1974 (k _ _ _ _ ⟨_, _, _, _, _, _, _, _, _, _, _, X2, Y2, Z2⟩)) (fun e => absurd rfl e)
theorem c_rings (T : hT h L xs) (hL : L < 2147483648) (hi : i + 5 < L) (k : ∀ h' o5 o6 o7, hT h' L xs → hk_S G m_L_law (d + 10) cb sb 43 [some (.ref 0), some (.ref 4), some (.ref 43), some (.ref 70), some (.int (hI (i : Int) + 6)), o5, o6, o7] [] h' Q) : hk_S G m_L_law (d + 10) (6 + cb) (6501 + sb) 1473 [some (.ref 0), some (.ref 4), some (.ref 43), some (.ref 70), some (.int (hI (i : Int))), o5, o6, o7] [] h Q := by
  obtain ⟨n, m, w, rc, num, Rs, rq, P, Ss, th, g, X, Y, Z⟩ := T
  refine hs_more (Nat.le_refl _) (Nat.le_add_left _ _) (Nat.le_add_left _ _) ?_
  refine b_L_law_1473 X.1.1 ?_
  refine s_rings X.1 X.2.2.2.2 fun h1 M1 F1 => ?_
  have X1 := X.mk M1 F1
  have f1 := hFc.mf F1
  have Y1 := Y.fc f1
  have Z1 := Z.fc f1
  refine b_L_law_1477 Y1.1.1.1 ?_
  refine r_rings Y1.1 fun h2 A2 F2 => ?_
  have f2 := hFr.of F2 (fun a z => by unfold hP57 at z; omega)
  have Y2 := Y1.a A2 F2
  have X2 := X1.fr f2
  have Z2 := Z1.fr f2
  exact b_L_law_1481 (fun _ => b_L_law_1974 (k _ _ _ _ ⟨_, _, _, _, _, _, _, _, _, _, _, X2, Y2, Z2⟩)) (fun e => absurd rfl e)
theorem c_leaves (T : hT h L xs) (hL : L < 2147483648) (hi : i + 5 < L) (k : ∀ h' o5 o6 o7, hT h' L xs → hk_S G m_L_law (d + 10) cb sb 43 [some (.ref 0), some (.ref 4), some (.ref 43), some (.ref 70), some (.int (hI (i : Int) + 6)), o5, o6, o7] [] h' Q) : hk_S G m_L_law (d + 10) (6 + cb) (6501 + sb) 1486 [some (.ref 0), some (.ref 4), some (.ref 43), some (.ref 70), some (.int (hI (i : Int))), o5, o6, o7] [] h Q := by
  obtain ⟨n, m, w, rc, num, Rs, rq, P, Ss, th, g, X, Y, Z⟩ := T
  refine hs_more (Nat.le_refl _) (Nat.le_add_left _ _) (Nat.le_add_left _ _) ?_
  refine b_L_law_1486 Z.1 (i + 1) (hl_i1 (by omega)) (by omega) X.1.1 ?_
  refine s_leaves X.1 X.2.2.2.2 fun h1 M1 F1 => ?_
  have X1 := X.mk M1 F1
  have f1 := hFc.mf F1
  have Y1 := Y.fc f1
  have Z1 := Z.fc f1
  refine b_L_law_1496 Z1.1 (i + 1) (hl_i1 (by omega)) (by omega) Y1.1.1.1 ?_
  refine r_leaves Y1.1 fun h2 A2 F2 => ?_
  have f2 := hFr.of F2 (fun a z => by unfold hP57 at z; omega)
  have Y2 := Y1.a A2 F2
  have X2 := X1.fr f2
  have Z2 := Z1.fr f2
  exact b_L_law_1506 (fun _ => b_L_law_1974 (k _ _ _ _ ⟨_, _, _, _, _, _, _, _, _, _, _, X2, Y2, Z2⟩)) (fun e => absurd rfl e)
end LC
