/-! What holds between two calls. -/
def hR0 (h : hk_H) (n m w rc : Nat) (num : Nat → Int) (Rs : Nat → hr_R) (rq : Nat → Nat) (P : Nat → Nat → Nat) (Ss : Nat → hv_S) (th L : Nat) (xs : Nat → Int32) : Prop := hX h n m w rc num Rs rq P Ss ∧ hY h n m w rc num Rs P Ss th ∧ ∃ g, hZ h L xs g
section LR
variable {h : hk_H} {n m w rc th L : Nat} {num : Nat → Int} {Rs : Nat → hr_R} {rq : Nat → Nat} {P : Nat → Nat → Nat} {Ss : Nat → hv_S} {xs : Nat → Int32} {g : Nat → Int64}
theorem hR0.out (H : hR0 h n m w rc num Rs rq P Ss th L xs) : ∃ g, h.2 70 = some (hc_i64 1 g) := by
  obtain ⟨X, Y, g, Z⟩ := H
  exact ⟨g, Z.2⟩
theorem hX.out (X : hX h n m w rc num Rs rq P Ss) : hX (hk_set h 70 (hc_i64 1 g)) n m w rc num Rs rq P Ss := by
  obtain ⟨C, S, H, W, M⟩ := X
  have e : ∀ a, a ≠ 70 → (hk_set h 70 (hc_i64 1 g)).2 a = h.2 a := fun a ha => hk_set_ne ha
  exact ⟨C.fr (Nat.le_refl _) fun a ha => e a (by omega), S.fr (fun a h1 h2 => e a (by omega)) (Nat.le_refl _) fun _ _ => rfl, H.fr fun a h1 h2 => e a (by omega), W.fr fun a h1 h2 => e a (by omega), M.fr (fun a h1 h2 => e a (by omega)) fun a h1 => e a (by omega)⟩
theorem hR0.set (H : hR0 h n m w rc num Rs rq P Ss th L xs) : hR0 (hk_set h 70 (hc_i64 1 g)) n m w rc num Rs rq P Ss th L xs := by
  obtain ⟨X, Y, g0, Z⟩ := H
  have e : ∀ a, a ≠ 70 → (hk_set h 70 (hc_i64 1 g)).2 a = h.2 a := fun a ha => hk_set_ne ha
  exact ⟨X.out, ⟨Y.1.fr fun a h1 h2 => e a (by omega), Y.2.fr fun a h1 h2 => e a (by omega)⟩, g, (e 0 (by omega)).trans Z.1, hk_set_eq⟩
end LR
/-! The law's cases: wish to heap. -/
section LC
variable {G : hk_G} {h : hk_H} {d cb sb i L : Nat} {xs : Nat → Int32} {o5 o6 o7 : Option Value} {Q : hk_O → hk_H → Prop}
theorem c_wish (T : hT h L xs) (hL : L < 2147483648) (hi : i + 5 < L) (k : ∀ h' o5 o6 o7, hT h' L xs → hk_S G m_L_law (d + 10) cb sb 43 [some (.ref 0), some (.ref 4), some (.ref 43), some (.ref 70), some (.int (hI (i : Int) + 6)), o5, o6, o7] [] h' Q) : hk_S G m_L_law (d + 10) (6 + cb) (6501 + sb) 236 [some (.ref 0), some (.ref 4), some (.ref 43), some (.ref 70), some (.int (hI (i : Int))), o5, o6, o7] [] h Q := by
  obtain ⟨n, m, w, rc, num, Rs, rq, P, Ss, th, g, X, Y, Z⟩ := T
  refine hs_more (Nat.le_refl _) (Nat.le_add_left _ _) (Nat.le_add_left _ _) ?_
  refine b_L_law_236 X.1.1 ?_
  refine s_wish X.1 fun h1 C1 F1 => ?_
  have X1 := X.c C1 F1 (fun a z => by unfold hP48 at z; omega) (Nat.le_refl _) (fun _ _ => rfl)
  have f1 := hFc.fm F1 (fun a z => by unfold hP48 at z; omega)
  have Y1 := Y.fc f1
  have Z1 := Z.fc f1
  refine b_L_law_240 Y1.1.1.1 ?_
  refine r_wish Y1.1.1 fun h2 B2 F2 => ?_
  have f2 := hFr.of F2 (fun a z => by unfold hRs43 at z; omega)
  have Y2 := Y1.b B2 F2 (Nat.le_refl _) (fun _ _ => rfl)
  have X2 := X1.fr f2
  have Z2 := Z1.fr f2
  exact b_L_law_244 (fun _ => b_L_law_1974 (k _ _ _ _ ⟨_, _, _, _, _, _, _, _, _, _, _, X2, Y2, Z2⟩)) (fun e => absurd rfl e)
theorem c_worth (T : hT h L xs) (hL : L < 2147483648) (hi : i + 5 < L) (k : ∀ h' o5 o6 o7, hT h' L xs → hk_S G m_L_law (d + 10) cb sb 43 [some (.ref 0), some (.ref 4), some (.ref 43), some (.ref 70), some (.int (hI (i : Int) + 6)), o5, o6, o7] [] h' Q) : hk_S G m_L_law (d + 10) (6 + cb) (6501 + sb) 249 [some (.ref 0), some (.ref 4), some (.ref 43), some (.ref 70), some (.int (hI (i : Int))), o5, o6, o7] [] h Q := by
  obtain ⟨n, m, w, rc, num, Rs, rq, P, Ss, th, g, X, Y, Z⟩ := T
  refine hs_more (Nat.le_refl _) (Nat.le_add_left _ _) (Nat.le_add_left _ _) ?_
  refine b_L_law_249 Z.1 (i + 1) (hl_i1 (by omega)) (by omega) (i + 2) (hl_i2 (by omega)) (by omega) (i + 3) (hl_i3 (by omega)) (by omega) X.1.1 ?_
  refine s_worth X.1 fun h1 C1 F1 => ?_
  have X1 := X.c C1 F1 (fun a z => by unfold hP48 at z; omega) (Nat.le_refl _) (fun _ _ => rfl)
  have f1 := hFc.fm F1 (fun a z => by unfold hP48 at z; omega)
  have Y1 := Y.fc f1
  have Z1 := Z.fc f1
  refine b_L_law_271 Z1.1 (i + 1) (hl_i1 (by omega)) (by omega) (i + 2) (hl_i2 (by omega)) (by omega) (i + 3) (hl_i3 (by omega)) (by omega) Y1.1.1.1 ?_
  refine r_worth Y1.1.1 fun h2 B2 F2 => ?_
  have f2 := hFr.of F2 (fun a z => by unfold hRs43 at z; omega)
  have Y2 := Y1.b B2 F2 (Nat.le_refl _) (fun _ _ => rfl)
  have X2 := X1.fr f2
  have Z2 := Z1.fr f2
  exact b_L_law_293 (fun _ => b_L_law_1974 (k _ _ _ _ ⟨_, _, _, _, _, _, _, _, _, _, _, X2, Y2, Z2⟩)) (fun e => absurd rfl e)
theorem c_rule (T : hT h L xs) (hL : L < 2147483648) (hi : i + 5 < L) (k : ∀ h' o5 o6 o7, hT h' L xs → hk_S G m_L_law (d + 10) cb sb 43 [some (.ref 0), some (.ref 4), some (.ref 43), some (.ref 70), some (.int (hI (i : Int) + 6)), o5, o6, o7] [] h' Q) : hk_S G m_L_law (d + 10) (6 + cb) (6501 + sb) 298 [some (.ref 0), some (.ref 4), some (.ref 43), some (.ref 70), some (.int (hI (i : Int))), o5, o6, o7] [] h Q := by
  obtain ⟨n, m, w, rc, num, Rs, rq, P, Ss, th, g, X, Y, Z⟩ := T
  refine b_L_law_298 Z.1 (i + 1) (hl_i1 (by omega)) (by omega) X.1.1 ?_
  refine s_rule X.1 fun h1 rq1 C1 E1 F1 => ?_
  have X1 := X.c C1 F1 (fun a z => by unfold hP48 at z; omega) (hk_rule _).1 E1
  have f1 := hFc.fm F1 (fun a z => by unfold hP48 at z; omega)
  have Y1 := Y.fc f1
  have Z1 := Z.fc f1
  refine b_L_law_308 Z1.1 (i + 1) (hl_i1 (by omega)) (by omega) Y1.1.1.1 ?_
  refine r_rule Y1.1.1 fun h2 B2 F2 => ?_
  have f2 := hFr.of F2 (fun a z => by unfold hRs43 at z; omega)
  have Y2 := Y1.b B2 F2 (hk_rule _).1 (hk_rule _).2
  have X2 := X1.fr f2
  have Z2 := Z1.fr f2
  exact b_L_law_318 (fun _ => b_L_law_1974 (k _ _ _ _ ⟨_, _, _, _, _, _, _, _, _, _, _, X2, Y2, Z2⟩)) (fun e => absurd rfl e)
theorem c_put (T : hT h L xs) (hL : L < 2147483648) (hi : i + 5 < L) (k : ∀ h' o5 o6 o7, hT h' L xs → hk_S G m_L_law (d + 10) cb sb 43 [some (.ref 0), some (.ref 4), some (.ref 43), some (.ref 70), some (.int (hI (i : Int) + 6)), o5, o6, o7] [] h' Q) : hk_S G m_L_law (d + 10) (6 + cb) (6501 + sb) 323 [some (.ref 0), some (.ref 4), some (.ref 43), some (.ref 70), some (.int (hI (i : Int))), o5, o6, o7] [] h Q := by
  obtain ⟨n, m, w, rc, num, Rs, rq, P, Ss, th, g, X, Y, Z⟩ := T
  refine hs_more (Nat.le_refl _) (Nat.le_add_left _ _) (Nat.le_add_left _ _) ?_
  refine b_L_law_323 Z.1 (i + 1) (hl_i1 (by omega)) (by omega) (i + 2) (hl_i2 (by omega)) (by omega) (i + 3) (hl_i3 (by omega)) (by omega) X.1.1 ?_
  refine s_put X.1 fun h1 C1 F1 => ?_
  have X1 := X.lo C1 F1
  have f1 := hFc.lo F1
  have Y1 := Y.fc f1
  have Z1 := Z.fc f1
  refine b_L_law_345 Z1.1 (i + 1) (hl_i1 (by omega)) (by omega) (i + 2) (hl_i2 (by omega)) (by omega) (i + 3) (hl_i3 (by omega)) (by omega) Y1.1.1.1 ?_
  refine r_put Y1.1.1 fun h2 B2 F2 => ?_
  have f2 := hFr.of F2 (fun a z => by unfold hRs43 at z; omega)
  have Y2 := Y1.b B2 F2 (Nat.le_refl _) (hk_put _ _ _)
  have X2 := X1.fr f2
  have Z2 := Z1.fr f2
  exact b_L_law_367 (fun _ => b_L_law_1974 (k _ _ _ _ ⟨_, _, _, _, _, _, _, _, _, _, _, X2, Y2, Z2⟩)) (fun e => absurd rfl e)
theorem c_pay (T : hT h L xs) (hL : L < 2147483648) (hi : i + 5 < L) (k : ∀ h' o5 o6 o7, hT h' L xs → hk_S G m_L_law (d + 10) cb sb 43 [some (.ref 0), some (.ref 4), some (.ref 43), some (.ref 70), some (.int (hI (i : Int) + 6)), o5, o6, o7] [] h' Q) : hk_S G m_L_law (d + 10) (6 + cb) (6501 + sb) 372 [some (.ref 0), some (.ref 4), some (.ref 43), some (.ref 70), some (.int (hI (i : Int))), o5, o6, o7] [] h Q := by
  obtain ⟨n, m, w, rc, num, Rs, rq, P, Ss, th, g, X, Y, Z⟩ := T
  refine hs_more (Nat.le_refl _) (Nat.le_add_left _ _) (Nat.le_add_left _ _) ?_
  refine b_L_law_372 Z.1 (i + 1) (hl_i1 (by omega)) (by omega) (i + 2) (hl_i2 (by omega)) (by omega) (i + 3) (hl_i3 (by omega)) (by omega) (i + 4) (hl_i4 (by omega)) (by omega) X.1.1 ?_
  refine s_pay X.1 fun h1 C1 F1 => ?_
  have X1 := X.lo C1 F1
  have f1 := hFc.lo F1
  have Y1 := Y.fc f1
  have Z1 := Z.fc f1
  refine b_L_law_400 Z1.1 (i + 1) (hl_i1 (by omega)) (by omega) (i + 2) (hl_i2 (by omega)) (by omega) (i + 3) (hl_i3 (by omega)) (by omega) (i + 4) (hl_i4 (by omega)) (by omega) Y1.1.1.1 ?_
  refine r_pay Y1.1.1 fun h2 B2 F2 => ?_
  have f2 := hFr.of F2 (fun a z => by unfold hRs43 at z; omega)
  have Y2 := Y1.b B2 F2 (Nat.le_refl _) (hk_pay _ _ _ _)
  have X2 := X1.fr f2
  have Z2 := Z1.fr f2
  exact b_L_law_428 (fun _ => b_L_law_1974 (k _ _ _ _ ⟨_, _, _, _, _, _, _, _, _, _, _, X2, Y2, Z2⟩)) (fun e => absurd rfl e)
theorem c_gift (T : hT h L xs) (hL : L < 2147483648) (hi : i + 5 < L) (k : ∀ h' o5 o6 o7, hT h' L xs → hk_S G m_L_law (d + 10) cb sb 43 [some (.ref 0), some (.ref 4), some (.ref 43), some (.ref 70), some (.int (hI (i : Int) + 6)), o5, o6, o7] [] h' Q) : hk_S G m_L_law (d + 10) (6 + cb) (6501 + sb) 433 [some (.ref 0), some (.ref 4), some (.ref 43), some (.ref 70), some (.int (hI (i : Int))), o5, o6, o7] [] h Q := by
  obtain ⟨n, m, w, rc, num, Rs, rq, P, Ss, th, g, X, Y, Z⟩ := T
  refine hs_more (Nat.le_refl _) (Nat.le_add_left _ _) (Nat.le_add_left _ _) ?_
  refine b_L_law_433 Z.1 (i + 1) (hl_i1 (by omega)) (by omega) (i + 2) (hl_i2 (by omega)) (by omega) (i + 3) (hl_i3 (by omega)) (by omega) (i + 4) (hl_i4 (by omega)) (by omega) X.1.1 ?_
  refine s_gift X.1 fun h1 C1 F1 => ?_
  have X1 := X.lo C1 F1
  have f1 := hFc.lo F1
  have Y1 := Y.fc f1
  have Z1 := Z.fc f1
  refine b_L_law_461 Z1.1 (i + 1) (hl_i1 (by omega)) (by omega) (i + 2) (hl_i2 (by omega)) (by omega) (i + 3) (hl_i3 (by omega)) (by omega) (i + 4) (hl_i4 (by omega)) (by omega) Y1.1.1.1 ?_
  refine r_gift Y1.1.1 fun h2 B2 F2 => ?_
  have f2 := hFr.of F2 (fun a z => by unfold hRs43 at z; omega)
  have Y2 := Y1.b B2 F2 (Nat.le_refl _) (hk_gift _ _ _ _)
  have X2 := X1.fr f2
  have Z2 := Z1.fr f2
  exact b_L_law_489 (fun _ => b_L_law_1974 (k _ _ _ _ ⟨_, _, _, _, _, _, _, _, _, _, _, X2, Y2, Z2⟩)) (fun e => absurd rfl e)
theorem c_middle (T : hT h L xs) (hL : L < 2147483648) (hi : i + 5 < L) (k : ∀ h' o5 o6 o7, hT h' L xs → hk_S G m_L_law (d + 10) cb sb 43 [some (.ref 0), some (.ref 4), some (.ref 43), some (.ref 70), some (.int (hI (i : Int) + 6)), o5, o6, o7] [] h' Q) : hk_S G m_L_law (d + 10) (6 + cb) (6501 + sb) 494 [some (.ref 0), some (.ref 4), some (.ref 43), some (.ref 70), some (.int (hI (i : Int))), o5, o6, o7] [] h Q := by
  obtain ⟨n, m, w, rc, num, Rs, rq, P, Ss, th, g, X, Y, Z⟩ := T
  refine hs_more (Nat.le_refl _) (Nat.le_add_left _ _) (Nat.le_add_left _ _) ?_
  refine b_L_law_494 Z.1 (i + 1) (hl_i1 (by omega)) (by omega) (i + 2) (hl_i2 (by omega)) (by omega) (i + 3) (hl_i3 (by omega)) (by omega) X.1.1 ?_
  refine s_middle X.1 fun h1 C1 F1 => ?_
  have X1 := X.lo C1 F1
  have f1 := hFc.lo F1
  have Y1 := Y.fc f1
  have Z1 := Z.fc f1
  refine b_L_law_516 Z1.1 (i + 1) (hl_i1 (by omega)) (by omega) (i + 2) (hl_i2 (by omega)) (by omega) (i + 3) (hl_i3 (by omega)) (by omega) Y1.1.1.1 ?_
  refine r_middle Y1.1.1 fun h2 B2 F2 => ?_
  have f2 := hFr.of F2 (fun a z => by unfold hRs43 at z; omega)
  have Y2 := Y1.b B2 F2 (Nat.le_refl _) (hk_middle _ _ _)
  have X2 := X1.fr f2
  have Z2 := Z1.fr f2
  exact b_L_law_538 (fun _ => b_L_law_1974 (k _ _ _ _ ⟨_, _, _, _, _, _, _, _, _, _, _, X2, Y2, Z2⟩)) (fun e => absurd rfl e)
theorem c_end (T : hT h L xs) (hL : L < 2147483648) (hi : i + 5 < L) (k : ∀ h' o5 o6 o7, hT h' L xs → hk_S G m_L_law (d + 10) cb sb 43 [some (.ref 0), some (.ref 4), some (.ref 43), some (.ref 70), some (.int (hI (i : Int) + 6)), o5, o6, o7] [] h' Q) : hk_S G m_L_law (d + 10) (6 + cb) (6501 + sb) 543 [some (.ref 0), some (.ref 4), some (.ref 43), some (.ref 70), some (.int (hI (i : Int))), o5, o6, o7] [] h Q := by
  obtain ⟨n, m, w, rc, num, Rs, rq, P, Ss, th, g, X, Y, Z⟩ := T
  refine hs_more (Nat.le_refl _) (Nat.le_add_left _ _) (Nat.le_add_left _ _) ?_
  refine b_L_law_543 Z.1 (i + 1) (hl_i1 (by omega)) (by omega) (i + 2) (hl_i2 (by omega)) (by omega) X.1.1 ?_
  refine s_end X.1 fun h1 C1 F1 => ?_
  have X1 := X.lo C1 F1
  have f1 := hFc.lo F1
  have Y1 := Y.fc f1
  have Z1 := Z.fc f1
  refine b_L_law_559 Z1.1 (i + 1) (hl_i1 (by omega)) (by omega) (i + 2) (hl_i2 (by omega)) (by omega) Y1.1.1.1 ?_
  refine r_end Y1.1.1 ?_
  have X2 := X1
  have Y2 := Y1
  have Z2 := Z1
  exact b_L_law_575 (fun _ => b_L_law_1974 (k _ _ _ _ ⟨_, _, _, _, _, _, _, _, _, _, _, X2, Y2, Z2⟩)) (fun e => absurd rfl e)
theorem c_pays (T : hT h L xs) (hL : L < 2147483648) (hi : i + 5 < L) (k : ∀ h' o5 o6 o7, hT h' L xs → hk_S G m_L_law (d + 10) cb sb 43 [some (.ref 0), some (.ref 4), some (.ref 43), some (.ref 70), some (.int (hI (i : Int) + 6)), o5, o6, o7] [] h' Q) : hk_S G m_L_law (d + 10) (6 + cb) (6501 + sb) 580 [some (.ref 0), some (.ref 4), some (.ref 43), some (.ref 70), some (.int (hI (i : Int))), o5, o6, o7] [] h Q := by
  obtain ⟨n, m, w, rc, num, Rs, rq, P, Ss, th, g, X, Y, Z⟩ := T
  refine hs_more (cb := 1 + cb) (sb := 6 + sb) (Nat.le_refl _) (by omega) (by omega) ?_
  refine b_L_law_580 Z.1 (i + 1) (hl_i1 (by omega)) (by omega) (i + 2) (hl_i2 (by omega)) (by omega) (i + 3) (hl_i3 (by omega)) (by omega) ?_
  refine l_pays (R := fun h' => hR0 h' n m w rc num Rs rq P Ss th L xs) (a := hq_pays n m w rc num Rs (xs (i + 1)) (xs (i + 2)) (xs (i + 3))) X.1.1 (s_pays X.1 fun h1 C1 F1 => ⟨rfl, X.lo C1 F1, Y.fc (hFc.lo F1), _, Z.fc (hFc.lo F1)⟩) hx_pays (fun h' r => r.out) (fun h' g' r => r.set) (fun h1 g1 r1 eg hv => ?_)
  obtain ⟨X1, Y1, g2, Z1⟩ := r1
  refine b_L_law_603 Z1.1 (i + 1) (hl_i1 (by omega)) (by omega) (i + 2) (hl_i2 (by omega)) (by omega) (i + 3) (hl_i3 (by omega)) (by omega) Y1.1.1.1 ?_
  refine r_pays Y1.1.1 fun h2 B2 F2 => ?_
  have f2 := hFr.of F2 (fun a z => by unfold hP43 at z; omega)
  have Y2 := Y1.t B2 F2
  have X2 := X1.fr f2
  have Z2 := Z1.fr f2
  refine b_L_law_627 Y2.1.1.1 ?_
  refine r_thrown Y2.1.1 ?_
  refine b_L_law_633 (fun _ => ?_) (fun e => absurd rfl e)
  refine b_L_law_640 (fun _ => b_L_law_657 (k _ _ _ _ ⟨_, _, _, _, _, _, _, _, _, _, _, X2, Y2, Z2⟩)) (fun e0 => ?_)
  exact b_L_law_645 ((f2.2 70 (by omega)).trans eg) 0 rfl (by omega) (fun _ => b_L_law_657 (k _ _ _ _ ⟨_, _, _, _, _, _, _, _, _, _, _, X2, Y2, Z2⟩)) (fun e => absurd (hl_fin (fun k e => Or.inl (hx_pays k e)) e0 hv) e)
theorem c_said (T : hT h L xs) (hL : L < 2147483648) (hi : i + 5 < L) (k : ∀ h' o5 o6 o7, hT h' L xs → hk_S G m_L_law (d + 10) cb sb 43 [some (.ref 0), some (.ref 4), some (.ref 43), some (.ref 70), some (.int (hI (i : Int) + 6)), o5, o6, o7] [] h' Q) : hk_S G m_L_law (d + 10) (6 + cb) (6501 + sb) 660 [some (.ref 0), some (.ref 4), some (.ref 43), some (.ref 70), some (.int (hI (i : Int))), o5, o6, o7] [] h Q := by
  obtain ⟨n, m, w, rc, num, Rs, rq, P, Ss, th, g, X, Y, Z⟩ := T
  refine hs_more (Nat.le_refl _) (Nat.le_add_left _ _) (Nat.le_add_left _ _) ?_
  refine b_L_law_660 Z.1 (i + 1) (hl_i1 (by omega)) (by omega) (i + 2) (hl_i2 (by omega)) (by omega) (i + 3) (hl_i3 (by omega)) (by omega) X.1.1 ?_
  refine s_said X.1 ?_
  have X1 := X
  have Y1 := Y
  have Z1 := Z
  refine b_L_law_682 Z1.1 (i + 1) (hl_i1 (by omega)) (by omega) (i + 2) (hl_i2 (by omega)) (by omega) (i + 3) (hl_i3 (by omega)) (by omega) Y1.1.1.1 ?_
  refine r_said Y1.1.1 ?_
  have X2 := X1
  have Y2 := Y1
  have Z2 := Z1
  exact b_L_law_704 (fun _ => b_L_law_1974 (k _ _ _ _ ⟨_, _, _, _, _, _, _, _, _, _, _, X2, Y2, Z2⟩)) (fun e => absurd rfl e)
theorem c_gain (T : hT h L xs) (hL : L < 2147483648) (hi : i + 5 < L) (k : ∀ h' o5 o6 o7, hT h' L xs → hk_S G m_L_law (d + 10) cb sb 43 [some (.ref 0), some (.ref 4), some (.ref 43), some (.ref 70), some (.int (hI (i : Int) + 6)), o5, o6, o7] [] h' Q) : hk_S G m_L_law (d + 10) (6 + cb) (6501 + sb) 709 [some (.ref 0), some (.ref 4), some (.ref 43), some (.ref 70), some (.int (hI (i : Int))), o5, o6, o7] [] h Q := by
  obtain ⟨n, m, w, rc, num, Rs, rq, P, Ss, th, g, X, Y, Z⟩ := T
  refine hs_more (cb := 1 + cb) (sb := 6 + sb) (Nat.le_refl _) (by omega) (by omega) ?_
  refine b_L_law_709 Z.1 (i + 1) (hl_i1 (by omega)) (by omega) (i + 2) (hl_i2 (by omega)) (by omega) (i + 3) (hl_i3 (by omega)) (by omega) (i + 4) (hl_i4 (by omega)) (by omega) ?_
  refine l_gain (R := fun h' => hR0 h' n m w rc num Rs rq P Ss th L xs) (a := hq_gain n m w rc num Rs (xs (i + 1)) (xs (i + 2)) (xs (i + 3)) (xs (i + 4))) X.1.1 (s_gain X.1 fun h1 C1 F1 => ⟨rfl, X.lo C1 F1, Y.fc (hFc.lo F1), _, Z.fc (hFc.lo F1)⟩) hx_gain (fun h' r => r.out) (fun h' g' r => r.set) (fun h1 g1 r1 eg hv => ?_)
  obtain ⟨X1, Y1, g2, Z1⟩ := r1
  refine b_L_law_738 Z1.1 (i + 1) (hl_i1 (by omega)) (by omega) (i + 2) (hl_i2 (by omega)) (by omega) (i + 3) (hl_i3 (by omega)) (by omega) (i + 4) (hl_i4 (by omega)) (by omega) Y1.1.1.1 ?_
  refine r_gain Y1.1.1 fun h2 B2 F2 => ?_
  have f2 := hFr.of F2 (fun a z => by unfold hP43 at z; omega)
  have Y2 := Y1.t B2 F2
  have X2 := X1.fr f2
  have Z2 := Z1.fr f2
  refine b_L_law_768 Y2.1.1.1 ?_
  refine r_thrown Y2.1.1 ?_
  refine b_L_law_774 (fun _ => ?_) (fun e => absurd rfl e)
  refine b_L_law_781 (fun _ => b_L_law_798 (k _ _ _ _ ⟨_, _, _, _, _, _, _, _, _, _, _, X2, Y2, Z2⟩)) (fun e0 => ?_)
  exact b_L_law_786 ((f2.2 70 (by omega)).trans eg) 0 rfl (by omega) (fun _ => b_L_law_798 (k _ _ _ _ ⟨_, _, _, _, _, _, _, _, _, _, _, X2, Y2, Z2⟩)) (fun e => absurd (hl_fin (fun k e => Or.inl (hx_gain k e)) e0 hv) e)
theorem c_lie (T : hT h L xs) (hL : L < 2147483648) (hi : i + 5 < L) (k : ∀ h' o5 o6 o7, hT h' L xs → hk_S G m_L_law (d + 10) cb sb 43 [some (.ref 0), some (.ref 4), some (.ref 43), some (.ref 70), some (.int (hI (i : Int) + 6)), o5, o6, o7] [] h' Q) : hk_S G m_L_law (d + 10) (6 + cb) (6501 + sb) 801 [some (.ref 0), some (.ref 4), some (.ref 43), some (.ref 70), some (.int (hI (i : Int))), o5, o6, o7] [] h Q := by
  obtain ⟨n, m, w, rc, num, Rs, rq, P, Ss, th, g, X, Y, Z⟩ := T
  refine hs_more (Nat.le_refl _) (Nat.le_add_left _ _) (Nat.le_add_left _ _) ?_
  refine b_L_law_801 Z.1 (i + 1) (hl_i1 (by omega)) (by omega) (i + 2) (hl_i2 (by omega)) (by omega) X.1.1 ?_
  refine s_lie X.1 fun h1 C1 F1 => ?_
  have X1 := X.lo C1 F1
  have f1 := hFc.lo F1
  have Y1 := Y.fc f1
  have Z1 := Z.fc f1
  refine b_L_law_817 Z1.1 (i + 1) (hl_i1 (by omega)) (by omega) (i + 2) (hl_i2 (by omega)) (by omega) Y1.1.1.1 ?_
  refine r_lie Y1.1.1 ?_
  have X2 := X1
  have Y2 := Y1
  have Z2 := Z1
  exact b_L_law_833 (fun _ => b_L_law_1974 (k _ _ _ _ ⟨_, _, _, _, _, _, _, _, _, _, _, X2, Y2, Z2⟩)) (fun e => absurd rfl e)
theorem c_lies (T : hT h L xs) (hL : L < 2147483648) (hi : i + 5 < L) (k : ∀ h' o5 o6 o7, hT h' L xs → hk_S G m_L_law (d + 10) cb sb 43 [some (.ref 0), some (.ref 4), some (.ref 43), some (.ref 70), some (.int (hI (i : Int) + 6)), o5, o6, o7] [] h' Q) : hk_S G m_L_law (d + 10) (6 + cb) (6501 + sb) 838 [some (.ref 0), some (.ref 4), some (.ref 43), some (.ref 70), some (.int (hI (i : Int))), o5, o6, o7] [] h Q := by
  obtain ⟨n, m, w, rc, num, Rs, rq, P, Ss, th, g, X, Y, Z⟩ := T
  refine hs_more (Nat.le_refl _) (Nat.le_add_left _ _) (Nat.le_add_left _ _) ?_
  refine b_L_law_838 Z.1 (i + 1) (hl_i1 (by omega)) (by omega) X.1.1 ?_
  refine s_lies X.1 fun h1 C1 F1 => ?_
  have X1 := X.lo C1 F1
  have f1 := hFc.lo F1
  have Y1 := Y.fc f1
  have Z1 := Z.fc f1
  refine b_L_law_848 Z1.1 (i + 1) (hl_i1 (by omega)) (by omega) Y1.1.1.1 ?_
  refine r_lies Y1.1.1 ?_
  have X2 := X1
  have Y2 := Y1
  have Z2 := Z1
  exact b_L_law_858 (fun _ => b_L_law_1974 (k _ _ _ _ ⟨_, _, _, _, _, _, _, _, _, _, _, X2, Y2, Z2⟩)) (fun e => absurd rfl e)
theorem c_heap (T : hT h L xs) (hL : L < 2147483648) (hi : i + 5 < L) (k : ∀ h' o5 o6 o7, hT h' L xs → hk_S G m_L_law (d + 10) cb sb 43 [some (.ref 0), some (.ref 4), some (.ref 43), some (.ref 70), some (.int (hI (i : Int) + 6)), o5, o6, o7] [] h' Q) : hk_S G m_L_law (d + 10) (6 + cb) (6501 + sb) 863 [some (.ref 0), some (.ref 4), some (.ref 43), some (.ref 70), some (.int (hI (i : Int))), o5, o6, o7] [] h Q := by
  obtain ⟨n, m, w, rc, num, Rs, rq, P, Ss, th, g, X, Y, Z⟩ := T
  refine hs_more (Nat.le_refl _) (Nat.le_add_left _ _) (Nat.le_add_left _ _) ?_
  by_cases c0 : xs (i + 3) = 0
  · refine b_L_law_863 Z.1 (i + 1) (hl_i1 (by omega)) (by omega) (i + 2) (hl_i2 (by omega)) (by omega) (i + 3) (hl_i3 (by omega)) (by omega) (fun _ => ?_) (fun c => absurd c0 c)
    refine b_L_law_889 X.1.1 ?_
    refine s_heap X.1 X.2.2.1 fun h1 C1 H1 F1 => ?_
    have X1 := X.hp C1 H1 F1
    have f1 := hFc.fm F1 (fun a z => by unfold hP12 at z; omega)
    have Y1 := Y.fc f1
    have Z1 := Z.fc f1
    refine b_L_law_893 Z1.1 (i + 1) (hl_i1 (by omega)) (by omega) (i + 2) (hl_i2 (by omega)) (by omega) (i + 3) (hl_i3 (by omega)) (by omega) (fun _ => ?_) (fun c => absurd c0 c)
    refine b_L_law_919 Y1.1.1.1 ?_
    refine r_heap Y1.1.1 Y1.1.2.1 fun h2 B2 S2 F2 => ?_
    have f2 := hFr.of F2 (fun a z => by unfold hPsc at z; omega)
    have Y2 := Y1.s B2 S2 F2 (fun a z => by unfold hPsc at z; omega) (Nat.le_refl _) (fun _ _ => rfl)
    have X2 := X1.fr f2
    have Z2 := Z1.fr f2
    exact b_L_law_923 (fun _ => b_L_law_1974 (k _ _ _ _ ⟨_, _, _, _, _, _, _, _, _, _, _, X2, Y2, Z2⟩)) (fun e => absurd rfl e)
  · refine b_L_law_863 Z.1 (i + 1) (hl_i1 (by omega)) (by omega) (i + 2) (hl_i2 (by omega)) (by omega) (i + 3) (hl_i3 (by omega)) (by omega) (fun c => absurd c c0) (fun _ => ?_)
    refine b_L_law_885 X.1.1 ?_
    refine s_heap X.1 X.2.2.1 fun h1 C1 H1 F1 => ?_
    have X1 := X.hp C1 H1 F1
    have f1 := hFc.fm F1 (fun a z => by unfold hP12 at z; omega)
    have Y1 := Y.fc f1
    have Z1 := Z.fc f1
    refine b_L_law_893 Z1.1 (i + 1) (hl_i1 (by omega)) (by omega) (i + 2) (hl_i2 (by omega)) (by omega) (i + 3) (hl_i3 (by omega)) (by omega) (fun c => absurd c c0) (fun _ => ?_)
    refine b_L_law_915 Y1.1.1.1 ?_
    refine r_heap Y1.1.1 Y1.1.2.1 fun h2 B2 S2 F2 => ?_
    have f2 := hFr.of F2 (fun a z => by unfold hPsc at z; omega)
    have Y2 := Y1.s B2 S2 F2 (fun a z => by unfold hPsc at z; omega) (Nat.le_refl _) (fun _ _ => rfl)
    have X2 := X1.fr f2
    have Z2 := Z1.fr f2
    exact b_L_law_923 (fun _ => b_L_law_1974 (k _ _ _ _ ⟨_, _, _, _, _, _, _, _, _, _, _, X2, Y2, Z2⟩)) (fun e => absurd rfl e)
end LC
