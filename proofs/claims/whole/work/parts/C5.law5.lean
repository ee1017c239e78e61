/-! The law's cases: turns to toss. -/
section LC
variable {G : hk_G} {h : hk_H} {d cb sb i L : Nat} {xs : Nat → Int32} {o5 o6 o7 : Option Value} {Q : hk_O → hk_H → Prop}
theorem c_turns (T : hT h L xs) (hL : L < 2147483648) (hi : i + 5 < L) (k : ∀ h' o5 o6 o7, hT h' L xs → hk_S G m_L_law (d + 10) cb sb 43 [some (.ref 0), some (.ref 4), some (.ref 43), some (.ref 70), some (.int (hI (i : Int) + 6)), o5, o6, o7] [] h' Q) : hk_S G m_L_law (d + 10) (6 + cb) (6501 + sb) 1511 [some (.ref 0), some (.ref 4), some (.ref 43), some (.ref 70), some (.int (hI (i : Int))), o5, o6, o7] [] h Q := by
  obtain ⟨n, m, w, rc, num, Rs, rq, P, Ss, th, g, X, Y, Z⟩ := T
  refine hs_more (Nat.le_refl _) (Nat.le_add_left _ _) (Nat.le_add_left _ _) ?_
  refine b_L_law_1511 Z.1 (i + 1) (hl_i1 (by omega)) (by omega) X.1.1 ?_
  refine s_turns X.1 X.2.2.2.2 fun h1 M1 F1 => ?_
  have X1 := X.mk M1 F1
  have f1 := hFc.mf F1
  have Y1 := Y.fc f1
  have Z1 := Z.fc f1
  refine b_L_law_1521 Z1.1 (i + 1) (hl_i1 (by omega)) (by omega) Y1.1.1.1 ?_
  refine r_turns Y1.1 fun h2 A2 F2 => ?_
  have f2 := hFr.of F2 (fun a z => by unfold hP57 at z; omega)
  have Y2 := Y1.a A2 F2
  have X2 := X1.fr f2
  have Z2 := Z1.fr f2
  exact b_L_law_1531 (fun _ => b_L_law_1974 (k _ _ _ _ ⟨_, _, _, _, _, _, _, _, _, _, _, X2, Y2, Z2⟩)) (fun e => absurd rfl e)
theorem c_blocks (T : hT h L xs) (hL : L < 2147483648) (hi : i + 5 < L) (k : ∀ h' o5 o6 o7, hT h' L xs → hk_S G m_L_law (d + 10) cb sb 43 [some (.ref 0), some (.ref 4), some (.ref 43), some (.ref 70), some (.int (hI (i : Int) + 6)), o5, o6, o7] [] h' Q) : hk_S G m_L_law (d + 10) (6 + cb) (6501 + sb) 1536 [some (.ref 0), some (.ref 4), some (.ref 43), some (.ref 70), some (.int (hI (i : Int))), o5, o6, o7] [] h Q := by
  obtain ⟨n, m, w, rc, num, Rs, rq, P, Ss, th, g, X, Y, Z⟩ := T
  refine hs_more (Nat.le_refl _) (Nat.le_add_left _ _) (Nat.le_add_left _ _) ?_
  refine b_L_law_1536 Z.1 (i + 1) (hl_i1 (by omega)) (by omega) X.1.1 ?_
  refine s_blocks X.1 X.2.2.2.2 fun h1 M1 F1 => ?_
  have X1 := X.mk M1 F1
  have f1 := hFc.mf F1
  have Y1 := Y.fc f1
  have Z1 := Z.fc f1
  refine b_L_law_1546 Z1.1 (i + 1) (hl_i1 (by omega)) (by omega) Y1.1.1.1 ?_
  refine r_blocks Y1.1 fun h2 A2 F2 => ?_
  have f2 := hFr.of F2 (fun a z => by unfold hP57 at z; omega)
  have Y2 := Y1.a A2 F2
  have X2 := X1.fr f2
  have Z2 := Z1.fr f2
  exact b_L_law_1556 (fun _ => b_L_law_1974 (k _ _ _ _ ⟨_, _, _, _, _, _, _, _, _, _, _, X2, Y2, Z2⟩)) (fun e => absurd rfl e)
theorem c_core (T : hT h L xs) (hL : L < 2147483648) (hi : i + 5 < L) (k : ∀ h' o5 o6 o7, hT h' L xs → hk_S G m_L_law (d + 10) cb sb 43 [some (.ref 0), some (.ref 4), some (.ref 43), some (.ref 70), some (.int (hI (i : Int) + 6)), o5, o6, o7] [] h' Q) : hk_S G m_L_law (d + 10) (6 + cb) (6501 + sb) 1561 [some (.ref 0), some (.ref 4), some (.ref 43), some (.ref 70), some (.int (hI (i : Int))), o5, o6, o7] [] h Q := by
  obtain ⟨n, m, w, rc, num, Rs, rq, P, Ss, th, g, X, Y, Z⟩ := T
  refine hs_more (Nat.le_refl _) (Nat.le_add_left _ _) (Nat.le_add_left _ _) ?_
  refine b_L_law_1561 Z.1 (i + 1) (hl_i1 (by omega)) (by omega) X.1.1 ?_
  refine s_core X.1 X.2.2.2.2 fun h1 M1 F1 => ?_
  have X1 := X.mk M1 F1
  have f1 := hFc.mf F1
  have Y1 := Y.fc f1
  have Z1 := Z.fc f1
  refine b_L_law_1571 Z1.1 (i + 1) (hl_i1 (by omega)) (by omega) Y1.1.1.1 ?_
  refine r_core Y1.1 fun h2 A2 F2 => ?_
  have f2 := hFr.of F2 (fun a z => by unfold hP57 at z; omega)
  have Y2 := Y1.a A2 F2
  have X2 := X1.fr f2
  have Z2 := Z1.fr f2
  exact b_L_law_1581 (fun _ => b_L_law_1974 (k _ _ _ _ ⟨_, _, _, _, _, _, _, _, _, _, _, X2, Y2, Z2⟩)) (fun e => absurd rfl e)
theorem c_good (T : hT h L xs) (hL : L < 2147483648) (hi : i + 5 < L) (k : ∀ h' o5 o6 o7, hT h' L xs → hk_S G m_L_law (d + 10) cb sb 43 [some (.ref 0), some (.ref 4), some (.ref 43), some (.ref 70), some (.int (hI (i : Int) + 6)), o5, o6, o7] [] h' Q) : hk_S G m_L_law (d + 10) (6 + cb) (6501 + sb) 1586 [some (.ref 0), some (.ref 4), some (.ref 43), some (.ref 70), some (.int (hI (i : Int))), o5, o6, o7] [] h Q := by
  obtain ⟨n, m, w, rc, num, Rs, rq, P, Ss, th, g, X, Y, Z⟩ := T
  refine hs_more (Nat.le_refl _) (Nat.le_add_left _ _) (Nat.le_add_left _ _) ?_
  refine b_L_law_1586 Z.1 (i + 1) (hl_i1 (by omega)) (by omega) X.1.1 ?_
  refine s_good X.1 X.2.2.2.2 fun h1 M1 F1 => ?_
  have X1 := X.mk M1 F1
  have f1 := hFc.mf F1
  have Y1 := Y.fc f1
  have Z1 := Z.fc f1
  refine b_L_law_1596 Z1.1 (i + 1) (hl_i1 (by omega)) (by omega) Y1.1.1.1 ?_
  refine r_good Y1.1 fun h2 A2 F2 => ?_
  have f2 := hFr.of F2 (fun a z => by unfold hP57 at z; omega)
  have Y2 := Y1.a A2 F2
  have X2 := X1.fr f2
  have Z2 := Z1.fr f2
  exact b_L_law_1606 (fun _ => b_L_law_1974 (k _ _ _ _ ⟨_, _, _, _, _, _, _, _, _, _, _, X2, Y2, Z2⟩)) (fun e => absurd rfl e)
theorem c_by (T : hT h L xs) (hL : L < 2147483648) (hi : i + 5 < L) (k : ∀ h' o5 o6 o7, hT h' L xs → hk_S G m_L_law (d + 10) cb sb 43 [some (.ref 0), some (.ref 4), some (.ref 43), some (.ref 70), some (.int (hI (i : Int) + 6)), o5, o6, o7] [] h' Q) : hk_S G m_L_law (d + 10) (6 + cb) (6501 + sb) 1611 [some (.ref 0), some (.ref 4), some (.ref 43), some (.ref 70), some (.int (hI (i : Int))), o5, o6, o7] [] h Q := by
  obtain ⟨n, m, w, rc, num, Rs, rq, P, Ss, th, g, X, Y, Z⟩ := T
  refine hs_more (Nat.le_refl _) (Nat.le_add_left _ _) (Nat.le_add_left _ _) ?_
  refine b_L_law_1611 Z.1 (i + 1) (hl_i1 (by omega)) (by omega) X.1.1 ?_
  refine s_by X.1 X.2.2.2.2 fun h1 M1 F1 => ?_
  have X1 := X.mk M1 F1
  have f1 := hFc.mf F1
  have Y1 := Y.fc f1
  have Z1 := Z.fc f1
  refine b_L_law_1621 Z1.1 (i + 1) (hl_i1 (by omega)) (by omega) Y1.1.1.1 ?_
  refine r_by Y1.1 fun h2 A2 F2 => ?_
  have f2 := hFr.of F2 (fun a z => by unfold hP57 at z; omega)
  have Y2 := Y1.a A2 F2
  have X2 := X1.fr f2
  have Z2 := Z1.fr f2
  exact b_L_law_1631 (fun _ => b_L_law_1974 (k _ _ _ _ ⟨_, _, _, _, _, _, _, _, _, _, _, X2, Y2, Z2⟩)) (fun e => absurd rfl e)
theorem c_wrong (T : hT h L xs) (hL : L < 2147483648) (hi : i + 5 < L) (k : ∀ h' o5 o6 o7, hT h' L xs → hk_S G m_L_law (d + 10) cb sb 43 [some (.ref 0), some (.ref 4), some (.ref 43), some (.ref 70), some (.int (hI (i : Int) + 6)), o5, o6, o7] [] h' Q) : hk_S G m_L_law (d + 10) (6 + cb) (6501 + sb) 1636 [some (.ref 0), some (.ref 4), some (.ref 43), some (.ref 70), some (.int (hI (i : Int))), o5, o6, o7] [] h Q := by
  obtain ⟨n, m, w, rc, num, Rs, rq, P, Ss, th, g, X, Y, Z⟩ := T
  refine hs_more (Nat.le_refl _) (Nat.le_add_left _ _) (Nat.le_add_left _ _) ?_
  refine b_L_law_1636 Z.1 (i + 1) (hl_i1 (by omega)) (by omega) X.1.1 ?_
  refine s_wrong X.1 X.2.2.2.2 fun h1 M1 F1 => ?_
  have X1 := X.mk M1 F1
  have f1 := hFc.mf F1
  have Y1 := Y.fc f1
  have Z1 := Z.fc f1
  refine b_L_law_1646 Z1.1 (i + 1) (hl_i1 (by omega)) (by omega) Y1.1.1.1 ?_
  refine r_wrong Y1.1 fun h2 A2 F2 => ?_
  have f2 := hFr.of F2 (fun a z => by unfold hP57 at z; omega)
  have Y2 := Y1.a A2 F2
  have X2 := X1.fr f2
  have Z2 := Z1.fr f2
  exact b_L_law_1656 (fun _ => b_L_law_1974 (k _ _ _ _ ⟨_, _, _, _, _, _, _, _, _, _, _, X2, Y2, Z2⟩)) (fun e => absurd rfl e)
theorem c_count (T : hT h L xs) (hL : L < 2147483648) (hi : i + 5 < L) (k : ∀ h' o5 o6 o7, hT h' L xs → hk_S G m_L_law (d + 10) cb sb 43 [some (.ref 0), some (.ref 4), some (.ref 43), some (.ref 70), some (.int (hI (i : Int) + 6)), o5, o6, o7] [] h' Q) : hk_S G m_L_law (d + 10) (6 + cb) (6501 + sb) 1661 [some (.ref 0), some (.ref 4), some (.ref 43), some (.ref 70), some (.int (hI (i : Int))), o5, o6, o7] [] h Q := by
  obtain ⟨n, m, w, rc, num, Rs, rq, P, Ss, th, g, X, Y, Z⟩ := T
  refine hs_more (Nat.le_refl _) (Nat.le_add_left _ _) (Nat.le_add_left _ _) ?_
  refine b_L_law_1661 Z.1 (i + 1) (hl_i1 (by omega)) (by omega) X.1.1 ?_
  refine s_count X.1 X.2.2.2.2 fun h1 M1 F1 => ?_
  have X1 := X.mk M1 F1
  have f1 := hFc.mf F1
  have Y1 := Y.fc f1
  have Z1 := Z.fc f1
  refine b_L_law_1671 Z1.1 (i + 1) (hl_i1 (by omega)) (by omega) Y1.1.1.1 ?_
  refine r_count Y1.1 fun h2 A2 F2 => ?_
  have f2 := hFr.of F2 (fun a z => by unfold hP57 at z; omega)
  have Y2 := Y1.a A2 F2
  have X2 := X1.fr f2
  have Z2 := Z1.fr f2
  exact b_L_law_1681 (fun _ => b_L_law_1974 (k _ _ _ _ ⟨_, _, _, _, _, _, _, _, _, _, _, X2, Y2, Z2⟩)) (fun e => absurd rfl e)
theorem c_keep (T : hT h L xs) (hL : L < 2147483648) (hi : i + 5 < L) (k : ∀ h' o5 o6 o7, hT h' L xs → hk_S G m_L_law (d + 10) cb sb 43 [some (.ref 0), some (.ref 4), some (.ref 43), some (.ref 70), some (.int (hI (i : Int) + 6)), o5, o6, o7] [] h' Q) : hk_S G m_L_law (d + 10) (6 + cb) (6501 + sb) 1686 [some (.ref 0), some (.ref 4), some (.ref 43), some (.ref 70), some (.int (hI (i : Int))), o5, o6, o7] [] h Q := by
  obtain ⟨n, m, w, rc, num, Rs, rq, P, Ss, th, g, X, Y, Z⟩ := T
  refine hs_more (Nat.le_refl _) (Nat.le_add_left _ _) (Nat.le_add_left _ _) ?_
  refine b_L_law_1686 Z.1 (i + 1) (hl_i1 (by omega)) (by omega) (i + 2) (hl_i2 (by omega)) (by omega) (i + 3) (hl_i3 (by omega)) (by omega) X.1.1 ?_
  refine s_keep X.1 X.2.1 fun h1 C1 S1 F1 => ?_
  have X1 := X.sh C1 S1 F1
  have f1 := hFc.fm F1 (fun a z => by unfold hP42 at z; omega)
  have Y1 := Y.fc f1
  have Z1 := Z.fc f1
  refine b_L_law_1708 Z1.1 (i + 1) (hl_i1 (by omega)) (by omega) (i + 2) (hl_i2 (by omega)) (by omega) (i + 3) (hl_i3 (by omega)) (by omega) Y1.1.1.1 ?_
  refine r_keep Y1.1 Y1.2 fun h2 A2 V2 F2 => ?_
  have f2 := hFr.of F2 (fun a z => by unfold hP63 at z; omega)
  have Y2 := And.intro A2 V2
  have X2 := X1.fr f2
  have Z2 := Z1.fr f2
  exact b_L_law_1730 (fun _ => b_L_law_1974 (k _ _ _ _ ⟨_, _, _, _, _, _, _, _, _, _, _, X2, Y2, Z2⟩)) (fun e => absurd rfl e)
theorem c_make (T : hT h L xs) (hL : L < 2147483648) (hi : i + 5 < L) (k : ∀ h' o5 o6 o7, hT h' L xs → hk_S G m_L_law (d + 10) cb sb 43 [some (.ref 0), some (.ref 4), some (.ref 43), some (.ref 70), some (.int (hI (i : Int) + 6)), o5, o6, o7] [] h' Q) : hk_S G m_L_law (d + 10) (6 + cb) (6501 + sb) 1735 [some (.ref 0), some (.ref 4), some (.ref 43), some (.ref 70), some (.int (hI (i : Int))), o5, o6, o7] [] h Q := by
  obtain ⟨n, m, w, rc, num, Rs, rq, P, Ss, th, g, X, Y, Z⟩ := T
  refine hs_more (Nat.le_refl _) (Nat.le_add_left _ _) (Nat.le_add_left _ _) ?_
  refine b_L_law_1735 Z.1 (i + 1) (hl_i1 (by omega)) (by omega) (i + 2) (hl_i2 (by omega)) (by omega) (i + 3) (hl_i3 (by omega)) (by omega) X.1.1 ?_
  refine s_make X.1 X.2.1 fun h1 C1 S1 F1 => ?_
  have X1 := X.sh C1 S1 F1
  have f1 := hFc.fm F1 (fun a z => by unfold hP42 at z; omega)
  have Y1 := Y.fc f1
  have Z1 := Z.fc f1
  refine b_L_law_1757 Z1.1 (i + 1) (hl_i1 (by omega)) (by omega) (i + 2) (hl_i2 (by omega)) (by omega) (i + 3) (hl_i3 (by omega)) (by omega) Y1.1.1.1 ?_
  refine r_make Y1.1 Y1.2 fun h2 A2 V2 F2 => ?_
  have f2 := hFr.of F2 (fun a z => by unfold hP63 at z; omega)
  have Y2 := And.intro A2 V2
  have X2 := X1.fr f2
  have Z2 := Z1.fr f2
  exact b_L_law_1779 (fun _ => b_L_law_1974 (k _ _ _ _ ⟨_, _, _, _, _, _, _, _, _, _, _, X2, Y2, Z2⟩)) (fun e => absurd rfl e)
theorem c_element (T : hT h L xs) (hL : L < 2147483648) (hi : i + 5 < L) (k : ∀ h' o5 o6 o7, hT h' L xs → hk_S G m_L_law (d + 10) cb sb 43 [some (.ref 0), some (.ref 4), some (.ref 43), some (.ref 70), some (.int (hI (i : Int) + 6)), o5, o6, o7] [] h' Q) : hk_S G m_L_law (d + 10) (6 + cb) (6501 + sb) 1784 [some (.ref 0), some (.ref 4), some (.ref 43), some (.ref 70), some (.int (hI (i : Int))), o5, o6, o7] [] h Q := by
  obtain ⟨n, m, w, rc, num, Rs, rq, P, Ss, th, g, X, Y, Z⟩ := T
  refine hs_more (cb := 1 + cb) (sb := 6 + sb) (Nat.le_refl _) (by omega) (by omega) ?_
  refine b_L_law_1784 Z.1 (i + 1) (hl_i1 (by omega)) (by omega) (i + 2) (hl_i2 (by omega)) (by omega) ?_
  refine l_element (R := fun h' => hR0 h' n m w rc num Rs rq P Ss th L xs) (a := hq_element Ss (xs (i + 1)) (xs (i + 2))) X.1.1 (s_element X.1 X.2.1 fun h1 C1 F1 => ⟨rfl, X.lo C1 F1, Y.fc (hFc.lo F1), _, Z.fc (hFc.lo F1)⟩) hx_element (fun h' r => r.out) (fun h' g' r => r.set) (fun h1 g1 r1 eg hv => ?_)
  obtain ⟨X1, Y1, g2, Z1⟩ := r1
  refine b_L_law_1801 Z1.1 (i + 1) (hl_i1 (by omega)) (by omega) (i + 2) (hl_i2 (by omega)) (by omega) Y1.1.1.1 ?_
  refine r_element Y1.1 Y1.2 fun h2 A2 V2 F2 => ?_
  have f2 := hFr.of F2 (fun a z => by unfold hP43 at z; omega)
  have Y2 := And.intro A2 V2
  have X2 := X1.fr f2
  have Z2 := Z1.fr f2
  refine b_L_law_1819 Y2.1.1.1 ?_
  refine r_thrown Y2.1.1 ?_
  refine b_L_law_1825 (fun _ => ?_) (fun e => absurd rfl e)
  refine b_L_law_1832 (fun _ => b_L_law_1848 (k _ _ _ _ ⟨_, _, _, _, _, _, _, _, _, _, _, X2, Y2, Z2⟩)) (fun e0 => ?_)
  exact b_L_law_1837 ((f2.2 70 (by omega)).trans eg) 0 rfl (by omega) (fun _ => b_L_law_1848 (k _ _ _ _ ⟨_, _, _, _, _, _, _, _, _, _, _, X2, Y2, Z2⟩)) (fun e => absurd (hl_finL hx_element e0 hv) e)
theorem c_copy (T : hT h L xs) (hL : L < 2147483648) (hi : i + 5 < L) (k : ∀ h' o5 o6 o7, hT h' L xs → hk_S G m_L_law (d + 10) cb sb 43 [some (.ref 0), some (.ref 4), some (.ref 43), some (.ref 70), some (.int (hI (i : Int) + 6)), o5, o6, o7] [] h' Q) : hk_S G m_L_law (d + 10) (6 + cb) (6501 + sb) 1851 [some (.ref 0), some (.ref 4), some (.ref 43), some (.ref 70), some (.int (hI (i : Int))), o5, o6, o7] [] h Q := by
  obtain ⟨n, m, w, rc, num, Rs, rq, P, Ss, th, g, X, Y, Z⟩ := T
  refine hs_more (Nat.le_refl _) (Nat.le_add_left _ _) (Nat.le_add_left _ _) ?_
  refine b_L_law_1851 Z.1 (i + 1) (hl_i1 (by omega)) (by omega) (i + 2) (hl_i2 (by omega)) (by omega) (i + 3) (hl_i3 (by omega)) (by omega) (i + 4) (hl_i4 (by omega)) (by omega) (i + 5) (hl_i5 (by omega)) (by omega) X.1.1 ?_
  refine s_copy X.1 X.2.1 fun h1 C1 S1 F1 => ?_
  have X1 := X.sh C1 S1 F1
  have f1 := hFc.fm F1 (fun a z => by unfold hP42 at z; omega)
  have Y1 := Y.fc f1
  have Z1 := Z.fc f1
  refine b_L_law_1885 Z1.1 (i + 1) (hl_i1 (by omega)) (by omega) (i + 2) (hl_i2 (by omega)) (by omega) (i + 3) (hl_i3 (by omega)) (by omega) (i + 4) (hl_i4 (by omega)) (by omega) (i + 5) (hl_i5 (by omega)) (by omega) Y1.1.1.1 ?_
  refine r_copy Y1.1 Y1.2 fun h2 A2 V2 F2 => ?_
  have f2 := hFr.of F2 (fun a z => by unfold hP63 at z; omega)
  have Y2 := And.intro A2 V2
  have X2 := X1.fr f2
  have Z2 := Z1.fr f2
  exact b_L_law_1919 (fun _ => b_L_law_1974 (k _ _ _ _ ⟨_, _, _, _, _, _, _, _, _, _, _, X2, Y2, Z2⟩)) (fun e => absurd rfl e)
theorem c_weight (T : hT h L xs) (hL : L < 2147483648) (hi : i + 5 < L) (k : ∀ h' o5 o6 o7, hT h' L xs → hk_S G m_L_law (d + 10) cb sb 43 [some (.ref 0), some (.ref 4), some (.ref 43), some (.ref 70), some (.int (hI (i : Int) + 6)), o5, o6, o7] [] h' Q) : hk_S G m_L_law (d + 10) (6 + cb) (6501 + sb) 1924 [some (.ref 0), some (.ref 4), some (.ref 43), some (.ref 70), some (.int (hI (i : Int))), o5, o6, o7] [] h Q := by
  obtain ⟨n, m, w, rc, num, Rs, rq, P, Ss, th, g, X, Y, Z⟩ := T
  refine hs_more (Nat.le_refl _) (Nat.le_add_left _ _) (Nat.le_add_left _ _) ?_
  refine b_L_law_1924 Z.1 (i + 1) (hl_i1 (by omega)) (by omega) X.1.1 ?_
  refine s_weight X.1 X.2.1 ?_
  have X1 := X
  have Y1 := Y
  have Z1 := Z
  refine b_L_law_1934 Z1.1 (i + 1) (hl_i1 (by omega)) (by omega) Y1.1.1.1 ?_
  refine r_weight Y1.1.1 Y1.2 ?_
  have X2 := X1
  have Y2 := Y1
  have Z2 := Z1
  exact b_L_law_1944 (fun _ => b_L_law_1974 (k _ _ _ _ ⟨_, _, _, _, _, _, _, _, _, _, _, X2, Y2, Z2⟩)) (fun e => absurd rfl e)
theorem c_toss (T : hT h L xs) (hL : L < 2147483648) (hi : i + 5 < L) (k : ∀ h' o5 o6 o7, hT h' L xs → hk_S G m_L_law (d + 10) cb sb 43 [some (.ref 0), some (.ref 4), some (.ref 43), some (.ref 70), some (.int (hI (i : Int) + 6)), o5, o6, o7] [] h' Q) : hk_S G m_L_law (d + 10) (6 + cb) (6501 + sb) 1949 [some (.ref 0), some (.ref 4), some (.ref 43), some (.ref 70), some (.int (hI (i : Int))), o5, o6, o7] [] h Q := by
  obtain ⟨n, m, w, rc, num, Rs, rq, P, Ss, th, g, X, Y, Z⟩ := T
  refine hs_more (cb := 1 + cb) (sb := 6 + sb) (Nat.le_refl _) (by omega) (by omega) ?_
  refine b_L_law_1949 Z.1 (i + 1) (hl_i1 (by omega)) (by omega) X.1.1 ?_
  refine s_toss X.1 X.2.1 fun h1 C1 F1 => ?_
  have X1 := X.lo C1 F1
  have f1 := hFc.lo F1
  have Y1 := Y.fc f1
  have Z1 := Z.fc f1
  refine b_L_law_1959 Z1.1 (i + 1) (hl_i1 (by omega)) (by omega) Y1.1.1.1 ?_
  refine r_toss Y1.1.1 Y1.2 ?_
  have X2 := X1
  have Y2 := Y1
  have Z2 := Z1
  exact b_L_law_1969 (fun _ => b_L_law_1974 (k _ _ _ _ ⟨_, _, _, _, _, _, _, _, _, _, _, X2, Y2, Z2⟩)) (fun e => absurd rfl e)
end LC
