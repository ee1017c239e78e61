/-! Shelves: what is held, number of the rule, its heft, size, elements. -/
abbrev hv_S := Nat × Nat × Int × Nat × (Nat → Int)
def hv_1 (h : hk_H) (rc : Nat) (rq : Nat → Nat) (D : Nat) (S : hv_S) : Prop :=
  (S.1 = 0 ∨ S.1 = 1 ∨ S.1 = 3 ∨ S.1 = 4) ∧ (S.1 = 1 → S.2.1 < rc) ∧ (3 ≤ S.1 → S.2.2.2.1 ≤ 60) ∧
  ∃ (ru : Value) (hf sz : Int32) (f : Nat → Int64), h.2 (27 + 2 * D) = some (.inr (4, [.int (hI S.1), ru, .int hf, .int sz, .ref (28 + 2 * D)])) ∧ h.2 (28 + 2 * D) = some (hc_i64 60 f) ∧ (S.1 = 1 → ru = .ref (rq S.2.1) ∧ hf = hI S.2.2.1) ∧ (3 ≤ S.1 → sz = hI S.2.2.2.1 ∧ ∀ i, i < S.2.2.2.1 → f i = hL (S.2.2.2.2 i))
def hSh (h : hk_H) (rc : Nat) (rq : Nat → Nat) (Ss : Nat → hv_S) : Prop :=
  (∃ f : Nat → Option Nat, h.2 26 = some (.inl (4, 8, .inr (.inr (.inr (.inr f))))) ∧ ∀ D, D < 8 → f D = some (27 + 2 * D)) ∧ ∀ D, D < 8 → hv_1 h rc rq D (Ss D)
def hP42 (a : Nat) : Prop := 26 ≤ a ∧ a ≤ 42
def hv_up (Ss : Nat → hv_S) (D : Nat) (S : hv_S) : Nat → hv_S := fun i => if i = D then S else Ss i
def hv_0 : hv_S := (0, 0, 0, 0, fun _ => 0)
section SV
variable {G : hk_G} {h h' : hk_H} {n m w rc rc' : Nat} {num : Nat → Int} {Rs : Nat → hr_R} {rq rq' : Nat → Nat} {Ss : Nat → hv_S} {S : hv_S} {D d : Nat}
theorem hv_1.fr (H : hv_1 h rc rq D S) (e : ∀ a, a = 27 + 2 * D ∨ a = 28 + 2 * D → h'.2 a = h.2 a) (hrc : rc ≤ rc') (hrq : ∀ j, j < rc → rq' j = rq j) : hv_1 h' rc' rq' D S := by
  obtain ⟨h1, h2, h3, ru, hf, sz, f, h4, h5, h6, h7⟩ := H
  refine ⟨h1, fun c => by have := h2 c; omega, h3, ru, hf, sz, f, by rw [e _ (Or.inl rfl)]; exact h4, by rw [e _ (Or.inr rfl)]; exact h5, fun c => ?_, h7⟩
  rw [hrq _ (h2 c)]; exact h6 c
theorem hSh.fr (H : hSh h rc rq Ss) (e : ∀ a, 26 ≤ a → a ≤ 42 → h'.2 a = h.2 a) (hrc : rc ≤ rc') (hrq : ∀ j, j < rc → rq' j = rq j) : hSh h' rc' rq' Ss := by
  obtain ⟨⟨f, h1, h2⟩, h3⟩ := H
  exact ⟨⟨f, by rw [e 26 (by omega) (by omega)]; exact h1, h2⟩, fun D hD => (h3 D hD).fr (fun a ha => e a (by omega) (by omega)) hrc hrq⟩
theorem hSh.lo (H : hSh h rc rq Ss) (l : hLo h h') : hSh h' rc rq Ss := H.fr (fun a _ hb => l.2 a (by omega)) (Nat.le_refl _) fun _ _ => rfl
theorem hSh.one (H : hSh h rc rq Ss) (hD : D < 8) (e : ∀ a, 26 ≤ a → a ≤ 42 → a ≠ 27 + 2 * D → a ≠ 28 + 2 * D → h'.2 a = h.2 a) (H1 : hv_1 h' rc rq D S) : hSh h' rc rq (hv_up Ss D S) := by
  obtain ⟨⟨f, h1, h2⟩, h3⟩ := H
  refine ⟨⟨f, by rw [e 26 (by omega) (by omega) (by omega) (by omega)]; exact h1, h2⟩, fun D' hD' => ?_⟩
  unfold hv_up
  by_cases c : D' = D
  · subst c; rw [if_pos rfl]; exact H1
  · rw [if_neg c]
    exact (h3 D' hD').fr (fun a ha => e a (by omega) (by omega) (by omega) (by omega)) (Nat.le_refl _) fun _ _ => rfl
theorem hC.p42 (C : hC h n m w rc num Rs rq) (e1 : h'.1 = h.1) (e : ∀ a, ¬ hP42 a → h'.2 a = h.2 a) : hC h' n m w rc num Rs rq :=
  C.fr (by omega) fun a ha => e a (by unfold hP42; omega)
theorem s_shelfAt (HO : hO h n m rc) (HS : hSh h rc rq Ss) {x : Int32} {K : Option Nat → hk_H → Prop} (hk1 : ∀ D : Nat, D < 8 → x = hI (D : Int) → K (some (27 + 2 * D)) h) (hk0 : ¬ hIn x 8 → K none h) : hk_Cr G m_X9_shelfAt d 0 0 [.ref 4, .int x] h K := by
  obtain ⟨⟨f, r1, r3⟩, -⟩ := HS
  refine ⟨Nat.le_of_ble_eq_true rfl, ?_⟩
  refine b_X9_shelfAt_0 (fun c => b_X9_shelfAt_19 ⟨none, rfl, hk0 (hIn_not0 c)⟩) (fun c => ?_)
  refine b_X9_shelfAt_4 (fun c2 => b_X9_shelfAt_19 ⟨none, rfl, hk0 (hIn_notn (n := 8) c2 (by omega))⟩) (fun c2 => ?_)
  obtain ⟨j, hj, hx⟩ := hI_nat (n := 8) c c2 (by omega)
  refine b_X9_shelfAt_10 HO rfl r1 (Or.inr rfl) j (by rw [hx]; exact hI_at rfl (by omega)) (by omega) ⟨some (27 + 2 * j), by rw [r3 j hj], hk1 j hj hx⟩
theorem s_holdNothing (H : hv_1 h rc rq D S) {K : hk_H → Prop} (hk : ∀ h', hv_1 h' rc rq D hv_0 → h'.1 = h.1 → (∀ a, a ≠ 27 + 2 * D → h'.2 a = h.2 a) → K h') : hk_Cv G m_X4_holdNothing d 0 0 [.ref (27 + 2 * D)] h K := by
  obtain ⟨h1, h2, h3, ru, hf, sz, f, h4, h5, h6, h7⟩ := H
  refine ⟨Nat.le_of_ble_eq_true rfl, ?_⟩
  refine b_X4_holdNothing_0 h4 (by omega) rfl hk_set_eq rfl ⟨rfl, hk _ ?_ rfl fun a ha => by rw [hk_set_ne ha, hk_set_ne ha]⟩
  refine ⟨Or.inl rfl, fun c => absurd c (by decide), fun c => absurd c (by decide), .null, hf, sz, f, hk_set_eq, ?_, fun c => absurd c (by decide), fun c => absurd c (by decide)⟩
  rw [hk_set_ne (by omega), hk_set_ne (by omega)]; exact h5
theorem s_holdRule (C : hC h n m w rc num Rs rq) (hD : D < 8) (H : hv_1 h rc rq D S) {j : Nat} (hj : j < rc) {K : hk_H → Prop} (hk : ∀ h', hv_1 h' rc rq D (1, j, hr_heft n j (Rs j), 0, fun _ => 0) → h'.1 = h.1 → (∀ a, a ≠ 27 + 2 * D → h'.2 a = h.2 a) → K h') : hk_Cv G m_X4_holdRule (d + 3) 0 0 [.ref (27 + 2 * D), .ref (rq j)] h K := by
  obtain ⟨h1, h2, h3, ru, hf, sz, f, h4, h5, h6, h7⟩ := H
  refine ⟨Nat.le_of_ble_eq_true rfl, ?_⟩
  generalize hh2 : hk_set (hk_set h (27 + 2 * D) (.inr (4, [.int 1, ru, .int hf, .int sz, .ref (28 + 2 * D)]))) (27 + 2 * D) (.inr (4, [.int 1, .ref (rq j), .int hf, .int sz, .ref (28 + 2 * D)])) = h2
  have f2 : ∀ a, a ≠ 27 + 2 * D → h2.2 a = h.2 a := fun a ha => by rw [← hh2, hk_set_ne ha, hk_set_ne ha]
  have e2 : h2.1 = h.1 := by rw [← hh2]; rfl
  have o2 : h2.2 (27 + 2 * D) = some (.inr (4, [.int 1, .ref (rq j), .int hf, .int sz, .ref (28 + 2 * D)])) := by rw [← hh2]; exact hk_set_eq
  have C2 : hC h2 n m w rc num Rs rq := C.fr (by omega) fun a ha => f2 a (by omega)
  obtain ⟨-, ⟨pw, c2⟩, c3, c4, c5, c6, c7⟩ := id C2
  obtain ⟨g1, g2, ef, pf, HR⟩ := c5 j hj
  refine b_X4_holdRule_0 h4 (by omega) rfl hk_set_eq hh2 (hr_dH (C.ok hj).1) (C2.obj hj) (s_heft c2 HR ?_)
  refine b_X4_holdRule_15 o2 (by omega) rfl ⟨rfl, hk _ ?_ e2 fun a ha => by rw [hk_set_ne ha]; exact f2 a ha⟩
  refine ⟨Or.inr (Or.inl rfl), fun _ => hj, fun c => absurd (show 3 ≤ 1 from c) (by decide), .ref (rq j), _, sz, f, hk_set_eq, ?_, fun _ => ⟨rfl, rfl⟩, fun c => absurd (show 3 ≤ 1 from c) (by decide)⟩
  rw [hk_set_ne (by omega), f2 _ (by omega)]; exact h5
theorem s_holdRow (H : hv_1 h rc rq D S) {x y : Int32} {K : hk_H → Prop} (hk : ∀ h' hf g, h'.1 = h.1 → (∀ a, a ≠ 27 + 2 * D → a ≠ 28 + 2 * D → h'.2 a = h.2 a) → h'.2 (27 + 2 * D) = some (.inr (4, [.int x, .null, .int hf, .int y, .ref (28 + 2 * D)])) → h'.2 (28 + 2 * D) = some (hc_i64 60 g) → (∀ i, i < 60 → g i = 0) → K h') : hk_Cv G m_X4_holdRow (d + 1) 0 0 [.ref (27 + 2 * D), .int x, .int y] h K := by
  obtain ⟨h1, h2, h3, ru, hf, sz, f, h4, h5, h6, h7⟩ := H
  refine ⟨Nat.le_of_ble_eq_true rfl, ?_⟩
  refine b_X4_holdRow_0 h4 (by omega) rfl hk_set_eq rfl hk_set_eq rfl hk_set_eq rfl (s_fillL (n := 60) (f := f) ?_ (by omega) (by omega) fun g hg => ?_)
  · rw [hk_set_ne (by omega), hk_set_ne (by omega), hk_set_ne (by omega)]; exact h5
  · refine b_X4_holdRow_23 ⟨rfl, hk _ hf g rfl (fun a ha hb => ?_) ?_ hk_set_eq hg⟩
    · rw [hk_set_ne hb, hk_set_ne ha, hk_set_ne ha, hk_set_ne ha]
    · rw [hk_set_ne (by omega)]; exact hk_set_eq
theorem hv_is {k : Nat} (H : hv_1 h rc rq D S) (hk : k < 8) : hI (S.1 : Int) = hI (k : Int) ↔ S.1 = k := by
  have := H.1
  exact hN_eq (by omega) (by omega)
theorem s_holdsRow (H : hv_1 h rc rq D S) {K : Int32 → hk_H → Prop} (hk : K (hI (hb (decide (3 ≤ S.1)))) h) : hk_Ci G m_X4_holdsRow d 0 0 [.ref (27 + 2 * D)] h K := by
  have H' := H
  obtain ⟨h1, h2, h3, ru, hf, sz, f, h4, h5, h6, h7⟩ := H
  refine ⟨Nat.le_of_ble_eq_true rfl, ?_⟩
  refine b_X4_holdsRow_0 h4 rfl (fun c => ?_) (fun c => ?_)
  · have c := (hv_is H' (k := 3) (by omega)).mp c
    rw [decide_eq_true (by omega)] at hk
    exact b_X4_holdsRow_16 ⟨_, rfl, hk⟩
  · have c := mt (hv_is H' (k := 3) (by omega)).mpr c
    refine b_X4_holdsRow_8 h4 rfl (fun c2 => ?_) (fun c2 => ?_)
    · have c2 := mt (hv_is H' (k := 4) (by omega)).mpr c2
      rw [decide_eq_false (by omega)] at hk
      exact b_X4_holdsRow_20 ⟨_, rfl, hk⟩
    · have c2 := (hv_is H' (k := 4) (by omega)).mp c2
      rw [decide_eq_true (by omega)] at hk
      exact b_X4_holdsRow_16 ⟨_, rfl, hk⟩
def hv_pl (size : Nat) (x y : Int32) : Bool := decide (0 ≤ x.toInt ∧ 0 ≤ y.toInt ∧ x.toInt + y.toInt ≤ size)
theorem s_hasPlaces (H : hv_1 h rc rq D S) (h3r : 3 ≤ S.1) {x y : Int32} {K : Int32 → hk_H → Prop} (hk : K (hI (hb (hv_pl S.2.2.2.1 x y))) h) : hk_Ci G m_X4_hasPlaces d 0 0 [.ref (27 + 2 * D), .int x, .int y] h K := by
  obtain ⟨h1, h2, h3, ru, hf, sz, f, h4, h5, h6, h7⟩ := H
  have h3 := h3 h3r
  obtain ⟨h8, h9⟩ := h7 h3r
  subst h8
  unfold hv_pl at hk
  refine ⟨Nat.le_of_ble_eq_true rfl, ?_⟩
  refine b_X4_hasPlaces_0 (fun c => ?_) (fun c => ?_)
  · rw [Int32.lt_iff_toInt_lt, Int32.toInt_zero] at c
    rw [decide_eq_false (by omega)] at hk
    exact b_X4_hasPlaces_30 ⟨_, rfl, hk⟩
  · rw [Int32.lt_iff_toInt_lt, Int32.toInt_zero] at c
    refine b_X4_hasPlaces_4 (fun c2 => ?_) (fun c2 => ?_)
    · rw [Int32.lt_iff_toInt_lt, Int32.toInt_zero] at c2
      rw [decide_eq_false (by omega)] at hk
      exact b_X4_hasPlaces_30 ⟨_, rfl, hk⟩
    · rw [Int32.lt_iff_toInt_lt, Int32.toInt_zero] at c2
      refine b_X4_hasPlaces_8 h4 rfl (fun c3 => ?_) (fun c3 => ?_)
      · rw [Int32.lt_iff_toInt_lt, hI_toInt (hI_rN (by omega))] at c3
        rw [decide_eq_false (by omega)] at hk
        exact b_X4_hasPlaces_30 ⟨_, rfl, hk⟩
      · rw [Int32.lt_iff_toInt_lt, hI_toInt (hI_rN (by omega))] at c3
        have e : hI (S.2.2.2.1 : Int) - y = hI ((S.2.2.2.1 : Int) - y.toInt) := by
          conv => lhs; rw [hI_of y]
          rw [hI_sub]
        refine b_X4_hasPlaces_16 h4 rfl (fun c4 => ?_) (fun c4 => ?_)
        · rw [e, Int32.lt_iff_toInt_lt, hI_toInt (by omega)] at c4
          rw [decide_eq_false (by omega)] at hk
          exact b_X4_hasPlaces_30 ⟨_, rfl, hk⟩
        · rw [e, Int32.lt_iff_toInt_lt, hI_toInt (by omega)] at c4
          rw [decide_eq_true (by omega)] at hk
          exact b_X4_hasPlaces_26 ⟨_, rfl, hk⟩
end SV
