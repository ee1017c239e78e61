/-! The reference's trades: who is better, what blocks. -/
section RX
variable {G : hk_G} {h h' : hk_H} {n m w rc th : Nat} {P : Nat → Nat → Nat} {c : Nat → Nat → Int32} {d : Nat}
theorem r_isBetter (N : hN h n m w rc th P c) {g : Nat} (hg : g < 16) {t o : Nat → Nat} (ht : ∀ k, k < n → t k < n) (ho : ∀ k, k < n → o k < n) {x : Nat} (hx : x < 5) (hct : ∀ k, k < n → c x k = hI (t k : Nat)) (hco : ∀ k, k < n → c 1 k = hI (o k : Nat)) {K : Int32 → hk_H → Prop} (hk : K (hI (hb (hm_bet n P g t o))) h) : hk_Ci G m_X10_isBetter (d + 1) 0 0 [.ref 43, .int (hI g), .ref (58 + x), .ref 59] h K := by
  have hn := N.nn
  have hP := N.ok
  have no : ∀ i, i < n → hh_mem g i = true → ¬ (hh_mem g (o i) = true ∧ hm_pl n P i (o i) ≤ hm_pl n P i (t i)) → hm_bet n P g t o = false := by
    intro i hi h1 h2
    rw [← Bool.not_eq_true]
    intro z
    unfold hm_bet hm_keep hm_btr at z
    rw [Bool.and_eq_true, Bool.and_eq_true, ha_is, ha_is] at z
    have z1 := z.1 i hi
    have z2 := z.2.1 i hi
    rw [h1] at z1 z2
    refine h2 ⟨by simpa using z1, by simpa using z2⟩
  refine ⟨Nat.le_of_ble_eq_true rfl, ?_⟩
  refine b_X10_isBetter_0 ?_
  refine hk_upto (P := fun i => ∀ (b : Bool), (∀ i', i' < i → hh_mem g i' = true → hh_mem g (o i') = true ∧ hm_pl n P i' (o i') ≤ hm_pl n P i' (t i')) → (b = true ↔ ∃ i', i' < i ∧ hh_mem g i' = true ∧ hm_pl n P i' (o i') < hm_pl n P i' (t i')) → hk_S G m_X10_isBetter (d + 1) 0 0 6 [some (.ref 43), some (.int (hI g)), some (.ref (58 + x)), some (.ref 59), some (.int (hI (hb b))), some (.int (hI (i : Int)))] [] h (fun o h' => ∃ x, o = .inl (some (.int x)) ∧ K x h')) n (fun i hi ih b A B => ?_) false (fun i' hi' => by omega) ⟨(fun z => by cases z), fun ⟨i', hi', _⟩ => by omega⟩
  refine b_X10_isBetter_6 N.o rfl (fun cc => ?_) (fun cc => ?_)
  · rw [hN_le (by omega) (by omega)] at cc
    have e0 : hm_keep n g o = true := ha_is.mpr fun i' hi' => by
      cases q : hh_mem g i' with
      | false => rfl
      | true => rw [(A i' (by omega) q).1]; rfl
    have e1 : ha (fun i => !hh_mem g i || decide (hm_pl n P i (o i) ≤ hm_pl n P i (t i))) n = true := ha_is.mpr fun i' hi' => by
      cases q : hh_mem g i' with
      | false => rfl
      | true => rw [decide_eq_true (A i' (by omega) q).2]; rfl
    have e2 : (!ha (fun i => !(hh_mem g i && decide (hm_pl n P i (o i) < hm_pl n P i (t i)))) n) = b := by
      cases b with
      | true =>
        obtain ⟨i', h1, h2, h3⟩ := B.mp rfl
        rw [Bool.not_eq_true', ← Bool.not_eq_true, ha_is]
        intro z
        have := z i' (by omega)
        rw [h2, decide_eq_true h3] at this
        cases this
      | false =>
        rw [Bool.not_eq_false', ha_is]
        intro i' hi'
        rw [Bool.not_eq_true', ← Bool.not_eq_true, Bool.and_eq_true, decide_eq_true_eq]
        rintro ⟨z1, z2⟩
        have := B.mpr ⟨i', by omega, z1, z2⟩
        cases this
    unfold hm_bet hm_btr at hk
    rw [e0, e1, e2, Bool.true_and, Bool.true_and] at hk
    refine b_X10_isBetter_104 ⟨_, rfl, hk⟩ ?_
    cases b
    · exact Or.inl rfl
    · exact Or.inr rfl
  · rw [hN_le (by omega) (by omega)] at cc
    have hin : i < n := by omega
    have hti := ht i hin
    have hoi := ho i hin
    have p1 := (hm_pl_lt hn.2 (hP i hin) hti).1
    have p2 := (hm_pl_lt hn.2 (hP i hin) hoi).1
    have hbit := hd_bit ⟨g, by omega⟩ ⟨i, by omega⟩
    have hbit2 := hd_bit ⟨g, by omega⟩ ⟨o i, by omega⟩
    simp only at hbit hbit2
    have ax := N.at hx
    have a1 := N.at (x := 1) (by omega)
    refine b_X10_isBetter_15 (fun c2 => ?_) (fun c2 => ?_)
    · have c2 := mt hbit.mpr c2
      rw [Bool.not_eq_false] at c2
      refine b_X10_isBetter_27 a1 i (hI_at rfl (by omega)) (by omega) (fun c3 => ?_) (fun c3 => ?_)
      · rw [hco i hin] at c3
        have c3 := hbit2.mp c3
        rw [no i hin c2 (fun z => by rw [c3] at z; cases z.1)] at hk
        exact b_X10_isBetter_61 ⟨_, rfl, hk⟩
      · rw [hco i hin] at c3
        have c3 := mt hbit2.mpr c3
        rw [Bool.not_eq_false] at c3
        refine b_X10_isBetter_38 a1 i (hI_at rfl (by omega)) (by omega) N.o ?_
        rw [hco i hin]
        refine r_place N hin hoi ?_
        refine b_X10_isBetter_48 ax i (hI_at rfl (by omega)) (by omega) N.o ?_
        rw [hct i hin]
        refine r_place N hin hti ?_
        refine b_X10_isBetter_58 (fun c4 => ?_) (fun c4 => ?_)
        · rw [hN_le (by omega) (by omega)] at c4
          have A' : ∀ i', i' < i + 1 → hh_mem g i' = true → hh_mem g (o i') = true ∧ hm_pl n P i' (o i') ≤ hm_pl n P i' (t i') := fun i' hi' hm => by
            by_cases e : i' = i
            · subst e; exact ⟨c3, c4⟩
            · exact A i' (by omega) hm
          have yes : (∃ i', i' < i + 1 ∧ hh_mem g i' = true ∧ hm_pl n P i' (o i') < hm_pl n P i' (t i')) → hk_S G m_X10_isBetter (d + 1) 0 0 91 [some (.ref 43), some (.int (hI g)), some (.ref (58 + x)), some (.ref 59), some (.int (hI (hb b))), some (.int (hI (i : Int)))] [] h (fun o h' => ∃ x, o = .inl (some (.int x)) ∧ K x h') := by
            intro ex
            refine b_X10_isBetter_91 ?_
            rw [hI_1]
            exact ih hin true A' ⟨fun _ => ex, fun _ => rfl⟩
          refine b_X10_isBetter_63 (fun c5 => ?_) (fun c5 => ?_)
          · cases b with
            | false => exact absurd rfl c5
            | true =>
              obtain ⟨i', h1, h2⟩ := B.mp rfl
              exact yes ⟨i', by omega, h2⟩
          · cases b with
            | true => exact absurd c5 (by decide)
            | false =>
              refine b_X10_isBetter_68 a1 i (hI_at rfl (by omega)) (by omega) N.o ?_
              rw [hco i hin]
              refine r_place N hin hoi ?_
              refine b_X10_isBetter_78 ax i (hI_at rfl (by omega)) (by omega) N.o ?_
              rw [hct i hin]
              refine r_place N hin hti ?_
              refine b_X10_isBetter_88 (fun c6 => ?_) (fun c6 => ?_)
              · rw [hN_le (by omega) (by omega)] at c6
                refine b_X10_isBetter_95 ?_
                rw [hI_1]
                refine ih hin false A' ⟨(fun z => by cases z), ?_⟩
                rintro ⟨i', h1, h2, h3⟩
                by_cases e : i' = i
                · subst e; omega
                · exact B.mpr ⟨i', by omega, h2, h3⟩
              · rw [hN_le (by omega) (by omega)] at c6
                exact yes ⟨i, by omega, c2, by omega⟩
        · rw [hN_le (by omega) (by omega)] at c4
          rw [no i hin c2 (fun z => c4 z.2)] at hk
          exact b_X10_isBetter_61 ⟨_, rfl, hk⟩
    · have c2 := hbit.mp c2
      refine b_X10_isBetter_24 ?_
      rw [hI_1]
      refine ih hin b (fun i' hi' hm => ?_) ?_
      · by_cases e : i' = i
        · subst e; rw [c2] at hm; cases hm
        · exact A i' (by omega) hm
      · rw [B]
        constructor
        · rintro ⟨i', h1, h2⟩; exact ⟨i', by omega, h2⟩
        · rintro ⟨i', h1, h2⟩
          refine ⟨i', ?_, h2⟩
          by_cases e : i' = i
          · subst e; rw [c2] at h2; cases h2.1
          · omega
theorem r_isBeaten (N : hN h n m w rc th P c) {g : Nat} (hg : g < 16) {t : Nat → Nat} (ht : ∀ k, k < n → t k < n) (hct : ∀ k, k < n → c 4 k = hI (t k : Nat)) {K : Int32 → hk_H → Prop} (hk : ∀ h' c', hN h' n m w rc th P c' → hRf hP57 h h' → (∀ y, y ≠ 1 → c' y = c y) → K (hI (hb (hm_beat n P g t))) h') : hk_Ci G m_X10_isBeaten (d + 2) 0 0 [.ref 43, .int (hI g), .ref 62] h K := by
  have hn := N.nn
  have hlast := (hm_b13 ⟨n, by omega⟩ hn.1).1
  simp only at hlast
  refine ⟨Nat.le_of_ble_eq_true rfl, ?_⟩
  refine b_X10_isBeaten_0 ?_
  refine hk_upto (P := fun v => ∀ h' c' j, hm_ix n v j → hN h' n m w rc th P c' → hRf hP57 h h' → (∀ y, y ≠ 1 → c' y = c y) → (∀ j', j' < j → hm_bet n P g t (hm_dg n (hm_at n j')) = false) → hk_S G m_X10_isBeaten (d + 2) 0 0 2 [some (.ref 43), some (.int (hI g)), some (.ref 62), some (.int (hI (v : Int)))] [] h' (fun o h' => ∃ x, o = .inl (some (.int x)) ∧ K x h')) (hm_last n + 1) (fun v hv ih h' c' j J N' F' Y' A' => ?_) h c 0 hm_ix_0 N hRf.rf (fun _ _ => rfl) (fun j' hj' => by omega)
  refine b_X10_isBeaten_2 N'.o (r_last N' ?_)
  refine b_X10_isBeaten_7 (fun c2 => ?_) (fun c2 => ?_)
  · rw [hN_lt (by omega) (by omega)] at c2
    have ej := hm_ix_end hn J c2
    subst ej
    have hb : hm_beat n P g t = false := by
      unfold hm_beat
      rw [Bool.not_eq_false', ha_is]
      intro j' hj'
      rw [A' j' hj']; rfl
    rw [hb] at hk
    exact b_X10_isBeaten_43 ⟨_, rfl, hk h' c' N' F' Y'⟩
  · rw [hN_lt (by omega) (by omega)] at c2
    refine b_X10_isBeaten_10 N'.o rfl (r_digitsN N' (y := 1) (by omega) J (by omega) (fun h2 f hj ev J2 N2 F2 D2 => ?_) (fun h2 f J2 N2 F2 => ?_))
    · obtain ⟨op, ob, -⟩ := hm_at_ok hn hj
      have F3 := F'.tr F2
      have Y3 : ∀ y, y ≠ 1 → hm_c c' 1 f y = c y := fun y hy => by rw [hm_c_ne hy]; exact Y' y hy
      refine b_X10_isBeaten_19 (fun z => absurd z (by decide)) (fun _ => ?_)
      refine b_X10_isBeaten_22 N2.o rfl (r_isBetter N2 hg ht op.1 (x := 4) (by omega) (fun k hk => by rw [Y3 4 (by omega)]; exact hct k hk) (fun k hk => by rw [hm_c_eq]; exact D2 k hk) ?_)
      by_cases k2 : hm_bet n P g t (hm_dg n (hm_at n j)) = true
      · rw [k2]
        have hb : hm_beat n P g t = true := by
          unfold hm_beat
          rw [Bool.not_eq_true', ← Bool.not_eq_true, ha_is]
          intro z
          have := z j hj
          rw [k2] at this
          cases this
        rw [hb] at hk
        exact b_X10_isBeaten_32 (fun z => absurd z (by decide)) (fun _ => b_X10_isBeaten_35 ⟨_, rfl, hk h2 _ N2 F3 Y3⟩)
      · rw [Bool.not_eq_true] at k2
        rw [k2]
        refine b_X10_isBeaten_32 (fun _ => ?_) (fun z => absurd rfl z)
        refine b_X10_isBeaten_37 ?_
        rw [hI_1]
        refine ih (by omega) h2 _ (j + 1) J2 N2 F3 Y3 fun j' hj' => ?_
        by_cases e : j' = j
        · subst e; exact k2
        · exact A' j' (by omega)
    · refine b_X10_isBeaten_19 (fun _ => ?_) (fun z => absurd rfl z)
      refine b_X10_isBeaten_37 ?_
      rw [hI_1]
      exact ih (by omega) h2 _ j J2 N2 (F'.tr F2) (fun y hy => by rw [hm_c_ne hy]; exact Y' y hy) A'
theorem r_blocking (N : hN h n m w rc th P c) {t : Nat → Nat} (ht : ∀ k, k < n → t k < n) (hct : ∀ k, k < n → c 4 k = hI (t k : Nat)) {K : Int32 → hk_H → Prop} (hk : ∀ h' c', hN h' n m w rc th P c' → hRf hP57 h h' → (∀ y, y ≠ 1 → c' y = c y) → K (hI ((hm_blk n P t).getD (-2))) h') : hk_Ci G m_X10_blocking (d + 3) 0 0 [.ref 43, .ref 62] h K := by
  have hn := N.nn
  have h2n : 1 ≤ 2 ^ n := Nat.pow_pos (by omega)
  have h216 := hm_16 hn
  have hsh := hd_sh ⟨n, by omega⟩
  simp only at hsh
  refine ⟨Nat.le_of_ble_eq_true rfl, ?_⟩
  refine b_X10_blocking_0 ?_
  refine hk_uptoF (P := fun g => ∀ h' c', hN h' n m w rc th P c' → hRf hP57 h h' → (∀ y, y ≠ 1 → c' y = c y) → hf_from (fun g => if 1 ≤ g ∧ hm_beat n P g t = true then some (g : Int) else none) (2 ^ n - g) g = hm_blk n P t → hk_S G m_X10_blocking (d + 3) 0 0 2 [some (.ref 43), some (.ref 62), some (.int (hI (g : Int)))] [] h' (fun o h' => ∃ x, o = .inl (some (.int x)) ∧ K x h')) 1 (2 ^ n) h2n (fun g hg0 hg ih h' c' N' F' Y' E' => ?_) h c N hRf.rf (fun _ _ => rfl) ?_
  · refine b_X10_blocking_2 N'.o rfl (fun cc => ?_) (fun cc => ?_)
    · rw [hsh, hN_le (by omega) (by omega)] at cc
      rw [hf_end (by omega)] at E'
      rw [← E'] at hk
      exact b_X10_blocking_29 ⟨_, rfl, hk h' c' N' F' Y'⟩
    · rw [hsh, hN_le (by omega) (by omega)] at cc
      have hgl : g < 2 ^ n := by omega
      refine b_X10_blocking_12 N'.o (r_isBeaten N' (by omega) ht (fun k hk => by rw [Y' 4 (by omega)]; exact hct k hk) fun h2 c2 N2 F2 Y2 => ?_)
      have Y3 : ∀ y, y ≠ 1 → c2 y = c y := fun y hy => (Y2 y hy).trans (Y' y hy)
      by_cases k2 : hm_beat n P g t = true
      · rw [hf_some hgl (if_pos ⟨hg0, k2⟩)] at E'
        rw [← E'] at hk
        rw [k2]
        exact b_X10_blocking_18 (fun z => absurd z (by decide)) (fun _ => b_X10_blocking_21 ⟨_, rfl, hk h2 c2 N2 (F'.tr F2) Y3⟩)
      · rw [hf_none hgl (if_neg (fun z => k2 z.2))] at E'
        rw [Bool.not_eq_true] at k2
        rw [k2]
        refine b_X10_blocking_18 (fun _ => ?_) (fun z => absurd rfl z)
        refine b_X10_blocking_23 ?_
        rw [hI_1]
        exact ih hgl h2 c2 N2 (F'.tr F2) Y3 E'
  · unfold hm_blk hf
    have := hf_none (f := fun g => if 1 ≤ g ∧ hm_beat n P g t = true then some (g : Int) else none) (n := 2 ^ n) (i := 0) (by omega) (if_neg (fun z => by omega))
    rw [Nat.sub_zero] at this
    exact this.symm
end RX
