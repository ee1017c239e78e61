/-! shorten, hasRound, priceOf. -/
def hy_fst (cm : Nat → Bool) : Nat → Nat → Nat
  | 0, e => e
  | c + 1, e => if cm e = true then e else hy_fst cm c (e + 1)
theorem hy_st_ok {L : Nat → Nat → Int} {m : Nat} {cm : Nat → Bool} (hm : m ≤ 5) (hcm : ∀ e, cm e = true → e < m) (hL : hy_bd m cm L 198) (hF : ∀ i j, (cm i = false ∨ cm j = false) → L i j = 1000000) {t k : Nat} (ht : t < m) (hk : k ≤ m) (i j : Nat) : -2000000 ≤ hy_st m cm (hy_fl m cm L t) t k i j ∧ hy_st m cm (hy_fl m cm L t) t k i j ≤ 2000000 := by
  have hp : (3 : Int) ^ t ≤ 81 ∧ 0 ≤ (3 : Int) ^ t := by
    have : t = 0 ∨ t = 1 ∨ t = 2 ∨ t = 3 ∨ t = 4 := by omega
    rcases this with e | e | e | e | e <;> subst e <;> decide
  by_cases c : cm i = true ∧ cm j = true
  · obtain ⟨-, -, h1, h2⟩ := hy_st_b (B := 3 ^ t * 198) (by omega) (hy_fl_b (by omega) hL t (by omega)) ht k hk i j (hcm i c.1) c.1 (hcm j c.2) c.2
    omega
  · have c' : cm i = false ∨ cm j = false := by
      by_cases c1 : cm i = true
      · right
        rw [← Bool.not_eq_true]
        exact fun z => c ⟨c1, z⟩
      · left; rw [Bool.not_eq_true] at c1; exact c1
    rw [hy_st_no _ _ _ _ _ c', hy_fl_no _ _ _ _ c', hF i j c']
    omega
section SWz
variable {G : hk_G} {h h' : hk_H} {n m w : Nat} {num : Nat → Int} {d : Nat} {pw : Nat → Int32} {cf lf sf tf : Nat → Int32} {cm : Nat → Bool}
theorem s_shortenFrom (HW : hW h n m w num pw) (Y : hYs h cf lf sf tf) (hc : hYc cf cm) {D : Nat → Nat → Int} (hD : hYm sf D) (hb : ∀ i j, -2000000 ≤ D i j ∧ D i j ≤ 2000000) {f t : Nat} (hf : f < m) (ht : t < m) {K : hk_H → Prop} (hk : ∀ h' sf', hYs h' cf lf sf' tf → hYf h h' → hYm sf' (hy_sf m cm D f t) → K h') : hk_Cv G m_X6_shortenFrom d 0 0 [.ref 13, .int (hI f), .int (hI t)] h K := by
  obtain ⟨w1, w2, w3, w4, hn, hm, hw6, hnum⟩ := id HW
  refine ⟨Nat.le_of_ble_eq_true rfl, ?_⟩
  refine b_X6_shortenFrom_0 Y.1 rfl Y.2.2.2.1 (f * 5 + t) (hI_ij (q := 5) (by omega) (by omega) (by omega)) (by omega) ?_
  rw [hD f t (by omega) (by omega)]
  refine hk_upto (P := fun j9 => ∀ h' sf' (o5 : Option Value), hYs h' cf lf sf' tf → hYf h h' → hYm sf' (fun i j => if i = f ∧ j < j9 ∧ cm j = true then min (D i j) (D f t + D t j) else D i j) → hk_S G m_X6_shortenFrom d 0 0 14 [some (.ref 13), some (.int (hI f)), some (.int (hI t)), some (.int (hI (D f t))), some (.int (hI (j9 : Int))), o5] [] h' (fun o h' => o = .inl none ∧ K h')) m (fun j9 hj9 ih h' sf' o5 Y' F' M' => ?_) h sf none Y hYf.rf (hD.to fun i j _ _ => by rw [if_neg (fun z => by omega)])
  refine b_X6_shortenFrom_14 Y'.1 rfl (F'.wl HW).1 rfl (fun cc => ?_) (fun cc => ?_)
  · rw [hN_le (by omega) (by omega)] at cc
    have e : j9 = m := by omega
    subst e
    exact b_X6_shortenFrom_86 ⟨rfl, hk h' sf' Y' F' M'⟩
  · rw [hN_le (by omega) (by omega)] at cc
    have m1 := M' t j9 (by omega) (by omega)
    simp only [Nat.lt_irrefl, false_and, and_false, if_false] at m1
    have m2 := M' f j9 (by omega) (by omega)
    simp only [Nat.lt_irrefl, false_and, and_false, if_false] at m2
    have b1 := hb f t
    have b2 := hb t j9
    have b3 := hb f j9
    have step0 : (cm j9 = true → D f j9 ≤ D f t + D t j9) → hYm sf' (fun i j => if i = f ∧ j < j9 + 1 ∧ cm j = true then min (D i j) (D f t + D t j) else D i j) := by
      intro hs
      refine M'.to fun i j hi hj => ?_
      by_cases q1 : i = f ∧ j < j9 ∧ cm j = true
      · rw [if_pos q1, if_pos ⟨q1.1, by omega, q1.2.2⟩]
      · rw [if_neg q1]
        by_cases q2 : i = f ∧ j < j9 + 1 ∧ cm j = true
        · rw [if_pos q2]
          have e : j = j9 := by
            by_cases c : j = j9
            · exact c
            · exact absurd ⟨q2.1, by omega, q2.2.2⟩ q1
          subst e
          have := hs q2.2.2
          rw [q2.1]
          omega
        · rw [if_neg q2]
    refine b_X6_shortenFrom_26 Y'.1 rfl Y'.2.2.2.1 (t * 5 + j9) (hI_ij (q := 5) (by omega) (by omega) (by omega)) (by omega) rfl Y'.2.1 j9 (hI_at rfl (by omega)) (by omega) (fun c2 => ?_) (fun c2 => ?_)
    · have c2 := (hc.not0 (by omega)).mp c2
      refine b_X6_shortenFrom_80 ?_
      rw [hI_1]
      exact ih (by omega) h' sf' _ Y' F' (step0 fun z => by rw [c2] at z; cases z)
    · have c2 := mt (hc.not0 (by omega)).mpr c2
      rw [Bool.not_eq_false] at c2
      rw [m1, hI_add]
      refine b_X6_shortenFrom_51 Y'.1 rfl Y'.2.2.2.1 (f * 5 + j9) (hI_ij (q := 5) (by omega) (by omega) (by omega)) (by omega) (fun c3 => ?_) (fun c3 => ?_)
      · rw [m2, hI_le (by omega) (by omega)] at c3
        refine b_X6_shortenFrom_80 ?_
        rw [hI_1]
        exact ih (by omega) h' sf' _ Y' F' (step0 fun _ => c3)
      · rw [m2, hI_le (by omega) (by omega)] at c3
        refine b_X6_shortenFrom_67 Y'.1 rfl Y'.2.2.2.1 (by omega) (f * 5 + j9) (hI_ij (q := 5) (by omega) (by omega) (by omega)) (by omega) rfl ?_
        rw [hI_1]
        refine ih (by omega) _ _ _ Y'.set16 (F'.set (by omega)) ((M'.up (a := f) (show j9 < 5 by omega)).to fun i j hi hj => ?_)
        by_cases q0 : i = f ∧ j = j9
        · obtain ⟨q1, q2⟩ := q0
          subst q1 q2
          rw [if_pos ⟨rfl, rfl⟩, if_pos ⟨rfl, by omega, c2⟩]
          omega
        · rw [if_neg q0]
          by_cases q1 : i = f ∧ j < j9 ∧ cm j = true
          · rw [if_pos q1, if_pos ⟨q1.1, by omega, q1.2.2⟩]
          · rw [if_neg q1, if_neg]
            rintro ⟨z1, z2, z3⟩
            exact q1 ⟨z1, by omega, z3⟩
theorem s_shorten (HW : hW h n m w num pw) (Y : hYs h cf lf sf tf) (hc : hYc cf cm) {L : Nat → Nat → Int} (hl : hYm lf L) (hcm : ∀ e, cm e = true → e < m) (hL : hy_bd m cm L 198) (hF : ∀ i j, (cm i = false ∨ cm j = false) → L i j = 1000000) {K : hk_H → Prop} (hk : ∀ h' sf', hYs h' cf lf sf' tf → hYf h h' → hYm sf' (hy_fl m cm L m) → K h') : hk_Cv G m_X6_shorten (d + 1) 0 0 [.ref 13] h K := by
  obtain ⟨w1, w2, w3, w4, hn, hm, hw6, hnum⟩ := id HW
  refine ⟨Nat.le_of_ble_eq_true rfl, ?_⟩
  refine b_X6_shorten_0 Y.1 rfl rfl Y.2.2.1 (by omega) 0 0 25 Y.2.2.1 Y.2.2.2.1 (by omega) (by omega) rfl rfl rfl (by omega) (by omega) rfl ?_
  have M0 : hYm (va_cpy lf sf 0 0 25) (hy_fl m cm L 0) := fun i j hi hj => by
    unfold va_cpy
    rw [if_pos ⟨by omega, by omega⟩]
    rw [show 0 + (i * 5 + j - 0) = i * 5 + j by omega]
    exact hl i j hi hj
  refine hk_upto (P := fun t => ∀ h' sf' (o2 : Option Value), hk_c1 o2 → hYs h' cf lf sf' tf → hYf h h' → hYm sf' (hy_fl m cm L t) → hk_S G m_X6_shorten (d + 1) 0 0 20 [some (.ref 13), some (.int (hI (t : Int))), o2] [] h' (fun o h' => o = .inl none ∧ K h')) m (fun t ht ih h' sf' o2 q2 Y' F' M' => ?_) _ _ none hk_c10 Y.set16 (hYf.rf.set (by omega)) M0
  refine b_X6_shorten_20 Y'.1 rfl (F'.wl HW).1 rfl (fun cc => ?_) (fun cc => ?_)
  · rw [hN_le (by omega) (by omega)] at cc
    have e : t = m := by omega
    subst e
    exact b_X6_shorten_80 ⟨rfl, hk h' sf' Y' F' M'⟩
  · rw [hN_le (by omega) (by omega)] at cc
    refine b_X6_shorten_31 ?_
    refine hk_upto (P := fun f => ∀ h' sf', hYs h' cf lf sf' tf → hYf h h' → hYm sf' (hy_st m cm (hy_fl m cm L t) t f) → hk_S G m_X6_shorten (d + 1) 0 0 33 [some (.ref 13), some (.int (hI (t : Int))), some (.int (hI (f : Int)))] [] h' (fun o h' => o = .inl none ∧ K h')) m (fun f hf ih2 h' sf' Y' F' M' => ?_) h' sf' Y' F' M'
    refine b_X6_shorten_33 Y'.1 rfl (F'.wl HW).1 rfl (fun c2 => ?_) (fun c2 => ?_)
    · rw [hN_le (by omega) (by omega)] at c2
      have e : f = m := by omega
      rw [e] at M'
      refine b_X6_shorten_74 ?_
      rw [hI_1]
      exact ih (by omega) h' sf' _ hk_c1i Y' F' M'
    · rw [hN_le (by omega) (by omega)] at c2
      have skip : ¬ (cm t = true ∧ cm f = true) → hk_S G m_X6_shorten (d + 1) 0 0 68 [some (.ref 13), some (.int (hI (t : Int))), some (.int (hI (f : Int)))] [] h' (fun o h' => o = .inl none ∧ K h') := by
        intro hno
        refine b_X6_shorten_68 ?_
        rw [hI_1]
        refine ih2 (by omega) h' sf' Y' F' ?_
        unfold hy_st
        rw [if_neg hno]
        exact M'
      refine b_X6_shorten_44 Y'.1 rfl Y'.2.1 t (hI_at rfl (by omega)) (by omega) (fun c3 => ?_) (fun c3 => ?_)
      · have c3 := (hc.not0 (by omega)).mp c3
        exact skip fun z => by rw [c3] at z; cases z.1
      · have c3 := mt (hc.not0 (by omega)).mpr c3
        rw [Bool.not_eq_false] at c3
        refine b_X6_shorten_53 Y'.1 rfl Y'.2.1 f (hI_at rfl (by omega)) (by omega) (fun c4 => ?_) (fun c4 => ?_)
        · have c4 := (hc.not0 (by omega)).mp c4
          exact skip fun z => by rw [c4] at z; cases z.2
        · have c4 := mt (hc.not0 (by omega)).mpr c4
          rw [Bool.not_eq_false] at c4
          refine b_X6_shorten_62 Y'.1 (s_shortenFrom (F'.wl HW) Y' hc M' (fun i j => hy_st_ok hm.2 hcm hL hF (by omega) (by omega) i j) (by omega) (by omega) fun h3 sf3 Y3 F3 M3 => ?_)
          refine b_X6_shorten_68 ?_
          rw [hI_1]
          refine ih2 (by omega) h3 sf3 Y3 (F'.tr F3) ?_
          unfold hy_st
          rw [if_pos ⟨c3, c4⟩]
          exact M3
theorem s_hasRound (HW : hW h n m w num pw) (Y : hYs h cf lf sf tf) (hc : hYc cf cm) {L : Nat → Nat → Int} (hl : hYm lf L) (hcm : ∀ e, cm e = true → e < m) (hL : hy_bd m cm L 198) (hF : ∀ i j, (cm i = false ∨ cm j = false) → L i j = 1000000) {K : Int32 → hk_H → Prop} (hk1 : ∀ h' sf', hYs h' cf lf sf' tf → hYf h h' → hYm sf' (hy_fl m cm L m) → (∃ e, e < m ∧ cm e = true ∧ hy_fl m cm L m e e < 0) → K 1 h') (hk0 : ∀ h' sf', hYs h' cf lf sf' tf → hYf h h' → hYm sf' (hy_fl m cm L m) → (¬ ∃ e, e < m ∧ cm e = true ∧ hy_fl m cm L m e e < 0) → K 0 h') : hk_Ci G m_X6_hasRound (d + 2) 0 0 [.ref 13] h K := by
  obtain ⟨w1, w2, w3, w4, hn, hm, hw6, hnum⟩ := id HW
  have hp : (3 : Int) ^ m ≤ 243 ∧ 0 ≤ (3 : Int) ^ m := by
    have : m = 2 ∨ m = 3 ∨ m = 4 ∨ m = 5 := by omega
    rcases this with e | e | e | e <;> subst e <;> decide
  refine ⟨Nat.le_of_ble_eq_true rfl, ?_⟩
  refine b_X6_hasRound_0 Y.1 (s_shorten HW Y hc hl hcm hL hF fun h' sf' Y' F' M' => ?_)
  refine b_X6_hasRound_4 ?_
  refine hk_upto (P := fun e => (∀ x, x < e → cm x = true → 0 ≤ hy_fl m cm L m x x) → hk_S G m_X6_hasRound (d + 2) 0 0 6 [some (.ref 13), some (.int (hI (e : Int)))] [] h' (fun o h' => ∃ x, o = .inl (some (.int x)) ∧ K x h')) m (fun e he ih N => ?_) (fun x hx => by omega)
  refine b_X6_hasRound_6 Y'.1 rfl (F'.wl HW).1 rfl (fun cc => ?_) (fun cc => ?_)
  · rw [hN_le (by omega) (by omega)] at cc
    refine b_X6_hasRound_47 ⟨_, rfl, hk0 h' sf' Y' F' M' ?_⟩
    rintro ⟨x, h1, h2, h3⟩
    have := N x (by omega) h2
    omega
  · rw [hN_le (by omega) (by omega)] at cc
    have next : (cm e = true → 0 ≤ hy_fl m cm L m e e) → hk_S G m_X6_hasRound (d + 2) 0 0 41 [some (.ref 13), some (.int (hI (e : Int)))] [] h' (fun o h' => ∃ x, o = .inl (some (.int x)) ∧ K x h') := by
      intro hn
      refine b_X6_hasRound_41 ?_
      rw [hI_1]
      refine ih (by omega) fun x hx cx => ?_
      by_cases q : x = e
      · subst q; exact hn cx
      · exact N x (by omega) cx
    refine b_X6_hasRound_17 Y'.1 rfl Y'.2.1 e (hI_at rfl (by omega)) (by omega) (fun c3 => ?_) (fun c3 => ?_)
    · have c3 := (hc.not0 (by omega)).mp c3
      exact next fun z => by rw [c3] at z; cases z
    · have c3 := mt (hc.not0 (by omega)).mpr c3
      rw [Bool.not_eq_false] at c3
      have b := hy_fl_b (by omega) hL m (Nat.le_refl _) e e (by omega) c3 (by omega) c3
      have m1 := M' e e (by omega) (by omega)
      refine b_X6_hasRound_26 Y'.1 rfl Y'.2.2.2.1 (e * 5 + e) (hI_ij (q := 5) (by omega) (by omega) (by omega)) (by omega) (fun c4 => ?_) (fun c4 => ?_)
      · rw [m1, show (0 : Int32) = hI 0 from rfl, hI_le (by omega) (by omega)] at c4
        exact next fun _ => c4
      · rw [m1, show (0 : Int32) = hI 0 from rfl, hI_le (by omega) (by omega)] at c4
        exact b_X6_hasRound_39 ⟨_, rfl, hk1 h' sf' Y' F' M' ⟨e, by omega, c3, by omega⟩⟩
theorem hy_fst_is : ∀ c e, (∃ x, e ≤ x ∧ x < e + c ∧ cm x = true) → cm (hy_fst cm c e) = true ∧ hy_fst cm c e < e + c := by
  intro c
  induction c with
  | zero => rintro e ⟨x, h1, h2, _⟩; omega
  | succ c ih =>
    rintro e ⟨x, h1, h2, h3⟩
    unfold hy_fst
    by_cases q : cm e = true
    · rw [if_pos q]; exact ⟨q, by omega⟩
    · rw [if_neg q]
      have := ih (e + 1) ⟨x, by
        by_cases c : x = e
        · subst c; exact absurd h3 q
        · omega, by omega, h3⟩
      exact ⟨this.1, by omega⟩
theorem s_priceOf (HW : hW h n m w num pw) (Y : hYs h cf lf sf tf) (hc : hYc cf cm) {D : Nat → Nat → Int} (hD : hYm sf D) (hex : ∃ x, x < m ∧ cm x = true) {e : Nat} (he : e < m) {K : Int32 → hk_H → Prop} (hk : K (hI (D (hy_fst cm m 0) e)) h) : hk_Ci G m_X6_priceOf d 0 0 [.ref 13, .int (hI e)] h K := by
  obtain ⟨w1, w2, w3, w4, hn, hm, hw6, hnum⟩ := id HW
  refine ⟨Nat.le_of_ble_eq_true rfl, ?_⟩
  refine b_X6_priceOf_0 ?_
  refine hk_upto (P := fun a => hy_fst cm (m - a) a = hy_fst cm m 0 → (∃ x, a ≤ x ∧ x < m ∧ cm x = true) → hk_S G m_X6_priceOf d 0 0 2 [some (.ref 13), some (.int (hI e)), some (.int (hI (a : Int)))] [] h (fun o h' => ∃ x, o = .inl (some (.int x)) ∧ K x h')) m (fun a ha ih eq ex => ?_) rfl (by obtain ⟨x, h1, h2⟩ := hex; exact ⟨x, Nat.zero_le _, h1, h2⟩)
  refine b_X6_priceOf_2 Y.1 rfl HW.1 rfl (fun cc => ?_) (fun cc => ?_)
  · rw [hN_le (by omega) (by omega)] at cc
    obtain ⟨x, h1, h2, h3⟩ := ex
    omega
  · rw [hN_le (by omega) (by omega)] at cc
    have e1 : hy_fst cm (m - a) a = if cm a = true then a else hy_fst cm (m - (a + 1)) (a + 1) := by
      rw [show m - a = (m - (a + 1)) + 1 by omega]; rfl
    rw [e1] at eq
    refine b_X6_priceOf_13 Y.1 rfl Y.2.1 a (hI_at rfl (by omega)) (by omega) (fun c3 => ?_) (fun c3 => ?_)
    · have c3 := (hc.not0 (by omega)).mp c3
      rw [if_neg (by rw [c3]; decide)] at eq
      refine b_X6_priceOf_33 ?_
      rw [hI_1]
      refine ih (by omega) eq ?_
      obtain ⟨x, h1, h2, h3⟩ := ex
      refine ⟨x, ?_, h2, h3⟩
      by_cases q : x = a
      · subst q; rw [c3] at h3; cases h3
      · omega
    · have c3 := mt (hc.not0 (by omega)).mpr c3
      rw [Bool.not_eq_false] at c3
      rw [if_pos c3] at eq
      rw [← eq] at hk
      refine b_X6_priceOf_22 Y.1 rfl Y.2.2.2.1 (a * 5 + e) (hI_ij (q := 5) (by omega) (by omega) (by omega)) (by omega) ⟨_, rfl, ?_⟩
      rw [hD a e (by omega) (by omega)]
      exact hk
end SWz
