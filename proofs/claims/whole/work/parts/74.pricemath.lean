/-! Prices: what Floyd makes is what going over all lengths again and again makes. -/
def hz_rel (cm : Nat → Bool) (L : Nat → Nat → Int) (p : Nat → Int) (e f : Nat) : Nat → Int := if cm e = true ∧ cm f = true ∧ p e < 1000000 then (fun x => if x = f then min (p f) (p e + L e f) else p x) else p
def hz_f (cm : Nat → Bool) (L : Nat → Nat → Int) (p : Nat → Int) (e : Nat) : Nat → Nat → Int
  | 0 => p
  | k + 1 => hz_rel cm L (hz_f cm L p e k) e k
def hz_e (m : Nat) (cm : Nat → Bool) (L : Nat → Nat → Int) (p : Nat → Int) : Nat → Nat → Int
  | 0 => p
  | k + 1 => hz_f cm L (hz_e m cm L p k) k m
def hz_k (m : Nat) (cm : Nat → Bool) (L : Nat → Nat → Int) (p : Nat → Int) : Nat → Nat → Int
  | 0 => p
  | k + 1 => hz_e m cm L (hz_k m cm L p k) m
def hz_0 (s : Nat) : Nat → Int := fun f => if f = s then 0 else 1000000
def hz_cnt (b : Nat → Bool) : Nat → Nat
  | 0 => 0
  | k + 1 => hz_cnt b k + if b k = true then 1 else 0
theorem hz_cnt_le {b b' : Nat → Bool} : ∀ k, (∀ i, i < k → b' i = true → b i = true) → hz_cnt b' k ≤ hz_cnt b k := by
  intro k
  induction k with
  | zero => intro _; exact Nat.le_refl _
  | succ k ih =>
    intro h
    have h1 := ih (fun i hi => h i (by omega))
    have h2 := h k (by omega)
    unfold hz_cnt
    by_cases q : b' k = true
    · rw [if_pos q, if_pos (h2 q)]; omega
    · rw [if_neg q]; omega
theorem hz_cnt_lt {b b' : Nat → Bool} : ∀ k, (∀ i, i < k → b' i = true → b i = true) → (∃ g, g < k ∧ b g = true ∧ b' g = false) → hz_cnt b' k < hz_cnt b k := by
  intro k
  induction k with
  | zero => rintro _ ⟨g, hg, _⟩; omega
  | succ k ih =>
    rintro h ⟨g, hg, h1, h2⟩
    unfold hz_cnt
    by_cases q : g = k
    · subst q
      have := hz_cnt_le g (fun i hi => h i (by omega))
      rw [if_pos h1, if_neg (by rw [h2]; decide)]
      omega
    · have h3 := ih (fun i hi => h i (by omega)) ⟨g, by omega, h1, h2⟩
      have h4 := h k (by omega)
      by_cases q2 : b' k = true
      · rw [if_pos q2, if_pos (h4 q2)]; omega
      · rw [if_neg q2]; omega
theorem hz_cnt_0 {b : Nat → Bool} : ∀ k, hz_cnt b k = 0 → ∀ i, i < k → b i = false := by
  intro k
  induction k with
  | zero => intro _ i hi; omega
  | succ k ih =>
    intro h i hi
    unfold hz_cnt at h
    by_cases q : b k = true
    · rw [if_pos q] at h; omega
    · by_cases e : i = k
      · subst e; rw [Bool.not_eq_true] at q; exact q
      · exact ih (by omega) i (by omega)
theorem hz_cnt_b {b : Nat → Bool} : ∀ k, hz_cnt b k ≤ k := by
  intro k
  induction k with
  | zero => exact Nat.le_refl _
  | succ k ih => unfold hz_cnt; split <;> omega
section HZ
variable {L : Nat → Nat → Int} {m : Nat} {cm : Nat → Bool}
theorem hz_rel_le (p : Nat → Int) (e f x : Nat) : hz_rel cm L p e f x ≤ p x := by
  unfold hz_rel
  split
  · show (if x = f then _ else _) ≤ _
    by_cases q : x = f
    · rw [if_pos q, q]; exact Int.min_le_left _ _
    · rw [if_neg q]; exact Int.le_refl _
  · exact Int.le_refl _
theorem hz_f_le (p : Nat → Int) (e x : Nat) {k k' : Nat} (h : k ≤ k') : hz_f cm L p e k' x ≤ hz_f cm L p e k x := by
  induction k' with
  | zero => rw [show k = 0 by omega]; exact Int.le_refl _
  | succ k' ih =>
    by_cases q : k = k' + 1
    · rw [q]; exact Int.le_refl _
    · exact Int.le_trans (hz_rel_le _ _ _ _) (ih (by omega))
theorem hz_e_le (p : Nat → Int) (x : Nat) {k k' : Nat} (h : k ≤ k') : hz_e m cm L p k' x ≤ hz_e m cm L p k x := by
  induction k' with
  | zero => rw [show k = 0 by omega]; exact Int.le_refl _
  | succ k' ih =>
    by_cases q : k = k' + 1
    · rw [q]; exact Int.le_refl _
    · exact Int.le_trans (hz_f_le _ _ _ (Nat.zero_le m)) (ih (by omega))
/-- below no price is D -/
theorem hz_lo {D : Nat → Int} (hD : ∀ i j, i < m → cm i = true → j < m → cm j = true → D j ≤ D i + L i j) (p : Nat → Int) (hp : ∀ f, f < m → cm f = true → D f ≤ p f) : (∀ e k, e < m → k ≤ m → ∀ f, f < m → cm f = true → D f ≤ hz_f cm L p e k f) := by
  intro e k he
  induction k with
  | zero => intro _; exact hp
  | succ k ih =>
    intro hk f hf cf
    have h1 := ih (by omega)
    show D f ≤ hz_rel cm L (hz_f cm L p e k) e k f
    unfold hz_rel
    split
    · rename_i q
      show D f ≤ if f = k then _ else _
      split
      · rename_i q2
        subst q2
        have a1 := h1 f hf cf
        have a2 := h1 e he q.1
        have a3 := hD e f he q.1 hf cf
        omega
      · exact h1 f hf cf
    · exact h1 f hf cf
theorem hz_lo_e {D : Nat → Int} (hD : ∀ i j, i < m → cm i = true → j < m → cm j = true → D j ≤ D i + L i j) (p : Nat → Int) (hp : ∀ f, f < m → cm f = true → D f ≤ p f) : ∀ k, k ≤ m → ∀ f, f < m → cm f = true → D f ≤ hz_e m cm L p k f := by
  intro k
  induction k with
  | zero => intro _; exact hp
  | succ k ih =>
    intro hk
    exact hz_lo hD _ (ih (by omega)) k m (by omega) (Nat.le_refl _)
/-- what is right at e is right behind a tight length after a round -/
theorem hz_tight {D : Nat → Int} (hD : ∀ i j, i < m → cm i = true → j < m → cm j = true → D j ≤ D i + L i j) (p : Nat → Int) (hp : ∀ f, f < m → cm f = true → D f ≤ p f) {e g : Nat} (he : e < m) (ce : cm e = true) (hg : g < m) (cg : cm g = true) (hpe : p e = D e) (hb : D e < 1000000) (ht : D g = D e + L e g) : hz_e m cm L p m g = D g := by
  have h1 := hz_lo_e hD p hp
  have h2 := h1 m (Nat.le_refl _) g hg cg
  have h3 : hz_e m cm L p m g ≤ hz_e m cm L p (e + 1) g := hz_e_le _ _ (by omega)
  have h4 : hz_e m cm L p (e + 1) g ≤ hz_f cm L (hz_e m cm L p e) e (g + 1) g := hz_f_le _ _ _ (by omega)
  have h5 : hz_f cm L (hz_e m cm L p e) e g e = D e := by
    have a1 := hz_lo hD _ (h1 e (by omega)) e g he (by omega) e he ce
    have a2 : hz_f cm L (hz_e m cm L p e) e g e ≤ hz_e m cm L p e e := hz_f_le _ _ _ (Nat.zero_le g)
    have a3 : hz_e m cm L p e e ≤ p e := hz_e_le _ _ (Nat.zero_le e)
    omega
  have h6 : hz_f cm L (hz_e m cm L p e) e (g + 1) g ≤ D g := by
    show hz_rel cm L (hz_f cm L (hz_e m cm L p e) e g) e g g ≤ D g
    unfold hz_rel
    rw [if_pos ⟨ce, cg, by omega⟩]
    show (if g = g then _ else _) ≤ D g
    rw [if_pos rfl, h5, ht]
    exact Int.min_le_right _ _
  omega
theorem hz_edge {D : Nat → Int} {s : Nat} (hs : s < m) (cs : cm s = true) (hD0 : D s = 0) (hD : ∀ i j, i < m → cm i = true → j < m → cm j = true → D j ≤ D i + L i j) {p : Nat → Int} (hps : p s = D s) : ∀ (k : Nat) (l : List Nat), l.length ≤ k → (∀ x ∈ l, x < m ∧ cm x = true) → ∀ f, f < m → cm f = true → D f = hy_ps L (s :: l ++ [f]) → p f ≠ D f → ∃ e g, e < m ∧ cm e = true ∧ g < m ∧ cm g = true ∧ p e = D e ∧ p g ≠ D g ∧ D g = D e + L e g := by
  intro k
  induction k with
  | zero =>
    intro l hl hv f hf cf hDf hpf
    have : l = [] := List.length_eq_zero_iff.mp (by omega)
    subst this
    refine ⟨s, f, hs, cs, hf, cf, hps, hpf, ?_⟩
    rw [hDf, hD0]; simp [hy_ps]
  | succ k ih =>
    intro l hl hv f hf cf hDf hpf
    rcases hy_snoc l with e | ⟨l', x, e⟩
    · subst e
      refine ⟨s, f, hs, cs, hf, cf, hps, hpf, ?_⟩
      rw [hDf, hD0]; simp [hy_ps]
    · subst e
      have hx := hv x (by simp)
      have hv' : ∀ y ∈ l', y < m ∧ cm y = true := fun y hy => hv y (by simp [hy])
      have h1 : hy_ps L (s :: (l' ++ [x]) ++ [f]) = hy_ps L (s :: l' ++ [x]) + L x f := by
        have := hy_ps_la (L := L) s (l' ++ [x]) f
        rw [hy_la_app] at this
        exact this
      have h2 := hy_W_pot hD l' s x ⟨hs, cs⟩ hx hv'
      have h3 := hD x f hx.1 hx.2 hf cf
      by_cases q : p x = D x
      · exact ⟨x, f, hx.1, hx.2, hf, cf, q, hpf, by omega⟩
      · exact ih l' (by simp at hl; omega) hv' x hx.1 hx.2 (by omega) q
theorem hz_price {s : Nat} (hs : s < m) (cs : cm s = true) (h0 : ∀ e, e < m → cm e = true → L e e = 0) (hL : hy_bd m cm L 198) (hm : m ≤ 5) (hd : ∀ e, e < m → cm e = true → 0 ≤ hy_fl m cm L m e e) : ∀ f, f < m → cm f = true → hz_k m cm L (hz_0 s) m f = hy_fl m cm L m s f := by
  have tri := hy_fl_tri L hd m (Nat.le_refl _)
  have hD : ∀ i j, i < m → cm i = true → j < m → cm j = true → hy_fl m cm L m s j ≤ hy_fl m cm L m s i + L i j := fun i j hi ci hj cj => by
    have := tri i s j hi ci hs cs hj cj
    have := hy_fl_le (m := m) (cm := cm) L (Nat.zero_le m) i j
    have e : hy_fl m cm L 0 i j = L i j := rfl
    omega
  have hD0 : hy_fl m cm L m s s = 0 := by
    have h1 := hd s hs cs
    have h2 := hy_fl_le (m := m) (cm := cm) L (Nat.zero_le m) s s
    have e : hy_fl m cm L 0 s s = L s s := rfl
    have := h0 s hs cs
    omega
  have hB : ∀ f, f < m → cm f = true → hy_fl m cm L m s f < 1000000 := fun f hf cf => by
    have h1 := hy_fl_b (by omega) hL m (Nat.le_refl _) s f hs cs hf cf
    have h2 : (3 : Int) ^ m ≤ 243 := by
      have : m = 0 ∨ m = 1 ∨ m = 2 ∨ m = 3 ∨ m = 4 ∨ m = 5 := by omega
      rcases this with e | e | e | e | e | e <;> subst e <;> decide
    omega
  have lo : ∀ k, ∀ f, f < m → cm f = true → hy_fl m cm L m s f ≤ hz_k m cm L (hz_0 s) k f := by
    intro k
    induction k with
    | zero =>
      intro f hf cf
      show _ ≤ if f = s then 0 else 1000000
      split
      · rename_i e; subst e; omega
      · have := hB f hf cf; omega
    | succ k ih => exact hz_lo_e hD _ ih m (Nat.le_refl _)
  have at_s : ∀ k, hz_k m cm L (hz_0 s) k s = hy_fl m cm L m s s := by
    intro k
    have h1 := lo k s hs cs
    have h2 : hz_k m cm L (hz_0 s) k s ≤ 0 := by
      clear h1
      induction k with
      | zero => show (if s = s then (0 : Int) else 1000000) ≤ 0; rw [if_pos rfl]; omega
      | succ k ih => exact Int.le_trans (hz_e_le _ _ (Nat.zero_le m)) ih
    omega
  have key : ∀ k, hz_cnt (fun f => cm f && !decide (hz_k m cm L (hz_0 s) k f = hy_fl m cm L m s f)) m ≤ m - k := by
    intro k
    induction k with
    | zero => exact hz_cnt_b m
    | succ k ih =>
      by_cases q : hz_cnt (fun f => cm f && !decide (hz_k m cm L (hz_0 s) k f = hy_fl m cm L m s f)) m = 0
      · have h1 := hz_cnt_le (b := fun f => cm f && !decide (hz_k m cm L (hz_0 s) k f = hy_fl m cm L m s f)) (b' := fun f => cm f && !decide (hz_k m cm L (hz_0 s) (k + 1) f = hy_fl m cm L m s f)) m ?_
        · omega
        · intro i hi hb
          simp only [Bool.and_eq_true, Bool.not_eq_true', decide_eq_false_iff_not] at hb ⊢
          refine ⟨hb.1, fun c => hb.2 ?_⟩
          have h2 := lo (k + 1) i hi hb.1
          have h3 : hz_k m cm L (hz_0 s) (k + 1) i ≤ hz_k m cm L (hz_0 s) k i := hz_e_le _ _ (Nat.zero_le m)
          omega
      · have hex : ∃ f, f < m ∧ cm f = true ∧ hz_k m cm L (hz_0 s) k f ≠ hy_fl m cm L m s f := by
          by_cases c : ∃ f, f < m ∧ cm f = true ∧ hz_k m cm L (hz_0 s) k f ≠ hy_fl m cm L m s f
          · exact c
          · exfalso
            apply q
            have : ∀ j, j ≤ m → hz_cnt (fun f => cm f && !decide (hz_k m cm L (hz_0 s) k f = hy_fl m cm L m s f)) j = 0 := by
              intro j
              induction j with
              | zero => intro _; rfl
              | succ j ihj =>
                intro hj
                unfold hz_cnt
                rw [ihj (by omega), if_neg]
                intro hb
                simp only [Bool.and_eq_true, Bool.not_eq_true', decide_eq_false_iff_not] at hb
                exact c ⟨j, by omega, hb.1, hb.2⟩
            exact this m (Nat.le_refl _)
        obtain ⟨f, hf, cf, hne⟩ := hex
        obtain ⟨l, hl1, hl2⟩ := hy_fl_W (L := L) m (Nat.le_refl _) s f hs cs hf cf
        obtain ⟨e, g, e1, e2, g1, g2, e3, g3, t⟩ := hz_edge (D := fun x => hy_fl m cm L m s x) hs cs hD0 hD (p := hz_k m cm L (hz_0 s) k) (at_s k) l.length l (Nat.le_refl _) hl1 f hf cf hl2 hne
        have h5 := hz_tight (D := fun x => hy_fl m cm L m s x) hD _ (lo k) e1 e2 g1 g2 e3 (hB e e1 e2) t
        have h1 := hz_cnt_lt (b := fun f => cm f && !decide (hz_k m cm L (hz_0 s) k f = hy_fl m cm L m s f)) (b' := fun f => cm f && !decide (hz_k m cm L (hz_0 s) (k + 1) f = hy_fl m cm L m s f)) m ?_ ⟨g, g1, ?_, ?_⟩
        · omega
        · intro i hi hb
          simp only [Bool.and_eq_true, Bool.not_eq_true', decide_eq_false_iff_not] at hb ⊢
          refine ⟨hb.1, fun c => hb.2 ?_⟩
          have h2 := lo (k + 1) i hi hb.1
          have h3 : hz_k m cm L (hz_0 s) (k + 1) i ≤ hz_k m cm L (hz_0 s) k i := hz_e_le _ _ (Nat.zero_le m)
          omega
        · simp only [Bool.and_eq_true, Bool.not_eq_true', decide_eq_false_iff_not]
          exact ⟨g2, g3⟩
        · simp only [Bool.and_eq_false_iff, Bool.not_eq_false', decide_eq_true_eq]
          exact Or.inr h5
  intro f hf cf
  have h1 := key m
  rw [Nat.sub_self] at h1
  have h2 := hz_cnt_0 m (Nat.le_zero.mp h1) f hf
  simp only [Bool.and_eq_false_iff, Bool.not_eq_false', decide_eq_true_eq] at h2
  rcases h2 with h | h
  · rw [cf] at h; cases h
  · exact h
end HZ
