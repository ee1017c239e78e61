/-! Bounds of what Floyd makes; the least round, by recursion; lists as sets. -/
section HY2
variable {L : Nat → Nat → Int} {m : Nat} {cm : Nat → Bool}
def hy_bd (m : Nat) (cm : Nat → Bool) (D : Nat → Nat → Int) (B : Int) : Prop := ∀ i j, i < m → cm i = true → j < m → cm j = true → -B ≤ D i j ∧ D i j ≤ B
theorem hy_st_b {D : Nat → Nat → Int} {B : Int} (hB : 0 ≤ B) (hD : hy_bd m cm D B) {t : Nat} (ht : t < m) : ∀ k, k ≤ m → ∀ i j, i < m → cm i = true → j < m → cm j = true → (k ≤ i → hy_st m cm D t k i j = D i j) ∧ (i = t → -(2 * B) ≤ hy_st m cm D t k i j ∧ hy_st m cm D t k i j ≤ 2 * B) ∧ -(3 * B) ≤ hy_st m cm D t k i j ∧ hy_st m cm D t k i j ≤ 3 * B := by
  intro k
  induction k with
  | zero =>
    intro _ i j hi ci hj cj
    have := hD i j hi ci hj cj
    refine ⟨fun _ => rfl, fun _ => ?_, ?_, ?_⟩
    · show -(2 * B) ≤ D i j ∧ D i j ≤ 2 * B; omega
    · show -(3 * B) ≤ D i j; omega
    · show D i j ≤ 3 * B; omega
  | succ k ih =>
    intro hk i j hi ci hj cj
    have ih := ih (by omega)
    obtain ⟨a1, a2, a3, a4⟩ := ih i j hi ci hj cj
    unfold hy_st
    split
    · rename_i e
      unfold hy_sf
      split
      · rename_i e2
        obtain ⟨e2, -, -⟩ := e2
        subst e2
        obtain ⟨b1, b2, b3, b4⟩ := ih i t hi ci ht e.1
        obtain ⟨c1, c2, c3, c4⟩ := ih t j ht e.1 hj cj
        have b1 := b1 (Nat.le_refl _)
        have a1 := a1 (Nat.le_refl _)
        have c2 := c2 rfl
        have d1 := hD i t hi ci ht e.1
        have d2 := hD i j hi ci hj cj
        refine ⟨fun h => by omega, fun h => ?_, ?_, ?_⟩
        · subst h
          have c1 := c1 (Nat.le_refl _)
          have d3 := hD i j hi ci hj cj
          omega
        · omega
        · omega
      · exact ⟨fun h => a1 (by omega), a2, a3, a4⟩
    · exact ⟨fun h => a1 (by omega), a2, a3, a4⟩
theorem hy_fl_b {B : Int} (hB : 0 ≤ B) (hD : hy_bd m cm L B) : ∀ k, k ≤ m → hy_bd m cm (hy_fl m cm L k) (3 ^ k * B) := by
  intro k
  induction k with
  | zero => intro _; simpa [hy_fl] using hD
  | succ k ih =>
    intro hk
    have h1 := ih (by omega)
    have hp : (0 : Int) ≤ 3 ^ k * B := Int.mul_nonneg (Int.pow_nonneg (by decide)) hB
    intro i j hi ci hj cj
    obtain ⟨-, -, h3, h4⟩ := hy_st_b hp h1 (t := k) (by omega) m (Nat.le_refl _) i j hi ci hj cj
    have e : (3 : Int) ^ (k + 1) * B = 3 * (3 ^ k * B) := by rw [Int.pow_succ, Int.mul_comm (3 ^ k) 3, Int.mul_assoc]
    rw [e]
    exact ⟨h3, h4⟩
/-- ends that do not come about are left alone -/
theorem hy_st_no (D : Nat → Nat → Int) (t k i j : Nat) (h : cm i = false ∨ cm j = false) : hy_st m cm D t k i j = D i j := by
  induction k with
  | zero => rfl
  | succ k ih =>
    unfold hy_st
    split
    · rename_i e
      unfold hy_sf
      split
      · rename_i e2
        obtain ⟨e3, -, e5⟩ := e2
        subst e3
        rcases h with h | h
        · rw [e.2] at h; cases h
        · rw [e5] at h; cases h
      · exact ih
    · exact ih
theorem hy_fl_no (D : Nat → Nat → Int) (k i j : Nat) (h : cm i = false ∨ cm j = false) : hy_fl m cm D k i j = D i j := by
  induction k with
  | zero => rfl
  | succ k ih => exact (hy_st_no _ _ _ _ _ h).trans ih
/-- the least of what is there, from b on -/
def hy_fold (g : Nat → Option Int) : Nat → Nat → Int → Int
  | 0, _, b => b
  | c + 1, s, b => hy_fold g c (s + 1) (match g s with
    | some v => min b v
    | none => b)
theorem hy_fold_le (g : Nat → Option Int) : ∀ c s b, hy_fold g c s b ≤ b := by
  intro c
  induction c with
  | zero => intro s b; exact Int.le_refl _
  | succ c ih =>
    intro s b
    refine Int.le_trans (ih _ _) ?_
    cases g s with
    | none => exact Int.le_refl _
    | some v => exact Int.min_le_left _ _
theorem hy_fold_at (g : Nat → Option Int) : ∀ c s b e v, s ≤ e → e < s + c → g e = some v → hy_fold g c s b ≤ v := by
  intro c
  induction c with
  | zero => intro s b e v h1 h2; omega
  | succ c ih =>
    intro s b e v h1 h2 h3
    by_cases q : e = s
    · subst q
      show hy_fold g c (e + 1) (match g e with
        | some v => min b v
        | none => b) ≤ v
      refine Int.le_trans (hy_fold_le _ _ _ _) ?_
      rw [h3]
      exact Int.min_le_right _ _
    · exact ih _ _ e v (by omega) (by omega) h3
theorem hy_fold_is (g : Nat → Option Int) : ∀ c s b, hy_fold g c s b = b ∨ ∃ e, s ≤ e ∧ e < s + c ∧ g e = some (hy_fold g c s b) := by
  intro c
  induction c with
  | zero => intro s b; exact Or.inl rfl
  | succ c ih =>
    intro s b
    show hy_fold g c (s + 1) _ = b ∨ ∃ e, s ≤ e ∧ e < s + (c + 1) ∧ g e = some (hy_fold g c (s + 1) _)
    rcases ih (s + 1) (match g s with
      | some v => min b v
      | none => b) with h | ⟨e, h1, h2, h3⟩
    · rw [h]
      cases q : g s with
      | none => exact Or.inl rfl
      | some v =>
        show min b v = b ∨ ∃ e, s ≤ e ∧ e < s + (c + 1) ∧ g e = some (min b v)
        rcases Int.le_total b v with hv | hv
        · exact Or.inl (Int.min_eq_left hv)
        · rw [Int.min_eq_right hv]
          exact Or.inr ⟨s, Nat.le_refl _, by omega, q⟩
    · exact Or.inr ⟨e, by omega, by omega, h3⟩
/-- as the reference goes: the least round from first, being at `a` with `g` gone and the sum s -/
def hy_lr (m : Nat) (cm : Nat → Bool) (L : Nat → Nat → Int) (f : Nat) : Nat → Nat → Nat → Int → Int
  | 0, a, _, s => hy_fold (fun e => if cm e = true then (if e = f then (if a ≠ f then some (s + L a f) else none) else none) else none) (m - f) f 1000000
  | k + 1, a, g, s => hy_fold (fun e => if cm e = true then (if e = f then (if a ≠ f then some (s + L a f) else none) else if hh_mem g e = false then some (hy_lr m cm L f k e (g + 2 ^ e) (s + L a e)) else none) else none) (m - f) f 1000000
def hy_least (m : Nat) (cm : Nat → Bool) (L : Nat → Nat → Int) : Int := hy_fold (fun e => if cm e = true then some (hy_lr m cm L e 4 e (2 ^ e) 0) else none) m 0 1000000
/-- how many are not gone yet -/
def hy_free (f g : Nat) : Nat → Nat
  | 0 => 0
  | m + 1 => hy_free f g m + if f < m ∧ hh_mem g m = false then 1 else 0
theorem hy_b1 : ∀ g : Fin 32, ∀ e : Fin 5, hh_mem g e = false → g.val + 2 ^ e.val < 32 ∧ ∀ x : Fin 5, hh_mem (g.val + 2 ^ e.val) x = (hh_mem g x || x == e) := by decide +kernel
theorem hy_b2 : ∀ m : Fin 6, ∀ f : Fin 5, ∀ g : Fin 32, ∀ e : Fin 5, f < e → e.val < m.val → hh_mem g e = false → hy_free f (g.val + 2 ^ e.val) m + 1 = hy_free f g m := by decide +kernel
theorem hy_b3 : ∀ m : Fin 6, ∀ f : Fin 5, hy_free f (2 ^ f.val) m ≤ 4 := by decide +kernel
theorem hy_b4 : ∀ m : Fin 6, ∀ g : Fin 32, ∀ e : Fin 5, g.val < 2 ^ m.val → e.val < m.val → hh_mem g e = false → g.val + 2 ^ e.val < 2 ^ m.val := by decide +kernel
theorem hy_b5 : ∀ e : Fin 5, ∀ x : Fin 5, hh_mem (2 ^ e.val) x = (x == e) := by decide +kernel
/-- what may still come behind `a` -/
def hy_ext (m : Nat) (cm : Nat → Bool) (f g : Nat) (l : List Nat) : Prop := l.Nodup ∧ ∀ x ∈ l, f < x ∧ x < m ∧ cm x = true ∧ hh_mem g x = false
theorem hy_lr_le (hm : m ≤ 5) {f : Nat} (hf : f < m) (cf : cm f = true) : ∀ k a g s l, g < 32 → hy_free f g m ≤ k → hy_ext m cm f g l → (a ≠ f ∨ l ≠ []) → hy_lr m cm L f k a g s ≤ s + hy_ps L (a :: l ++ [f]) := by
  intro k
  induction k with
  | zero =>
    intro a g s l hg hk hl ha
    cases l with
    | nil =>
      have ha : a ≠ f := by rcases ha with h | h; exact h; exact absurd rfl h
      unfold hy_lr
      refine Int.le_trans (hy_fold_at _ _ _ _ f (s + L a f) (Nat.le_refl _) (by omega) ?_) ?_
      · rw [if_pos cf, if_pos rfl, if_pos ha]
      · simp [hy_ps]
    | cons x l =>
      obtain ⟨h1, h2, h3, h4⟩ := hl.2 x List.mem_cons_self
      have := hy_b2 ⟨m, by omega⟩ ⟨f, by omega⟩ ⟨g, hg⟩ ⟨x, by omega⟩ h1 h2 h4
      simp only at this
      omega
  | succ k ih =>
    intro a g s l hg hk hl ha
    unfold hy_lr
    cases l with
    | nil =>
      have ha : a ≠ f := by rcases ha with h | h; exact h; exact absurd rfl h
      refine Int.le_trans (hy_fold_at _ _ _ _ f (s + L a f) (Nat.le_refl _) (by omega) ?_) ?_
      · rw [if_pos cf, if_pos rfl, if_pos ha]
      · simp [hy_ps]
    | cons x l =>
      obtain ⟨h1, h2, h3, h4⟩ := hl.2 x List.mem_cons_self
      have b2 := hy_b2 ⟨m, by omega⟩ ⟨f, by omega⟩ ⟨g, hg⟩ ⟨x, by omega⟩ h1 h2 h4
      obtain ⟨b1, b1'⟩ := hy_b1 ⟨g, hg⟩ ⟨x, by omega⟩ h4
      simp only at b2 b1 b1'
      refine Int.le_trans (hy_fold_at _ _ _ _ x (hy_lr m cm L f k x (g + 2 ^ x) (s + L a x)) (by omega) (by omega) ?_) ?_
      · rw [if_pos h3, if_neg (by omega), if_pos h4]
      · have hnd := List.nodup_cons.mp hl.1
        refine Int.le_trans (ih x (g + 2 ^ x) (s + L a x) l b1 (by omega) ⟨hnd.2, fun y hy => ?_⟩ (Or.inl (by omega))) ?_
        · obtain ⟨y1, y2, y3, y4⟩ := hl.2 y (List.mem_cons_of_mem _ hy)
          refine ⟨y1, y2, y3, ?_⟩
          have := b1' ⟨y, by omega⟩
          simp only at this
          rw [this, y4, Bool.false_or, beq_eq_false_iff_ne]
          intro e
          have e : y = x := congrArg Fin.val e
          subst e
          exact hnd.1 hy
        · simp only [List.cons_append, hy_ps]; omega
theorem hy_lr_is (hm : m ≤ 5) {f : Nat} (hf : f < m) : ∀ k a g s, g < 32 → hy_lr m cm L f k a g s = 1000000 ∨ ∃ l, hy_ext m cm f g l ∧ (a ≠ f ∨ l ≠ []) ∧ hy_lr m cm L f k a g s = s + hy_ps L (a :: l ++ [f]) := by
  intro k
  induction k with
  | zero =>
    intro a g s hg
    have hq : hy_lr m cm L f 0 a g s = 1000000 ∨ ∃ e, f ≤ e ∧ e < f + (m - f) ∧ (if cm e = true then (if e = f then (if a ≠ f then some (s + L a f) else none) else none) else none) = some (hy_lr m cm L f 0 a g s) := hy_fold_is _ _ _ _
    generalize hy_lr m cm L f 0 a g s = v at hq ⊢
    rcases hq with h | ⟨e, h1, h2, h3⟩
    · exact Or.inl h
    · right
      split at h3
      · split at h3
        · split at h3
          · rename_i ha
            refine ⟨[], ⟨List.nodup_nil, fun x hx => by cases hx⟩, Or.inl ha, ?_⟩
            rw [← Option.some.inj h3]
            simp [hy_ps]
          · cases h3
        · cases h3
      · cases h3
  | succ k ih =>
    intro a g s hg
    have hq : hy_lr m cm L f (k + 1) a g s = 1000000 ∨ ∃ e, f ≤ e ∧ e < f + (m - f) ∧ (if cm e = true then (if e = f then (if a ≠ f then some (s + L a f) else none) else if hh_mem g e = false then some (hy_lr m cm L f k e (g + 2 ^ e) (s + L a e)) else none) else none) = some (hy_lr m cm L f (k + 1) a g s) := hy_fold_is _ _ _ _
    generalize hy_lr m cm L f (k + 1) a g s = v at hq ⊢
    rcases hq with h | ⟨e, h1, h2, h3⟩
    · exact Or.inl h
    · split at h3
      · rename_i ce
        split at h3
        · split at h3
          · rename_i ha
            right
            refine ⟨[], ⟨List.nodup_nil, fun x hx => by cases hx⟩, Or.inl ha, ?_⟩
            rw [← Option.some.inj h3]
            simp [hy_ps]
          · cases h3
        · rename_i hef
          split at h3
          · rename_i hme
            rw [← Option.some.inj h3]
            obtain ⟨b1, b1'⟩ := hy_b1 ⟨g, hg⟩ ⟨e, by omega⟩ hme
            simp only at b1 b1'
            rcases ih e (g + 2 ^ e) (s + L a e) b1 with h | ⟨l, l1, l2, l3⟩
            · exact Or.inl h
            · right
              have key : ∀ y, y < m → hh_mem (g + 2 ^ e) y = false → hh_mem g y = false ∧ y ≠ e := fun y hy hyy => by
                have := b1' ⟨y, by omega⟩
                simp only at this
                rw [this, Bool.or_eq_false_iff, beq_eq_false_iff_ne] at hyy
                exact ⟨hyy.1, fun c => hyy.2 (Fin.ext c)⟩
              refine ⟨e :: l, ⟨List.nodup_cons.mpr ⟨fun c => ?_, l1.1⟩, fun y hy => ?_⟩, Or.inr (by simp), ?_⟩
              · obtain ⟨_, q2, _, q4⟩ := l1.2 e c
                exact (key e q2 q4).2 rfl
              · rcases List.mem_cons.mp hy with c | c
                · subst c; exact ⟨by omega, by omega, ce, hme⟩
                · obtain ⟨q1, q2, q3, q4⟩ := l1.2 y c
                  exact ⟨q1, q2, q3, (key y q2 q4).1⟩
              · rw [l3]; simp only [List.cons_append, hy_ps]; omega
          · cases h3
      · cases h3
theorem hy_ok_ext (hm : m ≤ 5) {f : Nat} (hf : f < m) {l : List Nat} : hy_ok m cm f l ↔ hy_ext m cm f (2 ^ f) l := by
  constructor
  · rintro ⟨h1, h2⟩
    refine ⟨h1, fun x hx => ?_⟩
    obtain ⟨a, b, c⟩ := h2 x hx
    refine ⟨a, b, c, ?_⟩
    have := hy_b5 ⟨f, by omega⟩ ⟨x, by omega⟩
    simp only at this
    rw [this, beq_eq_false_iff_ne]
    intro e
    have e : x = f := congrArg Fin.val e
    omega
  · rintro ⟨h1, h2⟩
    exact ⟨h1, fun x hx => ⟨(h2 x hx).1, (h2 x hx).2.1, (h2 x hx).2.2.1⟩⟩
theorem hy_p32 {f : Nat} (h : f < 5) : 2 ^ f < 32 := Nat.pow_lt_pow_right (by omega) h
theorem hy_least_le (hm : m ≤ 5) {f : Nat} (hf : f < m) (cf : cm f = true) {l : List Nat} (hl : hy_ok m cm f l) (hne : l ≠ []) : hy_least m cm L ≤ hy_ps L (f :: l ++ [f]) := by
  unfold hy_least
  have b3 := hy_b3 ⟨m, by omega⟩ ⟨f, by omega⟩
  simp only at b3
  refine Int.le_trans (hy_fold_at _ _ _ _ f _ (by omega) (by omega) (if_pos cf)) ?_
  have := hy_lr_le (L := L) hm hf cf 4 f (2 ^ f) 0 l (hy_p32 (by omega)) b3 ((hy_ok_ext hm hf).mp hl) (Or.inr hne)
  omega
theorem hy_least_is (hm : m ≤ 5) : hy_least m cm L = 1000000 ∨ ∃ f l, f < m ∧ cm f = true ∧ hy_ok m cm f l ∧ l ≠ [] ∧ hy_least m cm L = hy_ps L (f :: l ++ [f]) := by
  have hq : hy_least m cm L = 1000000 ∨ ∃ e, 0 ≤ e ∧ e < 0 + m ∧ (if cm e = true then some (hy_lr m cm L e 4 e (2 ^ e) 0) else none) = some (hy_least m cm L) := hy_fold_is _ _ _ _
  generalize hy_least m cm L = v at hq ⊢
  rcases hq with h | ⟨e, h1, h2, h3⟩
  · exact Or.inl h
  · split at h3
    · rename_i ce
      rw [← Option.some.inj h3]
      rcases hy_lr_is (cm := cm) (L := L) hm (f := e) (by omega) 4 e (2 ^ e) 0 (hy_p32 (by omega)) with h | ⟨l, l1, l2, l3⟩
      · exact Or.inl h
      · exact Or.inr ⟨e, l, by omega, ce, (hy_ok_ext hm (by omega)).mpr l1, by rcases l2 with h | h; exact absurd rfl h; exact h, by rw [l3]; omega⟩
    · cases h3
/-- the two ways to know that there is a round below 0 -/
theorem hy_least_fl (hm : m ≤ 5) (h0 : ∀ e, e < m → cm e = true → L e e = 0) : hy_least m cm L < 0 ↔ ∃ e, e < m ∧ cm e = true ∧ hy_fl m cm L m e e < 0 := by
  rw [hy_fl_round]
  constructor
  · intro h
    rcases hy_least_is (cm := cm) (L := L) hm with e | ⟨f, l, h1, h2, h3, _, h5⟩
    · omega
    · exact ⟨f, l, h1, h2, h3, by omega⟩
  · rintro ⟨s, l, h1, h2, h3, h4⟩
    have hne : l ≠ [] := fun e => by
      subst e
      have := h0 s h1 h2
      simp [hy_ps, this] at h4
    have := hy_least_le (L := L) hm h1 h2 h3 hne
    omega
/-- sets -/
def hy_mk : List Nat → Nat
  | [] => 0
  | a :: l => 2 ^ a + hy_mk l
theorem hy_mk_mem : ∀ l : List Nat, l.Nodup → (∀ x ∈ l, x < 5) → hy_mk l < 32 ∧ ∀ x, x < 5 → (hh_mem (hy_mk l) x = true ↔ x ∈ l) := by
  intro l
  induction l with
  | nil =>
    intro _ _
    refine ⟨by show 0 < 32; omega, fun x _ => ?_⟩
    simp [hy_mk, hh_mem]
  | cons a l ih =>
    intro h1 h2
    have hnd := List.nodup_cons.mp h1
    obtain ⟨i1, i2⟩ := ih hnd.2 (fun x hx => h2 x (List.mem_cons_of_mem _ hx))
    have ha : a < 5 := h2 a List.mem_cons_self
    have hma : hh_mem (hy_mk l) a = false := by
      rw [← Bool.not_eq_true]
      exact fun c => hnd.1 ((i2 a ha).mp c)
    obtain ⟨b1, b1'⟩ := hy_b1 ⟨hy_mk l, i1⟩ ⟨a, ha⟩ hma
    simp only at b1 b1'
    have e : hy_mk (a :: l) = hy_mk l + 2 ^ a := by show 2 ^ a + hy_mk l = _; omega
    rw [e]
    refine ⟨b1, fun x hx => ?_⟩
    have := b1' ⟨x, hx⟩
    simp only at this
    rw [this, Bool.or_eq_true, i2 x hx, List.mem_cons, beq_iff_eq, Fin.ext_iff]
    simp only
    exact Or.comm
theorem hy_mk_lt (hm : m ≤ 5) : ∀ l : List Nat, l.Nodup → (∀ x ∈ l, x < m) → hy_mk l < 2 ^ m := by
  intro l
  induction l with
  | nil => intro _ _; exact Nat.pow_pos (by omega)
  | cons a l ih =>
    intro h1 h2
    have hnd := List.nodup_cons.mp h1
    have i0 := ih hnd.2 (fun x hx => h2 x (List.mem_cons_of_mem _ hx))
    obtain ⟨i1, i2⟩ := hy_mk_mem l hnd.2 (fun x hx => by have := h2 x (List.mem_cons_of_mem _ hx); omega)
    have ha : a < m := h2 a List.mem_cons_self
    have hma : hh_mem (hy_mk l) a = false := by
      rw [← Bool.not_eq_true]
      exact fun c => hnd.1 ((i2 a (by omega)).mp c)
    have := hy_b4 ⟨m, by omega⟩ ⟨hy_mk l, i1⟩ ⟨a, by omega⟩ i0 ha hma
    simp only at this
    show 2 ^ a + hy_mk l < 2 ^ m
    omega
theorem hy_mk_app (l : List Nat) (x : Nat) : hy_mk (l ++ [x]) = hy_mk l + 2 ^ x := by
  induction l with
  | nil => show 2 ^ x + 0 = 0 + 2 ^ x; omega
  | cons a l ih =>
    show 2 ^ a + hy_mk (l ++ [x]) = 2 ^ a + hy_mk l + 2 ^ x
    omega
/-- the last of s and those behind it -/
def hy_la (s : Nat) : List Nat → Nat
  | [] => s
  | a :: l => hy_la a l
theorem hy_la_app (s : Nat) (l : List Nat) (x : Nat) : hy_la s (l ++ [x]) = x := by
  induction l generalizing s with
  | nil => rfl
  | cons a l ih => exact ih a
theorem hy_ps_la (s : Nat) (l : List Nat) (x : Nat) : hy_ps L (s :: l ++ [x]) = hy_ps L (s :: l) + L (hy_la s l) x := by
  induction l generalizing s with
  | nil => simp [hy_ps, hy_la]
  | cons a l ih =>
    have := ih a
    simp only [List.cons_append, hy_ps, hy_la] at this ⊢
    omega
theorem hy_la_mem (s : Nat) (l : List Nat) : hy_la s l = s ∨ hy_la s l ∈ l := by
  induction l generalizing s with
  | nil => exact Or.inl rfl
  | cons a l ih =>
    right
    rcases ih a with h | h
    · show hy_la a l ∈ a :: l
      rw [h]; exact List.mem_cons_self
    · exact List.mem_cons_of_mem _ h
theorem hy_snoc : ∀ l : List Nat, l = [] ∨ ∃ l' x, l = l' ++ [x] := by
  intro l
  rcases List.eq_nil_or_concat l with h | ⟨l', x, h⟩
  · exact Or.inl h
  · exact Or.inr ⟨l', x, by rw [h]; simp⟩
/-- sums of rounds are small -/
theorem hy_ps_b {B : Int} (hL : hy_bd m cm L B) : ∀ (l : List Nat) (s : Nat), s < m → cm s = true → (∀ x ∈ l, x < m ∧ cm x = true) → -(B * l.length) ≤ hy_ps L (s :: l) ∧ hy_ps L (s :: l) ≤ B * l.length := by
  intro l
  induction l with
  | nil => intro s _ _ _; simp [hy_ps]
  | cons a l ih =>
    intro s hs cs hl
    have ha := hl a List.mem_cons_self
    have h1 := ih a ha.1 ha.2 (fun x hx => hl x (List.mem_cons_of_mem _ hx))
    have h2 := hL s a hs cs ha.1 ha.2
    simp only [List.length_cons, hy_ps]
    have e : B * ((l.length + 1 : Nat) : Int) = B * (l.length : Int) + B := by
      rw [Int.natCast_add, Int.mul_add]; simp
    rw [e]
    omega
theorem hy_len4 (hm : m ≤ 5) : ∀ l : List Nat, l.Nodup → (∀ x ∈ l, x < m) → l.length ≤ 5 := by
  intro l h1 h2
  have key : ∀ (k : Nat) (l : List Nat), l.Nodup → (∀ x ∈ l, x < k) → l.length ≤ k := by
    intro k
    induction k with
    | zero =>
      intro l _ h
      cases l with
      | nil => exact Nat.le_refl _
      | cons a l => exact absurd (h a List.mem_cons_self) (by omega)
    | succ k ih =>
      intro l h1 h2
      by_cases q : k ∈ l
      · have h3 := ih (l.erase k) (h1.erase k) (fun x hx => by
          have := (h1.mem_erase_iff).mp hx
          have := h2 x this.2
          omega)
        rw [List.length_erase_of_mem q] at h3
        omega
      · have := ih l h1 (fun x hx => by
          have h3 := h2 x hx
          have : x ≠ k := fun e => q (by rw [← e]; exact hx)
          omega)
        omega
  have := key m l h1 h2
  omega
end HY2
