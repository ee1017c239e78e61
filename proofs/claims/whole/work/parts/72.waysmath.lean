/-! Ways from end to end, rounds, and their sums. -/
def hy_ps (L : Nat → Nat → Int) : List Nat → Int
  | [] => 0
  | [_] => 0
  | a :: b :: r => L a b + hy_ps L (b :: r)
def hy_cy (L : Nat → Nat → Int) : List Nat → Int
  | [] => 0
  | a :: r => hy_ps L (a :: r ++ [a])
/-- a round from its least end: the others -/
def hy_ok (m : Nat) (cm : Nat → Bool) (s : Nat) (l : List Nat) : Prop := l.Nodup ∧ ∀ x ∈ l, s < x ∧ x < m ∧ cm x = true
section HY
variable {L : Nat → Nat → Int} {m : Nat} {cm : Nat → Bool}
theorem hy_ps_app : ∀ (x : List Nat) (a : Nat) (y : List Nat), hy_ps L (x ++ a :: y) = hy_ps L (x ++ [a]) + hy_ps L (a :: y) := by
  intro x
  induction x with
  | nil => intro a y; simp [hy_ps]
  | cons c x ih =>
    intro a y
    cases x with
    | nil => simp [hy_ps]
    | cons d x =>
      have := ih a y
      simp only [List.cons_append, hy_ps] at this ⊢
      omega
theorem hy_cy_rot (x y : List Nat) : hy_cy L (x ++ y) = hy_cy L (y ++ x) := by
  cases x with
  | nil => simp
  | cons a x =>
    cases y with
    | nil => simp
    | cons b y =>
      have h1 := hy_ps_app (L := L) (a :: x) b (y ++ [a])
      have h2 := hy_ps_app (L := L) (b :: y) a (x ++ [b])
      simp only [hy_cy, List.cons_append, List.append_assoc] at h1 h2 ⊢
      omega
theorem hy_dup : ∀ c : List Nat, c.Nodup ∨ ∃ x a y z, c = x ++ a :: y ++ a :: z := by
  intro c
  induction c with
  | nil => exact Or.inl List.nodup_nil
  | cons b c ih =>
    by_cases h : b ∈ c
    · obtain ⟨y, z, e⟩ := List.append_of_mem h
      exact Or.inr ⟨[], b, y, z, by rw [e]; simp⟩
    · rcases ih with h1 | ⟨x, a, y, z, e⟩
      · exact Or.inl (List.nodup_cons.mpr ⟨h, h1⟩)
      · exact Or.inr ⟨b :: x, a, y, z, by rw [e]; simp⟩
theorem hy_cy_dup (x : List Nat) (a : Nat) (y z : List Nat) : hy_cy L (x ++ a :: y ++ a :: z) = hy_cy L (a :: y) + hy_cy L (a :: (z ++ x)) := by
  have h1 := hy_cy_rot (L := L) x (a :: y ++ a :: z)
  have h2 := hy_ps_app (L := L) (a :: y) a (z ++ x ++ [a])
  simp only [hy_cy, List.cons_append, List.append_assoc] at h1 h2 ⊢
  omega
theorem hy_simple : ∀ k (c : List Nat), c.length ≤ k → (∀ x ∈ c, x < m ∧ cm x = true) → hy_cy L c < 0 → ∃ c' : List Nat, c'.Nodup ∧ (∀ x ∈ c', x < m ∧ cm x = true) ∧ hy_cy L c' < 0 := by
  intro k
  induction k with
  | zero =>
    intro c hl hv hn
    have : c = [] := List.length_eq_zero_iff.mp (by omega)
    subst this
    simp [hy_cy] at hn
  | succ k ih =>
    intro c hl hv hn
    rcases hy_dup c with h | ⟨x, a, y, z, e⟩
    · exact ⟨c, h, hv, hn⟩
    · subst e
      rw [hy_cy_dup] at hn
      simp only [List.length_append, List.length_cons] at hl
      by_cases c1 : hy_cy L (a :: y) < 0
      · refine ih (a :: y) (by simp only [List.length_cons]; omega) (fun b hb => hv b ?_) c1
        simp only [List.mem_append, List.mem_cons] at hb ⊢
        rcases hb with hb | hb
        · exact Or.inl (Or.inr (Or.inl hb))
        · exact Or.inl (Or.inr (Or.inr hb))
      · refine ih (a :: (z ++ x)) (by simp only [List.length_cons, List.length_append]; omega) (fun b hb => hv b ?_) (by omega)
        simp only [List.mem_append, List.mem_cons] at hb ⊢
        rcases hb with hb | hb | hb
        · exact Or.inl (Or.inr (Or.inl hb))
        · exact Or.inr (Or.inr hb)
        · exact Or.inl (Or.inl hb)
theorem hy_min : ∀ c : List Nat, c ≠ [] → ∃ a ∈ c, ∀ x ∈ c, a ≤ x := by
  intro c
  induction c with
  | nil => intro h; exact absurd rfl h
  | cons b c ih =>
    intro _
    by_cases e : c = []
    · subst e; exact ⟨b, by simp, by simp⟩
    · obtain ⟨a, ha, hm⟩ := ih e
      by_cases q : a ≤ b
      · refine ⟨a, List.mem_cons_of_mem _ ha, fun x hx => ?_⟩
        rcases List.mem_cons.mp hx with h | h
        · omega
        · exact hm x h
      · refine ⟨b, List.mem_cons_self, fun x hx => ?_⟩
        rcases List.mem_cons.mp hx with h | h
        · omega
        · have := hm x h; omega
/-- a walk whose ends meet and whose sum is below 0 has a round below 0 in it -/
theorem hy_round (c : List Nat) (hv : ∀ x ∈ c, x < m ∧ cm x = true) (hn : hy_cy L c < 0) : ∃ s l, s < m ∧ cm s = true ∧ hy_ok m cm s l ∧ hy_ps L (s :: l ++ [s]) < 0 := by
  obtain ⟨c', h1, h2, h3⟩ := hy_simple c.length c (Nat.le_refl _) hv hn
  have hne : c' ≠ [] := fun e => by subst e; simp [hy_cy] at h3
  obtain ⟨a, ha, hmin⟩ := hy_min c' hne
  obtain ⟨x, y, e⟩ := List.append_of_mem ha
  subst e
  rw [hy_cy_rot] at h3
  have hnd : (a :: y ++ x).Nodup := (List.perm_append_comm.nodup_iff).mp h1
  simp only [List.cons_append, List.nodup_cons] at hnd
  refine ⟨a, y ++ x, (h2 a ha).1, (h2 a ha).2, ⟨hnd.2, fun b hb => ?_⟩, ?_⟩
  · have hb' : b ∈ x ++ a :: y := by
      simp only [List.mem_append, List.mem_cons] at hb ⊢
      rcases hb with hb | hb
      · exact Or.inr (Or.inr hb)
      · exact Or.inl hb
    have h4 := hmin b hb'
    have h5 : b ≠ a := fun e => hnd.1 (by rw [← e]; exact hb)
    exact ⟨by omega, h2 b hb'⟩
  · simpa [hy_cy] using h3
/-- walks -/
def hy_W (m : Nat) (cm : Nat → Bool) (L : Nat → Nat → Int) (i j : Nat) (s : Int) : Prop := ∃ l : List Nat, (∀ x ∈ l, x < m ∧ cm x = true) ∧ s = hy_ps L (i :: l ++ [j])
theorem hy_W_1 (i j : Nat) : hy_W m cm L i j (L i j) := ⟨[], by simp, by simp [hy_ps]⟩
theorem hy_W_tr {i k j : Nat} {s t : Int} (hk : k < m ∧ cm k = true) (h1 : hy_W m cm L i k s) (h2 : hy_W m cm L k j t) : hy_W m cm L i j (s + t) := by
  obtain ⟨l, a1, a2⟩ := h1
  obtain ⟨l', b1, b2⟩ := h2
  refine ⟨l ++ k :: l', fun x hx => ?_, ?_⟩
  · rcases List.mem_append.mp hx with h | h
    · exact a1 x h
    · rcases List.mem_cons.mp h with h | h
      · subst h; exact hk
      · exact b1 x h
  · have := hy_ps_app (L := L) (i :: l) k (l' ++ [j])
    simp only [List.cons_append, List.append_assoc] at this a2 b2 ⊢
    omega
theorem hy_W_neg {e : Nat} {s : Int} (he : e < m ∧ cm e = true) (h : hy_W m cm L e e s) (hs : s < 0) : ∃ s l, s < m ∧ cm s = true ∧ hy_ok m cm s l ∧ hy_ps L (s :: l ++ [s]) < 0 := by
  obtain ⟨l, a1, a2⟩ := h
  refine hy_round (e :: l) (fun x hx => ?_) (by show hy_ps L (e :: l ++ [e]) < 0; rw [← a2]; exact hs)
  rcases List.mem_cons.mp hx with h | h
  · subst h; exact he
  · exact a1 x h
/-- a potential below the lengths is below every walk -/
theorem hy_W_pot {p : Nat → Int} (hp : ∀ i j, i < m → cm i = true → j < m → cm j = true → p j ≤ p i + L i j) : ∀ (l : List Nat) (i j : Nat), (i < m ∧ cm i = true) → (j < m ∧ cm j = true) → (∀ x ∈ l, x < m ∧ cm x = true) → p j ≤ p i + hy_ps L (i :: l ++ [j]) := by
  intro l
  induction l with
  | nil => intro i j hi hj _; simpa [hy_ps] using hp i j hi.1 hi.2 hj.1 hj.2
  | cons a l ih =>
    intro i j hi hj hv
    have ha := hv a List.mem_cons_self
    have h1 := ih a j ha hj (fun x hx => hv x (List.mem_cons_of_mem _ hx))
    have h2 := hp i a hi.1 hi.2 ha.1 ha.2
    simp only [List.cons_append, hy_ps] at h1 ⊢
    omega
/-- Floyd: from k on the rows of one end -/
def hy_sf (m : Nat) (cm : Nat → Bool) (D : Nat → Nat → Int) (f t : Nat) : Nat → Nat → Int := fun i j => if i = f ∧ j < m ∧ cm j = true then min (D i j) (D f t + D t j) else D i j
def hy_st (m : Nat) (cm : Nat → Bool) (D : Nat → Nat → Int) (t : Nat) : Nat → Nat → Nat → Int
  | 0 => D
  | k + 1 => if cm t = true ∧ cm k = true then hy_sf m cm (hy_st m cm D t k) k t else hy_st m cm D t k
def hy_fl (m : Nat) (cm : Nat → Bool) (D : Nat → Nat → Int) : Nat → Nat → Nat → Int
  | 0 => D
  | k + 1 => hy_st m cm (hy_fl m cm D k) k m
theorem hy_sf_le (D : Nat → Nat → Int) (f t i j : Nat) : hy_sf m cm D f t i j ≤ D i j := by
  unfold hy_sf; split <;> omega
theorem hy_st_le (D : Nat → Nat → Int) (t k i j : Nat) : hy_st m cm D t k i j ≤ D i j := by
  induction k with
  | zero => exact Int.le_refl _
  | succ k ih =>
    unfold hy_st
    split
    · exact Int.le_trans (hy_sf_le _ _ _ _ _) ih
    · exact ih
theorem hy_fl_le (D : Nat → Nat → Int) {k k' : Nat} (h : k ≤ k') (i j : Nat) : hy_fl m cm D k' i j ≤ hy_fl m cm D k i j := by
  induction k' with
  | zero => rw [show k = 0 by omega]; exact Int.le_refl _
  | succ k' ih =>
    by_cases e : k = k' + 1
    · rw [e]; exact Int.le_refl _
    · exact Int.le_trans (hy_st_le _ _ _ _ _) (ih (by omega))
/-- what holds of all lengths, and is kept by putting two together, holds of all that Floyd makes -/
theorem hy_fl_inv {P : Nat → Nat → Int → Prop} (hP : ∀ i k j s t, i < m → cm i = true → k < m → cm k = true → j < m → cm j = true → P i k s → P k j t → P i j (s + t)) (D : Nat → Nat → Int) (h0 : ∀ i j, i < m → cm i = true → j < m → cm j = true → P i j (D i j)) : ∀ k, k ≤ m → ∀ i j, i < m → cm i = true → j < m → cm j = true → P i j (hy_fl m cm D k i j) := by
  intro k
  induction k with
  | zero => intro _; exact h0
  | succ k ih =>
    intro hk
    have h1 := ih (by omega)
    have key : ∀ q, q ≤ m → ∀ i j, i < m → cm i = true → j < m → cm j = true → P i j (hy_st m cm (hy_fl m cm D k) k q i j) := by
      intro q
      induction q with
      | zero => intro _; exact h1
      | succ q ih2 =>
        intro hq i j hi ci hj cj
        have h2 := ih2 (by omega)
        unfold hy_st
        split
        · rename_i e
          unfold hy_sf
          split
          · rename_i e2
            obtain ⟨e2, -, -⟩ := e2
            subst e2
            rcases Int.le_total (hy_st m cm (hy_fl m cm D k) k i i j) (hy_st m cm (hy_fl m cm D k) k i i k + hy_st m cm (hy_fl m cm D k) k i k j) with q1 | q1
            · rw [Int.min_eq_left q1]; exact h2 i j hi ci hj cj
            · rw [Int.min_eq_right q1]
              exact hP i k j _ _ hi ci (by omega) e.1 hj cj (h2 i k hi ci (by omega) e.1) (h2 k j (by omega) e.1 hj cj)
          · exact h2 i j hi ci hj cj
        · exact h2 i j hi ci hj cj
    exact key m (Nat.le_refl _)
theorem hy_fl_W (k : Nat) (hk : k ≤ m) (i j : Nat) (hi : i < m) (ci : cm i = true) (hj : j < m) (cj : cm j = true) : hy_W m cm L i j (hy_fl m cm L k i j) :=
  hy_fl_inv (P := fun i j s => hy_W m cm L i j s) (fun i k j s t _ _ hk ck _ _ h1 h2 => hy_W_tr ⟨hk, ck⟩ h1 h2) L (fun i j _ _ _ _ => hy_W_1 i j) k hk i j hi ci hj cj
theorem hy_fl_pot {p : Nat → Int} (hp : ∀ i j, i < m → cm i = true → j < m → cm j = true → p j ≤ p i + L i j) (k : Nat) (hk : k ≤ m) (i j : Nat) (hi : i < m) (ci : cm i = true) (hj : j < m) (cj : cm j = true) : p j ≤ p i + hy_fl m cm L k i j :=
  hy_fl_inv (P := fun i j s => p j ≤ p i + s) (fun _ _ _ _ _ _ _ _ _ _ _ h1 h2 => by omega) L hp k hk i j hi ci hj cj
/-- with no way below 0 from t to itself, a stage is the same for all rows at once -/
theorem hy_st_sim (D : Nat → Nat → Int) (t : Nat) (h0 : 0 ≤ D t t) : ∀ k i j, hy_st m cm D t k i j = if i < k ∧ cm t = true ∧ cm i = true ∧ j < m ∧ cm j = true then min (D i j) (D i t + D t j) else D i j := by
  intro k
  induction k with
  | zero => intro i j; simp [hy_st]
  | succ k ih =>
    intro i j
    have ett : ∀ j, hy_st m cm D t k t j = D t j := fun j => by
      rw [ih]; split
      · omega
      · rfl
    unfold hy_st
    split
    · rename_i e
      unfold hy_sf
      by_cases e2 : i = k ∧ j < m ∧ cm j = true
      · rw [if_pos e2]
        obtain ⟨e3, e4, e5⟩ := e2
        subst e3
        rw [ett, ih i j, ih i t, if_neg (by omega), if_neg (by omega), if_pos ⟨by omega, e.1, e.2, e4, e5⟩]
      · rw [if_neg e2, ih]
        by_cases e3 : i < k ∧ cm t = true ∧ cm i = true ∧ j < m ∧ cm j = true
        · rw [if_pos e3, if_pos ⟨by omega, e3.2⟩]
        · rw [if_neg e3, if_neg]
          rintro ⟨a1, a2, a3, a4, a5⟩
          by_cases q : i = k
          · exact e2 ⟨q, a4, a5⟩
          · exact e3 ⟨by omega, a2, a3, a4, a5⟩
    · rename_i e
      rw [ih]
      by_cases e3 : i < k ∧ cm t = true ∧ cm i = true ∧ j < m ∧ cm j = true
      · rw [if_pos e3, if_pos ⟨by omega, e3.2⟩]
      · rw [if_neg e3, if_neg]
        rintro ⟨a1, a2, a3, a4, a5⟩
        by_cases q : i = k
        · subst q; exact e ⟨a2, a3⟩
        · exact e3 ⟨by omega, a2, a3, a4, a5⟩
theorem hy_fl_tri (D : Nat → Nat → Int) (hd : ∀ e, e < m → cm e = true → 0 ≤ hy_fl m cm D m e e) : ∀ k, k ≤ m → ∀ t i j, t < k → cm t = true → i < m → cm i = true → j < m → cm j = true → hy_fl m cm D k i j ≤ hy_fl m cm D k i t + hy_fl m cm D k t j := by
  intro k
  induction k with
  | zero => intro _ t i j ht; omega
  | succ k ih =>
    intro hk t i j ht ct hi ci hj cj
    have ih := ih (by omega)
    by_cases ck : cm k = true
    · have h0 : 0 ≤ hy_fl m cm D k k k := Int.le_trans (hd k (by omega) ck) (hy_fl_le D (by omega) k k)
      have e : ∀ i j, i < m → cm i = true → j < m → cm j = true → hy_fl m cm D (k + 1) i j = min (hy_fl m cm D k i j) (hy_fl m cm D k i k + hy_fl m cm D k k j) := fun i j hi ci hj cj => by
        show hy_st m cm (hy_fl m cm D k) k m i j = _
        rw [hy_st_sim _ k h0, if_pos ⟨hi, ck, ci, hj, cj⟩]
      by_cases q : t = k
      · subst q
        rw [e i j hi ci hj cj, e i t hi ci (by omega) ct, e t j (by omega) ct hj cj]
        omega
      · have htm : t < m := by omega
        have hkm : k < m := by omega
        have a1 := ih t i j (by omega) ct hi ci hj cj
        have a2 := ih t k j (by omega) ct hkm ck hj cj
        have a3 := ih t i k (by omega) ct hi ci hkm ck
        have a4 := ih t k k (by omega) ct hkm ck hkm ck
        rw [e i j hi ci hj cj, e i t hi ci htm ct, e t j htm ct hj cj]
        omega
    · have e : ∀ i j, hy_fl m cm D (k + 1) i j = hy_fl m cm D k i j := fun i j => by
        show hy_st m cm (hy_fl m cm D k) k m i j = _
        have : ∀ q, hy_st m cm (hy_fl m cm D k) k q = hy_fl m cm D k := by
          intro q
          induction q with
          | zero => rfl
          | succ q ih => unfold hy_st; rw [if_neg (fun z => ck z.1)]; exact ih
        rw [this]
      rw [e, e, e]
      refine ih t i j ?_ ct hi ci hj cj
      by_cases q : t = k
      · subst q; exact absurd ct ck
      · omega
/-- a round below 0 shows, and only that -/
theorem hy_fl_round : (∃ e, e < m ∧ cm e = true ∧ hy_fl m cm L m e e < 0) ↔ ∃ s l, s < m ∧ cm s = true ∧ hy_ok m cm s l ∧ hy_ps L (s :: l ++ [s]) < 0 := by
  constructor
  · rintro ⟨e, h1, h2, h3⟩
    exact hy_W_neg ⟨h1, h2⟩ (hy_fl_W m (Nat.le_refl _) e e h1 h2 h1 h2) h3
  · rintro ⟨s, l, h1, h2, h3, h4⟩
    by_cases q : ∃ e, e < m ∧ cm e = true ∧ hy_fl m cm L m e e < 0
    · exact q
    · exfalso
      have hd : ∀ e, e < m → cm e = true → 0 ≤ hy_fl m cm L m e e := fun e he ce => by
        by_cases c : 0 ≤ hy_fl m cm L m e e
        · exact c
        · exact absurd ⟨e, he, ce, by omega⟩ q
      have tri := hy_fl_tri L hd m (Nat.le_refl _)
      have hp : ∀ i j, i < m → cm i = true → j < m → cm j = true → hy_fl m cm L m s j ≤ hy_fl m cm L m s i + L i j := fun i j hi ci hj cj => by
        have := tri i s j hi ci h1 h2 hj cj
        have := hy_fl_le (m := m) (cm := cm) L (Nat.zero_le m) i j
        have e : hy_fl m cm L 0 i j = L i j := rfl
        omega
      have := hy_W_pot hp l s s ⟨h1, h2⟩ ⟨h1, h2⟩ (fun x hx => (h3.2 x hx).2)
      omega
end HY
