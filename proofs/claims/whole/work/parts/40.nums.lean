/-! Numbers of the program as whole numbers: hI e is the int e. -/
def hI (e : Int) : Int32 := Int32.ofInt e
def hI_ok (e : Int) : Prop := -2147483648 ≤ e ∧ e < 2147483648
theorem hI_add (a b : Int) : hI a + hI b = hI (a + b) := (Int32.ofInt_add a b).symm
theorem hI_sub (a b : Int) : hI a - hI b = hI (a - b) := (Int32.ofInt_sub a b).symm
theorem hI_mul (a b : Int) : hI a * hI b = hI (a * b) := (Int32.ofInt_mul a b).symm
theorem hI_neg (a : Int) : -hI a = hI (-a) := (Int32.ofInt_neg a).symm
theorem hI_toInt {a : Int} (h : -2147483648 ≤ a ∧ a < 2147483648) : (hI a).toInt = a := Int32.toInt_ofInt_of_le h.1 h.2
theorem hI_of (x : Int32) : x = hI x.toInt := (Int32.ofInt_toInt x).symm
theorem hI_lt {a b : Int} (ha : -2147483648 ≤ a ∧ a < 2147483648) (hb : -2147483648 ≤ b ∧ b < 2147483648) : hI a < hI b ↔ a < b := by
  rw [Int32.lt_iff_toInt_lt, hI_toInt ha, hI_toInt hb]
theorem hI_le {a b : Int} (ha : -2147483648 ≤ a ∧ a < 2147483648) (hb : -2147483648 ≤ b ∧ b < 2147483648) : hI a ≤ hI b ↔ a ≤ b := by
  rw [Int32.le_iff_toInt_le, hI_toInt ha, hI_toInt hb]
theorem hI_eq {a b : Int} (ha : -2147483648 ≤ a ∧ a < 2147483648) (hb : -2147483648 ≤ b ∧ b < 2147483648) : hI a = hI b ↔ a = b := by
  rw [← Int32.toInt_inj, hI_toInt ha, hI_toInt hb]
theorem hI_lt0 {a : Int} (ha : -2147483648 ≤ a ∧ a < 2147483648) : hI a < 0 ↔ a < 0 := by
  rw [show (0 : Int32) = hI 0 from rfl]; exact hI_lt ha ⟨by decide, by decide⟩
theorem hI_range (x : Int32) : -2147483648 ≤ x.toInt ∧ x.toInt < 2147483648 := ⟨Int32.le_toInt x, Int32.toInt_lt x⟩
theorem hI_div {a b : Int} (ha : -2147483648 < a ∧ a < 2147483648) (hb : -2147483648 ≤ b ∧ b < 2147483648) : hI a / hI b = hI (a.tdiv b) := by
  apply Int32.toInt_inj.mp
  have h1 : hI a ≠ Int32.minValue := by
    intro h
    have := congrArg Int32.toInt h
    rw [hI_toInt ⟨by omega, ha.2⟩] at this
    have e : Int32.minValue.toInt = -2147483648 := by decide
    omega
  rw [Int32.toInt_div_of_ne_left _ _ h1, hI_toInt ⟨by omega, ha.2⟩, hI_toInt hb, hI_toInt]
  have h2 : (a.tdiv b).natAbs ≤ a.natAbs := by
    rw [Int.natAbs_tdiv]
    exact Nat.div_le_self _ _
  omega
theorem hI_div_nat {a b : Int} (ha : 0 ≤ a ∧ a < 2147483648) (hb : 0 < b ∧ b < 2147483648) : hI a / hI b = hI (a / b) := by
  rw [hI_div ⟨by omega, ha.2⟩ ⟨by omega, hb.2⟩, Int.tdiv_eq_ediv_of_nonneg ha.1]
theorem hI_mod_nat {a b : Int} (ha : 0 ≤ a ∧ a < 2147483648) (hb : 0 < b ∧ b < 2147483648) : hI a - hI a / hI b * hI b = hI (a % b) := by
  rw [hI_div_nat ha hb, hI_mul, hI_sub]
  congr 1
  have := Int.mul_ediv_add_emod a b
  rw [Int.mul_comm] at this
  omega
/-- a place of a row, by the number that the program has for it -/
theorem hI_at {a : Int} {j : Nat} (h : a = (j : Int)) (hj : j < 2147483648) : (hI a).toInt = (j : Int) := by
  rw [hI_toInt ⟨by omega, by omega⟩, h]
theorem hk_set_eq {h : hk_H} {a : Nat} {c : hk_AC} : (hk_set h a c).2 a = some c := by simp [hk_set, hk_up]
theorem hk_set_ne {h : hk_H} {a b : Nat} {c : hk_AC} (hb : b ≠ a) : (hk_set h a c).2 b = h.2 b := by simp [hk_set, hk_up, hb]
theorem hk_set_n {h : hk_H} {a : Nat} {c : hk_AC} : (hk_set h a c).1 = h.1 := rfl
theorem hk_new_eq {h : hk_H} {c : hk_AC} : (hk_new h c).2 h.1 = some c := by simp [hk_new, hk_up]
theorem hk_new_ne {h : hk_H} {b : Nat} {c : hk_AC} (hb : b ≠ h.1) : (hk_new h c).2 b = h.2 b := by simp [hk_new, hk_up, hb]
theorem hk_new_n {h : hk_H} {c : hk_AC} : (hk_new h c).1 = h.1 + 1 := rfl
theorem hk_set_set {h : hk_H} {a : Nat} {c c' : hk_AC} : hk_set (hk_set h a c) a c' = hk_set h a c' := by
  unfold hk_set hk_up
  refine Prod.ext rfl ?_
  funext j
  by_cases hj : j = a <;> simp [hj]
theorem hk_set_self {h : hk_H} {a : Nat} {c : hk_AC} (hc : h.2 a = some c) : hk_set h a c = h := by
  unfold hk_set hk_up
  refine Prod.ext rfl ?_
  funext j
  by_cases hj : j = a
  · subst hj; simp [hc]
  · simp [hj]
theorem hk_set_comm {h : hk_H} {a b : Nat} {c c' : hk_AC} (hab : a ≠ b) : hk_set (hk_set h a c) b c' = hk_set (hk_set h b c') a c := by
  unfold hk_set hk_up
  refine Prod.ext rfl ?_
  funext j
  by_cases hj : j = a
  · subst hj; simp [hab]
  · by_cases hj2 : j = b
    · subst hj2; simp [hj]
    · simp [hj, hj2]
abbrev hc_i32 (n : Nat) (f : Nat → Int32) : hk_AC := .inl (0, n, .inl f)
abbrev hc_i64 (n : Nat) (f : Nat → Int64) : hk_AC := .inl (1, n, .inr (.inl f))
abbrev hc_z (n : Nat) (f : Nat → Int32) : hk_AC := .inl (2, n, .inl f)
theorem hI_rN {a : Nat} (h : a < 2147483648) : (-2147483648 : Int) ≤ (a : Int) ∧ (a : Int) < 2147483648 := ⟨by omega, by omega⟩
theorem hI_r0 {a : Nat} (h : a < 2147483648) : (0 : Int) ≤ (a : Int) ∧ (a : Int) < 2147483648 := ⟨by omega, by omega⟩
theorem hI_divN {a b : Nat} (ha : a < 2147483648) (hb : 0 < b) (hb2 : b < 2147483648) : hI (a : Int) / hI (b : Int) = hI ((a / b : Nat) : Int) := by
  rw [hI_div_nat (hI_r0 ha) ⟨by omega, by omega⟩]
  rfl
theorem hI_modN {a b : Nat} (ha : a < 2147483648) (hb : 0 < b) (hb2 : b < 2147483648) : hI (a : Int) - hI (a : Int) / hI (b : Int) * hI (b : Int) = hI ((a % b : Nat) : Int) := by
  rw [hI_mod_nat (hI_r0 ha) ⟨by omega, by omega⟩]
  rfl
