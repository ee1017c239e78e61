/-! The house itself (cell 4), and what it asks of numbers. -/
def hO (h : hk_H) (n m rc : Nat) : Prop := h.2 4 = some (.inr (9, [.int (hI n), .int (hI m), .ref 5, .ref 8, .int (hI rc), .ref 9, .ref 13, .ref 18, .ref 26]))
theorem hI_nat {x : Int32} {n : Nat} (h0 : ¬ x < 0) (h1 : ¬ hI (n : Int) ≤ x) (hn : n < 2147483648) : ∃ i : Nat, i < n ∧ x = hI (i : Int) := by
  have hx := hI_range x
  rw [Int32.lt_iff_toInt_lt, Int32.toInt_zero] at h0
  rw [Int32.le_iff_toInt_le, hI_toInt (hI_rN hn)] at h1
  refine ⟨x.toInt.toNat, by omega, ?_⟩
  rw [show ((x.toInt.toNat : Nat) : Int) = x.toInt by omega]
  exact hI_of x
/-- x is one of 0 .. n - 1 -/
def hIn (x : Int32) (n : Nat) : Prop := 0 ≤ x.toInt ∧ x.toInt < (n : Int)
theorem hIn_not0 {x : Int32} {n : Nat} (h : x < 0) : ¬ hIn x n := by
  rw [Int32.lt_iff_toInt_lt, Int32.toInt_zero] at h
  unfold hIn
  omega
theorem hIn_notn {x : Int32} {n : Nat} (h : hI (n : Int) ≤ x) (hn : n < 2147483648) : ¬ hIn x n := by
  rw [Int32.le_iff_toInt_le, hI_toInt (hI_rN hn)] at h
  unfold hIn
  omega
section SHo
variable {G : hk_G} {h : hk_H} {n m w rc : Nat} {num : Nat → Int} {pw : Nat → Int32} {d : Nat}
theorem s_isWithin {x : Int32} {a b : Int} (ha : -2147483648 ≤ a ∧ a < 2147483648) (hb : -2147483648 ≤ b ∧ b < 2147483648) {K : Int32 → hk_H → Prop} (hk1 : a ≤ x.toInt ∧ x.toInt ≤ b → K 1 h) (hk0 : ¬ (a ≤ x.toInt ∧ x.toInt ≤ b) → K 0 h) : hk_Ci G m_X9_isWithin d 0 0 [.int x, .int (hI a), .int (hI b)] h K := by
  refine ⟨Nat.le_of_ble_eq_true rfl, ?_⟩
  refine b_X9_isWithin_0 (fun c => ?_) (fun c => ?_)
  · rw [Int32.lt_iff_toInt_lt, hI_toInt ha] at c
    exact b_X9_isWithin_14 ⟨_, rfl, hk0 (by omega)⟩
  · rw [Int32.lt_iff_toInt_lt, hI_toInt ha] at c
    refine b_X9_isWithin_5 (fun c2 => ?_) (fun c2 => ?_)
    · rw [Int32.lt_iff_toInt_lt, hI_toInt hb] at c2
      exact b_X9_isWithin_14 ⟨_, rfl, hk0 (by omega)⟩
    · rw [Int32.lt_iff_toInt_lt, hI_toInt hb] at c2
      exact b_X9_isWithin_10 ⟨_, rfl, hk1 (by omega)⟩
theorem s_isPerson (HO : hO h n m rc) (hn : n ≤ 4) {x : Int32} {K : Int32 → hk_H → Prop} (hk1 : ∀ i : Nat, i < n → x = hI (i : Int) → K 1 h) (hk0 : ¬ hIn x n → K 0 h) : hk_Ci G m_X9_isPerson d 0 0 [.ref 4, .int x] h K := by
  refine ⟨Nat.le_of_ble_eq_true rfl, ?_⟩
  refine b_X9_isPerson_0 (fun c => b_X9_isPerson_16 ⟨_, rfl, hk0 (hIn_not0 c)⟩) (fun c => ?_)
  refine b_X9_isPerson_4 HO rfl (fun c2 => b_X9_isPerson_16 ⟨_, rfl, hk0 (hIn_notn c2 (by omega))⟩) (fun c2 => ?_)
  obtain ⟨i, hi, hx⟩ := hI_nat c c2 (by omega)
  exact b_X9_isPerson_12 ⟨_, rfl, hk1 i hi hx⟩
theorem s_isEnd (HO : hO h n m rc) (hm : m ≤ 5) {x : Int32} {K : Int32 → hk_H → Prop} (hk1 : ∀ i : Nat, i < m → x = hI (i : Int) → K 1 h) (hk0 : ¬ hIn x m → K 0 h) : hk_Ci G m_X9_isEnd d 0 0 [.ref 4, .int x] h K := by
  refine ⟨Nat.le_of_ble_eq_true rfl, ?_⟩
  refine b_X9_isEnd_0 (fun c => b_X9_isEnd_16 ⟨_, rfl, hk0 (hIn_not0 c)⟩) (fun c => ?_)
  refine b_X9_isEnd_4 HO rfl (fun c2 => b_X9_isEnd_16 ⟨_, rfl, hk0 (hIn_notn c2 (by omega))⟩) (fun c2 => ?_)
  obtain ⟨i, hi, hx⟩ := hI_nat c c2 (by omega)
  exact b_X9_isEnd_12 ⟨_, rfl, hk1 i hi hx⟩
theorem s_isWish (HO : hO h n m rc) (HW : hW h n m w num pw) {x : Int32} {K : Int32 → hk_H → Prop} (hk1 : ∀ i : Nat, i < w → x = hI (i : Int) → K 1 h) (hk0 : ¬ hIn x w → K 0 h) : hk_Ci G m_X9_isWish d 0 0 [.ref 4, .int x] h K := by
  obtain ⟨w1, w2, w3, w4, w5, w6, w7, w8⟩ := id HW
  refine ⟨Nat.le_of_ble_eq_true rfl, ?_⟩
  refine b_X9_isWish_0 (fun c => b_X9_isWish_19 ⟨_, rfl, hk0 (hIn_not0 c)⟩) (fun c => ?_)
  refine b_X9_isWish_4 HO rfl w1 rfl (fun c2 => b_X9_isWish_19 ⟨_, rfl, hk0 (hIn_notn c2 (by omega))⟩) (fun c2 => ?_)
  obtain ⟨i, hi, hx⟩ := hI_nat c c2 (by omega)
  exact b_X9_isWish_15 ⟨_, rfl, hk1 i hi hx⟩
theorem s_isRow (HO : hO h n m rc) (HW : hW h n m w num pw) {x : Int32} {K : Int32 → hk_H → Prop} (hk1 : ∀ i : Nat, i < hw_pow w n → x = hI (i : Int) → K 1 h) (hk0 : ¬ hIn x (hw_pow w n) → K 0 h) : hk_Ci G m_X9_isRow d 0 0 [.ref 4, .int x] h K := by
  obtain ⟨w1, w2, w3, w4, w5, w6, w7, w8⟩ := id HW
  have hrow := hw_pow_lt (i := n) w7 (by omega)
  refine ⟨Nat.le_of_ble_eq_true rfl, ?_⟩
  refine b_X9_isRow_0 (fun c => b_X9_isRow_19 ⟨_, rfl, hk0 (hIn_not0 c)⟩) (fun c => ?_)
  refine b_X9_isRow_4 HO rfl w1 rfl (fun c2 => b_X9_isRow_19 ⟨_, rfl, hk0 (hIn_notn c2 (by omega))⟩) (fun c2 => ?_)
  obtain ⟨i, hi, hx⟩ := hI_nat c c2 (by omega)
  exact b_X9_isRow_15 ⟨_, rfl, hk1 i hi hx⟩
/-- the rules' row (cell 8): rule j of rc stands at rq j -/
def hRs (h : hk_H) (rc : Nat) (rq : Nat → Nat) : Prop := ∃ f : Nat → Option Nat, h.2 8 = some (.inl (3, 8, .inr (.inr (.inr (.inr f))))) ∧ rc ≤ 8 ∧ ∀ j, j < rc → f j = some (rq j)
theorem s_ruleAt {rq : Nat → Nat} (HO : hO h n m rc) (HR : hRs h rc rq) {x : Int32} {K : Option Nat → hk_H → Prop} (hk1 : ∀ j : Nat, j < rc → x = hI (j : Int) → K (some (rq j)) h) (hk0 : ¬ hIn x rc → K none h) : hk_Cr G m_X9_ruleAt d 0 0 [.ref 4, .int x] h K := by
  obtain ⟨f, r1, r2, r3⟩ := HR
  refine ⟨Nat.le_of_ble_eq_true rfl, ?_⟩
  refine b_X9_ruleAt_0 (fun c => b_X9_ruleAt_21 ⟨none, rfl, hk0 (hIn_not0 c)⟩) (fun c => ?_)
  refine b_X9_ruleAt_4 HO rfl (fun c2 => b_X9_ruleAt_21 ⟨none, rfl, hk0 (hIn_notn c2 (by omega))⟩) (fun c2 => ?_)
  obtain ⟨j, hj, hx⟩ := hI_nat c c2 (by omega)
  refine b_X9_ruleAt_12 HO rfl r1 (Or.inl rfl) j (by rw [hx]; exact hI_at rfl (by omega)) (by omega) ⟨some (rq j), by rw [r3 j hj], hk1 j hj hx⟩
end SHo
