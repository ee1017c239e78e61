/-! THE LIST, as the class holds it: n people, m ends, w wishes; num: the numbers, 5 places a wish. -/
def hw_rows (w n : Nat) : Nat := if w = 0 then 0 else w ^ n
def hw_pow (w i : Nat) : Nat := if w = 0 then 0 else w ^ i
def hW (h : hk_H) (aW aN aP n m w : Nat) (num : Nat → Int) (pf : Nat → Int32) : Prop :=
  h.2 aW = some (.inr (8, [.int (hI n), .int (hI m), .ref aN, .ref aP, .int (hI w), .int (hI (hw_rows w n))])) ∧ h.2 aN = some (hc_i32 30 (fun k => hI (num k))) ∧ h.2 aP = some (hc_i32 5 pf) ∧ (∀ i, i ≤ n → pf i = hI (hw_pow w i)) ∧ (2 ≤ n ∧ n ≤ 4) ∧ (2 ≤ m ∧ m ≤ 5) ∧ w ≤ 6 ∧ (∀ k, k < 30 → -99 ≤ num k ∧ num k ≤ 99)
theorem hw_pow_lt {w i : Nat} (hw : w ≤ 6) (hi : i ≤ 4) : hw_pow w i ≤ 1296 := by
  unfold hw_pow
  split
  · omega
  · calc w ^ i ≤ 6 ^ i := Nat.pow_le_pow_left hw i
      _ ≤ 6 ^ 4 := Nat.pow_le_pow_right (by omega) hi
      _ = 1296 := by decide
theorem hw_rows_le {w n : Nat} (hw : w ≤ 6) (hn : n ≤ 4) : hw_rows w n ≤ 1296 := hw_pow_lt hw hn
section SW
variable {G : hk_G} {h : hk_H} {aW aN aP n m w : Nat} {num : Nat → Int} {pf : Nat → Int32} {d : Nat}
theorem s_number (H : hW h aW aN aP n m w num pf) {a b : Nat} (ha : a < 6) (hb : b < 5) {K : Int32 → hk_H → Prop} (hk : K (hI (num (a * 5 + b))) h) : hk_Ci G m_X8_number d 0 0 [.ref aW, .int (hI a), .int (hI b)] h K := by
  obtain ⟨h1, h2, h3, h4, h5, h6, h7, h8⟩ := H
  refine ⟨Nat.le_of_ble_eq_true rfl, ?_⟩
  refine b_X8_number_0 h1 rfl h2 (a * 5 + b) ?_ (by omega) ⟨_, rfl, hk⟩
  rw [show (5 : Int32) = hI 5 from rfl, hI_mul, hI_add]
  exact hI_at (by omega) (by omega)
/-- the wish of person i at a row -/
def hw_in (w r i : Nat) : Nat := r / w ^ i % w
theorem s_wishIn (H : hW h aW aN aP n m w num pf) (hw : 1 ≤ w) {r i : Nat} (hr : r < 1296) (hi : i < n) {K : Int32 → hk_H → Prop} (hk : K (hI (hw_in w r i)) h) : hk_Ci G m_X8_wishIn d 0 0 [.ref aW, .int (hI r), .int (hI i)] h K := by
  obtain ⟨h1, h2, h3, h4, h5, h6, h7, h8⟩ := H
  have hp : hw_pow w i = w ^ i := if_neg (by omega)
  have hpl : w ^ i ≤ 1296 := by rw [← hp]; exact hw_pow_lt h7 (by omega)
  have hp0 : 0 < w ^ i := Nat.pow_pos (by omega)
  have e1 : pf i = hI ((w ^ i : Nat) : Int) := by rw [h4 i (by omega), hp]
  refine ⟨Nat.le_of_ble_eq_true rfl, ?_⟩
  refine b_X8_wishIn_0 h1 rfl h3 i (hI_at rfl (by omega)) (by omega) (fun c => ?_) (fun _ => ?_)
  · rw [e1, show (1 : Int32) = hI 1 from rfl, hI_lt ⟨by omega, by omega⟩ ⟨by omega, by omega⟩] at c
    omega
  refine b_X8_wishIn_12 h1 rfl (fun _ => ?_) (fun c => ?_)
  · refine b_X8_wishIn_24 ?_ h1 rfl ?_ ⟨_, rfl, ?_⟩
    · rw [e1, show (0 : Int32) = hI 0 from rfl, hI_eq ⟨by omega, by omega⟩ ⟨by omega, by omega⟩]
      omega
    · rw [show (0 : Int32) = hI 0 from rfl, hI_eq ⟨by omega, by omega⟩ ⟨by omega, by omega⟩]
      omega
    · have hq : r / w ^ i ≤ r := Nat.div_le_self _ _
      have e2 : hI (r : Int) / pf i = hI ((r / w ^ i : Nat) : Int) := by
        rw [e1, hI_divN (by omega) hp0 (by omega)]
      rw [e2, hI_modN (Nat.lt_of_le_of_lt hq (Nat.lt_of_lt_of_le hr (by decide))) (by omega) (by omega)]
      exact hk
  · rw [show (1 : Int32) = hI 1 from rfl, hI_le ⟨by omega, by omega⟩ ⟨by omega, by omega⟩] at c
    omega
/-- the row in which person i says wish v -/
def hw_say (w r i v : Nat) : Nat := r + v * w ^ i - hw_in w r i * w ^ i
theorem hw_in_le (w r i : Nat) : hw_in w r i * w ^ i ≤ r := by
  unfold hw_in
  calc r / w ^ i % w * w ^ i ≤ r / w ^ i * w ^ i := Nat.mul_le_mul_right _ (Nat.mod_le _ _)
    _ ≤ r := Nat.div_mul_le_self _ _
theorem s_rowSaying (H : hW h aW aN aP n m w num pf) (hw : 1 ≤ w) {r i v : Nat} (hr : r < 1296) (hi : i < n) {K : Int32 → hk_H → Prop} (hk : K (hI (hw_say w r i v)) h) : hk_Ci G m_X8_rowSaying (d + 1) 0 0 [.ref aW, .int (hI r), .int (hI i), .int (hI v)] h K := by
  obtain ⟨h1, h2, h3, h4, h5, h6, h7, h8⟩ := id H
  have hp : hw_pow w i = w ^ i := if_neg (by omega)
  refine ⟨Nat.le_of_ble_eq_true rfl, ?_⟩
  refine b_X8_rowSaying_0 h1 (s_wishIn H hw hr hi ?_)
  refine b_X8_rowSaying_8 h1 rfl h3 i (hI_at rfl (by omega)) (by omega) ⟨_, rfl, ?_⟩
  rw [h4 i (by omega), hp, hI_sub, hI_mul, hI_add]
  have := hw_in_le w r i
  have e : (r : Int) + ((v : Int) - (hw_in w r i : Int)) * ((w ^ i : Nat) : Int) = ((hw_say w r i v : Nat) : Int) := by
    unfold hw_say
    rw [Int.sub_mul]
    have e1 : (v : Int) * ((w ^ i : Nat) : Int) = ((v * w ^ i : Nat) : Int) := by push_cast; rfl
    have e2 : (hw_in w r i : Int) * ((w ^ i : Nat) : Int) = ((hw_in w r i * w ^ i : Nat) : Int) := by push_cast; rfl
    rw [e1, e2]
    omega
  rw [e]
  exact hk
end SW
