/-! A RULE: its kind (0 table, 1 paid, 2 weighed, 3 middle), the ends and payments as told, gifts, weights, places; what it gives and takes at a row. -/
abbrev hr_R : Type := Nat × (Nat → Nat) × (Nat → Nat → Int) × (Nat → Int) × (Nat → Int) × (Nat → Nat)
def hr_to (f : Nat → Int) : Nat → Int
  | 0 => 0
  | k + 1 => hr_to f k + f k
/-- the sum of the gift and the weights times the numbers for an end, one person left out (wo ≥ n: none) -/
def hr_sum (n w : Nat) (num : Nat → Int) (R : hr_R) (row e wo : Nat) : Int := R.2.2.2.1 e + hr_to (fun i => if i = wo then 0 else R.2.2.2.2.1 i * num (hw_in w row i * 5 + e)) n
def hr_great (n m w : Nat) (num : Nat → Int) (R : hr_R) (row wo : Nat) : Nat := hw_best (fun e => hr_sum n w num R row e wo) (m - 1)
def hr_cnt (n m w : Nat) (num : Nat → Int) (R : hr_R) (row e : Nat) : Int := hr_to (fun i => if hw_top num m (hw_in w row i) ≤ e then 1 else 0) n + hr_to (fun i => if R.2.2.2.2.2 i ≤ e then 1 else 0) (n - 1)
def hr_midFrom (n m w : Nat) (num : Nat → Int) (R : hr_R) (row : Nat) : Nat → Nat → Nat
  | 0, _ => m - 1
  | k + 1, e => if (n : Int) ≤ hr_cnt n m w num R row e then e else hr_midFrom n m w num R row k (e + 1)
def hr_mid (n m w : Nat) (num : Nat → Int) (R : hr_R) (row : Nat) : Nat := hr_midFrom n m w num R row m 0
def hr_end (n m w : Nat) (num : Nat → Int) (R : hr_R) (row : Nat) : Nat := if R.1 = 2 then hr_great n m w num R row n else if R.1 = 3 then hr_mid n m w num R row else R.2.1 row
def hr_pay (n m w : Nat) (num : Nat → Int) (R : hr_R) (row i : Nat) : Int := if R.1 = 1 then R.2.2.1 row i else if R.1 = 2 then (if R.2.2.2.2.1 i = 0 then 0 else (hr_sum n w num R row (hr_great n m w num R row i) i - hr_sum n w num R row (hr_great n m w num R row n) i).tdiv (R.2.2.2.2.1 i)) else 0
/-- what a rule may hold -/
def hr_ok (n m w : Nat) (R : hr_R) : Prop := R.1 ≤ 3 ∧ (∀ r, r < hw_pow w n → R.2.1 r < m) ∧ (∀ r i, r < hw_pow w n → i < n → -9999 ≤ R.2.2.1 r i ∧ R.2.2.1 r i ≤ 9999) ∧ (∀ e, e < 5 → -99 ≤ R.2.2.2.1 e ∧ R.2.2.2.1 e ≤ 99) ∧ (∀ i, i < 4 → 0 ≤ R.2.2.2.2.1 i ∧ R.2.2.2.2.1 i ≤ 9) ∧ (∀ i, i < 3 → R.2.2.2.2.2 i < m)
/-- a rule's class, and its object: number k, made at q, its rows just behind it -/
def hr_ci (kd : Nat) : Nat := if kd = 0 then 5 else if kd = 1 then 3 else if kd = 2 then 7 else 2
def hr_fs (kd q k : Nat) : List Value := if kd = 0 then [.int (hI k), .ref 5, .ref (q + 1)] else if kd = 1 then [.int (hI k), .ref 5, .ref (q + 1), .ref (q + 2)] else if kd = 2 then [.ref (q + 2), .int (hI k), .ref 5, .ref (q + 1), .ref (q + 3), .ref (q + 4), .ref (q + 5)] else [.int (hI k), .ref 5, .ref (q + 1), .ref (q + 2), .ref (q + 3)]
/-- the class's rule: ef its row of ends (-1: not worked out), pf of payments, sf the rows that are written over -/
def hRu (h : hk_H) (q k n m w : Nat) (num : Nat → Int) (R : hr_R) (ef pf : Nat → Int32) : Prop :=
  hr_ok n m w R ∧ 43 ≤ q ∧ h.2 q = some (.inr (hr_ci R.1, hr_fs R.1 q k)) ∧ h.2 (q + 1) = some (hc_i32 (hw_pow w n) ef) ∧
  (R.1 = 1 ∨ R.1 = 2 → h.2 (q + 2) = some (hc_i32 (hw_pow w n * n) pf)) ∧
  (R.1 = 2 → h.2 (q + 3) = some (hc_i32 5 (fun e => hI (R.2.2.2.1 e))) ∧ h.2 (q + 4) = some (hc_i32 4 (fun i => hI (R.2.2.2.2.1 i))) ∧ ∃ sf, h.2 (q + 5) = some (hc_i32 5 sf)) ∧
  (R.1 = 3 → h.2 (q + 2) = some (hc_i32 3 (fun i => hI (R.2.2.2.2.2 i))) ∧ ∃ sf, h.2 (q + 3) = some (hc_i32 5 sf)) ∧
  (∀ r, r < hw_pow w n → (2 ≤ R.1 ∧ ef r = -1) ∨ (ef r = hI (hr_end n m w num R r) ∧ (R.1 = 1 ∨ R.1 = 2 → ∀ i, i < n → pf (r * n + i) = hI (hr_pay n m w num R r i))))
/-- a row that is worked out -/
def hr_st (ef : Nat → Int32) (r : Nat) : Prop := ef r ≠ -1
theorem hr_kd {kd : Nat} (h : kd ≤ 3) : kd = 0 ∨ kd = 1 ∨ kd = 2 ∨ kd = 3 := by omega
theorem hr_dEnd {kd : Nat} (h : kd ≤ 3) : hk_dis yX5_endAt (hr_ci kd) m_X5_endAt 1 := by
  rcases hr_kd h with rfl | rfl | rfl | rfl
  · exact di_X5_endAt_5
  · exact di_X5_endAt_3
  · exact di_X5_endAt_7
  · exact di_X5_endAt_2
def hr_mPay (kd : Nat) : hk_M := if kd = 1 ∨ kd = 2 then m_X3_paymentAt else m_X5_paymentAt
theorem hr_dPay {kd : Nat} (h : kd ≤ 3) : hk_dis yX5_paymentAt (hr_ci kd) (hr_mPay kd) 2 := by
  rcases hr_kd h with rfl | rfl | rfl | rfl
  · exact di_X5_paymentAt_5
  · exact di_X5_paymentAt_3
  · exact di_X5_paymentAt_7
  · exact di_X5_paymentAt_2
theorem hr_dProfit {kd : Nat} (h : kd ≤ 3) : hk_dis yX5_profit (hr_ci kd) m_X5_profit 3 := by
  rcases hr_kd h with rfl | rfl | rfl | rfl
  · exact di_X5_profit_5
  · exact di_X5_profit_3
  · exact di_X5_profit_7
  · exact di_X5_profit_2
def hr_mSettle (kd : Nat) : hk_M := if kd = 2 then m_X7_settle else if kd = 3 then m_X2_settle else m_X5_settle
theorem hr_dSettle {kd : Nat} (h : kd ≤ 3) : hk_dis yX5_settle (hr_ci kd) (hr_mSettle kd) 1 := by
  rcases hr_kd h with rfl | rfl | rfl | rfl
  · exact di_X5_settle_5
  · exact di_X5_settle_3
  · exact di_X5_settle_7
  · exact di_X5_settle_2
/-- where the row of ends, the list stand among a rule's fields -/
def hr_kE (kd : Nat) : Nat := if kd = 2 then 3 else 2
def hr_kW (kd : Nat) : Nat := if kd = 2 then 2 else 1
theorem hr_flE {kd : Nat} (h : kd ≤ 3) : hk_fl RX5 24 (hr_ci kd) (hr_kE kd) := by
  rcases hr_kd h with rfl | rfl | rfl | rfl
  · exact fl_X5_24_5
  · exact fl_X5_24_3
  · exact fl_X5_24_7
  · exact fl_X5_24_2
theorem hr_flW {kd : Nat} (h : kd ≤ 3) : hk_fl RX5 15 (hr_ci kd) (hr_kW kd) := by
  rcases hr_kd h with rfl | rfl | rfl | rfl
  · exact fl_X5_15_5
  · exact fl_X5_15_3
  · exact fl_X5_15_7
  · exact fl_X5_15_2
theorem hr_fsE {kd : Nat} (h : kd ≤ 3) (q k : Nat) : (hr_fs kd q k)[hr_kE kd]? = some (.ref (q + 1)) := by
  rcases hr_kd h with rfl | rfl | rfl | rfl <;> rfl
theorem hr_fsW {kd : Nat} (h : kd ≤ 3) (q k : Nat) : (hr_fs kd q k)[hr_kW kd]? = some (.ref 5) := by
  rcases hr_kd h with rfl | rfl | rfl | rfl <;> rfl
section SR
variable {G : hk_G} {h : hk_H} {n m w : Nat} {num : Nat → Int} {pw : Nat → Int32} {d q k : Nat} {R : hr_R} {ef pf : Nat → Int32}
theorem hRu.end (H : hRu h q k n m w num R ef pf) {r : Nat} (hr : r < hw_pow w n) (hs : hr_st ef r) : ef r = hI (hr_end n m w num R r) := by
  rcases H.2.2.2.2.2.2.2 r hr with h1 | h1
  · exact absurd h1.2 hs
  · exact h1.1
theorem s_endAt (H : hRu h q k n m w num R ef pf) (hw : hw_pow w n ≤ 1296) {r : Nat} (hr : r < hw_pow w n) (hs : hr_st ef r) {K : Int32 → hk_H → Prop} (hk : K (hI (hr_end n m w num R r)) h) : hk_Ci G m_X5_endAt d 0 0 [.ref q, .int (hI r)] h K := by
  obtain ⟨h1, h2, h3, h4, h5, h6, h7, h8⟩ := id H
  refine ⟨Nat.le_of_ble_eq_true rfl, ?_⟩
  refine b_X5_endAt_0 h3 (hr_flE h1.1) (hr_fsE h1.1 q k) h4 r (hI_at rfl (by omega)) hr ⟨_, rfl, ?_⟩
  rw [H.end hr hs]
  exact hk
theorem s_paymentAt (HW : hW h n m w num pw) (H : hRu h q k n m w num R ef pf) {r i : Nat} (hr : r < hw_pow w n) (hi : i < n) (hs : hr_st ef r) {K : Int32 → hk_H → Prop} (hk : K (hI (hr_pay n m w num R r i)) h) : hk_Ci G (hr_mPay R.1) d 0 0 [.ref q, .int (hI r), .int (hI i)] h K := by
  obtain ⟨w1, w2, w3, w4, w5, w6, w7, w8⟩ := id HW
  obtain ⟨h1, h2, h3, h4, h5, h6, h7, h8⟩ := id H
  have hrow := hw_pow_lt (i := n) w7 (by omega)
  have hlt : r * n + i < hw_pow w n * n := by
    have : (r + 1) * n ≤ hw_pow w n * n := Nat.mul_le_mul_right _ hr
    rw [Nat.succ_mul] at this
    omega
  have hle : hw_pow w n * n ≤ 1296 * 4 := Nat.mul_le_mul hrow (by omega)
  have ex : (hI (r : Int) * hI (n : Int) + hI (i : Int)).toInt = ((r * n + i : Nat) : Int) := by
    rw [hI_mul, hI_add]
    exact hI_at (by push_cast; rfl) (by omega)
  have hpay : R.1 = 1 ∨ R.1 = 2 → pf (r * n + i) = hI (hr_pay n m w num R r i) := by
    intro hkd
    rcases h8 r hr with h9 | h9
    · exact absurd h9.2 hs
    · exact h9.2 hkd i hi
  rcases hr_kd h1.1 with e | e | e | e
  · rw [e]
    refine ⟨Nat.le_of_ble_eq_true rfl, ?_⟩
    refine b_X5_paymentAt_0 ⟨_, rfl, ?_⟩
    rw [show hr_pay n m w num R r i = 0 by unfold hr_pay; rw [e]; rfl] at hk
    exact hk
  · have h3' := h3
    rw [e] at h3' ⊢
    refine ⟨Nat.le_of_ble_eq_true rfl, ?_⟩
    refine b_X3_paymentAt_0 h3' fl_X3_16_3 rfl fl_X3_22_3 rfl w1 rfl (h5 (Or.inl e)) (r * n + i) ex hlt ⟨_, rfl, ?_⟩
    rw [hpay (Or.inl e)]
    exact hk
  · have h3' := h3
    rw [e] at h3' ⊢
    refine ⟨Nat.le_of_ble_eq_true rfl, ?_⟩
    refine b_X3_paymentAt_0 h3' fl_X3_16_7 rfl fl_X3_22_7 rfl w1 rfl (h5 (Or.inr e)) (r * n + i) ex hlt ⟨_, rfl, ?_⟩
    rw [hpay (Or.inr e)]
    exact hk
  · rw [e]
    refine ⟨Nat.le_of_ble_eq_true rfl, ?_⟩
    refine b_X5_paymentAt_0 ⟨_, rfl, ?_⟩
    rw [show hr_pay n m w num R r i = 0 by unfold hr_pay; rw [e]; rfl] at hk
    exact hk
end SR
