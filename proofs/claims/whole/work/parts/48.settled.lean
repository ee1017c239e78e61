/-- how many cells stand behind a rule's object -/
def hr_sz (kd : Nat) : Nat := if kd = 0 then 1 else if kd = 1 then 2 else if kd = 2 then 5 else 3
def hk_onz (h h' : hk_H) (q z : Nat) : Prop := h'.1 = h.1 ∧ ∀ a, ¬ (q < a ∧ a ≤ q + z) → h'.2 a = h.2 a
theorem hk_onz.rf {h : hk_H} {q z : Nat} : hk_onz h h q z := ⟨rfl, fun _ _ => rfl⟩
theorem hk_onz.set {h h' : hk_H} {q z : Nat} (H : hk_onz h h' q z) {a : Nat} {c : hk_AC} (ha : q < a ∧ a ≤ q + z) : hk_onz h (hk_set h' a c) q z := ⟨H.1, fun b hb => by rw [hk_set_ne (fun e => hb (by rw [e]; exact ha))]; exact H.2 b hb⟩
theorem hr_midFrom_lt {n m w : Nat} {num : Nat → Int} {R : hr_R} {r : Nat} (hm : 1 ≤ m) : ∀ (c e : Nat), e + c ≤ m → hr_midFrom n m w num R r c e < m := by
  intro c
  induction c with
  | zero => intro e he; show m - 1 < m; omega
  | succ c ih =>
    intro e he
    show (if (n : Int) ≤ hr_cnt n m w num R r e then e else hr_midFrom n m w num R r c (e + 1)) < m
    split
    · omega
    · exact ih (e + 1) (by omega)
theorem hr_end_lt {n m w : Nat} {num : Nat → Int} {R : hr_R} {r : Nat} (hm : 2 ≤ m) (hok : hr_ok n m w R) (hr : r < hw_pow w n) : hr_end n m w num R r < m := by
  unfold hr_end
  split
  · have := hw_best_le (fun e => hr_sum n w num R r e n) (m - 1)
    unfold hr_great
    omega
  · split
    · exact hr_midFrom_lt (by omega) m 0 (by omega)
    · exact hok.2.1 r hr
theorem hI_n1 {a : Nat} (ha : a < 2147483648) : hI (a : Int) ≠ -1 := by
  rw [show (-1 : Int32) = hI (-1) from rfl, Ne, hI_eq (hI_rN ha) ⟨by omega, by omega⟩]
  omega
section SZ
variable {G : hk_G} {h : hk_H} {n m w : Nat} {num : Nat → Int} {pw : Nat → Int32} {d q k : Nat} {R : hr_R} {ef pf : Nat → Int32}
theorem hRu.told (HW : hW h n m w num pw) (H : hRu h q k n m w num R ef pf) (hkd : R.1 < 2) {r : Nat} (hr : r < hw_pow w n) : hr_st ef r := by
  rcases H.2.2.2.2.2.2.2 r hr with h9 | h9
  · omega
  · unfold hr_st
    rw [h9.1]
    have := hr_end_lt (num := num) HW.2.2.2.2.2.1.1 H.1 hr
    exact hI_n1 (by have := HW.2.2.2.2.2.1.2; omega)
theorem s_settle (HW : hW h n m w num pw) (H : hRu h q k n m w num R ef pf) (hw : 1 ≤ w) {r : Nat} (hr : r < hw_pow w n) {K : hk_H → Prop} (hk : ∀ h' ef' pf', hk_onz h h' q (hr_sz R.1) → hRu h' q k n m w num R ef' pf' → hr_st ef' r → (∀ r', hr_st ef r' → hr_st ef' r') → K h') : hk_Cv G (hr_mSettle R.1) (d + 3) 0 0 [.ref q, .int (hI r)] h K := by
  obtain ⟨w1, w2, w3, w4, w5, w6, w7, w8⟩ := id HW
  obtain ⟨h1, h2, h3, h4, h5, h6, h7, h8⟩ := id H
  have hrow := hw_pow_lt (i := n) w7 (by omega)
  have hel := hr_end_lt (num := num) w6.1 h1 hr
  have hup : ∀ r', hr_st ef r' → hr_st (upd ef r (hI (hr_end n m w num R r))) r' := fun r' hs => by
    unfold hr_st at hs ⊢
    by_cases e : r' = r
    · simp only [upd, e, if_true]
      exact hI_n1 (by omega)
    · simp only [upd, e, if_false]
      exact hs
  have hst : hr_st (upd ef r (hI (hr_end n m w num R r))) r := by
    unfold hr_st
    simp only [upd, if_true]
    exact hI_n1 (by omega)
  rcases hr_kd h1.1 with e | e | e | e
  · rw [e]
    exact ⟨Nat.le_of_ble_eq_true rfl, b_X5_settle_0 ⟨rfl, hk h ef pf hk_onz.rf H (H.told HW (by omega) hr) fun _ hs => hs⟩⟩
  · rw [e]
    exact ⟨Nat.le_of_ble_eq_true rfl, b_X5_settle_0 ⟨rfl, hk h ef pf hk_onz.rf H (H.told HW (by omega) hr) fun _ hs => hs⟩⟩
  · have h3' := h3
    rw [e] at h3'
    have em : hr_mSettle R.1 = m_X7_settle := by rw [e]; rfl
    rw [em]
    refine ⟨Nat.le_of_ble_eq_true rfl, ?_⟩
    refine b_X7_settle_0 h3' rfl h4 r (hI_at rfl (by omega)) hr (fun c => ?_) (fun c => ?_)
    · exact b_X7_settle_15 ⟨rfl, hk h ef pf hk_onz.rf H c fun _ hs => hs⟩
    · refine b_X7_settle_10 h3' (s_workOut HW H e hw hr fun h' pf' ho hr' => ?_)
      exact b_X7_settle_15 ⟨rfl, hk h' _ pf' (by rw [e]; exact ho) hr' hst hup⟩
  · have h3' := h3
    rw [e] at h3'
    have hz : hr_sz R.1 = 3 := by rw [e]; rfl
    have em : hr_mSettle R.1 = m_X2_settle := by rw [e]; rfl
    rw [em]
    refine ⟨Nat.le_of_ble_eq_true rfl, ?_⟩
    refine b_X2_settle_0 h3' rfl h4 r (hI_at rfl (by omega)) hr (fun c => ?_) (fun c => ?_)
    · exact b_X2_settle_21 ⟨rfl, hk h ef pf hk_onz.rf H c fun _ hs => hs⟩
    · have hmid : hr_end n m w num R r = hr_mid n m w num R r := by
        unfold hr_end
        rw [if_neg (by omega), if_pos e]
      obtain ⟨g1, sf0, g2⟩ := h7 e
      refine b_X2_settle_10 h3' rfl (s_middleOf HW H e hw hr fun sf => ?_)
      refine b_X2_settle_20 (by rw [hk_set_ne (by omega)]; exact h4) (by omega) r (hI_at rfl (by omega)) hr rfl ⟨rfl, ?_⟩
      rw [← hmid]
      refine hk _ _ pf ((hk_onz.rf.set (by omega)).set (by omega)) ⟨h1, h2, ?_, hk_set_eq, fun c9 => by omega, fun c9 => by omega, fun _ => ⟨?_, sf, ?_⟩, fun r' hr' => ?_⟩ hst hup
      · rw [hk_set_ne (by omega), hk_set_ne (by omega)]; exact h3
      · rw [hk_set_ne (by omega), hk_set_ne (by omega)]; exact g1
      · rw [hk_set_ne (by omega)]; exact hk_set_eq
      · by_cases er : r' = r
        · subst er
          exact Or.inr ⟨by simp [upd], fun c9 => by omega⟩
        · rcases h8 r' hr' with h9 | h9
          · exact Or.inl ⟨h9.1, by simp only [upd, er, if_false]; exact h9.2⟩
          · exact Or.inr ⟨by simp only [upd, er, if_false]; exact h9.1, fun c9 => by omega⟩
/-- what a row's end is worth to person i who has the wish a, less what they pay -/
def hr_val (n m w : Nat) (num : Nat → Int) (R : hr_R) (r i a : Nat) : Int := num (a * 5 + hr_end n m w num R r) - hr_pay n m w num R r i
theorem s_profit (HW : hW h n m w num pw) (H : hRu h q k n m w num R ef pf) {r i a : Nat} (hr : r < hw_pow w n) (hi : i < n) (ha : a < 6) (hs : hr_st ef r) {K : Int32 → hk_H → Prop} (hk : K (hI (hr_val n m w num R r i a)) h) : hk_Ci G m_X5_profit (d + 1) 0 0 [.ref q, .int (hI r), .int (hI i), .int (hI a)] h K := by
  obtain ⟨w1, w2, w3, w4, w5, w6, w7, w8⟩ := id HW
  obtain ⟨h1, h2, h3, h4, h5, h6, h7, h8⟩ := id H
  have hel := hr_end_lt (num := num) w6.1 h1 hr
  refine ⟨Nat.le_of_ble_eq_true rfl, ?_⟩
  refine b_X5_profit_0 h3 (hr_flW h1.1) (hr_fsW h1.1 q k) (hr_dEnd h1.1) (s_endAt H (hw_pow_lt w7 (by omega)) hr hs ?_)
  refine b_X5_profit_10 w1 (s_number HW ha (by omega) ?_)
  refine b_X5_profit_13 (hr_dPay h1.1) h3 (s_paymentAt HW H hr hi hs ?_)
  refine b_X5_profit_19 ⟨_, rfl, ?_⟩
  rw [hI_sub]
  exact hk
end SZ
