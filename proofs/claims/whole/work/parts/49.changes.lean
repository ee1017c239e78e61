/-! What changes a rule. -/
def hr_setE (R : hr_R) (r e : Nat) : hr_R := (R.1, fun j => if j = r then e else R.2.1 j, R.2.2)
def hr_setP (R : hr_R) (r i : Nat) (v : Int) : hr_R := (R.1, R.2.1, fun r' i' => if r' = r ∧ i' = i then v else R.2.2.1 r' i', R.2.2.2)
def hr_setG (R : hr_R) (e : Nat) (v : Int) : hr_R := (R.1, R.2.1, R.2.2.1, fun j => if j = e then v else R.2.2.2.1 j, R.2.2.2.2)
def hr_setW (R : hr_R) (i : Nat) (v : Int) : hr_R := (R.1, R.2.1, R.2.2.1, R.2.2.2.1, fun j => if j = i then v else R.2.2.2.2.1 j, R.2.2.2.2.2)
def hr_setL (R : hr_R) (i e : Nat) : hr_R := (R.1, R.2.1, R.2.2.1, R.2.2.2.1, R.2.2.2.2.1, fun j => if j = i then e else R.2.2.2.2.2 j)
def hr_mCE (kd : Nat) : hk_M := if kd = 2 then m_X7_changeEnd else if kd = 3 then m_X2_changeEnd else m_X5_changeEnd
theorem hr_dCE {kd : Nat} (h : kd ≤ 3) : hk_dis yX5_changeEnd (hr_ci kd) (hr_mCE kd) 2 := by
  rcases hr_kd h with rfl | rfl | rfl | rfl
  · exact di_X5_changeEnd_5
  · exact di_X5_changeEnd_3
  · exact di_X5_changeEnd_7
  · exact di_X5_changeEnd_2
def hr_mCP (kd : Nat) : hk_M := if kd = 1 then m_X3_changePayment else if kd = 2 then m_X7_changePayment else m_X5_changePayment
theorem hr_dCP {kd : Nat} (h : kd ≤ 3) : hk_dis yX5_changePayment (hr_ci kd) (hr_mCP kd) 3 := by
  rcases hr_kd h with rfl | rfl | rfl | rfl
  · exact di_X5_changePayment_5
  · exact di_X5_changePayment_3
  · exact di_X5_changePayment_7
  · exact di_X5_changePayment_2
def hr_mCG (kd : Nat) : hk_M := if kd = 2 then m_X7_changeGift else m_X5_changeGift
theorem hr_dCG {kd : Nat} (h : kd ≤ 3) : hk_dis yX5_changeGift (hr_ci kd) (hr_mCG kd) 2 := by
  rcases hr_kd h with rfl | rfl | rfl | rfl
  · exact di_X5_changeGift_5
  · exact di_X5_changeGift_3
  · exact di_X5_changeGift_7
  · exact di_X5_changeGift_2
def hr_mCW (kd : Nat) : hk_M := if kd = 2 then m_X7_changeWeight else m_X5_changeWeight
theorem hr_dCW {kd : Nat} (h : kd ≤ 3) : hk_dis yX5_changeWeight (hr_ci kd) (hr_mCW kd) 2 := by
  rcases hr_kd h with rfl | rfl | rfl | rfl
  · exact di_X5_changeWeight_5
  · exact di_X5_changeWeight_3
  · exact di_X5_changeWeight_7
  · exact di_X5_changeWeight_2
def hr_mCL (kd : Nat) : hk_M := if kd = 3 then m_X2_changePlace else m_X5_changePlace
theorem hr_dCL {kd : Nat} (h : kd ≤ 3) : hk_dis yX5_changePlace (hr_ci kd) (hr_mCL kd) 2 := by
  rcases hr_kd h with rfl | rfl | rfl | rfl
  · exact di_X5_changePlace_5
  · exact di_X5_changePlace_3
  · exact di_X5_changePlace_7
  · exact di_X5_changePlace_2
section SC
variable {G : hk_G} {h : hk_H} {n m w : Nat} {num : Nat → Int} {pw : Nat → Int32} {d q k : Nat} {R : hr_R} {ef pf : Nat → Int32}
theorem s_changeEnd (HW : hW h n m w num pw) (H : hRu h q k n m w num R ef pf) (hkd : R.1 < 2) {r e : Nat} (hr : r < hw_pow w n) (he : e < m) {K : Int32 → hk_H → Prop} (hk : ∀ h', hk_onz h h' q (hr_sz R.1) → hRu h' q k n m w num (hr_setE R r e) (upd ef r (hI e)) pf → K (hI (R.2.1 r)) h') : hk_Ci G (hr_mCE R.1) d 0 0 [.ref q, .int (hI r), .int (hI e)] h K := by
  obtain ⟨w1, w2, w3, w4, w5, w6, w7, w8⟩ := id HW
  obtain ⟨h1, h2, h3, h4, h5, h6, h7, h8⟩ := id H
  have hrow := hw_pow_lt (i := n) w7 (by omega)
  have hz : 1 ≤ hr_sz R.1 := by unfold hr_sz; split <;> (try split) <;> (try split) <;> omega
  have em : hr_mCE R.1 = m_X5_changeEnd := by unfold hr_mCE; rw [if_neg (by omega), if_neg (by omega)]
  have hen : ∀ r', hr_end n m w num R r' = R.2.1 r' := fun r' => by unfold hr_end; rw [if_neg (by omega), if_neg (by omega)]
  have hen' : ∀ r', hr_end n m w num (hr_setE R r e) r' = if r' = r then e else R.2.1 r' := fun r' => by
    unfold hr_end
    rw [if_neg (by show ¬ R.1 = 2; omega), if_neg (by show ¬ R.1 = 3; omega)]
    rfl
  have hpy : ∀ r' i, hr_pay n m w num (hr_setE R r e) r' i = hr_pay n m w num R r' i := fun r' i => rfl
  rw [em]
  refine ⟨Nat.le_of_ble_eq_true rfl, ?_⟩
  refine b_X5_changeEnd_0 h3 (hr_flE h1.1) (hr_fsE h1.1 q k) h4 r (hI_at rfl (by omega)) hr (by omega) rfl ⟨_, rfl, ?_⟩
  rw [H.end hr (H.told HW hkd hr), hen]
  refine hk _ (hk_onz.rf.set (by omega)) ⟨⟨h1.1, fun r' hr' => ?_, h1.2.2⟩, h2, ?_, hk_set_eq, fun c => ?_, fun c => absurd c (by show ¬ R.1 = 2; omega), fun c => absurd c (by show ¬ R.1 = 3; omega), fun r' hr' => Or.inr ⟨?_, fun c i hi => ?_⟩⟩
  · show (if r' = r then e else R.2.1 r') < m
    split
    · exact he
    · exact h1.2.1 r' hr'
  · rw [hk_set_ne (by omega)]; exact h3
  · rw [hk_set_ne (by omega)]; exact h5 c
  · rw [hen']
    by_cases er : r' = r
    · simp [upd, er]
    · simp only [upd, er, if_false]
      rw [H.end hr' (H.told HW hkd hr'), hen]
  · rw [hpy]
    rcases h8 r' hr' with h9 | h9
    · omega
    · exact h9.2 c i hi
theorem s_changeEndN (H : hRu h q k n m w num R ef pf) (hkd : ¬ R.1 < 2) {r e : Int32} {K : Int32 → hk_H → Prop} (hk : K (-4) h) : hk_Ci G (hr_mCE R.1) d 0 0 [.ref q, .int r, .int e] h K := by
  rcases hr_kd H.1.1 with e | e | e | e
  · omega
  · omega
  · rw [e]
    exact ⟨Nat.le_of_ble_eq_true rfl, b_X7_changeEnd_0 ⟨_, rfl, hk⟩⟩
  · rw [e]
    exact ⟨Nat.le_of_ble_eq_true rfl, b_X2_changeEnd_0 ⟨_, rfl, hk⟩⟩
theorem s_changePayment (HW : hW h n m w num pw) (H : hRu h q k n m w num R ef pf) (hkd : R.1 = 1) {r i : Nat} {v : Int} (hr : r < hw_pow w n) (hi : i < n) (hv : -9999 ≤ v ∧ v ≤ 9999) {K : Int32 → hk_H → Prop} (hk : ∀ h', hk_onz h h' q (hr_sz R.1) → hRu h' q k n m w num (hr_setP R r i v) ef (upd pf (r * n + i) (hI v)) → K (if R.2.2.1 r i = v then 0 else 1) h') : hk_Ci G (hr_mCP R.1) d 0 0 [.ref q, .int (hI r), .int (hI i), .int (hI v)] h K := by
  obtain ⟨w1, w2, w3, w4, w5, w6, w7, w8⟩ := id HW
  obtain ⟨h1, h2, h3, h4, h5, h6, h7, h8⟩ := id H
  have hrow := hw_pow_lt (i := n) w7 (by omega)
  have hlt : r * n + i < hw_pow w n * n := by
    have : (r + 1) * n ≤ hw_pow w n * n := Nat.mul_le_mul_right _ hr
    rw [Nat.succ_mul] at this
    omega
  have hle : hw_pow w n * n ≤ 1296 * 4 := Nat.mul_le_mul hrow (by omega)
  have ex : (hI (r : Int) * hI (n : Int) + hI (i : Int)).toInt = ((r * n + i : Nat) : Int) := by
    rw [hI_mul, hI_add]
    exact hI_at (by push_cast; rfl) (by omega)
  have hpR : ∀ r' i', hr_pay n m w num R r' i' = R.2.2.1 r' i' := fun r' i' => if_pos hkd
  have hpR' : ∀ r' i', hr_pay n m w num (hr_setP R r i v) r' i' = if r' = r ∧ i' = i then v else R.2.2.1 r' i' := fun r' i' => if_pos hkd
  have hb := h1.2.2.1 r i hr hi
  have hpf : pf (r * n + i) = hI (R.2.2.1 r i) := by
    rcases h8 r hr with h9 | h9
    · omega
    · rw [h9.2 (Or.inl hkd) i hi, hpR]
  have h3' := h3
  rw [hkd] at h3'
  have hz : hr_sz R.1 = 2 := by rw [hkd]; rfl
  have em : hr_mCP R.1 = m_X3_changePayment := by rw [hkd]; rfl
  have fin : hRu (hk_set h (q + 2) (hc_i32 (hw_pow w n * n) (upd pf (r * n + i) (hI v)))) q k n m w num (hr_setP R r i v) ef (upd pf (r * n + i) (hI v)) := by
    refine ⟨⟨h1.1, h1.2.1, fun r' i' hr' hi' => ?_, h1.2.2.2⟩, h2, ?_, ?_, fun _ => hk_set_eq, fun c => absurd c (by show ¬ R.1 = 2; omega), fun c => absurd c (by show ¬ R.1 = 3; omega), fun r' hr' => Or.inr ⟨?_, fun c i' hi' => ?_⟩⟩
    · show -9999 ≤ (if r' = r ∧ i' = i then v else R.2.2.1 r' i') ∧ (if r' = r ∧ i' = i then v else R.2.2.1 r' i') ≤ 9999
      split
      · exact hv
      · exact h1.2.2.1 r' i' hr' hi'
    · rw [hk_set_ne (by omega)]; exact h3
    · rw [hk_set_ne (by omega)]; exact h4
    · have : hr_end n m w num (hr_setP R r i v) r' = hr_end n m w num R r' := by
        unfold hr_end
        rw [if_neg (by show ¬ (hr_setP R r i v).1 = 2; show ¬ R.1 = 2; omega), if_neg (show ¬ R.1 = 2 by omega), if_neg (by show ¬ (hr_setP R r i v).1 = 3; show ¬ R.1 = 3; omega), if_neg (show ¬ R.1 = 3 by omega)]
        rfl
      rw [this]
      exact H.end hr' (H.told HW (by omega) hr')
    · rw [hpR']
      by_cases e1 : r' = r
      · subst e1
        by_cases e2 : i' = i
        · subst e2
          simp [upd]
        · have : ¬ r' * n + i' = r' * n + i := by omega
          simp only [upd, this, if_false]
          rw [if_neg (fun c9 => e2 c9.2)]
          rcases h8 r' hr' with h9 | h9
          · omega
          · rw [h9.2 (Or.inl hkd) i' hi', hpR]
      · have : ¬ r' * n + i' = r * n + i := fun c9 => hr_place e1 hi' (by omega)
        simp only [upd, this, if_false]
        rw [if_neg (fun c9 => e1 c9.1)]
        rcases h8 r' hr' with h9 | h9
        · omega
        · rw [h9.2 (Or.inl hkd) i' hi', hpR]
  have hk := hk _ (hk_onz.rf.set (by omega)) fin
  rw [em]
  refine ⟨Nat.le_of_ble_eq_true rfl, ?_⟩
  refine b_X3_changePayment_0 h3' fl_X3_22_3 rfl w1 rfl fl_X3_16_3 rfl (h5 (Or.inl hkd)) (r * n + i) ex hlt (by omega) rfl (fun c => ?_) (fun c => ?_)
  · rw [hpf, hI_eq ⟨by omega, by omega⟩ ⟨by omega, by omega⟩] at c
    rw [if_neg c] at hk
    exact b_X3_changePayment_40 ⟨_, rfl, hk⟩
  · rw [hpf, hI_eq ⟨by omega, by omega⟩ ⟨by omega, by omega⟩] at c
    rw [if_pos c] at hk
    exact b_X3_changePayment_36 ⟨_, rfl, hk⟩
theorem s_changePaymentN (H : hRu h q k n m w num R ef pf) (hkd : ¬ R.1 = 1) {r i v : Int32} {K : Int32 → hk_H → Prop} (hk : K (-4) h) : hk_Ci G (hr_mCP R.1) d 0 0 [.ref q, .int r, .int i, .int v] h K := by
  rcases hr_kd H.1.1 with e | e | e | e
  · rw [e]
    exact ⟨Nat.le_of_ble_eq_true rfl, b_X5_changePayment_0 ⟨_, rfl, hk⟩⟩
  · omega
  · rw [e]
    exact ⟨Nat.le_of_ble_eq_true rfl, b_X7_changePayment_0 ⟨_, rfl, hk⟩⟩
  · rw [e]
    exact ⟨Nat.le_of_ble_eq_true rfl, b_X5_changePayment_0 ⟨_, rfl, hk⟩⟩
end SC
