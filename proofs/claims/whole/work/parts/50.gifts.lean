theorem hr_setG_same {R : hr_R} {e : Nat} : hr_setG R e (R.2.2.2.1 e) = R := by
  obtain ⟨a, b, c, g, wt, l⟩ := R
  have : (fun j => if j = e then g e else g j) = g := by
    funext j
    by_cases h : j = e <;> simp [h]
  show (a, b, c, (fun j => if j = e then g e else g j), wt, l) = _
  rw [this]
theorem hr_setW_same {R : hr_R} {e : Nat} : hr_setW R e (R.2.2.2.2.1 e) = R := by
  obtain ⟨a, b, c, g, wt, l⟩ := R
  have : (fun j => if j = e then wt e else wt j) = wt := by
    funext j
    by_cases h : j = e <;> simp [h]
  show (a, b, c, g, (fun j => if j = e then wt e else wt j), l) = _
  rw [this]
section SG
variable {G : hk_G} {h : hk_H} {n m w : Nat} {num : Nat → Int} {pw : Nat → Int32} {d q k : Nat} {R : hr_R} {ef pf : Nat → Int32}
theorem hr_updI {f : Nat → Int} {j : Nat} {v : Int} : upd (fun e => hI (f e)) j (hI v) = fun e => hI (if e = j then v else f e) := by
  funext e
  by_cases h : e = j <;> simp [upd, h]
theorem s_changeGift (HW : hW h n m w num pw) (H : hRu h q k n m w num R ef pf) (hkd : R.1 = 2) {e : Nat} {v : Int} (he : e < m) (hv : -99 ≤ v ∧ v ≤ 99) {K : Int32 → hk_H → Prop} (hk : ∀ h' ef', hk_onz h h' q (hr_sz R.1) → hRu h' q k n m w num (hr_setG R e v) ef' pf → K (if R.2.2.2.1 e = v then 0 else 1) h') : hk_Ci G (hr_mCG R.1) (d + 2) 0 0 [.ref q, .int (hI e), .int (hI v)] h K := by
  obtain ⟨w1, w2, w3, w4, w5, w6, w7, w8⟩ := id HW
  obtain ⟨h1, h2, h3, h4, h5, h6, h7, h8⟩ := id H
  have hrow := hw_pow_lt (i := n) w7 (by omega)
  obtain ⟨g1, g2, sf0, g3⟩ := h6 hkd
  have hb := h1.2.2.2.1 e (by omega)
  have h3' := h3
  rw [hkd] at h3'
  have hz : hr_sz R.1 = 5 := by rw [hkd]; rfl
  have em : hr_mCG R.1 = m_X7_changeGift := by rw [hkd]; rfl
  rw [em]
  refine ⟨Nat.le_of_ble_eq_true rfl, ?_⟩
  refine b_X7_changeGift_0 h3' rfl ⟨Nat.le_of_ble_eq_true rfl, ?_⟩
  refine b_X7_change_0 g1 e (hI_at rfl (by omega)) (by omega) (fun c => ?_) (fun c => ?_)
  · rw [hI_eq ⟨by omega, by omega⟩ ⟨by omega, by omega⟩] at c
    have hk := fun h' ef' => hk h' ef'
    rw [if_neg c] at hk
    refine b_X7_change_9 g1 (by omega) e (hI_at rfl (by omega)) (by omega) rfl (by rw [hk_set_ne (by omega)]; exact h3') rfl ?_
    rw [hr_updI]
    refine s_fill (by rw [hk_set_ne (by omega)]; exact h4) (by omega) (by omega) fun g hg => ?_
    refine b_X7_change_21 ⟨_, rfl, b_X7_changeGift_10 ⟨_, rfl, ?_⟩⟩
    refine hk _ g ((hk_onz.rf.set (by omega)).set (by omega)) ⟨⟨h1.1, h1.2.1, h1.2.2.1, fun j hj => ?_, h1.2.2.2.2⟩, h2, ?_, hk_set_eq, fun _ => ?_, fun _ => ⟨?_, ?_, sf0, ?_⟩, fun c9 => absurd c9 (by show ¬ R.1 = 3; omega), fun r hr => Or.inl ⟨by show 2 ≤ R.1; omega, hg r hr⟩⟩
    · show -99 ≤ (if j = e then v else R.2.2.2.1 j) ∧ (if j = e then v else R.2.2.2.1 j) ≤ 99
      split
      · exact hv
      · exact h1.2.2.2.1 j hj
    · rw [hk_set_ne (by omega), hk_set_ne (by omega)]; exact h3
    · rw [hk_set_ne (by omega), hk_set_ne (by omega)]; exact h5 (Or.inr hkd)
    · rw [hk_set_ne (by omega)]; exact hk_set_eq
    · rw [hk_set_ne (by omega), hk_set_ne (by omega)]; exact g2
    · rw [hk_set_ne (by omega), hk_set_ne (by omega)]; exact g3
  · rw [hI_eq ⟨by omega, by omega⟩ ⟨by omega, by omega⟩] at c
    have hk := hk h ef hk_onz.rf (by rw [← c, hr_setG_same]; exact H)
    rw [if_pos c] at hk
    exact b_X7_change_7 ⟨_, rfl, b_X7_changeGift_10 ⟨_, rfl, hk⟩⟩
theorem s_changeWeight (HW : hW h n m w num pw) (H : hRu h q k n m w num R ef pf) (hkd : R.1 = 2) {e : Nat} {v : Int} (he : e < n) (hv : 0 ≤ v ∧ v ≤ 9) {K : Int32 → hk_H → Prop} (hk : ∀ h' ef', hk_onz h h' q (hr_sz R.1) → hRu h' q k n m w num (hr_setW R e v) ef' pf → K (if R.2.2.2.2.1 e = v then 0 else 1) h') : hk_Ci G (hr_mCW R.1) (d + 2) 0 0 [.ref q, .int (hI e), .int (hI v)] h K := by
  obtain ⟨w1, w2, w3, w4, w5, w6, w7, w8⟩ := id HW
  obtain ⟨h1, h2, h3, h4, h5, h6, h7, h8⟩ := id H
  have hrow := hw_pow_lt (i := n) w7 (by omega)
  obtain ⟨g1, g2, sf0, g3⟩ := h6 hkd
  have hb := h1.2.2.2.2.1 e (by omega)
  have h3' := h3
  rw [hkd] at h3'
  have hz : hr_sz R.1 = 5 := by rw [hkd]; rfl
  have em : hr_mCW R.1 = m_X7_changeWeight := by rw [hkd]; rfl
  rw [em]
  refine ⟨Nat.le_of_ble_eq_true rfl, ?_⟩
  refine b_X7_changeWeight_0 h3' rfl ⟨Nat.le_of_ble_eq_true rfl, ?_⟩
  refine b_X7_change_0 g2 e (hI_at rfl (by omega)) (by omega) (fun c => ?_) (fun c => ?_)
  · rw [hI_eq ⟨by omega, by omega⟩ ⟨by omega, by omega⟩] at c
    have hk := fun h' ef' => hk h' ef'
    rw [if_neg c] at hk
    refine b_X7_change_9 g2 (by omega) e (hI_at rfl (by omega)) (by omega) rfl (by rw [hk_set_ne (by omega)]; exact h3') rfl ?_
    rw [hr_updI]
    refine s_fill (by rw [hk_set_ne (by omega)]; exact h4) (by omega) (by omega) fun g hg => ?_
    refine b_X7_change_21 ⟨_, rfl, b_X7_changeWeight_10 ⟨_, rfl, ?_⟩⟩
    refine hk _ g ((hk_onz.rf.set (by omega)).set (by omega)) ⟨⟨h1.1, h1.2.1, h1.2.2.1, h1.2.2.2.1, fun j hj => ?_, h1.2.2.2.2.2⟩, h2, ?_, hk_set_eq, fun _ => ?_, fun _ => ⟨?_, ?_, sf0, ?_⟩, fun c9 => absurd c9 (by show ¬ R.1 = 3; omega), fun r hr => Or.inl ⟨by show 2 ≤ R.1; omega, hg r hr⟩⟩
    · show 0 ≤ (if j = e then v else R.2.2.2.2.1 j) ∧ (if j = e then v else R.2.2.2.2.1 j) ≤ 9
      split
      · exact hv
      · exact h1.2.2.2.2.1 j hj
    · rw [hk_set_ne (by omega), hk_set_ne (by omega)]; exact h3
    · rw [hk_set_ne (by omega), hk_set_ne (by omega)]; exact h5 (Or.inr hkd)
    · rw [hk_set_ne (by omega), hk_set_ne (by omega)]; exact g1
    · rw [hk_set_ne (by omega)]; exact hk_set_eq
    · rw [hk_set_ne (by omega), hk_set_ne (by omega)]; exact g3
  · rw [hI_eq ⟨by omega, by omega⟩ ⟨by omega, by omega⟩] at c
    have hk := hk h ef hk_onz.rf (by rw [← c, hr_setW_same]; exact H)
    rw [if_pos c] at hk
    exact b_X7_change_7 ⟨_, rfl, b_X7_changeWeight_10 ⟨_, rfl, hk⟩⟩
theorem s_changePlace (HW : hW h n m w num pw) (H : hRu h q k n m w num R ef pf) (hkd : R.1 = 3) {i e : Nat} (hi : i < n - 1) (he : e < m) {K : Int32 → hk_H → Prop} (hk : ∀ h' ef', hk_onz h h' q (hr_sz R.1) → hRu h' q k n m w num (hr_setL R i e) ef' pf → K (hI (R.2.2.2.2.2 i)) h') : hk_Ci G (hr_mCL R.1) (d + 1) 0 0 [.ref q, .int (hI i), .int (hI e)] h K := by
  obtain ⟨w1, w2, w3, w4, w5, w6, w7, w8⟩ := id HW
  obtain ⟨h1, h2, h3, h4, h5, h6, h7, h8⟩ := id H
  have hrow := hw_pow_lt (i := n) w7 (by omega)
  obtain ⟨g1, sf0, g2⟩ := h7 hkd
  have h3' := h3
  rw [hkd] at h3'
  have hz : hr_sz R.1 = 3 := by rw [hkd]; rfl
  have em : hr_mCL R.1 = m_X2_changePlace := by rw [hkd]; rfl
  rw [em]
  refine ⟨Nat.le_of_ble_eq_true rfl, ?_⟩
  have eu : upd (fun j => hI ((R.2.2.2.2.2 j : Nat) : Int)) i (hI (e : Int)) = fun j => hI (((if j = i then e else R.2.2.2.2.2 j : Nat)) : Int) := by
    funext j
    by_cases h : j = i <;> simp [upd, h]
  refine b_X2_changePlace_0 h3' rfl g1 i (hI_at rfl (by omega)) (by omega) (by omega) rfl (by rw [hk_set_ne (by omega)]; exact h3') rfl ?_
  rw [eu]
  refine s_fill (by rw [hk_set_ne (by omega)]; exact h4) (by omega) (by omega) fun g hg => ?_
  refine b_X2_changePlace_22 ⟨_, rfl, ?_⟩
  refine hk _ g ((hk_onz.rf.set (by omega)).set (by omega)) ⟨⟨h1.1, h1.2.1, h1.2.2.1, h1.2.2.2.1, h1.2.2.2.2.1, fun j hj => ?_⟩, h2, ?_, hk_set_eq, fun c9 => absurd c9 (by show ¬ (R.1 = 1 ∨ R.1 = 2); omega), fun c9 => absurd c9 (by show ¬ R.1 = 2; omega), fun _ => ⟨?_, sf0, ?_⟩, fun r hr => Or.inl ⟨by show 2 ≤ R.1; omega, hg r hr⟩⟩
  · show (if j = i then e else R.2.2.2.2.2 j) < m
    split
    · exact he
    · exact h1.2.2.2.2.2 j hj
  · rw [hk_set_ne (by omega), hk_set_ne (by omega)]; exact h3
  · rw [hk_set_ne (by omega)]; exact hk_set_eq
  · rw [hk_set_ne (by omega), hk_set_ne (by omega)]; exact g2
theorem s_changeGiftN (H : hRu h q k n m w num R ef pf) (hkd : ¬ R.1 = 2) {a b : Int32} {K : Int32 → hk_H → Prop} (hk : K (-4) h) : hk_Ci G (hr_mCG R.1) d 0 0 [.ref q, .int a, .int b] h K := by
  have em : hr_mCG R.1 = m_X5_changeGift := if_neg hkd
  rw [em]
  exact ⟨Nat.le_of_ble_eq_true rfl, b_X5_changeGift_0 ⟨_, rfl, hk⟩⟩
theorem s_changeWeightN (H : hRu h q k n m w num R ef pf) (hkd : ¬ R.1 = 2) {a b : Int32} {K : Int32 → hk_H → Prop} (hk : K (-4) h) : hk_Ci G (hr_mCW R.1) d 0 0 [.ref q, .int a, .int b] h K := by
  have em : hr_mCW R.1 = m_X5_changeWeight := if_neg hkd
  rw [em]
  exact ⟨Nat.le_of_ble_eq_true rfl, b_X5_changeWeight_0 ⟨_, rfl, hk⟩⟩
theorem s_changePlaceN (H : hRu h q k n m w num R ef pf) (hkd : ¬ R.1 = 3) {a b : Int32} {K : Int32 → hk_H → Prop} (hk : K (-4) h) : hk_Ci G (hr_mCL R.1) d 0 0 [.ref q, .int a, .int b] h K := by
  have em : hr_mCL R.1 = m_X5_changePlace := if_neg hkd
  rw [em]
  exact ⟨Nat.le_of_ble_eq_true rfl, b_X5_changePlace_0 ⟨_, rfl, hk⟩⟩
end SG
