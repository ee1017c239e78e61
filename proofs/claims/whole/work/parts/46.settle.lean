/-- nothing changed but the five cells behind q -/
def hk_only (h h' : hk_H) (q : Nat) : Prop := h'.1 = h.1 ∧ ∀ a, ¬ (q < a ∧ a ≤ q + 5) → h'.2 a = h.2 a
theorem hk_only.rf {h : hk_H} {q : Nat} : hk_only h h q := ⟨rfl, fun _ _ => rfl⟩
theorem hk_only.set {h h' : hk_H} {q : Nat} (H : hk_only h h' q) {a : Nat} {c : hk_AC} (ha : q < a ∧ a ≤ q + 5) : hk_only h (hk_set h' a c) q := ⟨H.1, fun b hb => by rw [hk_set_ne (fun e => hb (by rw [e]; exact ha))]; exact H.2 b hb⟩
theorem hk_only.W {h h' : hk_H} {q n m w : Nat} {num : Nat → Int} {pw : Nat → Int32} (H : hk_only h h' q) (hq : 43 ≤ q) (HW : hW h n m w num pw) : hW h' n m w num pw := by
  obtain ⟨h1, h2, h3, h4, h5⟩ := HW
  exact ⟨by rw [H.2 _ (by omega)]; exact h1, by rw [H.2 _ (by omega)]; exact h2, by rw [H.2 _ (by omega)]; exact h3, h4, h5⟩
theorem hr_place {r r' n i : Nat} (hne : r' ≠ r) (hi : i < n) : ¬ (r * n ≤ r' * n + i ∧ r' * n + i < r * n + n) := by
  rcases Nat.lt_or_gt_of_ne hne with h | h
  · have : (r' + 1) * n ≤ r * n := Nat.mul_le_mul_right _ h
    rw [Nat.succ_mul] at this
    omega
  · have : (r + 1) * n ≤ r' * n := Nat.mul_le_mul_right _ h
    rw [Nat.succ_mul] at this
    omega
section SS
variable {G : hk_G} {h : hk_H} {n m w : Nat} {num : Nat → Int} {pw : Nat → Int32} {d q k : Nat} {R : hr_R} {ef pf : Nat → Int32}
theorem hr_own_pay (hkd : R.1 = 2) {r i : Nat} (hi : i < n) : hr_own num (fun e => hr_sum n w num R r e n) m (hw_in w r i) (hr_great n m w num R r n) (R.2.2.2.2.1 i) = hr_pay n m w num R r i := by
  unfold hr_own hr_pay
  rw [if_neg (by omega : ¬ R.1 = 1), if_pos hkd]
  have eT : (fun e => hr_sum n w num R r e n - R.2.2.2.2.1 i * num (hw_in w r i * 5 + e)) = fun e => hr_sum n w num R r e i := funext fun e => hr_sum_less hi
  rw [eT, hr_sum_less hi, hr_sum_less hi]
  rfl
set_option maxHeartbeats 1000000 in
theorem s_workOut (HW : hW h n m w num pw) (H : hRu h q k n m w num R ef pf) (hkd : R.1 = 2) (hw : 1 ≤ w) {r : Nat} (hr : r < hw_pow w n) {K : hk_H → Prop} (hk : ∀ h' pf', hk_only h h' q → hRu h' q k n m w num R (upd ef r (hI (hr_end n m w num R r))) pf' → K h') : hk_Cv G m_X7_workOut (d + 2) 0 0 [.ref q, .int (hI r)] h K := by
  obtain ⟨w1, w2, w3, w4, w5, w6, w7, w8⟩ := id HW
  obtain ⟨h1, h2, h3, h4, h5, h6, h7, h8⟩ := id H
  have hrow := hw_pow_lt (i := n) w7 (by omega)
  have h3' := h3
  rw [hkd] at h3'
  obtain ⟨g1, g2, sf0, g3⟩ := h6 hkd
  have hend : hr_end n m w num R r = hr_great n m w num R r n := if_pos hkd
  have hgl : hr_great n m w num R r n ≤ m - 1 := hw_best_le _ _
  refine ⟨Nat.le_of_ble_eq_true rfl, ?_⟩
  refine b_X7_workOut_0 h3' (s_addUp HW H hkd hw hr fun sf hsf => ?_)
  refine b_X7_workOut_5 ?_
  have hSb : ∀ e, e < m → -3663 ≤ hr_sum n w num R r e n ∧ hr_sum n w num R r e n ≤ 3663 := fun e he => hr_sum_bound ⟨w5, w6, w7, w8⟩ h1 hw (by omega)
  -- everything behind the sums
  have hlt : ∀ i, i < n → r * n + i < hw_pow w n * n := fun i hi => by
    have : (r + 1) * n ≤ hw_pow w n * n := Nat.mul_le_mul_right _ hr
    rw [Nat.succ_mul] at this
    omega
  have hle : hw_pow w n * n ≤ 1296 * 4 := Nat.mul_le_mul hrow (by omega)
  have hS : hk_only h (hk_set h (q + 5) (hc_i32 5 sf)) q := hk_only.rf.set (by omega)
  generalize hh1 : hk_set h (q + 5) (hc_i32 5 sf) = hA at hS ⊢
  have a5 : hA.2 (q + 5) = some (hc_i32 5 sf) := by rw [← hh1]; exact hk_set_eq
  have a2 : hA.2 (q + 2) = some (hc_i32 (hw_pow w n * n) pf) := by rw [← hh1, hk_set_ne (by omega)]; exact h5 (Or.inr hkd)
  have a1 : hA.2 (q + 1) = some (hc_i32 (hw_pow w n) ef) := by rw [← hh1, hk_set_ne (by omega)]; exact h4
  have a3 : hA.2 (q + 3) = some (hc_i32 5 (fun e => hI (R.2.2.2.1 e))) := by rw [← hh1, hk_set_ne (by omega)]; exact g1
  have a4 : hA.2 (q + 4) = some (hc_i32 4 (fun i => hI (R.2.2.2.2.1 i))) := by rw [← hh1, hk_set_ne (by omega)]; exact g2
  have ao : hA.2 q = some (.inr (7, hr_fs 2 q k)) := by rw [hS.2 q (by omega)]; exact h3'
  have aW : hW hA n m w num pw := hS.W h2 HW
  -- the payments
  have pays : ∀ (c p : Nat) (pf' : Nat → Int32) (o4 : Option Value), n - p = c → p ≤ n → (∀ i, i < p → pf' (r * n + i) = hI (hr_pay n m w num R r i)) → (∀ j, ¬ (r * n ≤ j ∧ j < r * n + n) → pf' j = pf j) → hk_S G m_X7_workOut (d + 2) 0 0 45 [some (.ref q), some (.int (hI (r : Int))), some (.int (hI (hr_great n m w num R r n : Nat))), some (.int (hI (p : Int))), o4] [] (hk_set hA (q + 2) (hc_i32 (hw_pow w n * n) pf')) (fun o h' => o = .inl none ∧ K h') := by
    intro c
    induction c with
    | zero =>
      intro p pf' o4 hc0 hp hpay hold
      have hpn : p = n := by omega
      subst hpn
      have bo : (hk_set hA (q + 2) (hc_i32 (hw_pow w p * p) pf')).2 q = some (.inr (7, hr_fs 2 q k)) := by rw [hk_set_ne (by omega)]; exact ao
      have bW : hW (hk_set hA (q + 2) (hc_i32 (hw_pow w p * p) pf')) p m w num pw := aW.set (by omega)
      refine b_X7_workOut_45 bo rfl bW.1 rfl (fun _ => ?_) (fun c => ?_)
      · refine b_X7_workOut_102 bo rfl (by rw [hk_set_ne (by omega)]; exact a1) (by omega) r (hI_at rfl (by omega)) hr rfl ⟨rfl, ?_⟩
        rw [← hend]
        refine hk _ pf' ((hS.set (by omega)).set (by omega)) ⟨h1, h2, ?_, hk_set_eq, fun _ => ?_, fun _ => ⟨?_, ?_, sf, ?_⟩, fun e => by omega, fun r' hr' => ?_⟩
        · rw [hk_set_ne (by omega), hk_set_ne (by omega), hkd]; exact ao
        · rw [hk_set_ne (by omega)]; exact hk_set_eq
        · rw [hk_set_ne (by omega), hk_set_ne (by omega)]; exact a3
        · rw [hk_set_ne (by omega), hk_set_ne (by omega)]; exact a4
        · rw [hk_set_ne (by omega), hk_set_ne (by omega)]; exact a5
        · by_cases er : r' = r
          · subst er
            exact Or.inr ⟨by simp [upd], fun _ i hi => hpay i hi⟩
          · rcases h8 r' hr' with h9 | h9
            · exact Or.inl ⟨h9.1, by simp only [upd, er, if_false]; exact h9.2⟩
            · exact Or.inr ⟨by simp only [upd, er, if_false]; exact h9.1, fun hh i hi => by rw [hold _ (hr_place er hi)]; exact h9.2 hh i hi⟩
      · rw [hI_le ⟨by omega, by omega⟩ ⟨by omega, by omega⟩] at c
        omega
    | succ c ih =>
      intro p pf' o4 hc0 hp hpay hold
      have bo : (hk_set hA (q + 2) (hc_i32 (hw_pow w n * n) pf')).2 q = some (.inr (7, hr_fs 2 q k)) := by rw [hk_set_ne (by omega)]; exact ao
      have bW : hW (hk_set hA (q + 2) (hc_i32 (hw_pow w n * n) pf')) n m w num pw := aW.set (by omega)
      have hwi := hw_in_lt hw r p
      refine b_X7_workOut_45 bo rfl bW.1 rfl (fun c => ?_) (fun _ => ?_)
      · rw [hI_le ⟨by omega, by omega⟩ ⟨by omega, by omega⟩] at c
        omega
      refine b_X7_workOut_56 bo rfl bW.1 (s_wishIn bW hw (by omega) (by omega) ?_)
      refine b_X7_workOut_66 bo rfl (by rw [hk_set_ne (by omega)]; exact a4) p (hI_at rfl (by omega)) (by omega) bo ?_
      refine s_ownPayment (S := fun e => hr_sum n w num R r e n) bW bo (by rw [hk_set_ne (by omega)]; exact a5) hsf hSb (by omega) (by omega) (h1.2.2.2.2.1 p (by omega)) ?_
      rw [hr_own_pay hkd (by omega)]
      refine b_X7_workOut_76 bo rfl rfl bW.1 rfl hk_set_eq (by omega) (r * n + p) ?_ (hlt p (by omega)) hk_set_set ?_
      · rw [hI_mul, hI_add]
        have := hlt p (by omega)
        exact hI_at (by push_cast; rfl) (by omega)
      · rw [hI_1]
        refine ih (p + 1) _ _ (by omega) (by omega) (fun i hi => ?_) (fun j hj => ?_)
        · by_cases ei : i = p
          · subst ei
            simp [upd]
          · have : ¬ r * n + i = r * n + p := by omega
            simp only [upd, this, if_false]
            exact hpay i (by omega)
        · have : ¬ j = r * n + p := by omega
          simp only [upd, this, if_false]
          exact hold j hj
  -- the best end
  have best : ∀ (c e : Nat), m - 1 - e = c → e ≤ m - 1 → hk_S G m_X7_workOut (d + 2) 0 0 9 [some (.ref q), some (.int (hI (r : Int))), some (.int (hI (hw_best (fun e => hr_sum n w num R r e n) e : Nat))), some (.int (hI ((e + 1 : Nat) : Int))), none] [] hA (fun o h' => o = .inl none ∧ K h') := by
    intro c
    induction c with
    | zero =>
      intro e hc0 he
      have hem : e = m - 1 := by omega
      subst hem
      refine b_X7_workOut_9 ao rfl aW.1 rfl (fun _ => ?_) (fun c => ?_)
      · refine b_X7_workOut_43 ?_
        have := pays n 0 pf none (by omega) (by omega) (fun i hi => by omega) (fun j _ => rfl)
        rw [hk_set_self a2] at this
        exact this
      · rw [hI_le ⟨by omega, by omega⟩ ⟨by omega, by omega⟩] at c
        omega
    | succ c ih =>
      intro e hc0 he
      have hb := hw_best_le (fun e => hr_sum n w num R r e n) e
      have r1 := hSb (e + 1) (by omega)
      have r2 := hSb (hw_best (fun e => hr_sum n w num R r e n) e) (by omega)
      refine b_X7_workOut_9 ao rfl aW.1 rfl (fun c => ?_) (fun _ => ?_)
      · rw [hI_le ⟨by omega, by omega⟩ ⟨by omega, by omega⟩] at c
        omega
      refine b_X7_workOut_20 ao rfl a5 (e + 1) (hI_at rfl (by omega)) (by omega) (hw_best (fun e => hr_sum n w num R r e n) e) (hI_at rfl (by omega)) (by omega) (fun c => ?_) (fun c => ?_)
      · rw [hsf _ (by omega), hsf _ (by omega), hI_le ⟨by omega, by omega⟩ ⟨by omega, by omega⟩] at c
        refine b_X7_workOut_37 ?_
        rw [hI_1]
        have := ih (e + 1) (by omega) (by omega)
        rw [show hw_best (fun e => hr_sum n w num R r e n) (e + 1) = hw_best (fun e => hr_sum n w num R r e n) e from if_neg (by dsimp only; omega)] at this
        exact this
      · rw [hsf _ (by omega), hsf _ (by omega), hI_le ⟨by omega, by omega⟩ ⟨by omega, by omega⟩] at c
        refine b_X7_workOut_35 ?_
        rw [hI_1]
        have := ih (e + 1) (by omega) (by omega)
        rw [show hw_best (fun e => hr_sum n w num R r e n) (e + 1) = e + 1 from if_pos (by dsimp only; omega)] at this
        exact this
  exact best (m - 1) 0 (by omega) (by omega)
end SS
