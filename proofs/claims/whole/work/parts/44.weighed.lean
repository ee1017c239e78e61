theorem hr_to_congr {f g : Nat → Int} {k : Nat} (h : ∀ i, i < k → f i = g i) : hr_to f k = hr_to g k := by
  induction k with
  | zero => rfl
  | succ k ih => unfold hr_to; rw [ih (fun i hi => h i (by omega)), h k (by omega)]
section SX
variable {G : hk_G} {h : hk_H} {n m w : Nat} {num : Nat → Int} {pw : Nat → Int32} {d q k : Nat} {R : hr_R} {ef pf : Nat → Int32}
/-- the sums of the first p people -/
def hr_part (w : Nat) (num : Nat → Int) (R : hr_R) (r e p : Nat) : Int := R.2.2.2.1 e + hr_to (fun i => R.2.2.2.2.1 i * num (hw_in w r i * 5 + e)) p
theorem hr_part_all (n w : Nat) (num : Nat → Int) (R : hr_R) (r e : Nat) : hr_part w num R r e n = hr_sum n w num R r e n := by
  unfold hr_part hr_sum
  rw [hr_to_congr (f := fun i => R.2.2.2.2.1 i * num (hw_in w r i * 5 + e)) (g := fun i => if i = n then 0 else R.2.2.2.2.1 i * num (hw_in w r i * 5 + e))]
  intro i hi
  rw [if_neg (by omega)]
set_option maxHeartbeats 1000000 in
theorem s_addUp (HW : hW h n m w num pw) (H : hRu h q k n m w num R ef pf) (hkd : R.1 = 2) (hw : 1 ≤ w) {r : Nat} (hr : r < hw_pow w n) {K : hk_H → Prop} (hk : ∀ sf : Nat → Int32, (∀ e, e < m → sf e = hI (hr_sum n w num R r e n)) → K (hk_set h (q + 5) (hc_i32 5 sf))) : hk_Cv G m_X7_addUp (d + 1) 0 0 [.ref q, .int (hI r)] h K := by
  obtain ⟨w1, w2, w3, w4, w5, w6, w7, w8⟩ := id HW
  obtain ⟨h1, h2, h3, h4, h5, h6, h7, h8⟩ := id H
  have hrow := hw_pow_lt (i := n) w7 (by omega)
  rw [hkd] at h3
  obtain ⟨g1, g2, sf0, g3⟩ := h6 hkd
  have o : ∀ sf, (hk_set h (q + 5) (hc_i32 5 sf)).2 q = some (.inr (7, hr_fs 2 q k)) := fun sf => by rw [hk_set_ne (by omega)]; exact h3
  have o3 : ∀ sf, (hk_set h (q + 5) (hc_i32 5 sf)).2 (q + 3) = some (hc_i32 5 (fun e => hI (R.2.2.2.1 e))) := fun sf => by rw [hk_set_ne (by omega)]; exact g1
  have o4 : ∀ sf, (hk_set h (q + 5) (hc_i32 5 sf)).2 (q + 4) = some (hc_i32 4 (fun i => hI (R.2.2.2.2.1 i))) := fun sf => by rw [hk_set_ne (by omega)]; exact g2
  have oW : ∀ sf, hW (hk_set h (q + 5) (hc_i32 5 sf)) n m w num pw := fun sf => HW.set (by omega)
  refine ⟨Nat.le_of_ble_eq_true rfl, ?_⟩
  refine b_X7_addUp_0 ?_
  -- the people
  have people : ∀ (c p : Nat) (sf : Nat → Int32) (o3' o4' : Option Value), n - p = c → p ≤ n → (∀ e, e < m → sf e = hI (hr_part w num R r e p)) → hk_c1 o3' → hk_S G m_X7_addUp (d + 1) 0 0 33 [some (.ref q), some (.int (hI (r : Int))), some (.int (hI (p : Int))), o3', o4'] [] (hk_set h (q + 5) (hc_i32 5 sf)) (fun o h' => o = .inl none ∧ K h') := by
    intro c
    induction c with
    | zero =>
      intro p sf o3' o4' hc0 hp hsf ho
      have hpn : p = n := by omega
      subst hpn
      refine b_X7_addUp_33 (o sf) rfl (oW sf).1 rfl (fun _ => b_X7_addUp_108 ⟨rfl, hk sf (fun e he => by rw [hsf e he, hr_part_all])⟩) (fun c => ?_)
      rw [hI_le ⟨by omega, by omega⟩ ⟨by omega, by omega⟩] at c
      omega
    | succ c ih =>
      intro p sf o3' o4' hc0 hp hsf ho
      refine b_X7_addUp_33 (o sf) rfl (oW sf).1 rfl (fun c => ?_) (fun _ => ?_)
      · rw [hI_le ⟨by omega, by omega⟩ ⟨by omega, by omega⟩] at c
        omega
      have hwi := hw_in_lt hw r p
      refine b_X7_addUp_44 (o sf) rfl (oW sf).1 (s_wishIn (oW sf) hw (by omega) (by omega) ?_)
      refine b_X7_addUp_53 ?_
      -- the ends
      have ends : ∀ (c e : Nat) (sf : Nat → Int32), m - e = c → e ≤ m → (∀ j, j < e → sf j = hI (hr_part w num R r j (p + 1))) → (∀ j, e ≤ j → j < m → sf j = hI (hr_part w num R r j p)) → hk_S G m_X7_addUp (d + 1) 0 0 57 [some (.ref q), some (.int (hI (r : Int))), some (.int (hI (p : Int))), some (.int (hI (hw_in w r p : Nat))), some (.int (hI (e : Int)))] [] (hk_set h (q + 5) (hc_i32 5 sf)) (fun o h' => o = .inl none ∧ K h') := by
        intro c
        induction c with
        | zero =>
          intro e sf hc1 he hlo hhi
          have hem : e = m := by omega
          subst hem
          refine b_X7_addUp_57 (o sf) rfl (oW sf).1 rfl (fun _ => b_X7_addUp_102 ?_) (fun c => ?_)
          · rw [hI_1]
            exact ih (p + 1) sf _ _ (by omega) (by omega) hlo hk_c1i
          · rw [hI_le ⟨by omega, by omega⟩ ⟨by omega, by omega⟩] at c
            omega
        | succ c ihe =>
          intro e sf hc1 he hlo hhi
          refine b_X7_addUp_57 (o sf) rfl (oW sf).1 rfl (fun c => ?_) (fun _ => ?_)
          · rw [hI_le ⟨by omega, by omega⟩ ⟨by omega, by omega⟩] at c
            omega
          refine b_X7_addUp_69 (o sf) rfl hk_set_eq e (hI_at rfl (by omega)) (by omega) rfl (o4 sf) p (hI_at rfl (by omega)) (by omega) rfl (oW sf).1 (s_number (oW sf) (by omega) (by omega) ?_)
          refine b_X7_addUp_93 hk_set_eq (by omega) e (hI_at rfl (by omega)) (by omega) hk_set_set ?_
          rw [hI_1]
          refine ihe (e + 1) _ (by omega) (by omega) (fun j hj => ?_) (fun j hj hjm => ?_)
          · by_cases ej : j = e
            · subst ej
              simp only [upd, if_true]
              rw [hhi j (Nat.le_refl _) (by omega), hI_mul, hI_add]
              congr 1
              unfold hr_part
              rw [show hr_to (fun i => R.2.2.2.2.1 i * num (hw_in w r i * 5 + j)) (p + 1) = hr_to (fun i => R.2.2.2.2.1 i * num (hw_in w r i * 5 + j)) p + R.2.2.2.2.1 p * num (hw_in w r p * 5 + j) from rfl]
              omega
            · simp only [upd, ej, if_false]
              exact hlo j (by omega)
          · have ej : ¬ j = e := by omega
            simp only [upd, ej, if_false]
            exact hhi j (by omega) hjm
      exact ends m 0 sf (by omega) (by omega) (fun j hj => by omega) (fun j _ hj => hsf j hj)
  -- the gifts
  have gifts : ∀ (c e : Nat) (sf : Nat → Int32), m - e = c → e ≤ m → (∀ j, j < e → sf j = hI (hr_part w num R r j 0)) → hk_S G m_X7_addUp (d + 1) 0 0 2 [some (.ref q), some (.int (hI (r : Int))), some (.int (hI (e : Int))), none, none] [] (hk_set h (q + 5) (hc_i32 5 sf)) (fun o h' => o = .inl none ∧ K h') := by
    intro c
    induction c with
    | zero =>
      intro e sf hc1 he hlo
      have hem : e = m := by omega
      subst hem
      refine b_X7_addUp_2 (o sf) rfl (oW sf).1 rfl (fun _ => b_X7_addUp_31 ?_) (fun c => ?_)
      · exact people n 0 sf none none (by omega) (by omega) hlo hk_c10
      · rw [hI_le ⟨by omega, by omega⟩ ⟨by omega, by omega⟩] at c
        omega
    | succ c ihe =>
      intro e sf hc1 he hlo
      refine b_X7_addUp_2 (o sf) rfl (oW sf).1 rfl (fun c => ?_) (fun _ => ?_)
      · rw [hI_le ⟨by omega, by omega⟩ ⟨by omega, by omega⟩] at c
        omega
      refine b_X7_addUp_13 (o sf) rfl rfl (o3 sf) e (hI_at rfl (by omega)) (by omega) hk_set_eq (by omega) (by omega) hk_set_set ?_
      rw [hI_1]
      refine ihe (e + 1) _ (by omega) (by omega) (fun j hj => ?_)
      by_cases ej : j = e
      · subst ej
        simp only [upd, if_true]
        congr 1
        unfold hr_part hr_to
        omega
      · simp only [upd, ej, if_false]
        exact hlo j (by omega)
  have h0 := gifts m 0 sf0 (by omega) (by omega) (fun j hj => by omega)
  rw [hk_set_self g3] at h0
  exact h0
end SX
