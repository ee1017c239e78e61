/-! bitCount of a small number -/
def hp_bc (x0 : Int32) : Int32 := ((((((((x0 - (((x0.toUInt32 >>> (Int32.toUInt32 1 &&& Int32.toUInt32 31)).toInt32) &&& 1431655765)) &&& 858993459) + ((((x0 - (((x0.toUInt32 >>> (Int32.toUInt32 1 &&& Int32.toUInt32 31)).toInt32) &&& 1431655765)).toUInt32 >>> (Int32.toUInt32 2 &&& Int32.toUInt32 31)).toInt32) &&& 858993459)) + (((((x0 - (((x0.toUInt32 >>> (Int32.toUInt32 1 &&& Int32.toUInt32 31)).toInt32) &&& 1431655765)) &&& 858993459) + ((((x0 - (((x0.toUInt32 >>> (Int32.toUInt32 1 &&& Int32.toUInt32 31)).toInt32) &&& 1431655765)).toUInt32 >>> (Int32.toUInt32 2 &&& Int32.toUInt32 31)).toInt32) &&& 858993459)).toUInt32 >>> (Int32.toUInt32 4 &&& Int32.toUInt32 31)).toInt32)) &&& 252645135) + (((((((x0 - (((x0.toUInt32 >>> (Int32.toUInt32 1 &&& Int32.toUInt32 31)).toInt32) &&& 1431655765)) &&& 858993459) + ((((x0 - (((x0.toUInt32 >>> (Int32.toUInt32 1 &&& Int32.toUInt32 31)).toInt32) &&& 1431655765)).toUInt32 >>> (Int32.toUInt32 2 &&& Int32.toUInt32 31)).toInt32) &&& 858993459)) + (((((x0 - (((x0.toUInt32 >>> (Int32.toUInt32 1 &&& Int32.toUInt32 31)).toInt32) &&& 1431655765)) &&& 858993459) + ((((x0 - (((x0.toUInt32 >>> (Int32.toUInt32 1 &&& Int32.toUInt32 31)).toInt32) &&& 1431655765)).toUInt32 >>> (Int32.toUInt32 2 &&& Int32.toUInt32 31)).toInt32) &&& 858993459)).toUInt32 >>> (Int32.toUInt32 4 &&& Int32.toUInt32 31)).toInt32)) &&& 252645135).toUInt32 >>> (Int32.toUInt32 8 &&& Int32.toUInt32 31)).toInt32)) + ((((((((x0 - (((x0.toUInt32 >>> (Int32.toUInt32 1 &&& Int32.toUInt32 31)).toInt32) &&& 1431655765)) &&& 858993459) + ((((x0 - (((x0.toUInt32 >>> (Int32.toUInt32 1 &&& Int32.toUInt32 31)).toInt32) &&& 1431655765)).toUInt32 >>> (Int32.toUInt32 2 &&& Int32.toUInt32 31)).toInt32) &&& 858993459)) + (((((x0 - (((x0.toUInt32 >>> (Int32.toUInt32 1 &&& Int32.toUInt32 31)).toInt32) &&& 1431655765)) &&& 858993459) + ((((x0 - (((x0.toUInt32 >>> (Int32.toUInt32 1 &&& Int32.toUInt32 31)).toInt32) &&& 1431655765)).toUInt32 >>> (Int32.toUInt32 2 &&& Int32.toUInt32 31)).toInt32) &&& 858993459)).toUInt32 >>> (Int32.toUInt32 4 &&& Int32.toUInt32 31)).toInt32)) &&& 252645135) + (((((((x0 - (((x0.toUInt32 >>> (Int32.toUInt32 1 &&& Int32.toUInt32 31)).toInt32) &&& 1431655765)) &&& 858993459) + ((((x0 - (((x0.toUInt32 >>> (Int32.toUInt32 1 &&& Int32.toUInt32 31)).toInt32) &&& 1431655765)).toUInt32 >>> (Int32.toUInt32 2 &&& Int32.toUInt32 31)).toInt32) &&& 858993459)) + (((((x0 - (((x0.toUInt32 >>> (Int32.toUInt32 1 &&& Int32.toUInt32 31)).toInt32) &&& 1431655765)) &&& 858993459) + ((((x0 - (((x0.toUInt32 >>> (Int32.toUInt32 1 &&& Int32.toUInt32 31)).toInt32) &&& 1431655765)).toUInt32 >>> (Int32.toUInt32 2 &&& Int32.toUInt32 31)).toInt32) &&& 858993459)).toUInt32 >>> (Int32.toUInt32 4 &&& Int32.toUInt32 31)).toInt32)) &&& 252645135).toUInt32 >>> (Int32.toUInt32 8 &&& Int32.toUInt32 31)).toInt32)).toUInt32 >>> (Int32.toUInt32 16 &&& Int32.toUInt32 31)).toInt32)) &&& 63)
def hp_pop (a : Nat) : Nat := a % 2 + a / 2 % 2 + a / 4 % 2 + a / 8 % 2 + a / 16 % 2
theorem hp_bc_pop : ∀ a : Fin 32, hp_bc (hI ((a : Nat) : Int)) = hI (hp_pop a : Nat) := by decide +kernel
theorem hp_or : ∀ a : Fin 32, ∀ e : Fin 5, hI ((a : Nat) : Int) ||| ((1 : Int32) <<< (hI ((e : Nat) : Int) &&& 31)) = hI (((a : Nat) ||| 2 ^ (e : Nat) : Nat) : Int) := by decide +kernel
theorem s_bitCount {G : hk_G} {h : hk_H} {d : Nat} {a : Nat} (ha : a < 32) {K : Int32 → hk_H → Prop} (hk : K (hI (hp_pop a : Nat)) h) : hk_Ci G m_J6_bitCount_0f7a4 d 0 0 [.int (hI a)] h K := by
  refine ⟨Nat.le_of_ble_eq_true rfl, ?_⟩
  refine b_J6_bitCount_0f7a4_0 ⟨_, rfl, ?_⟩
  show K (hp_bc (hI (a : Int))) h
  rw [hp_bc_pop ⟨a, ha⟩]
  exact hk
/-- the ends of the first rows, by bits -/
def hp_mask (n m w : Nat) (num : Nat → Int) (R : hr_R) : Nat → Nat
  | 0 => 0
  | k + 1 => hp_mask n m w num R k ||| 2 ^ hr_end n m w num R k
theorem hp_mask_lt {n m w : Nat} {num : Nat → Int} {R : hr_R} (hm : 2 ≤ m ∧ m ≤ 5) (hok : hr_ok n m w R) : ∀ k, k ≤ hw_pow w n → hp_mask n m w num R k < 2 ^ m := by
  intro k
  induction k with
  | zero => intro _; exact Nat.pow_pos (by omega)
  | succ k ih =>
    intro hk
    exact Nat.or_lt_two_pow (ih (by omega)) (Nat.pow_lt_pow_right (by omega) (hr_end_lt hm.1 hok (by omega)))
section RG
variable {G : hk_G} {h : hk_H} {n m w rc : Nat} {num : Nat → Int} {Rs : Nat → hr_R} {rq : Nat → Nat} {d : Nat}
def hq_onto (n m w rc : Nat) (num : Nat → Int) (Rs : Nat → hr_R) (x : Int32) : Int := match hx x rc with
  | some j => (hp_pop (hp_mask n m w num (Rs j) (hw_pow w n)) : Nat)
  | none => -1
theorem s_onto (C : hC h n m w rc num Rs rq) {x : Int32} {K : Int32 → hk_H → Prop} (hk : ∀ h', hC h' n m w rc num Rs rq → hLo h h' → K (hI (hq_onto n m w rc num Rs x)) h') : hk_Ci G m_X9_onto (d + 5) 0 0 [.ref 4, .int x] h K := by
  obtain ⟨hn, hm, hw6, hnum⟩ := C.dim
  have hrc := C.rc8
  have hrow := C.rows
  refine ⟨Nat.le_of_ble_eq_true rfl, ?_⟩
  refine b_X9_onto_0 C.1 (s_settledRule C (fun j h' hj hxj C' hl hs _ => ?_) (fun hx => b_X9_onto_5N0 ⟨_, rfl, ?_⟩))
  · have hk := hk h' C' hl
    unfold hq_onto at hk
    rw [hxj, hx_some hj (by omega)] at hk
    have h32 : 2 ^ m ≤ 32 := Nat.pow_le_pow_right (by omega) hm.2
    refine b_X9_onto_5 ?_
    refine hk_upto (P := fun r => hk_S G m_X9_onto (d + 5) 0 0 17 [some (.ref 4), some (.int x), some (.ref (rq j)), some (.int (hI (hp_mask n m w num (Rs j) r : Nat))), some (.int (hI (r : Int)))] [] h' (fun o h' => ∃ x, o = .inl (some (.int x)) ∧ K x h')) (hw_pow w n) (fun r hr ih => ?_)
    have hml := hp_mask_lt (num := num) hm (C'.ok hj) r hr
    refine b_X9_onto_17 C'.1 rfl C'.w1 rfl (fun c => ?_) (fun c => ?_)
    · rw [hN_le (by omega) (by omega)] at c
      have e : r = hw_pow w n := by omega
      subst e
      exact b_X9_onto_46 (s_bitCount (by omega) (b_X9_onto_50 ⟨_, rfl, hk⟩))
    · rw [hN_le (by omega) (by omega)] at c
      have e1 := hr_end_lt (num := num) (r := r) hm.1 (C'.ok hj) (by omega)
      refine b_X9_onto_29 (hr_dEnd (C'.ok hj).1) (C'.obj hj) (c_endAt C' hj (by omega) (hs r (by omega)) ?_)
      refine b_X9_onto_37 ?_
      rw [hI_1, hp_or ⟨_, by omega⟩ ⟨_, by omega⟩]
      exact ih (by omega)
  · have hk := hk h C hLo.rf
    unfold hq_onto at hk
    rw [hx_none hx] at hk
    exact hk
theorem s_paidByAll (C : hC h n m w rc num Rs rq) {j r : Nat} (hj : j < rc) (hr : r < hw_pow w n) (hs : hSt h (rq j) r) {K : Int32 → hk_H → Prop} (hk : K (hI (hp_paid n m w num (Rs j) r)) h) : hk_Ci G m_X9_paidByAll (d + 1) 0 0 [.ref 4, .ref (rq j), .int (hI r)] h K := by
  obtain ⟨hn, hm, hw6, hnum⟩ := C.dim
  have hrow := C.rows
  refine ⟨Nat.le_of_ble_eq_true rfl, ?_⟩
  refine b_X9_paidByAll_0 ?_
  refine hk_upto (P := fun i => hk_S G m_X9_paidByAll (d + 1) 0 0 5 [some (.ref 4), some (.ref (rq j)), some (.int (hI (r : Int))), some (.int (hI (hr_to (fun i => hr_pay n m w num (Rs j) r i) i))), some (.int (hI (i : Int)))] [] h (fun o h' => ∃ x, o = .inl (some (.int x)) ∧ K x h')) n (fun i hi ih => ?_)
  refine b_X9_paidByAll_5 C.1 rfl (fun c => ?_) (fun c => ?_)
  · rw [hN_le (by omega) (by omega)] at c
    have e : i = n := by omega
    subst e
    exact b_X9_paidByAll_30 ⟨_, rfl, hk⟩
  · rw [hN_le (by omega) (by omega)] at c
    refine b_X9_paidByAll_14 (hr_dPay (C.ok hj).1) (C.obj hj) (c_paymentAt C hj hr (by omega) hs ?_)
    refine b_X9_paidByAll_22 ?_
    rw [hI_1, hI_add]
    exact ih (by omega)
theorem hp_paid_bound (C : hC h n m w rc num Rs rq) {j r : Nat} (hj : j < rc) (hr : r < hw_pow w n) : -39996 ≤ hp_paid n m w num (Rs j) r ∧ hp_paid n m w num (Rs j) r ≤ 39996 := by
  have h1 := hr_to_bound (B := 9999) (k := n) (f := fun i => hr_pay n m w num (Rs j) r i) (fun i hi => hr_pay_bound C.dim (C.ok hj) (C.w0 hj) hr hi)
  have hn := C.dim.1
  unfold hp_paid
  omega
theorem hp_bud_bound (C : hC h n m w rc num Rs rq) {j : Nat} (hj : j < rc) {b : Bool} : ∀ k, k < hw_pow w n → -39996 ≤ hp_bud n m w num (Rs j) b k ∧ hp_bud n m w num (Rs j) b k ≤ 39996 := by
  intro k
  induction k with
  | zero => intro hk; exact hp_paid_bound C hj hk
  | succ k ih =>
    intro hk
    have h1 := ih (by omega)
    have h2 := hp_paid_bound C hj hk
    unfold hp_bud
    split <;> omega
def hq_budget (n m w rc : Nat) (num : Nat → Int) (Rs : Nat → hr_R) (x : Int32) (b : Bool) : Nat ⊕ Int := match hx x rc with
  | some j => .inr (hp_bud n m w num (Rs j) b (hw_pow w n - 1))
  | none => .inl 1
theorem hC.rpos (C : hC h n m w rc num Rs rq) {j : Nat} (hj : j < rc) : 0 < hw_pow w n := by
  have := C.w0 hj
  rw [hw_pow_1 this]
  exact Nat.pow_pos (by omega)
theorem s_budget (C : hC h n m w rc num Rs rq) {x y : Int32} {Q : hk_O → hk_H → Prop} (hk : ∀ h', hC h' n m w rc num Rs rq → hLo h h' → Q (hq_outL (hq_budget n m w rc num Rs x (!decide (y = 0)))) h') : hk_E G m_X9_budget (d + 5) 1 6 [.ref 4, .int x, .int y] h Q := by
  obtain ⟨hn, hm, hw6, hnum⟩ := C.dim
  have hrc := C.rc8
  have hrow := C.rows
  refine ⟨Nat.le_of_ble_eq_true rfl, ?_⟩
  refine b_X9_budget_0 C.1 (s_settledRule C (fun j h' hj hxj C' hl hs _ => ?_) (fun hx => b_X9_budget_5N0 ?_))
  · have hk := hk h' C' hl
    unfold hq_budget at hk
    rw [hxj, hx_some hj (by omega)] at hk
    have hpos := C'.rpos hj
    refine b_X9_budget_5 C'.1 (s_paidByAll C' (r := 0) hj hpos (hs 0 hpos) ?_)
    refine b_X9_budget_26 ?_
    refine hk_uptoF (P := fun r => ∀ o6 : Option Value, hk_S G m_X9_budget (d + 5) 1 6 31 [some (.ref 4), some (.int x), some (.int y), some (.ref (rq j)), some (.int (hI (hp_bud n m w num (Rs j) (!decide (y = 0)) (r - 1)))), some (.int (hI (r : Int))), o6] [] h' Q) 1 (hw_pow w n) hpos (fun r hr1 hr ih o6 => ?_) none
    refine b_X9_budget_31 C'.1 rfl C'.w1 rfl (fun c => ?_) (fun c => ?_)
    · rw [hN_le (by omega) (by omega)] at c
      have e : r = hw_pow w n := by omega
      have hb := hp_bud_bound C' hj (b := !decide (y = 0)) (r - 1) (by omega)
      refine b_X9_budget_81 ?_
      rw [hL_I ⟨by omega, by omega⟩, e]
      exact hk
    · rw [hN_le (by omega) (by omega)] at c
      have hb := hp_bud_bound C' hj (b := !decide (y = 0)) (r - 1) (by omega)
      have hp := hp_paid_bound C' hj (r := r) (by omega)
      refine b_X9_budget_43 C'.1 (s_paidByAll C' hj (by omega) (hs r (by omega)) ?_)
      have ih := ih (by omega)
      have ev : hp_bud n m w num (Rs j) (!decide (y = 0)) r = if (!decide (y = 0)) = true then max (hp_bud n m w num (Rs j) (!decide (y = 0)) (r - 1)) (hp_paid n m w num (Rs j) r) else min (hp_bud n m w num (Rs j) (!decide (y = 0)) (r - 1)) (hp_paid n m w num (Rs j) r) := by
        obtain ⟨k, rfl⟩ : ∃ k, r = k + 1 := ⟨r - 1, by omega⟩
        rfl
      rw [Nat.add_sub_cancel] at ih
      refine b_X9_budget_50 (fun c2 => ?_) (fun c2 => ?_)
      · refine b_X9_budget_66 (s_min ⟨by omega, by omega⟩ ⟨by omega, by omega⟩ (b_X9_budget_73 ?_))
        rw [if_neg (by simp [c2])] at ev
        rw [hI_1, ← ev]
        exact ih _
      · refine b_X9_budget_56 (s_max ⟨by omega, by omega⟩ ⟨by omega, by omega⟩ (b_X9_budget_63 ?_))
        rw [if_pos (by simp [c2])] at ev
        rw [hI_1, ← ev]
        exact ih _
  · have hk := hk _ C.thr hLo.thr
    unfold hq_budget at hk
    rw [hx_none hx] at hk
    exact hk
def hq_welfare (n m w rc : Nat) (num : Nat → Int) (Rs : Nat → hr_R) (x : Int32) : Nat ⊕ Int := match hx x rc with
  | some j => .inr (hp_wel n m w num (Rs j))
  | none => .inl 1
theorem s_welfare (C : hC h n m w rc num Rs rq) {x : Int32} {Q : hk_O → hk_H → Prop} (hk : ∀ h', hC h' n m w rc num Rs rq → hLo h h' → Q (hq_outL (hq_welfare n m w rc num Rs x)) h') : hk_E G m_X9_welfare (d + 5) 1 6 [.ref 4, .int x] h Q := by
  obtain ⟨hn, hm, hw6, hnum⟩ := C.dim
  have hrc := C.rc8
  have hrow := C.rows
  refine ⟨Nat.le_of_ble_eq_true rfl, ?_⟩
  refine b_X9_welfare_0 C.1 (s_settledRule C (fun j h' hj hxj C' hl hs _ => ?_) (fun hx => b_X9_welfare_5N0 ?_))
  · have hk := hk h' C' hl
    unfold hq_welfare at hk
    rw [hxj, hx_some hj (by omega)] at hk
    obtain ⟨pw, HW⟩ := C'.2.1
    have hw := C'.w0 hj
    refine b_X9_welfare_5 ?_
    refine hk_upto (P := fun r => ∀ o6 o7 : Option Value, hk_c1 o6 → hk_S G m_X9_welfare (d + 5) 1 6 25 [some (.ref 4), some (.int x), some (.ref (rq j)), some (.long (hL (hr_to (fun r => hr_to (fun i => num (hw_in w r i * 5 + hr_end n m w num (Rs j) r)) n) r))), none, some (.int (hI (r : Int))), o6, o7] [] h' Q) (hw_pow w n) (fun r hr ih o6 o7 q6 => ?_) none none hk_c10
    refine b_X9_welfare_25 C'.1 rfl C'.w1 rfl (fun c => ?_) (fun c => ?_)
    · rw [hN_le (by omega) (by omega)] at c
      have e : r = hw_pow w n := by omega
      subst e
      exact b_X9_welfare_93 hk
    · rw [hN_le (by omega) (by omega)] at c
      have e1 := hr_end_lt (num := num) (r := r) hm.1 (C'.ok hj) (by omega)
      refine b_X9_welfare_37 (hr_dEnd (C'.ok hj).1) (C'.obj hj) (c_endAt C' hj (by omega) (hs r (by omega)) ?_)
      refine b_X9_welfare_43 ?_
      refine hk_upto (P := fun i => hk_S G m_X9_welfare (d + 5) 1 6 48 [some (.ref 4), some (.int x), some (.ref (rq j)), some (.long (hL (hr_to (fun r => hr_to (fun i => num (hw_in w r i * 5 + hr_end n m w num (Rs j) r)) n) r + hr_to (fun i => num (hw_in w r i * 5 + hr_end n m w num (Rs j) r)) i))), none, some (.int (hI (r : Int))), some (.int (hI (hr_end n m w num (Rs j) r : Nat))), some (.int (hI (i : Int)))] [] h' Q) n (fun i hi ihi => ?_) |> (fun z => by rw [show hr_to (fun i => num (hw_in w r i * 5 + hr_end n m w num (Rs j) r)) 0 = 0 from rfl, Int.add_zero] at z; exact z)
      refine b_X9_welfare_48 C'.1 rfl (fun c => ?_) (fun c => ?_)
      · rw [hN_le (by omega) (by omega)] at c
        have e : i = n := by omega
        subst e
        refine b_X9_welfare_87 ?_
        rw [hI_1]
        exact ih (by omega) _ _ hk_c1i
      · rw [hN_le (by omega) (by omega)] at c
        have hin := hw_in_lt hw r i
        have hb := hnum (hw_in w r i * 5 + hr_end n m w num (Rs j) r) (by omega)
        refine b_X9_welfare_57 C'.1 rfl C'.w1 (c_wishIn C' hj (by omega) (by omega) ?_)
        refine b_X9_welfare_73 C'.w1 (s_number HW (by omega) (by omega) ?_)
        refine b_X9_welfare_78 ?_
        rw [hI_1, hL_I ⟨by omega, by omega⟩, hL_add]
        have z := ihi (by omega)
        rw [show hr_to (fun i => num (hw_in w r i * 5 + hr_end n m w num (Rs j) r)) (i + 1) = hr_to (fun i => num (hw_in w r i * 5 + hr_end n m w num (Rs j) r)) i + num (hw_in w r i * 5 + hr_end n m w num (Rs j) r) from rfl, ← Int.add_assoc] at z
        exact z
  · have hk := hk _ C.thr hLo.thr
    unfold hq_welfare at hk
    rw [hx_none hx] at hk
    exact hk
end RG
