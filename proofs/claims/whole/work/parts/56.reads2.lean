section RE
variable {G : hk_G} {h : hk_H} {n m w rc : Nat} {num : Nat → Int} {Rs : Nat → hr_R} {rq : Nat → Nat} {d : Nat}
theorem hC.rc8 (C : hC h n m w rc num Rs rq) : rc ≤ 8 := C.2.2.2.1.choose_spec.2.1
theorem s_partOfLie {what r i v : Nat} {g : Int} (hw : what < 4) {K : Int32 → hk_H → Prop} (hk : K (hI (hp_part what r i v g)) h) : hk_Ci G m_X9_partOfLie d 0 0 [.int (hI what), .int (hI r), .int (hI i), .int (hI v), .int (hI g)] h K := by
  refine ⟨Nat.le_of_ble_eq_true rfl, ?_⟩
  rcases (show what = 0 ∨ what = 1 ∨ what = 2 ∨ what = 3 by omega) with rfl | rfl | rfl | rfl
  · exact b_X9_partOfLie_0 (fun _ => b_X9_partOfLie_28 ⟨_, rfl, hk⟩) (fun c => absurd c (by decide)) (fun c => absurd c (by decide)) (fun c _ _ => absurd rfl c)
  · exact b_X9_partOfLie_0 (fun c => absurd c (by decide)) (fun _ => b_X9_partOfLie_30 ⟨_, rfl, hk⟩) (fun c => absurd c (by decide)) (fun _ c _ => absurd rfl c)
  · exact b_X9_partOfLie_0 (fun c => absurd c (by decide)) (fun c => absurd c (by decide)) (fun _ => b_X9_partOfLie_32 ⟨_, rfl, hk⟩) (fun _ _ c => absurd rfl c)
  · exact b_X9_partOfLie_0 (fun c => absurd c (by decide)) (fun c => absurd c (by decide)) (fun c => absurd c (by decide)) (fun _ _ _ => b_X9_partOfLie_34 ⟨_, rfl, hk⟩)
theorem s_firstLie (C : hC h n m w rc num Rs rq) {j what : Nat} (hj : j < rc) (hwh : what < 4) (hs : ∀ r, r < hw_pow w n → hSt h (rq j) r) {K : Int32 → hk_H → Prop} (hk : K (hI (hp_lie n m w num (Rs j) what)) h) : hk_Ci G m_X9_firstLie (d + 2) 0 0 [.ref 4, .ref (rq j), .int (hI what)] h K := by
  obtain ⟨hn, hm, hw6, hnum⟩ := C.dim
  have hrow := C.rows
  have hw := C.w0 hj
  refine ⟨Nat.le_of_ble_eq_true rfl, ?_⟩
  refine b_X9_firstLie_0 ?_
  refine hk_upto (P := fun r => ∀ o4 o5 o6 o7 o8 : Option Value, hk_c1 o4 → hk_c1 o5 → hk_c1 o6 → hk_c1 o7 → hf_from (fun r => hp_lieR n m w num (Rs j) what r) (hw_pow w n - r) r = hf (fun r => hp_lieR n m w num (Rs j) what r) (hw_pow w n) → hk_S G m_X9_firstLie (d + 2) 0 0 2 [some (.ref 4), some (.ref (rq j)), some (.int (hI (what : Int))), some (.int (hI (r : Int))), o4, o5, o6, o7, o8] [] h (fun o h' => ∃ x, o = .inl (some (.int x)) ∧ K x h')) (hw_pow w n) (fun r hr ih o4 o5 o6 o7 o8 q4 q5 q6 q7 hf1 => ?_) none none none none none hk_c10 hk_c10 hk_c10 hk_c10 rfl
  refine b_X9_firstLie_2 C.1 rfl C.w1 rfl (fun c => ?_) (fun c => ?_)
  · rw [hN_le (by omega) (by omega)] at c
    rw [hf_end (by omega)] at hf1
    unfold hp_lie at hk
    rw [← hf1] at hk
    exact b_X9_firstLie_123 ⟨_, rfl, hk⟩
  · rw [hN_le (by omega) (by omega)] at c
    refine b_X9_firstLie_13 ?_
    refine hk_upto (P := fun i => ∀ o5 o6 o7 o8 : Option Value, hk_c1 o5 → hk_c1 o6 → hk_c1 o7 → hf_from (fun i => hp_lieP n m w num (Rs j) what r i) (n - i) i = hp_lieR n m w num (Rs j) what r → hk_S G m_X9_firstLie (d + 2) 0 0 16 [some (.ref 4), some (.ref (rq j)), some (.int (hI (what : Int))), some (.int (hI (r : Int))), some (.int (hI (i : Int))), o5, o6, o7, o8] [] h (fun o h' => ∃ x, o = .inl (some (.int x)) ∧ K x h')) n (fun i hi ihi o5 o6 o7 o8 q5 q6 q7 hf2 => ?_) o5 o6 o7 o8 q5 q6 q7 rfl
    refine b_X9_firstLie_16 C.1 rfl (fun c => ?_) (fun c => ?_)
    · rw [hN_le (by omega) (by omega)] at c
      rw [hf_end (by omega)] at hf2
      rw [hf_none (by omega) hf2.symm] at hf1
      refine b_X9_firstLie_117 ?_
      rw [hI_1]
      exact ih (by omega) _ _ _ _ _ hk_c1i q5 q6 q7 hf1
    · rw [hN_le (by omega) (by omega)] at c
      have hin := hw_in_lt hw r i
      refine b_X9_firstLie_25 C.1 rfl C.w1 (c_wishIn C hj (by omega) (by omega) ?_)
      refine b_X9_firstLie_35 (hr_dProfit (C.ok hj).1) (C.obj hj) (c_profit C hj (by omega) (by omega) hin (hs r (by omega)) ?_)
      refine b_X9_firstLie_46 ?_
      refine hk_upto (P := fun v => ∀ o8 : Option Value, hf_from (fun v => if 0 < hp_gain n m w num (Rs j) r i v then some (hp_part what r i v (hp_gain n m w num (Rs j) r i v)) else none) (w - v) v = hp_lieP n m w num (Rs j) what r i → hk_S G m_X9_firstLie (d + 2) 0 0 51 [some (.ref 4), some (.ref (rq j)), some (.int (hI (what : Int))), some (.int (hI (r : Int))), some (.int (hI (i : Int))), some (.int (hI (hw_in w r i : Nat))), some (.int (hI (hr_val n m w num (Rs j) r i (hw_in w r i)))), some (.int (hI (v : Int))), o8] [] h (fun o h' => ∃ x, o = .inl (some (.int x)) ∧ K x h')) w (fun v hv ihv o8 hf3 => ?_) o8 rfl
      refine b_X9_firstLie_51 C.1 rfl C.w1 rfl (fun c => ?_) (fun c => ?_)
      · rw [hN_le (by omega) (by omega)] at c
        rw [hf_end (by omega)] at hf3
        rw [hf_none (by omega) hf3.symm] at hf2
        refine b_X9_firstLie_111 ?_
        rw [hI_1]
        exact ihi (by omega) _ _ _ _ hk_c1i hk_c1i hk_c1i hf2
      · rw [hN_le (by omega) (by omega)] at c
        refine b_X9_firstLie_63 C.1 rfl C.w1 (c_rowSaying C hj (by omega) (by omega) (by omega) fun hlt => ?_)
        refine b_X9_firstLie_76 (hr_dProfit (C.ok hj).1) (C.obj hj) (c_profit C hj hlt (by omega) hin (hs _ hlt) ?_)
        have b1 := C.vb hj (show r < hw_pow w n by omega) (show i < n by omega) hin
        have b2 := C.vb hj hlt (show i < n by omega) hin
        have eg : hp_gain n m w num (Rs j) r i v = hr_val n m w num (Rs j) (hw_say w r i v) i (hw_in w r i) - hr_val n m w num (Rs j) r i (hw_in w r i) := rfl
        refine b_X9_firstLie_83 (fun c2 => ?_) (fun c2 => ?_)
        · rw [hI_sub, ← eg, show (0 : Int32) = hI 0 from rfl, hI_le ⟨by omega, by omega⟩ ⟨by omega, by omega⟩] at c2
          rw [hf_none (by omega) (if_neg (by omega))] at hf3
          refine b_X9_firstLie_105 ?_
          rw [hI_1]
          exact ihv (by omega) _ hf3
        · rw [hI_sub, ← eg, show (0 : Int32) = hI 0 from rfl, hI_le ⟨by omega, by omega⟩ ⟨by omega, by omega⟩] at c2
          rw [hf_some (by omega) (if_pos (by omega))] at hf3
          rw [hf_some (by omega) hf3.symm] at hf2
          rw [hf_some (by omega) hf2.symm] at hf1
          unfold hp_lie at hk
          rw [← hf1] at hk
          refine b_X9_firstLie_93 ?_
          rw [hI_sub, ← eg]
          exact s_partOfLie hwh (b_X9_firstLie_104 ⟨_, rfl, hk⟩)
def hq_lie (n m w rc : Nat) (num : Nat → Int) (Rs : Nat → hr_R) (x y : Int32) : Int := match hx x rc, hx y 4 with
  | some j, some what => hp_lie n m w num (Rs j) what
  | _, _ => -1
theorem s_lie (C : hC h n m w rc num Rs rq) {x y : Int32} {K : Int32 → hk_H → Prop} (hk : ∀ h', hC h' n m w rc num Rs rq → hLo h h' → K (hI (hq_lie n m w rc num Rs x y)) h') : hk_Ci G m_X9_lie (d + 5) 0 0 [.ref 4, .int x, .int y] h K := by
  have hrc := C.rc8
  refine ⟨Nat.le_of_ble_eq_true rfl, ?_⟩
  refine b_X9_lie_0 C.1 (s_settledRule C (fun j h' hj hxj C' hl hs _ => ?_) (fun hx => b_X9_lie_5N0 ⟨_, rfl, ?_⟩))
  · have hk := hk h' C' hl
    unfold hq_lie at hk
    rw [hxj, hx_some hj (by omega)] at hk
    refine b_X9_lie_5 (s_isWithin (a := 0) (b := 3) ⟨by omega, by omega⟩ ⟨by omega, by omega⟩ (fun c => b_X9_lie_16 (fun _ => ?_) (fun c2 => absurd c2 (by decide))) (fun c => b_X9_lie_16 (fun c2 => absurd rfl c2) (fun _ => b_X9_lie_19 ⟨_, rfl, ?_⟩)))
    · obtain ⟨what, hwh, hy⟩ : ∃ what : Nat, what < 4 ∧ y = hI (what : Int) := ⟨y.toInt.toNat, by omega, by rw [show ((y.toInt.toNat : Nat) : Int) = y.toInt by omega]; exact hI_of y⟩
      rw [hy, hx_some hwh (by omega)] at hk
      rw [hy]
      exact b_X9_lie_23 C'.1 (s_firstLie C' hj hwh hs (b_X9_lie_29 ⟨_, rfl, hk⟩))
    · rw [hx_none (by unfold hIn; omega)] at hk
      exact hk
  · have hk := hk h C hLo.rf
    unfold hq_lie at hk
    rw [hx_none hx] at hk
    exact hk
theorem s_isDictator (C : hC h n m w rc num Rs rq) {j i : Nat} (hj : j < rc) (hi : i < n) (hs : ∀ r, r < hw_pow w n → hSt h (rq j) r) {K : Int32 → hk_H → Prop} (hk : K (hI (hb (hp_isDict n m w num (Rs j) i))) h) : hk_Ci G m_X9_isDictator (d + 2) 0 0 [.ref 4, .ref (rq j), .int (hI i)] h K := by
  obtain ⟨hn, hm, hw6, hnum⟩ := C.dim
  obtain ⟨pw, HW⟩ := C.2.1
  have hrow := C.rows
  have hw := C.w0 hj
  refine ⟨Nat.le_of_ble_eq_true rfl, ?_⟩
  refine b_X9_isDictator_0 ?_
  refine hk_upto (P := fun r => ha_from (fun r => hr_end n m w num (Rs j) r == hw_top num m (hw_in w r i)) (hw_pow w n - r) r = hp_isDict n m w num (Rs j) i → hk_S G m_X9_isDictator (d + 2) 0 0 2 [some (.ref 4), some (.ref (rq j)), some (.int (hI (i : Int))), some (.int (hI (r : Int)))] [] h (fun o h' => ∃ x, o = .inl (some (.int x)) ∧ K x h')) (hw_pow w n) (fun r hr ih ha1 => ?_) rfl
  refine b_X9_isDictator_2 C.1 rfl C.w1 rfl (fun c => ?_) (fun c => ?_)
  · rw [hN_le (by omega) (by omega)] at c
    rw [ha_end (by omega)] at ha1
    rw [← ha1] at hk
    exact b_X9_isDictator_45 ⟨_, rfl, hk⟩
  · rw [hN_le (by omega) (by omega)] at c
    have hin := hw_in_lt hw r i
    have het := hr_end_lt (num := num) (r := r) hm.1 (C.ok hj) (by omega)
    have htl : hw_top num m (hw_in w r i) ≤ m - 1 := hw_best_le _ _
    rw [ha_step (by omega)] at ha1
    refine b_X9_isDictator_13 (hr_dEnd (C.ok hj).1) (C.obj hj) (c_endAt C hj (by omega) (hs r (by omega)) ?_)
    refine b_X9_isDictator_18 C.1 rfl C.w1 (c_wishIn C hj (by omega) hi ?_)
    refine b_X9_isDictator_31 C.w1 (s_top HW (by omega) ?_)
    refine b_X9_isDictator_34 (fun c2 => ?_) (fun c2 => ?_)
    · rw [hN_eq (by omega) (by omega)] at c2
      rw [show (hr_end n m w num (Rs j) r == hw_top num m (hw_in w r i)) = true by simp [c2], Bool.true_and] at ha1
      refine b_X9_isDictator_39 ?_
      rw [hI_1]
      exact ih (by omega) ha1
    · rw [hN_eq (by omega) (by omega)] at c2
      rw [show (hr_end n m w num (Rs j) r == hw_top num m (hw_in w r i)) = false by simp [c2], Bool.false_and] at ha1
      rw [← ha1] at hk
      exact b_X9_isDictator_37 ⟨_, rfl, hk⟩
def hq_dict (n m w rc : Nat) (num : Nat → Int) (Rs : Nat → hr_R) (x : Int32) : Int := match hx x rc with
  | some j => hp_dict n m w num (Rs j)
  | none => -1
theorem s_dictator (C : hC h n m w rc num Rs rq) {x : Int32} {K : Int32 → hk_H → Prop} (hk : ∀ h', hC h' n m w rc num Rs rq → hLo h h' → K (hI (hq_dict n m w rc num Rs x)) h') : hk_Ci G m_X9_dictator (d + 5) 0 0 [.ref 4, .int x] h K := by
  obtain ⟨hn, hm, hw6, hnum⟩ := C.dim
  have hrc := C.rc8
  refine ⟨Nat.le_of_ble_eq_true rfl, ?_⟩
  refine b_X9_dictator_0 C.1 (s_settledRule C (fun j h' hj hxj C' hl hs _ => ?_) (fun hx => b_X9_dictator_5N0 ⟨_, rfl, ?_⟩))
  · have hk := hk h' C' hl
    unfold hq_dict at hk
    rw [hxj, hx_some hj (by omega)] at hk
    refine b_X9_dictator_5 ?_
    refine hk_upto (P := fun i => hf_from (fun i => if hp_isDict n m w num (Rs j) i then some (i : Int) else none) (n - i) i = hf (fun i => if hp_isDict n m w num (Rs j) i then some (i : Int) else none) n → hk_S G m_X9_dictator (d + 5) 0 0 14 [some (.ref 4), some (.int x), some (.ref (rq j)), some (.int (hI (i : Int)))] [] h' (fun o h' => ∃ x, o = .inl (some (.int x)) ∧ K x h')) n (fun i hi ih hf1 => ?_) rfl
    refine b_X9_dictator_14 C'.1 rfl (fun c => ?_) (fun c => ?_)
    · rw [hN_le (by omega) (by omega)] at c
      rw [hf_end (by omega)] at hf1
      unfold hp_dict at hk
      simp only at hk
      rw [← hf1] at hk
      exact b_X9_dictator_39 ⟨_, rfl, hk⟩
    · rw [hN_le (by omega) (by omega)] at c
      refine b_X9_dictator_22 C'.1 (s_isDictator C' hj (by omega) hs ?_)
      by_cases e : hp_isDict n m w num (Rs j) i = true
      · rw [hf_some (by omega) (if_pos e)] at hf1
        unfold hp_dict at hk
        simp only at hk
        rw [← hf1] at hk
        rw [e]
        exact b_X9_dictator_28 (fun c2 => absurd c2 (by decide)) (fun _ => b_X9_dictator_31 ⟨_, rfl, hk⟩)
      · rw [hf_none (by omega) (if_neg e)] at hf1
        rw [show hp_isDict n m w num (Rs j) i = false by simpa using e]
        refine b_X9_dictator_28 (fun _ => b_X9_dictator_33 ?_) (fun c2 => absurd rfl c2)
        rw [hI_1]
        exact ih (by omega) hf1
  · have hk := hk h C hLo.rf
    unfold hq_dict at hk
    rw [hx_none hx] at hk
    exact hk
end RE
