/-- the outcome of a call that may throw: 1 an argument, 2 a state -/
def hq_outI (a : Nat ⊕ Int) : hk_O := match a with
  | .inr v => .inl (some (.int (hI v)))
  | .inl k => .inr (if k = 1 then "java/lang/IllegalArgumentException" else "java/lang/IllegalStateException")
def hq_outL (a : Nat ⊕ Int) : hk_O := match a with
  | .inr v => .inl (some (.long (hL v)))
  | .inl k => .inr (if k = 1 then "java/lang/IllegalArgumentException" else "java/lang/IllegalStateException")
theorem hLo.thr {h : hk_H} : hLo h (h.1 + 1, h.2) := ⟨Nat.le_succ _, fun _ _ => rfl⟩
section RF
variable {G : hk_G} {h : hk_H} {n m w rc : Nat} {num : Nat → Int} {Rs : Nat → hr_R} {rq : Nat → Nat} {d : Nat}
theorem hC.thr (C : hC h n m w rc num Rs rq) : hC (h.1 + 1, h.2) n m w rc num Rs rq := C.fr (Nat.le_succ _) fun _ _ => rfl
theorem b_X9_same_11NR {G : hk_G} {d cb sb : Nat} {h : hk_H} {Q : hk_O → hk_H → Prop} {s0 : Nat} {o0 o1 o2 o4 o5 : Option Value} (hq : Q (.inl (some (.int (-1)))) h) : hk_S G m_X9_same (d + 1) cb sb 11 [o0, o1, o2, some .null, o4, o5] [.ref s0] h Q := by
  refine hs_astK dX9_same_11 (by decide) (hk_nk1 rfl hk_c1n) rfl ?_
  refine hs_aload_nN dX9_same_13 rfl ?_
  refine hs_ifnullN dX9_same_14 (tgt := 22) (by decide) ?_
  exact b_X9_same_22 hq
theorem b_X9_same_11NN {G : hk_G} {d cb sb : Nat} {h : hk_H} {Q : hk_O → hk_H → Prop} {o0 o1 o2 o4 o5 : Option Value} (hq : Q (.inl (some (.int (-1)))) h) : hk_S G m_X9_same (d + 1) cb sb 11 [o0, o1, o2, some .null, o4, o5] [.null] h Q := by
  refine hs_astKN dX9_same_11 (by decide) (hk_nk1 rfl hk_c1n) rfl ?_
  refine hs_aload_nN dX9_same_13 rfl ?_
  refine hs_ifnullN dX9_same_14 (tgt := 22) (by decide) ?_
  exact b_X9_same_22 hq
theorem s_isSameAt (C : hC h n m w rc num Rs rq) {j j' r : Nat} (hj : j < rc) (hj' : j' < rc) (hr : r < hw_pow w n) (hs : hSt h (rq j) r) (hs' : hSt h (rq j') r) {K : Int32 → hk_H → Prop} (hk : K (hI (hb (hp_sameAt n m w num (Rs j) (Rs j') r))) h) : hk_Ci G m_X9_isSameAt (d + 1) 0 0 [.ref 4, .ref (rq j), .ref (rq j'), .int (hI r)] h K := by
  obtain ⟨hn, hm, hw6, hnum⟩ := C.dim
  have hrow := C.rows
  have hw := C.w0 hj
  have e1 := hr_end_lt (num := num) hm.1 (C.ok hj) hr
  have e2 := hr_end_lt (num := num) hm.1 (C.ok hj') hr
  unfold hp_sameAt at hk
  refine ⟨Nat.le_of_ble_eq_true rfl, ?_⟩
  refine b_X9_isSameAt_0 (hr_dEnd (C.ok hj).1) (C.obj hj) (c_endAt C hj hr hs ?_)
  refine b_X9_isSameAt_5 (hr_dEnd (C.ok hj').1) (C.obj hj') (c_endAt C hj' hr hs' ?_)
  refine b_X9_isSameAt_10 (fun c => ?_) (fun c => ?_)
  · rw [hN_eq (by omega) (by omega)] at c
    rw [show (hr_end n m w num (Rs j) r == hr_end n m w num (Rs j') r) = true by simp [c], Bool.true_and] at hk
    refine b_X9_isSameAt_15 ?_
    refine hk_upto (P := fun i => ha_from (fun i => hr_pay n m w num (Rs j) r i == hr_pay n m w num (Rs j') r i) (n - i) i = ha (fun i => hr_pay n m w num (Rs j) r i == hr_pay n m w num (Rs j') r i) n → hk_S G m_X9_isSameAt (d + 1) 0 0 18 [some (.ref 4), some (.ref (rq j)), some (.ref (rq j')), some (.int (hI (r : Int))), some (.int (hI (i : Int)))] [] h (fun o h' => ∃ x, o = .inl (some (.int x)) ∧ K x h')) n (fun i hi ih ha1 => ?_) rfl
    refine b_X9_isSameAt_18 C.1 rfl (fun c => ?_) (fun c => ?_)
    · rw [hN_le (by omega) (by omega)] at c
      rw [ha_end (by omega)] at ha1
      rw [← ha1] at hk
      exact b_X9_isSameAt_52 ⟨_, rfl, hk⟩
    · rw [hN_le (by omega) (by omega)] at c
      rw [ha_step (by omega)] at ha1
      have p1 := hr_pay_bound C.dim (C.ok hj) hw hr (show i < n by omega)
      have p2 := hr_pay_bound C.dim (C.ok hj') hw hr (show i < n by omega)
      refine b_X9_isSameAt_27 (hr_dPay (C.ok hj).1) (C.obj hj) (c_paymentAt C hj hr (by omega) hs ?_)
      refine b_X9_isSameAt_34 (hr_dPay (C.ok hj').1) (C.obj hj') (c_paymentAt C hj' hr (by omega) hs' ?_)
      refine b_X9_isSameAt_41 (fun c2 => ?_) (fun c2 => ?_)
      · rw [hI_eq ⟨by omega, by omega⟩ ⟨by omega, by omega⟩] at c2
        rw [show (hr_pay n m w num (Rs j) r i == hr_pay n m w num (Rs j') r i) = true by simp [c2], Bool.true_and] at ha1
        refine b_X9_isSameAt_46 ?_
        rw [hI_1]
        exact ih (by omega) ha1
      · rw [hI_eq ⟨by omega, by omega⟩ ⟨by omega, by omega⟩] at c2
        rw [show (hr_pay n m w num (Rs j) r i == hr_pay n m w num (Rs j') r i) = false by simp [c2], Bool.false_and] at ha1
        rw [← ha1] at hk
        exact b_X9_isSameAt_44 ⟨_, rfl, hk⟩
  · rw [hN_eq (by omega) (by omega)] at c
    rw [show (hr_end n m w num (Rs j) r == hr_end n m w num (Rs j') r) = false by simp [c], Bool.false_and] at hk
    exact b_X9_isSameAt_13 ⟨_, rfl, hk⟩
def hq_same (n m w rc : Nat) (num : Nat → Int) (Rs : Nat → hr_R) (x y : Int32) : Int := match hx x rc, hx y rc with
  | some j, some j' => hp_same n m w num (Rs j) (Rs j')
  | _, _ => -1
theorem s_same (C : hC h n m w rc num Rs rq) {x y : Int32} {K : Int32 → hk_H → Prop} (hk : ∀ h', hC h' n m w rc num Rs rq → hLo h h' → K (hI (hq_same n m w rc num Rs x y)) h') : hk_Ci G m_X9_same (d + 5) 0 0 [.ref 4, .int x, .int y] h K := by
  obtain ⟨hn, hm, hw6, hnum⟩ := C.dim
  have hrow := C.rows
  have hrc := C.rc8
  refine ⟨Nat.le_of_ble_eq_true rfl, ?_⟩
  refine b_X9_same_0 C.1 (s_settledRule C (fun j h1 hj hxj C1 hl1 hs1 _ => ?_) (fun hx1 => ?_))
  · unfold hq_same at hk
    rw [hxj, hx_some hj (by omega)] at hk
    refine b_X9_same_5 C1.1 (s_settledRule C1 (fun j' h2 hj' hyj C2 hl2 hs2 hm2 => ?_) (fun hy => b_X9_same_11N0 ⟨_, rfl, ?_⟩))
    · have hk := hk h2 C2 (hl1.tr hl2)
      rw [hyj, hx_some hj' (by omega)] at hk
      simp only at hk
      unfold hp_same at hk
      refine b_X9_same_11 ?_
      refine hk_upto (P := fun r => ha_from (fun r => hp_sameAt n m w num (Rs j) (Rs j') r) (hw_pow w n - r) r = ha (fun r => hp_sameAt n m w num (Rs j) (Rs j') r) (hw_pow w n) → hk_S G m_X9_same (d + 5) 0 0 27 [some (.ref 4), some (.int x), some (.int y), some (.ref (rq j)), some (.ref (rq j')), some (.int (hI (r : Int)))] [] h2 (fun o h' => ∃ x, o = .inl (some (.int x)) ∧ K x h')) (hw_pow w n) (fun r hr ih ha1 => ?_) rfl
      refine b_X9_same_27 C2.1 rfl C2.w1 rfl (fun c => ?_) (fun c => ?_)
      · rw [hN_le (by omega) (by omega)] at c
        rw [ha_end (by omega)] at ha1
        rw [← ha1] at hk
        exact b_X9_same_59 ⟨_, rfl, hk⟩
      · rw [hN_le (by omega) (by omega)] at c
        rw [ha_step (by omega)] at ha1
        refine b_X9_same_39 C2.1 (s_isSameAt C2 hj hj' (by omega) (hm2 j r hj (hs1 r (by omega))) (hs2 r (by omega)) ?_)
        by_cases e : hp_sameAt n m w num (Rs j) (Rs j') r = true
        · rw [e, Bool.true_and] at ha1
          rw [e]
          refine b_X9_same_48 (fun _ => b_X9_same_53 ?_) (fun c2 => absurd c2 (by decide))
          rw [hI_1]
          exact ih (by omega) ha1
        · have e : hp_sameAt n m w num (Rs j) (Rs j') r = false := by simpa using e
          rw [e, Bool.false_and] at ha1
          rw [← ha1] at hk
          rw [e]
          exact b_X9_same_48 (fun c2 => absurd rfl c2) (fun _ => b_X9_same_51 ⟨_, rfl, hk⟩)
    · have hk := hk h1 C1 hl1
      rw [hx_none hy] at hk
      exact hk
  · unfold hq_same at hk
    rw [hx_none hx1] at hk
    refine b_X9_same_5N0 C.1 (s_settledRule C (fun j' h2 hj' hyj C2 hl2 hs2 hm2 => ?_) (fun hy => ?_))
    · exact b_X9_same_11NR ⟨_, rfl, hk h2 C2 hl2⟩
    · exact b_X9_same_11NN ⟨_, rfl, hk h C hLo.rf⟩
theorem s_isFairAt (C : hC h n m w rc num Rs rq) {j r : Nat} (hj : j < rc) (hr : r < hw_pow w n) (hs : ∀ r, r < hw_pow w n → hSt h (rq j) r) {K : Int32 → hk_H → Prop} (hk : K (hI (hb (hp_fairAt n m w num (Rs j) r))) h) : hk_Ci G m_X9_isFairAt (d + 2) 0 0 [.ref 4, .ref (rq j), .int (hI r)] h K := by
  obtain ⟨hn, hm, hw6, hnum⟩ := C.dim
  have hrow := C.rows
  have hw := C.w0 hj
  have e1 := hr_end_lt (num := num) hm.1 (C.ok hj) hr
  unfold hp_fairAt at hk
  refine ⟨Nat.le_of_ble_eq_true rfl, ?_⟩
  refine b_X9_isFairAt_0 (hr_dEnd (C.ok hj).1) (C.obj hj) (c_endAt C hj hr (hs r hr) ?_)
  refine b_X9_isFairAt_5 ?_
  refine hk_upto (P := fun i => ∀ o5 o6 o7 : Option Value, hk_c1 o5 → hk_c1 o6 → ha_from (fun i => hr_end n m w num (Rs j) (hw_say w (hw_say w r i (hw_in w r (i + 1))) (i + 1) (hw_in w r i)) == hr_end n m w num (Rs j) r) (n - 1 - i) i = ha (fun i => hr_end n m w num (Rs j) (hw_say w (hw_say w r i (hw_in w r (i + 1))) (i + 1) (hw_in w r i)) == hr_end n m w num (Rs j) r) (n - 1) → hk_S G m_X9_isFairAt (d + 2) 0 0 9 [some (.ref 4), some (.ref (rq j)), some (.int (hI (r : Int))), some (.int (hI (hr_end n m w num (Rs j) r : Nat))), some (.int (hI (i : Int))), o5, o6, o7] [] h (fun o h' => ∃ x, o = .inl (some (.int x)) ∧ K x h')) (n - 1) (fun i hi ih o5 o6 o7 q5 q6 ha1 => ?_) none none none hk_c10 hk_c10 rfl
  refine b_X9_isFairAt_9 C.1 rfl (fun c => ?_) (fun c => ?_)
  · rw [hI_1, hN_le (by omega) (by omega)] at c
    rw [ha_end (by omega)] at ha1
    rw [← ha1] at hk
    exact b_X9_isFairAt_91 ⟨_, rfl, hk⟩
  · rw [hI_1, hN_le (by omega) (by omega)] at c
    rw [ha_step (by omega)] at ha1
    have i1 := hw_in_lt hw r i
    have i2 := hw_in_lt hw r (i + 1)
    refine b_X9_isFairAt_20 C.1 rfl C.w1 (c_wishIn C hj hr (by omega) ?_)
    refine b_X9_isFairAt_30 C.1 rfl C.w1 ?_
    rw [hI_1]
    refine c_wishIn C hj hr (by omega) ?_
    refine b_X9_isFairAt_44 C.1 rfl C.w1 (c_rowSaying C hj hr (by omega) i2 fun hlt => ?_)
    refine b_X9_isFairAt_58 C.1 rfl C.w1 ?_
    rw [hI_1]
    refine c_rowSaying C hj hlt (by omega) i1 fun hlt2 => ?_
    have e2 := hr_end_lt (num := num) hm.1 (C.ok hj) hlt2
    refine b_X9_isFairAt_76 (hr_dEnd (C.ok hj).1) (C.obj hj) (c_endAt C hj hlt2 (hs _ hlt2) ?_)
    refine b_X9_isFairAt_79 (fun c2 => ?_) (fun c2 => ?_)
    · rw [hN_eq (by omega) (by omega)] at c2
      rw [show (hr_end n m w num (Rs j) (hw_say w (hw_say w r i (hw_in w r (i + 1))) (i + 1) (hw_in w r i)) == hr_end n m w num (Rs j) r) = true by simp [c2], Bool.true_and] at ha1
      refine b_X9_isFairAt_85 ?_
      rw [hI_1]
      exact ih (by omega) _ _ _ hk_c1i hk_c1i ha1
    · rw [hN_eq (by omega) (by omega)] at c2
      rw [show (hr_end n m w num (Rs j) (hw_say w (hw_say w r i (hw_in w r (i + 1))) (i + 1) (hw_in w r i)) == hr_end n m w num (Rs j) r) = false by simp [c2], Bool.false_and] at ha1
      rw [← ha1] at hk
      exact b_X9_isFairAt_83 ⟨_, rfl, hk⟩
def hq_fair (n m w rc : Nat) (num : Nat → Int) (Rs : Nat → hr_R) (x : Int32) : Int := match hx x rc with
  | some j => hp_fair n m w num (Rs j)
  | none => -1
theorem s_fair (C : hC h n m w rc num Rs rq) {x : Int32} {K : Int32 → hk_H → Prop} (hk : ∀ h', hC h' n m w rc num Rs rq → hLo h h' → K (hI (hq_fair n m w rc num Rs x)) h') : hk_Ci G m_X9_fair (d + 5) 0 0 [.ref 4, .int x] h K := by
  obtain ⟨hn, hm, hw6, hnum⟩ := C.dim
  have hrc := C.rc8
  have hrow := C.rows
  refine ⟨Nat.le_of_ble_eq_true rfl, ?_⟩
  refine b_X9_fair_0 C.1 (s_settledRule C (fun j h' hj hxj C' hl hs _ => ?_) (fun hx => b_X9_fair_5N0 ⟨_, rfl, ?_⟩))
  · have hk := hk h' C' hl
    unfold hq_fair at hk
    rw [hxj, hx_some hj (by omega)] at hk
    simp only at hk
    unfold hp_fair at hk
    refine b_X9_fair_5 ?_
    refine hk_upto (P := fun r => ha_from (fun r => hp_fairAt n m w num (Rs j) r) (hw_pow w n - r) r = ha (fun r => hp_fairAt n m w num (Rs j) r) (hw_pow w n) → hk_S G m_X9_fair (d + 5) 0 0 14 [some (.ref 4), some (.int x), some (.ref (rq j)), some (.int (hI (r : Int)))] [] h' (fun o h' => ∃ x, o = .inl (some (.int x)) ∧ K x h')) (hw_pow w n) (fun r hr ih ha1 => ?_) rfl
    refine b_X9_fair_14 C'.1 rfl C'.w1 rfl (fun c => ?_) (fun c => ?_)
    · rw [hN_le (by omega) (by omega)] at c
      rw [ha_end (by omega)] at ha1
      rw [← ha1] at hk
      exact b_X9_fair_42 ⟨_, rfl, hk⟩
    · rw [hN_le (by omega) (by omega)] at c
      rw [ha_step (by omega)] at ha1
      refine b_X9_fair_25 C'.1 (s_isFairAt C' hj (by omega) hs ?_)
      by_cases e : hp_fairAt n m w num (Rs j) r = true
      · rw [e, Bool.true_and] at ha1
        rw [e]
        refine b_X9_fair_31 (fun _ => b_X9_fair_36 ?_) (fun c2 => absurd c2 (by decide))
        rw [hI_1]
        exact ih (by omega) ha1
      · have e : hp_fairAt n m w num (Rs j) r = false := by simpa using e
        rw [e, Bool.false_and] at ha1
        rw [← ha1] at hk
        rw [e]
        exact b_X9_fair_31 (fun c2 => absurd rfl c2) (fun _ => b_X9_fair_34 ⟨_, rfl, hk⟩)
  · have hk := hk h C hLo.rf
    unfold hq_fair at hk
    rw [hx_none hx] at hk
    exact hk
end RF
