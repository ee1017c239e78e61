section RD
variable {G : hk_G} {h : hk_H} {n m w rc : Nat} {num : Nat → Int} {Rs : Nat → hr_R} {rq : Nat → Nat} {d : Nat}
theorem hC.w0 (C : hC h n m w rc num Rs rq) {j : Nat} (hj : j < rc) : 1 ≤ w := C.2.2.1 (by omega)
theorem hC.vb (C : hC h n m w rc num Rs rq) {j r i a : Nat} (hj : j < rc) (hr : r < hw_pow w n) (hi : i < n) (ha : a < w) : -10098 ≤ hr_val n m w num (Rs j) r i a ∧ hr_val n m w num (Rs j) r i a ≤ 10098 := hr_val_bound C.dim (C.ok hj) (C.w0 hj) hr hi ha
theorem s_liesAt (C : hC h n m w rc num Rs rq) {j r i : Nat} (hj : j < rc) (hr : r < hw_pow w n) (hi : i < n) (hs : ∀ r, r < hw_pow w n → hSt h (rq j) r) {K : Int32 → hk_H → Prop} (hk : K (hI (hp_liesAt n m w num (Rs j) r i)) h) : hk_Ci G m_X9_liesAt (d + 2) 0 0 [.ref 4, .ref (rq j), .int (hI r), .int (hI i)] h K := by
  obtain ⟨hn, hm, hw6, hnum⟩ := C.dim
  have hrow := C.rows
  have hw := C.w0 hj
  have hin := hw_in_lt hw r i
  refine ⟨Nat.le_of_ble_eq_true rfl, ?_⟩
  refine b_X9_liesAt_0 C.1 rfl C.w1 (c_wishIn C hj hr hi ?_)
  refine b_X9_liesAt_9 (hr_dProfit (C.ok hj).1) (C.obj hj) (c_profit C hj hr hi hin (hs r hr) ?_)
  refine b_X9_liesAt_19 ?_
  refine hk_upto (P := fun v => hk_S G m_X9_liesAt (d + 2) 0 0 27 [some (.ref 4), some (.ref (rq j)), some (.int (hI (r : Int))), some (.int (hI (i : Int))), some (.int (hI (hw_in w r i : Nat))), some (.int (hI (hr_val n m w num (Rs j) r i (hw_in w r i)))), some (.int (hI (hr_to (fun v => if 0 < hp_gain n m w num (Rs j) r i v then 1 else 0) v))), some (.int (hI (v : Int)))] [] h (fun o h' => ∃ x, o = .inl (some (.int x)) ∧ K x h')) w (fun v hv ih => ?_)
  refine b_X9_liesAt_27 C.1 rfl C.w1 rfl (fun c => ?_) (fun c => ?_)
  · rw [hN_le (by omega) (by omega)] at c
    have e : v = w := by omega
    subst e
    exact b_X9_liesAt_71 ⟨_, rfl, hk⟩
  · rw [hN_le (by omega) (by omega)] at c
    have ih := ih (by omega)
    refine b_X9_liesAt_39 C.1 rfl C.w1 (c_rowSaying C hj hr hi (by omega) fun hlt => ?_)
    refine b_X9_liesAt_51 (hr_dProfit (C.ok hj).1) (C.obj hj) (c_profit C hj hlt hi hin (hs _ hlt) ?_)
    have b1 := C.vb hj hr hi hin
    have b2 := C.vb hj hlt hi hin
    have eg : hp_gain n m w num (Rs j) r i v = hr_val n m w num (Rs j) (hw_say w r i v) i (hw_in w r i) - hr_val n m w num (Rs j) r i (hw_in w r i) := rfl
    refine b_X9_liesAt_57 (fun c2 => ?_) (fun c2 => ?_)
    · rw [hI_le ⟨by omega, by omega⟩ ⟨by omega, by omega⟩] at c2
      refine b_X9_liesAt_65 ?_
      rw [hI_1]
      rw [show hr_to (fun v => if 0 < hp_gain n m w num (Rs j) r i v then 1 else 0) (v + 1) = hr_to (fun v => if 0 < hp_gain n m w num (Rs j) r i v then 1 else 0) v by
        show _ + (if 0 < hp_gain n m w num (Rs j) r i v then 1 else 0) = _
        rw [if_neg (by omega)]; omega] at ih
      exact ih
    · rw [hI_le ⟨by omega, by omega⟩ ⟨by omega, by omega⟩] at c2
      refine b_X9_liesAt_62 ?_
      rw [hI_1, show (1 : Int32) = hI 1 from rfl, hI_add]
      rw [show hr_to (fun v => if 0 < hp_gain n m w num (Rs j) r i v then 1 else 0) (v + 1) = hr_to (fun v => if 0 < hp_gain n m w num (Rs j) r i v then 1 else 0) v + 1 by
        show _ + (if 0 < hp_gain n m w num (Rs j) r i v then 1 else 0) = _
        rw [if_pos (by omega)]] at ih
      exact ih
def hq_lies (n m w rc : Nat) (num : Nat → Int) (Rs : Nat → hr_R) (x : Int32) : Int := match hx x rc with
  | some j => hp_lies n m w num (Rs j)
  | none => -1
theorem s_lies (C : hC h n m w rc num Rs rq) {x : Int32} {K : Int32 → hk_H → Prop} (hk : ∀ h', hC h' n m w rc num Rs rq → hLo h h' → K (hI (hq_lies n m w rc num Rs x)) h') : hk_Ci G m_X9_lies (d + 5) 0 0 [.ref 4, .int x] h K := by
  obtain ⟨hn, hm, hw6, hnum⟩ := C.dim
  have hrow := C.rows
  have hrc := C.2.2.2.1.choose_spec.2.1
  refine ⟨Nat.le_of_ble_eq_true rfl, ?_⟩
  refine b_X9_lies_0 C.1 (s_settledRule C (fun j h' hj hxj C' hl hs _ => ?_) (fun hx => b_X9_lies_5N0 ⟨_, rfl, ?_⟩))
  · have hk := hk h' C' hl
    unfold hq_lies at hk
    rw [hxj, hx_some hj (by omega)] at hk
    refine b_X9_lies_5 ?_
    refine hk_upto (P := fun r => ∀ o5 : Option Value, hk_c1 o5 → hk_S G m_X9_lies (d + 5) 0 0 17 [some (.ref 4), some (.int x), some (.ref (rq j)), some (.int (hI (hr_to (fun r => hr_to (fun i => hp_liesAt n m w num (Rs j) r i) n) r))), some (.int (hI (r : Int))), o5] [] h' (fun o h' => ∃ x, o = .inl (some (.int x)) ∧ K x h')) (hw_pow w n) (fun r hr ih o5 ho5 => ?_) none hk_c10
    refine b_X9_lies_17 C'.1 rfl C'.w1 rfl (fun c => ?_) (fun c => ?_)
    · rw [hN_le (by omega) (by omega)] at c
      have e : r = hw_pow w n := by omega
      subst e
      exact b_X9_lies_65 ⟨_, rfl, hk⟩
    · rw [hN_le (by omega) (by omega)] at c
      have ih := ih (by omega)
      refine b_X9_lies_29 ?_
      refine hk_upto (P := fun i => hk_S G m_X9_lies (d + 5) 0 0 32 [some (.ref 4), some (.int x), some (.ref (rq j)), some (.int (hI (hr_to (fun r => hr_to (fun i => hp_liesAt n m w num (Rs j) r i) n) r + hr_to (fun i => hp_liesAt n m w num (Rs j) r i) i))), some (.int (hI (r : Int))), some (.int (hI (i : Int)))] [] h' (fun o h' => ∃ x, o = .inl (some (.int x)) ∧ K x h')) n (fun i hi ihi => ?_) |> (fun z => by rw [show hr_to (fun i => hp_liesAt n m w num (Rs j) r i) 0 = 0 from rfl, Int.add_zero] at z; exact z)
      refine b_X9_lies_32 C'.1 rfl (fun c => ?_) (fun c => ?_)
      · rw [hN_le (by omega) (by omega)] at c
        have e : i = n := by omega
        subst e
        refine b_X9_lies_59 ?_
        rw [hI_1]
        exact ih _ hk_c1i
      · rw [hN_le (by omega) (by omega)] at c
        refine b_X9_lies_41 C'.1 (s_liesAt C' hj (by omega) (by omega) hs ?_)
        refine b_X9_lies_51 ?_
        rw [hI_1, hI_add]
        have z := ihi (by omega)
        rw [show hr_to (fun i => hp_liesAt n m w num (Rs j) r i) (i + 1) = hr_to (fun i => hp_liesAt n m w num (Rs j) r i) i + hp_liesAt n m w num (Rs j) r i from rfl, ← Int.add_assoc] at z
        exact z
  · have hk := hk h C hLo.rf
    unfold hq_lies at hk
    rw [hx_none hx] at hk
    exact hk
end RD
