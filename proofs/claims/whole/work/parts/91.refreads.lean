/-! The reference: ends and payments of a rule. -/
section RC
variable {G : hk_G} {h h' : hk_H} {n m w rc th : Nat} {num : Nat → Int} {Rs : Nat → hr_R} {d : Nat}
theorem hr_to_s {f : Nat → Int} {k : Nat} : hr_to f (k + 1) = hr_to f k + f k := rfl
theorem hr_to_b1 {f : Nat → Int} (hf : ∀ i, 0 ≤ f i ∧ f i ≤ 1) : ∀ k, 0 ≤ hr_to f k ∧ hr_to f k ≤ k := by
  intro k
  induction k with
  | zero => exact ⟨Int.le_refl _, Int.le_refl _⟩
  | succ k ih =>
    have := hf k
    unfold hr_to
    omega
theorem r_middleOf (B : hB h n m w rc num Rs th) {j r : Nat} (hj : j < rc) (hr : r < 1296) {K : Int32 → hk_H → Prop} (hk : K (hI (hr_mid n m w num (Rs j) r : Nat)) h) : hk_Ci G m_X10_middleOf (d + 1) 0 0 [.ref 43, .int (hI j), .int (hI r)] h K := by
  obtain ⟨hn, hm, hw6, hnum⟩ := B.dim
  have hw := B.w0 hj
  have hrc := B.rc8
  obtain ⟨-, -, -, -, -, ⟨lf, l1, l2⟩⟩ := B.2.2.2.1
  refine ⟨Nat.le_of_ble_eq_true rfl, ?_⟩
  refine b_X10_middleOf_0 ?_
  refine hk_upto (P := fun e => ∀ o4 o5 : Option Value, hk_c1 o4 → hr_midFrom n m w num (Rs j) r (m - e) e = hr_mid n m w num (Rs j) r → hk_S G m_X10_middleOf (d + 1) 0 0 2 [some (.ref 43), some (.int (hI j)), some (.int (hI r)), some (.int (hI (e : Int))), o4, o5] [] h (fun o h' => ∃ x, o = .inl (some (.int x)) ∧ K x h')) m (fun e he ih o4 o5 q4 eq => ?_) none none hk_c10 rfl
  refine b_X10_middleOf_2 B.o rfl (fun cc => ?_) (fun cc => ?_)
  · rw [hN_le (by omega) (by omega)] at cc
    rw [show m - e = 0 by omega] at eq
    rw [← eq] at hk
    refine b_X10_middleOf_118 B.o rfl ⟨_, rfl, ?_⟩
    rw [show (1 : Int32) = hI 1 from rfl, hI_sub, show (m : Int) - 1 = ((m - 1 : Nat) : Int) by omega]
    exact hk
  · rw [hN_le (by omega) (by omega)] at cc
    have eq' : (if (n : Int) ≤ hr_cnt n m w num (Rs j) r e then e else hr_midFrom n m w num (Rs j) r (m - (e + 1)) (e + 1)) = hr_mid n m w num (Rs j) r := by
      rw [← eq, show m - e = (m - (e + 1)) + 1 by omega]; rfl
    refine b_X10_middleOf_10 ?_
    refine hk_upto (P := fun i => hk_S G m_X10_middleOf (d + 1) 0 0 16 [some (.ref 43), some (.int (hI j)), some (.int (hI r)), some (.int (hI (e : Int))), some (.int (hI (hr_to (fun i => if hw_top num m (hw_in w r i) ≤ e then 1 else 0) i))), some (.int (hI (i : Int)))] [] h (fun o h' => ∃ x, o = .inl (some (.int x)) ∧ K x h')) n (fun i hi ih2 => ?_)
    refine b_X10_middleOf_16 B.o rfl (fun c2 => ?_) (fun c2 => ?_)
    · rw [hN_le (by omega) (by omega)] at c2
      have q : i = n := by omega
      subst q
      refine b_X10_middleOf_56 ?_
      have z := hk_upto (P := fun k => hk_S G m_X10_middleOf (d + 1) 0 0 59 [some (.ref 43), some (.int (hI j)), some (.int (hI r)), some (.int (hI (e : Int))), some (.int (hI (hr_to (fun i => if hw_top num m (hw_in w r i) ≤ e then 1 else 0) i + hr_to (fun i => if (Rs j).2.2.2.2.2 i ≤ e then 1 else 0) k))), some (.int (hI (k : Int)))] [] h (fun o h' => ∃ x, o = .inl (some (.int x)) ∧ K x h')) (i - 1) (fun k hk1 ih3 => ?_)
      · rw [show hr_to (fun i => if hw_top num m (hw_in w r i) ≤ e then 1 else 0) i + hr_to (fun i => if (Rs j).2.2.2.2.2 i ≤ e then 1 else 0) 0 = hr_to (fun i => if hw_top num m (hw_in w r i) ≤ e then 1 else 0) i from Int.add_zero _] at z
        exact z
      · have en : hI (i : Int) - 1 = hI ((i - 1 : Nat) : Int) := by
          rw [show (1 : Int32) = hI 1 from rfl, hI_sub, show (i : Int) - 1 = ((i - 1 : Nat) : Int) by omega]
        refine b_X10_middleOf_59 B.o rfl (fun c3 => ?_) (fun c3 => ?_)
        · rw [en, hN_le (by omega) (by omega)] at c3
          have q : k = i - 1 := by omega
          subst q
          have b1 := hr_to_b1 (f := fun i => if hw_top num m (hw_in w r i) ≤ e then 1 else 0) (fun i => by split <;> omega) i
          have b2 := hr_to_b1 (f := fun i => if (Rs j).2.2.2.2.2 i ≤ e then 1 else 0) (fun i => by split <;> omega) (i - 1)
          refine b_X10_middleOf_101 B.o rfl (fun c4 => ?_) (fun c4 => ?_)
          · rw [hI_lt (by omega) (by omega)] at c4
            rw [if_neg (by unfold hr_cnt; omega)] at eq'
            refine b_X10_middleOf_112 ?_
            rw [hI_1]
            exact ih (by omega) _ _ hk_c1i eq'
          · rw [hI_lt (by omega) (by omega)] at c4
            rw [if_pos (by unfold hr_cnt; omega)] at eq'
            rw [← eq'] at hk
            exact b_X10_middleOf_110 ⟨_, rfl, hk⟩
        · rw [en, hN_le (by omega) (by omega)] at c3
          have ih3 := ih3 (by omega)
          rw [hr_to_s] at ih3
          have hpl := (B.ok hj).2.2.2.2.2 k (by omega)
          refine b_X10_middleOf_70 B.o rfl l1 (4 * j + k) (hI_ji (q := 4) (by omega)) (by omega) (fun c4 => ?_) (fun c4 => ?_)
          · rw [l2 j k hj (by omega), hN_lt (by omega) (by omega)] at c4
            simp only [if_neg (show ¬ (Rs j).2.2.2.2.2 k ≤ e by omega)] at ih3
            refine b_X10_middleOf_91 ?_
            rw [hI_1, hI_0]
            rw [Int.add_zero] at ih3
            exact ih3
          · rw [l2 j k hj (by omega), hN_lt (by omega) (by omega)] at c4
            simp only [if_pos (show (Rs j).2.2.2.2.2 k ≤ e by omega)] at ih3
            refine b_X10_middleOf_87 ?_
            rw [hI_1, show (1 : Int32) = hI 1 from rfl, hI_add, Int.add_assoc]
            exact ih3
    · rw [hN_le (by omega) (by omega)] at c2
      have ih2 := ih2 (by omega)
      rw [hr_to_s] at ih2
      have hwi := hw_in_lt hw r i
      have htl : hw_top num m (hw_in w r i) ≤ m - 1 := hw_best_le _ _
      refine b_X10_middleOf_25 B.o (r_wishOf B hw hr (by omega) ?_)
      refine b_X10_middleOf_35 B.o (r_top B (by omega) ?_)
      refine b_X10_middleOf_38 (fun c4 => ?_) (fun c4 => ?_)
      · rw [hN_lt (by omega) (by omega)] at c4
        simp only [if_neg (show ¬ hw_top num m (hw_in w r i) ≤ e by omega)] at ih2
        refine b_X10_middleOf_46 ?_
        rw [hI_1, hI_0]
        rw [Int.add_zero] at ih2
        exact ih2
      · rw [hN_lt (by omega) (by omega)] at c4
        simp only [if_pos (show hw_top num m (hw_in w r i) ≤ e by omega)] at ih2
        refine b_X10_middleOf_42 ?_
        rw [hI_1, show (1 : Int32) = hI 1 from rfl, hI_add]
        exact ih2
theorem hx_m1 (hn : n ≤ 4) : ∀ i, i < n → (hI (i : Int) = -1 ↔ i = n) := fun i hi => by
  rw [show (-1 : Int32) = hI (-1) from rfl, hI_eq (by omega) (by omega)]
  omega
theorem r_kind (B : hB h n m w rc num Rs th) {j k : Nat} (hj : j < rc) (hk : k < 8) {f : Nat → Int32} (hf : ∀ j, j < rc → f j = hI ((Rs j).1 : Nat)) : f j = hI (k : Int) ↔ (Rs j).1 = k := by
  have := (B.ok hj).1
  rw [hf j hj, hN_eq (by omega) (by omega)]
theorem r_ends (B : hB h n m w rc num Rs th) {j r : Nat} (hj : j < rc) (hr : r < hw_pow w n) {K : Int32 → hk_H → Prop} (hk : K (hI (hr_end n m w num (Rs j) r : Nat)) h) : hk_Ci G m_X10_ends (d + 3) 0 0 [.ref 43, .int (hI j), .int (hI r)] h K := by
  obtain ⟨hn, hm, hw6, hnum⟩ := B.dim
  have hrow := B.rows
  have hrc := B.rc8
  obtain ⟨⟨kf, k1, k2⟩, ⟨ef, e1, e2⟩, -⟩ := B.2.2.2.1
  unfold hr_end at hk
  refine ⟨Nat.le_of_ble_eq_true rfl, ?_⟩
  refine b_X10_ends_0 B.o rfl k1 j (hI_at rfl (by omega)) (by omega) (fun c => ?_) (fun c => ?_) (fun c c2 => ?_)
  · have c := (r_kind B (k := 2) hj (by omega) k2).mp c
    rw [if_pos c] at hk
    exact b_X10_ends_32 B.o (r_greatest B hj (by omega) (hx_m1 hn.2) (b_X10_ends_39 ⟨_, rfl, hk⟩))
  · have c := (r_kind B (k := 3) hj (by omega) k2).mp c
    rw [if_neg (by omega), if_pos c] at hk
    exact b_X10_ends_40 B.o (r_middleOf B hj (by omega) (b_X10_ends_46 ⟨_, rfl, hk⟩))
  · have c := mt (r_kind B (k := 2) hj (by omega) k2).mpr c
    have c2 := mt (r_kind B (k := 3) hj (by omega) k2).mpr c2
    rw [if_neg c, if_neg c2] at hk
    refine b_X10_ends_47 B.o rfl e1 (1296 * j + r) (hI_ji (q := 1296) (by omega)) (by omega) ⟨_, rfl, ?_⟩
    rw [e2 j r hj hr]
    exact hk
theorem r_paysOf (B : hB h n m w rc num Rs th) {j r i : Nat} (hj : j < rc) (hr : r < hw_pow w n) (hi : i < n) {K : Int32 → hk_H → Prop} (hk : K (hI (hr_pay n m w num (Rs j) r i)) h) : hk_Ci G m_X10_paysOf (d + 3) 0 0 [.ref 43, .int (hI j), .int (hI r), .int (hI i)] h K := by
  obtain ⟨hn, hm, hw6, hnum⟩ := B.dim
  have hrow := B.rows
  have hrc := B.rc8
  have hw := B.w0 hj
  obtain ⟨⟨kf, k1, k2⟩, -, ⟨pf, p1, p2⟩, -, ⟨wf, w1, w2⟩, -⟩ := B.2.2.2.1
  have hxi : ∀ i', i' < n → (hI (i' : Int) = hI (i : Int) ↔ i' = i) := fun i' hi' => hN_eq (by omega) (by omega)
  unfold hr_pay at hk
  refine ⟨Nat.le_of_ble_eq_true rfl, ?_⟩
  refine b_X10_paysOf_0 B.o rfl k1 j (hI_at rfl (by omega)) (by omega) (fun c => ?_) (fun c => ?_)
  · have c := mt (r_kind B (k := 1) hj (by omega) k2).mpr c
    rw [if_neg c] at hk
    refine b_X10_paysOf_27 B.o rfl k1 j (hI_at rfl (by omega)) (by omega) (fun c2 => ?_) (fun c2 => ?_)
    · have c2 := mt (r_kind B (k := 2) hj (by omega) k2).mpr c2
      rw [if_neg c2] at hk
      exact b_X10_paysOf_50 ⟨_, rfl, hk⟩
    · have c2 := (r_kind B (k := 2) hj (by omega) k2).mp c2
      rw [if_pos c2] at hk
      have hwb := (B.ok hj).2.2.2.2.1 i (by omega)
      have ew := w2 j i hj hi
      have ez : wf (4 * j + i) = 0 ↔ (Rs j).2.2.2.2.1 i = 0 := by
        rw [ew, show (0 : Int32) = hI 0 from rfl, hI_eq (by omega) (by omega)]
      refine b_X10_paysOf_37 B.o rfl w1 (4 * j + i) (hI_ji (q := 4) (by omega)) (by omega) (fun c3 => ?_) (fun c3 => ?_)
      · have c3' := mt ez.mpr c3
        rw [if_neg c3'] at hk
        have g1 : hr_great n m w num (Rs j) r i < m := Nat.lt_of_le_of_lt (hw_best_le _ _) (by omega)
        have g2 : hr_great n m w num (Rs j) r n < m := Nat.lt_of_le_of_lt (hw_best_le _ _) (by omega)
        have b1 := hr_sum_bound (r := r) (e := hr_great n m w num (Rs j) r i) (wo := i) B.dim (B.ok hj) hw (by omega)
        have b2 := hr_sum_bound (r := r) (e := hr_great n m w num (Rs j) r n) (wo := i) B.dim (B.ok hj) hw (by omega)
        refine b_X10_paysOf_52 B.o (r_greatest B hj (by omega) hxi ?_)
        refine b_X10_paysOf_62 B.o (r_sumOf B hj (by omega) g1 hxi ?_)
        refine b_X10_paysOf_66 B.o (r_greatest B hj (by omega) (hx_m1 hn.2) ?_)
        refine b_X10_paysOf_76 B.o (r_sumOf B hj (by omega) g2 hxi ?_)
        refine b_X10_paysOf_80 B.o rfl w1 (4 * j + i) (hI_ji (q := 4) (by omega)) (by omega) c3 ⟨_, rfl, ?_⟩
        rw [ew, hI_sub, hI_div (by omega) (by omega)]
        exact hk
      · rw [if_pos (ez.mp c3)] at hk
        exact b_X10_paysOf_50 ⟨_, rfl, hk⟩
  · have c := (r_kind B (k := 1) hj (by omega) k2).mp c
    rw [if_pos c] at hk
    refine b_X10_paysOf_10 B.o rfl p1 (4 * (1296 * j + r) + i) (hI_jk (by omega)) (by omega) ⟨_, rfl, ?_⟩
    rw [p2 j r i hj hr hi]
    exact hk
theorem r_worthOf (B : hB h n m w rc num Rs th) {j r i a : Nat} (hj : j < rc) (hr : r < hw_pow w n) (hi : i < n) (ha : a < 6) {K : Int32 → hk_H → Prop} (hk : K (hI (hr_val n m w num (Rs j) r i a)) h) : hk_Ci G m_X10_worthOf (d + 4) 0 0 [.ref 43, .int (hI j), .int (hI r), .int (hI i), .int (hI a)] h K := by
  obtain ⟨hn, hm, hw6, hnum⟩ := B.dim
  have hel := hr_end_lt (num := num) hm.1 (B.ok hj) hr
  refine ⟨Nat.le_of_ble_eq_true rfl, ?_⟩
  refine b_X10_worthOf_0 B.o rfl (r_ends B hj hr ?_)
  refine b_X10_worthOf_14 B.2.1 (5 * a + hr_end n m w num (Rs j) r) (hI_ji (q := 5) (by omega)) (by omega) B.o (r_paysOf B hj hr hi ?_)
  refine b_X10_worthOf_23 ⟨_, rfl, ?_⟩
  rw [show 5 * a + hr_end n m w num (Rs j) r = a * 5 + hr_end n m w num (Rs j) r by omega, hI_sub]
  exact hk
theorem r_gainOf (B : hB h n m w rc num Rs th) {j r i o : Nat} (hj : j < rc) (hr : r < hw_pow w n) (hi : i < n) (ho : o < hw_pow w n) {K : Int32 → hk_H → Prop} (hk : K (hI (hr_val n m w num (Rs j) o i (hw_in w r i) - hr_val n m w num (Rs j) r i (hw_in w r i))) h) : hk_Ci G m_X10_gainOf (d + 5) 0 0 [.ref 43, .int (hI j), .int (hI r), .int (hI i), .int (hI o)] h K := by
  have hw := B.w0 hj
  have hrow := B.rows
  have hw6 := B.dim.2.2.1
  have hwi := hw_in_lt hw r i
  refine ⟨Nat.le_of_ble_eq_true rfl, ?_⟩
  refine b_X10_gainOf_0 B.o (r_wishOf B hw (by omega) hi ?_)
  refine b_X10_gainOf_6 B.o (r_worthOf B hj ho hi (by omega) ?_)
  refine b_X10_gainOf_18 B.o (r_worthOf B hj hr hi (by omega) ?_)
  refine b_X10_gainOf_27 ⟨_, rfl, ?_⟩
  rw [hI_sub]
  exact hk
end RC
