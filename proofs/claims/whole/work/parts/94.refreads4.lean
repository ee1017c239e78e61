/-! The reference: budget, welfare, same. -/
section RF
variable {G : hk_G} {h h' : hk_H} {n m w rc th : Nat} {num : Nat → Int} {Rs : Nat → hr_R} {d : Nat}
theorem r_same (B : hB h n m w rc num Rs th) {x y : Int32} {K : Int32 → hk_H → Prop} (hk : K (hI (hq_same n m w rc num Rs x y)) h) : hk_Ci G m_X10_same (d + 4) 0 0 [.ref 43, .int x, .int y] h K := by
  have hrc := B.rc8
  have hrow := B.rows
  obtain ⟨hn, hm, hw6, hnum⟩ := B.dim
  unfold hq_same at hk
  refine ⟨Nat.le_of_ble_eq_true rfl, ?_⟩
  refine b_X10_same_0 B.o rfl (r_isIn (by omega) (fun j hj hxj => ?_) (fun c => b_X10_same_8 (fun _ => b_X10_same_22 ⟨_, rfl, ?_⟩) (fun z => absurd rfl z)))
  · rw [hxj, hx_some hj (by omega)] at hk
    refine b_X10_same_8 (fun z => absurd z (by decide)) (fun _ => ?_)
    refine b_X10_same_11 B.o rfl (r_isIn (by omega) (fun k hk1 hyk => ?_) (fun c => b_X10_same_19 (fun z => absurd rfl z) (fun _ => b_X10_same_22 ⟨_, rfl, ?_⟩)))
    · rw [hyk, hx_some hk1 (by omega)] at hk
      simp only at hk
      unfold hp_same at hk
      have hw := B.w0 hj
      refine b_X10_same_19 (fun _ => ?_) (fun z => absurd z (by decide))
      rw [hxj, hyk]
      have fin : ∀ (b : Bool) (o4 o5 : Option Value), ha (fun r => hp_sameAt n m w num (Rs j) (Rs k) r) (hw_pow w n) = b → hk_S G m_X10_same (d + 4) 0 0 120 [some (.ref 43), some (.int (hI j)), some (.int (hI k)), some (.int (hI (hb b))), o4, o5] [] h (fun o h' => ∃ x, o = .inl (some (.int x)) ∧ K x h') := by
        intro b o4 o5 eb
        rw [eb] at hk
        cases b with
        | true => exact b_X10_same_120 (fun z => absurd z (by decide)) (fun _ => b_X10_same_124 ⟨_, rfl, hk⟩)
        | false => exact b_X10_same_120 (fun _ => b_X10_same_128 ⟨_, rfl, hk⟩) (fun z => absurd rfl z)
      refine b_X10_same_24 ?_
      refine hk_upto (P := fun r => ∀ (b : Bool) (o5 : Option Value), (b = true → ha_from (fun r => hp_sameAt n m w num (Rs j) (Rs k) r) (hw_pow w n - r) r = ha (fun r => hp_sameAt n m w num (Rs j) (Rs k) r) (hw_pow w n)) → (b = false → ha (fun r => hp_sameAt n m w num (Rs j) (Rs k) r) (hw_pow w n) = false) → hk_S G m_X10_same (d + 4) 0 0 29 [some (.ref 43), some (.int (hI j)), some (.int (hI k)), some (.int (hI (hb b))), some (.int (hI (r : Int))), o5] [] h (fun o h' => ∃ x, o = .inl (some (.int x)) ∧ K x h')) (hw_pow w n) (fun r hr ih b o5 A1 A2 => ?_) true none (fun _ => rfl) (fun z => by cases z)
      refine b_X10_same_29 B.o rfl (fun cc => ?_) (fun cc => ?_)
      · rw [hN_le (by omega) (by omega)] at cc
        refine fin b _ _ ?_
        cases b with
        | true =>
          have := A1 rfl
          rw [ha_end (by omega)] at this
          exact this.symm
        | false => exact A2 rfl
      · rw [hN_le (by omega) (by omega)] at cc
        have hrl : r < hw_pow w n := by omega
        cases b with
        | false => exact b_X10_same_38 (fun _ => fin false _ _ (A2 rfl)) (fun z => absurd rfl z)
        | true =>
          have A1 := A1 rfl
          rw [ha_step hrl] at A1
          have e1 := hr_end_lt (num := num) hm.1 (B.ok hj) hrl
          have e2 := hr_end_lt (num := num) hm.1 (B.ok hk1) hrl
          have out : ∀ (b : Bool) (o5 : Option Value), hp_sameAt n m w num (Rs j) (Rs k) r = b → hk_S G m_X10_same (d + 4) 0 0 114 [some (.ref 43), some (.int (hI j)), some (.int (hI k)), some (.int (hI (hb b))), some (.int (hI (r : Int))), o5] [] h (fun o h' => ∃ x, o = .inl (some (.int x)) ∧ K x h') := by
            intro b o5 eb
            rw [eb] at A1
            refine b_X10_same_114 ?_
            rw [hI_1]
            cases b with
            | true =>
              rw [Bool.true_and] at A1
              exact ih hrl true _ (fun _ => A1) (fun z => by cases z)
            | false =>
              rw [Bool.false_and] at A1
              exact ih hrl false _ (fun z => by cases z) (fun _ => A1.symm)
          have inner : ∀ b0 : Bool, (hr_end n m w num (Rs j) r == hr_end n m w num (Rs k) r) = b0 → hk_S G m_X10_same (d + 4) 0 0 68 [some (.ref 43), some (.int (hI j)), some (.int (hI k)), some (.int (hI (hb b0))), some (.int (hI (r : Int))), some (.int 0)] [] h (fun o h' => ∃ x, o = .inl (some (.int x)) ∧ K x h') := by
            intro b0 eb0
            refine hk_upto (P := fun i => ∀ b : Bool, (b = true → b0 = true ∧ ha_from (fun i => hr_pay n m w num (Rs j) r i == hr_pay n m w num (Rs k) r i) (n - i) i = ha (fun i => hr_pay n m w num (Rs j) r i == hr_pay n m w num (Rs k) r i) n) → (b = false → hp_sameAt n m w num (Rs j) (Rs k) r = false) → hk_S G m_X10_same (d + 4) 0 0 68 [some (.ref 43), some (.int (hI j)), some (.int (hI k)), some (.int (hI (hb b))), some (.int (hI (r : Int))), some (.int (hI (i : Int)))] [] h (fun o h' => ∃ x, o = .inl (some (.int x)) ∧ K x h')) n (fun i hi ih2 b C1 C2 => ?_) b0 (fun z => ⟨z, rfl⟩) (fun z => by unfold hp_sameAt; rw [eb0, z, Bool.false_and])
            refine b_X10_same_68 B.o rfl (fun c2 => ?_) (fun c2 => ?_)
            · rw [hN_le (by omega) (by omega)] at c2
              refine out b _ ?_
              cases b with
              | true =>
                obtain ⟨z1, z2⟩ := C1 rfl
                rw [ha_end (by omega)] at z2
                unfold hp_sameAt
                rw [eb0, z1, ← z2]; rfl
              | false => exact C2 rfl
            · rw [hN_le (by omega) (by omega)] at c2
              have hin : i < n := by omega
              cases b with
              | false => exact b_X10_same_77 (fun _ => out false _ (C2 rfl)) (fun z => absurd rfl z)
              | true =>
                obtain ⟨z1, z2⟩ := C1 rfl
                rw [ha_step hin] at z2
                have p1 := hr_pay_bound B.dim (B.ok hj) hw hrl hin
                have p2 := hr_pay_bound B.dim (B.ok hk1) hw hrl hin
                refine b_X10_same_77 (fun z => absurd z (by decide)) (fun _ => ?_)
                refine b_X10_same_81 B.o (r_paysOf B hj hrl hin ?_)
                refine b_X10_same_90 B.o (r_paysOf B hk1 hrl hin ?_)
                refine b_X10_same_99 (fun c3 => ?_) (fun c3 => ?_)
                · rw [hI_eq (by omega) (by omega)] at c3
                  rw [show (hr_pay n m w num (Rs j) r i == hr_pay n m w num (Rs k) r i) = false by rw [beq_eq_false_iff_ne]; exact c3, Bool.false_and] at z2
                  refine b_X10_same_106 ?_
                  rw [hI_1]
                  exact ih2 hin false (fun z => by cases z) (fun _ => by unfold hp_sameAt; rw [← z2, Bool.and_false])
                · rw [hI_eq (by omega) (by omega)] at c3
                  rw [show (hr_pay n m w num (Rs j) r i == hr_pay n m w num (Rs k) r i) = true by rw [c3]; exact beq_self_eq_true _, Bool.true_and] at z2
                  refine b_X10_same_102 ?_
                  rw [hI_1]
                  exact ih2 hin true (fun _ => ⟨z1, z2⟩) (fun z => by cases z)
          refine b_X10_same_38 (fun z => absurd z (by decide)) (fun _ => ?_)
          refine b_X10_same_42 B.o (r_ends B hj hrl ?_)
          refine b_X10_same_49 B.o (r_ends B hk1 hrl ?_)
          refine b_X10_same_56 (fun c3 => ?_) (fun c3 => ?_)
          · rw [hN_eq (by omega) (by omega)] at c3
            exact b_X10_same_63 (inner false (by rw [beq_eq_false_iff_ne]; exact c3))
          · rw [hN_eq (by omega) (by omega)] at c3
            exact b_X10_same_59 (inner true (by rw [c3]; exact beq_self_eq_true _))
    · rw [hx_none c] at hk
      exact hk
  · rw [hx_none c] at hk
    exact hk
theorem hB.t1 (B : hB h n m w rc num Rs th) : ∃ h1, hk_set h 43 (.inr (10, [.int (hI n), .int (hI m), .int (hI w), .int (hI rc), .int (hI (hw_pow w n : Nat)), .ref 44, .ref 45, .ref 46, .ref 47, .ref 48, .ref 49, .ref 50, .ref 51, .int 0, .ref 52, .ref 53, .ref 54, .ref 55, .ref 56, .ref 57, .ref 58, .ref 59, .ref 60, .ref 61, .ref 62, .ref 63, .ref 64, .ref 65, .ref 66, .ref 67, .ref 68, .ref 69])) = h1 ∧ hB h1 n m w rc num Rs 0 ∧ hRf hP43 h h1 := ⟨_, rfl, B.t0 rfl⟩
theorem hp_paid_b (B : hB h n m w rc num Rs th) {j r : Nat} (hj : j < rc) (hr : r < hw_pow w n) : -39996 ≤ hp_paid n m w num (Rs j) r ∧ hp_paid n m w num (Rs j) r ≤ 39996 := by
  have hn := B.dim.1
  have hw := B.w0 hj
  have := hr_to_bound (f := fun i => hr_pay n m w num (Rs j) r i) (B := 9999) (k := n) fun i hi => hr_pay_bound B.dim (B.ok hj) hw hr hi
  unfold hp_paid
  omega
theorem hp_bud_b (B : hB h n m w rc num Rs th) {j : Nat} (hj : j < rc) (most : Bool) : ∀ k, k < hw_pow w n → -39996 ≤ hp_bud n m w num (Rs j) most k ∧ hp_bud n m w num (Rs j) most k ≤ 39996 := by
  intro k
  induction k with
  | zero => intro hk; exact hp_paid_b B hj hk
  | succ k ih =>
    intro hk
    have h1 := ih (by omega)
    have h2 := hp_paid_b B hj hk
    unfold hp_bud
    split <;> omega
theorem r_budget (B : hB h n m w rc num Rs th) {x y : Int32} {K : Int64 → hk_H → Prop} (hk : ∀ h', hB h' n m w rc num Rs (hq_th (hq_budget n m w rc num Rs x (!decide (y = 0)))) → hRf hP43 h h' → K (hL (hq_val (hq_budget n m w rc num Rs x (!decide (y = 0))))) h') : hk_Cl G m_X10_budget (d + 4) 0 0 [.ref 43, .int x, .int y] h K := by
  have hrc := B.rc8
  have hrow := B.rows
  obtain ⟨hn, hm, hw6, hnum⟩ := B.dim
  obtain ⟨h1, e1, B1, F1⟩ := B.t1
  unfold hq_budget at hk
  refine ⟨Nat.le_of_ble_eq_true rfl, ?_⟩
  refine b_X10_budget_0 B.o (by omega) e1 B1.o rfl (r_isIn (by omega) (fun j hj hxj => ?_) (fun c => b_X10_budget_13 (fun z => absurd rfl z) (fun _ => ?_)))
  · rw [hxj, hx_some hj (by omega)] at hk
    have hk := hk _ B1 F1
    have hk : K (hL (hp_bud n m w num (Rs j) (!decide (y = 0)) (hw_pow w n - 1))) h1 := hk
    have hrp : 0 < hw_pow w n := hw_pos (B.w0 hj)
    refine b_X10_budget_13 (fun _ => ?_) (fun z => absurd z (by decide))
    rw [hxj]
    refine b_X10_budget_23 ?_
    refine hk_upto (P := fun r => ∀ (l : Int) (o6 o7 o8 : Option Value), hk_c1 o7 → hk_c1 o8 → (r = 0 → l = 0) → (0 < r → l = hp_bud n m w num (Rs j) (!decide (y = 0)) (r - 1)) → hk_S G m_X10_budget (d + 4) 0 0 28 [some (.ref 43), some (.int (hI j)), some (.int y), some (.long (hL l)), none, some (.int (hI (r : Int))), o6, o7, o8] [] h1 (fun o h' => ∃ x, o = .inl (some (.long x)) ∧ K x h')) (hw_pow w n) (fun r hr ih l o6 o7 o8 q7 q8 L0 L1 => ?_) 0 none none none hk_c10 hk_c10 (fun _ => rfl) (fun z => by omega)
    refine b_X10_budget_28 B1.o rfl (fun cc => ?_) (fun cc => ?_)
    · rw [hN_le (by omega) (by omega)] at cc
      have e : r = hw_pow w n := by omega
      rw [L1 (by omega), e]
      exact b_X10_budget_112 ⟨_, rfl, hk⟩
    · rw [hN_le (by omega) (by omega)] at cc
      have hrl : r < hw_pow w n := by omega
      have pb := hp_paid_b B hj hrl
      refine b_X10_budget_37 ?_
      refine hk_upto (P := fun i => hk_S G m_X10_budget (d + 4) 0 0 43 [some (.ref 43), some (.int (hI j)), some (.int y), some (.long (hL l)), none, some (.int (hI (r : Int))), some (.long (hL (hr_to (fun i => hr_pay n m w num (Rs j) r i) i))), none, some (.int (hI (i : Int)))] [] h1 (fun o h' => ∃ x, o = .inl (some (.long x)) ∧ K x h')) n (fun i hi ih2 => ?_)
      refine b_X10_budget_43 B1.o rfl (fun c2 => ?_) (fun c2 => ?_)
      · rw [hN_le (by omega) (by omega)] at c2
        have e : i = n := by omega
        subst e
        show hk_S G m_X10_budget (d + 4) 0 0 73 [_, _, _, _, _, _, some (.long (hL (hp_paid i m w num (Rs j) r))), _, _] [] h1 _
        have take : (0 < r → hp_bud i m w num (Rs j) (!decide (y = 0)) r = hp_paid i m w num (Rs j) r) → hk_S G m_X10_budget (d + 4) 0 0 28 [some (.ref 43), some (.int (hI j)), some (.int y), some (.long (hL (hp_paid i m w num (Rs j) r))), none, some (.int (hI (r : Int) + 1)), some (.long (hL (hp_paid i m w num (Rs j) r))), none, some (.int (hI (i : Int)))] [] h1 (fun o h' => ∃ x, o = .inl (some (.long x)) ∧ K x h') := by
          intro ht
          rw [hI_1]
          refine ih hrl _ _ _ _ hk_c10 hk_c1i (fun z => by omega) (fun _ => ?_)
          rw [Nat.add_sub_cancel]
          by_cases z : r = 0
          · subst z; rfl
          · exact (ht (by omega)).symm
        have leave : 0 < r → hp_bud i m w num (Rs j) (!decide (y = 0)) r = l → hk_S G m_X10_budget (d + 4) 0 0 104 [some (.ref 43), some (.int (hI j)), some (.int y), some (.long (hL l)), none, some (.int (hI (r : Int))), some (.long (hL (hp_paid i m w num (Rs j) r))), none, some (.int (hI (i : Int)))] [] h1 (fun o h' => ∃ x, o = .inl (some (.long x)) ∧ K x h') := by
          intro h0 ht
          refine b_X10_budget_104 ?_
          rw [hI_1]
          refine ih hrl _ _ _ _ hk_c10 hk_c1i (fun z => by omega) (fun _ => ?_)
          rw [Nat.add_sub_cancel]
          exact ht.symm
        refine b_X10_budget_73 (fun c3 => ?_) (fun c3 => ?_)
        · rw [show (0 : Int32) = hI ((0 : Nat) : Int) from rfl, hN_eq (by omega) (by omega)] at c3
          exact b_X10_budget_99 (take (fun z => by omega))
        · rw [show (0 : Int32) = hI ((0 : Nat) : Int) from rfl, hN_eq (by omega) (by omega)] at c3
          have el := L1 (by omega)
          have bb := hp_bud_b B hj (!decide (y = 0)) (r - 1) (by omega)
          rw [← el] at bb
          have es : ∀ b, hp_bud i m w num (Rs j) b r = if b then max (hp_bud i m w num (Rs j) b (r - 1)) (hp_paid i m w num (Rs j) r) else min (hp_bud i m w num (Rs j) b (r - 1)) (hp_paid i m w num (Rs j) r) := fun b => by
            have : r = (r - 1) + 1 := by omega
            rw [this]; rfl
          have es := es (!decide (y = 0))
          rw [← el] at es
          obtain ⟨g1, g2⟩ := lg_le (a := hp_paid i m w num (Rs j) r) (b := l) (by omega) (by omega)
          refine b_X10_budget_78 (fun c4 => ?_) (fun c4 => ?_)
          · rw [decide_eq_true c4] at es take leave
            simp only [Bool.not_true, Bool.false_eq_true, if_false] at es
            refine b_X10_budget_92 (fun c5 => ?_) (fun c5 => ?_)
            · rw [g2] at c5
              exact leave (by omega) (by rw [Bool.not_true]; omega)
            · rw [g2] at c5
              exact b_X10_budget_99 (take (fun _ => by rw [Bool.not_true]; omega))
          · rw [decide_eq_false c4] at es take leave
            simp only [Bool.not_false, if_true] at es
            refine b_X10_budget_82 (fun c5 => ?_) (fun c5 => ?_)
            · rw [g1] at c5
              exact leave (by omega) (by rw [Bool.not_false]; omega)
            · rw [g1] at c5
              exact b_X10_budget_89 (take (fun _ => by rw [Bool.not_false]; omega))
      · rw [hN_le (by omega) (by omega)] at c2
        have hin : i < n := by omega
        have p1 := hr_pay_bound B.dim (B.ok hj) (B.w0 hj) hrl hin
        refine b_X10_budget_52 B1.o (r_paysOf B1 hj hrl hin ?_)
        refine b_X10_budget_63 ?_
        rw [hI_1, hL_I (by omega), hL_add]
        exact ih2 hin
  · rw [hx_none c] at hk
    exact b_X10_budget_16 B1.o (r_rise (t := 1) B1 F1 fun h' B' F' => b_X10_budget_21 ⟨_, rfl, hk h' B' F'⟩)
theorem r_welfare (B : hB h n m w rc num Rs th) {x : Int32} {K : Int64 → hk_H → Prop} (hk : ∀ h', hB h' n m w rc num Rs (hq_th (hq_welfare n m w rc num Rs x)) → hRf hP43 h h' → K (hL (hq_val (hq_welfare n m w rc num Rs x))) h') : hk_Cl G m_X10_welfare (d + 4) 0 0 [.ref 43, .int x] h K := by
  have hrc := B.rc8
  have hrow := B.rows
  obtain ⟨hn, hm, hw6, hnum⟩ := B.dim
  obtain ⟨h1, e1, B1, F1⟩ := B.t1
  unfold hq_welfare at hk
  refine ⟨Nat.le_of_ble_eq_true rfl, ?_⟩
  refine b_X10_welfare_0 B.o (by omega) e1 B1.o rfl (r_isIn (by omega) (fun j hj hxj => ?_) (fun c => b_X10_welfare_13 (fun z => absurd rfl z) (fun _ => ?_)))
  · rw [hxj, hx_some hj (by omega)] at hk
    have hk : K (hL (hp_wel n m w num (Rs j))) h1 := hk _ B1 F1
    unfold hp_wel at hk
    have hw := B.w0 hj
    refine b_X10_welfare_13 (fun _ => ?_) (fun z => absurd z (by decide))
    rw [hxj]
    refine b_X10_welfare_23 ?_
    refine hk_upto (P := fun r => ∀ o5 o6 : Option Value, hk_c1 o5 → hk_S G m_X10_welfare (d + 4) 0 0 28 [some (.ref 43), some (.int (hI j)), some (.long (hL (hr_to (fun r => hr_to (fun i => num (hw_in w r i * 5 + hr_end n m w num (Rs j) r)) n) r))), none, some (.int (hI (r : Int))), o5, o6] [] h1 (fun o h' => ∃ x, o = .inl (some (.long x)) ∧ K x h')) (hw_pow w n) (fun r hr ih o5 o6 q5 => ?_) none none hk_c10
    refine b_X10_welfare_28 B1.o rfl (fun cc => ?_) (fun cc => ?_)
    · rw [hN_le (by omega) (by omega)] at cc
      have e : r = hw_pow w n := by omega
      subst e
      exact b_X10_welfare_92 ⟨_, rfl, hk⟩
    · rw [hN_le (by omega) (by omega)] at cc
      have hrl : r < hw_pow w n := by omega
      have el := hr_end_lt (num := num) hm.1 (B.ok hj) hrl
      refine b_X10_welfare_37 B1.o (r_ends B1 hj hrl ?_)
      refine b_X10_welfare_44 ?_
      have z := hk_upto (P := fun i => hk_S G m_X10_welfare (d + 4) 0 0 49 [some (.ref 43), some (.int (hI j)), some (.long (hL (hr_to (fun r => hr_to (fun i => num (hw_in w r i * 5 + hr_end n m w num (Rs j) r)) n) r + hr_to (fun i => num (hw_in w r i * 5 + hr_end n m w num (Rs j) r)) i))), none, some (.int (hI (r : Int))), some (.int (hI (hr_end n m w num (Rs j) r : Nat))), some (.int (hI (i : Int)))] [] h1 (fun o h' => ∃ x, o = .inl (some (.long x)) ∧ K x h')) n (fun i hi ih2 => ?_)
      · rw [show ∀ a : Int, a + hr_to (fun i => num (hw_in w r i * 5 + hr_end n m w num (Rs j) r)) 0 = a from fun a => Int.add_zero a] at z
        exact z
      · refine b_X10_welfare_49 B1.o rfl (fun c2 => ?_) (fun c2 => ?_)
        · rw [hN_le (by omega) (by omega)] at c2
          have e : i = n := by omega
          subst e
          refine b_X10_welfare_86 ?_
          rw [hI_1]
          exact ih hrl _ _ hk_c1i
        · rw [hN_le (by omega) (by omega)] at c2
          have hin : i < n := by omega
          have hwi := hw_in_lt hw r i
          have nb := hnum (hw_in w r i * 5 + hr_end n m w num (Rs j) r) (by omega)
          have ih2 := ih2 hin
          rw [hr_to_s, ← Int.add_assoc] at ih2
          refine b_X10_welfare_58 B1.o rfl (r_wishOf B1 hw (by omega) hin ?_)
          refine b_X10_welfare_72 B1.2.1 (5 * hw_in w r i + hr_end n m w num (Rs j) r) (hI_ji (q := 5) (by omega)) (by omega) ?_
          rw [hI_1, show 5 * hw_in w r i + hr_end n m w num (Rs j) r = hw_in w r i * 5 + hr_end n m w num (Rs j) r by omega, hL_I (by omega), hL_add]
          exact ih2
  · rw [hx_none c] at hk
    exact b_X10_welfare_16 B1.o (r_rise (t := 1) B1 F1 fun h' B' F' => b_X10_welfare_21 ⟨_, rfl, hk h' B' F'⟩)
end RF
