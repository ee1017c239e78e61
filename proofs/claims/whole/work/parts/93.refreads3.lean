/-! The reference: onto, dictator, budget, welfare, same, fair. -/
def hp_cb (g : Nat) : Nat → Nat
  | 0 => 0
  | k + 1 => hp_cb g k + g / 2 ^ k % 2
theorem hp_cb_bit : ∀ g : Fin 32, ∀ e : Fin 5, ((hI (g : Nat) >>> (hI (e : Nat) &&& 31)) &&& 1) = hI ((g.val / 2 ^ e.val % 2 : Nat) : Int) := by decide +kernel
theorem hp_cb_pop : ∀ m : Fin 6, ∀ g : Fin 32, g.val < 2 ^ m.val → hp_cb g m = hp_pop g := by decide +kernel
theorem hL_toInt {a : Int} (h : -9223372036854775808 ≤ a ∧ a < 9223372036854775808) : (hL a).toInt = a := Int64.toInt_ofInt_of_le h.1 h.2
theorem lg_le {a b : Int} (ha : -1000000000 ≤ a ∧ a ≤ 1000000000) (hb : -1000000000 ≤ b ∧ b ≤ 1000000000) : (lg_cmp (hL a) (hL b) ≤ 0 ↔ a ≤ b) ∧ (0 ≤ lg_cmp (hL a) (hL b) ↔ b ≤ a) := by
  have e1 : hL a > hL b ↔ b < a := by
    show hL b < hL a ↔ _
    rw [Int64.lt_iff_toInt_lt, hL_toInt (by omega), hL_toInt (by omega)]
  have e2 : hL a = hL b ↔ a = b := hL_inj (by omega) (by omega)
  unfold lg_cmp
  by_cases c : b < a
  · rw [if_pos (e1.mpr c)]
    exact ⟨⟨fun z => absurd z (by decide), fun z => by omega⟩, ⟨fun _ => by omega, fun _ => by decide⟩⟩
  · rw [if_neg (mt e1.mp c)]
    by_cases q : a = b
    · rw [if_pos (e2.mpr q)]
      exact ⟨⟨fun _ => by omega, fun _ => by decide⟩, ⟨fun _ => by omega, fun _ => by decide⟩⟩
    · rw [if_neg (mt e2.mp q)]
      exact ⟨⟨fun _ => by omega, fun _ => by decide⟩, ⟨fun z => absurd z (by decide), fun z => by omega⟩⟩
section RE
variable {G : hk_G} {h h' : hk_H} {n m w rc th : Nat} {num : Nat → Int} {Rs : Nat → hr_R} {d : Nat}
theorem r_onto (B : hB h n m w rc num Rs th) {x : Int32} {K : Int32 → hk_H → Prop} (hk : K (hI (hq_onto n m w rc num Rs x)) h) : hk_Ci G m_X10_onto (d + 4) 0 0 [.ref 43, .int x] h K := by
  have hrc := B.rc8
  have hrow := B.rows
  obtain ⟨hn, hm, hw6, hnum⟩ := B.dim
  have h32 : 2 ^ m ≤ 32 := Nat.pow_le_pow_right (n := 2) (by omega) hm.2
  unfold hq_onto at hk
  refine ⟨Nat.le_of_ble_eq_true rfl, ?_⟩
  refine b_X10_onto_0 B.o rfl (r_isIn (by omega) (fun j hj hxj => ?_) (fun c => b_X10_onto_8 (fun z => absurd rfl z) (fun _ => b_X10_onto_11 ⟨_, rfl, ?_⟩)))
  · rw [hxj, hx_some hj (by omega)] at hk
    simp only at hk
    refine b_X10_onto_8 (fun _ => ?_) (fun z => absurd z (by decide))
    rw [hxj]
    refine b_X10_onto_13 ?_
    refine hk_upto (P := fun r => ∀ o4 : Option Value, hk_S G m_X10_onto (d + 4) 0 0 17 [some (.ref 43), some (.int (hI j)), some (.int (hI (hp_mask n m w num (Rs j) r : Nat))), some (.int (hI (r : Int))), o4] [] h (fun o h' => ∃ x, o = .inl (some (.int x)) ∧ K x h')) (hw_pow w n) (fun r hr ih o4 => ?_) none
    have hml := hp_mask_lt (num := num) hm (B.ok hj) r hr
    refine b_X10_onto_17 B.o rfl (fun cc => ?_) (fun cc => ?_)
    · rw [hN_le (by omega) (by omega)] at cc
      have e : r = hw_pow w n := by omega
      subst e
      refine b_X10_onto_42 ?_
      generalize hp_mask n m w num (Rs j) (hw_pow w n) = g at hk hml
      have hpc := hp_cb_pop ⟨m, by omega⟩ ⟨g, by omega⟩ hml
      simp only at hpc
      refine hk_upto (P := fun e => hk_S G m_X10_onto (d + 4) 0 0 47 [some (.ref 43), some (.int (hI j)), some (.int (hI (g : Nat))), some (.int (hI (hp_cb g e : Nat))), some (.int (hI (e : Int)))] [] h (fun o h' => ∃ x, o = .inl (some (.int x)) ∧ K x h')) m (fun e he ih2 => ?_)
      refine b_X10_onto_47 B.o rfl (fun c2 => ?_) (fun c2 => ?_)
      · rw [hN_le (by omega) (by omega)] at c2
        have q : e = m := by omega
        subst q
        rw [hpc]
        exact b_X10_onto_71 ⟨_, rfl, hk⟩
      · rw [hN_le (by omega) (by omega)] at c2
        have hbit := hp_cb_bit ⟨g, by omega⟩ ⟨e, by omega⟩
        simp only at hbit
        refine b_X10_onto_56 ?_
        rw [hI_1, hbit, hI_add]
        have := ih2 (by omega)
        unfold hp_cb at this
        rw [Int.natCast_add] at this
        exact this
    · rw [hN_le (by omega) (by omega)] at cc
      have e1 := hr_end_lt (num := num) (r := r) hm.1 (B.ok hj) (by omega)
      refine b_X10_onto_25 B.o (r_ends B hj (by omega) ?_)
      refine b_X10_onto_33 ?_
      rw [hI_1, hp_or ⟨_, by omega⟩ ⟨_, by omega⟩]
      exact ih (by omega) _
  · rw [hx_none c] at hk
    exact hk
theorem r_dictator (B : hB h n m w rc num Rs th) {x : Int32} {K : Int32 → hk_H → Prop} (hk : K (hI (hq_dict n m w rc num Rs x)) h) : hk_Ci G m_X10_dictator (d + 4) 0 0 [.ref 43, .int x] h K := by
  have hrc := B.rc8
  have hrow := B.rows
  obtain ⟨hn, hm, hw6, hnum⟩ := B.dim
  unfold hq_dict at hk
  refine ⟨Nat.le_of_ble_eq_true rfl, ?_⟩
  refine b_X10_dictator_0 B.o rfl (r_isIn (by omega) (fun j hj hxj => ?_) (fun c => b_X10_dictator_8 (fun z => absurd rfl z) (fun _ => b_X10_dictator_11 ⟨_, rfl, ?_⟩)))
  · rw [hxj, hx_some hj (by omega)] at hk
    simp only at hk
    unfold hp_dict at hk
    have hw := B.w0 hj
    refine b_X10_dictator_8 (fun _ => ?_) (fun z => absurd z (by decide))
    rw [hxj]
    refine b_X10_dictator_13 ?_
    refine hk_upto (P := fun i => ∀ o3 o4 : Option Value, hk_c1 o3 → hf_from (fun i => if hp_isDict n m w num (Rs j) i then some (i : Int) else none) (n - i) i = hf (fun i => if hp_isDict n m w num (Rs j) i then some (i : Int) else none) n → hk_S G m_X10_dictator (d + 4) 0 0 15 [some (.ref 43), some (.int (hI j)), some (.int (hI (i : Int))), o3, o4] [] h (fun o h' => ∃ x, o = .inl (some (.int x)) ∧ K x h')) n (fun i hi ih o3 o4 q3 e1 => ?_) none none hk_c10 rfl
    refine b_X10_dictator_15 B.o rfl (fun cc => ?_) (fun cc => ?_)
    · rw [hN_le (by omega) (by omega)] at cc
      rw [hf_end (by omega)] at e1
      rw [← e1] at hk
      exact b_X10_dictator_86 ⟨_, rfl, hk⟩
    · rw [hN_le (by omega) (by omega)] at cc
      have hin : i < n := by omega
      have fin : ∀ (b : Bool) (o4 : Option Value), hp_isDict n m w num (Rs j) i = b → hk_S G m_X10_dictator (d + 4) 0 0 74 [some (.ref 43), some (.int (hI j)), some (.int (hI (i : Int))), some (.int (hI (hb b))), o4] [] h (fun o h' => ∃ x, o = .inl (some (.int x)) ∧ K x h') := by
        intro b o4 eb
        cases b with
        | true =>
          rw [hf_some hin (if_pos eb)] at e1
          rw [← e1] at hk
          exact b_X10_dictator_74 (fun z => absurd z (by decide)) (fun _ => b_X10_dictator_78 ⟨_, rfl, hk⟩)
        | false =>
          rw [hf_none hin (if_neg (by rw [eb]; decide))] at e1
          refine b_X10_dictator_74 (fun _ => ?_) (fun z => absurd rfl z)
          refine b_X10_dictator_80 ?_
          rw [hI_1]
          exact ih hin _ _ hk_c1i e1
      refine b_X10_dictator_23 ?_
      refine hk_upto (P := fun r => ∀ b : Bool, (b = true → ha_from (fun r => hr_end n m w num (Rs j) r == hw_top num m (hw_in w r i)) (hw_pow w n - r) r = hp_isDict n m w num (Rs j) i) → (b = false → hp_isDict n m w num (Rs j) i = false) → hk_S G m_X10_dictator (d + 4) 0 0 28 [some (.ref 43), some (.int (hI j)), some (.int (hI (i : Int))), some (.int (hI (hb b))), some (.int (hI (r : Int)))] [] h (fun o h' => ∃ x, o = .inl (some (.int x)) ∧ K x h')) (hw_pow w n) (fun r hr ih2 b A1 A2 => ?_) true (fun _ => rfl) (fun z => by cases z)
      refine b_X10_dictator_28 B.o rfl (fun c2 => ?_) (fun c2 => ?_)
      · rw [hN_le (by omega) (by omega)] at c2
        refine fin b _ ?_
        cases b with
        | true =>
          have := A1 rfl
          rw [ha_end (by omega)] at this
          exact this.symm
        | false => exact A2 rfl
      · rw [hN_le (by omega) (by omega)] at c2
        have hrl : r < hw_pow w n := by omega
        cases b with
        | false => exact b_X10_dictator_37 (fun _ => fin false _ (A2 rfl)) (fun z => absurd rfl z)
        | true =>
          have A1 := A1 rfl
          rw [ha_step hrl] at A1
          have hwi := hw_in_lt hw r i
          have het := hr_end_lt (num := num) (r := r) hm.1 (B.ok hj) hrl
          have htl : hw_top num m (hw_in w r i) ≤ m - 1 := hw_best_le _ _
          refine b_X10_dictator_37 (fun z => absurd z (by decide)) (fun _ => ?_)
          refine b_X10_dictator_41 B.o (r_ends B hj hrl ?_)
          refine b_X10_dictator_48 B.o (r_wishOf B hw (by omega) hin ?_)
          refine b_X10_dictator_56 B.o (r_top B (by omega) ?_)
          refine b_X10_dictator_59 (fun c3 => ?_) (fun c3 => ?_)
          · rw [hN_eq (by omega) (by omega)] at c3
            rw [show (hr_end n m w num (Rs j) r == hw_top num m (hw_in w r i)) = false by rw [beq_eq_false_iff_ne]; exact c3, Bool.false_and] at A1
            refine b_X10_dictator_66 ?_
            rw [hI_1]
            exact ih2 hrl false (fun z => by cases z) (fun _ => A1.symm)
          · rw [hN_eq (by omega) (by omega)] at c3
            rw [show (hr_end n m w num (Rs j) r == hw_top num m (hw_in w r i)) = true by rw [c3]; exact beq_self_eq_true _, Bool.true_and] at A1
            refine b_X10_dictator_62 ?_
            rw [hI_1]
            exact ih2 hrl true (fun _ => A1) (fun z => by cases z)
  · rw [hx_none c] at hk
    exact hk
theorem r_fair (B : hB h n m w rc num Rs th) {x : Int32} {K : Int32 → hk_H → Prop} (hk : K (hI (hq_fair n m w rc num Rs x)) h) : hk_Ci G m_X10_fair (d + 4) 0 0 [.ref 43, .int x] h K := by
  have hrc := B.rc8
  have hrow := B.rows
  obtain ⟨hn, hm, hw6, hnum⟩ := B.dim
  unfold hq_fair at hk
  refine ⟨Nat.le_of_ble_eq_true rfl, ?_⟩
  refine b_X10_fair_0 B.o rfl (r_isIn (by omega) (fun j hj hxj => ?_) (fun c => b_X10_fair_8 (fun z => absurd rfl z) (fun _ => b_X10_fair_11 ⟨_, rfl, ?_⟩)))
  · rw [hxj, hx_some hj (by omega)] at hk
    simp only at hk
    unfold hp_fair at hk
    have hw := B.w0 hj
    refine b_X10_fair_8 (fun _ => ?_) (fun z => absurd z (by decide))
    rw [hxj]
    have fin : ∀ (b : Bool) (o3 o4 o5 : Option Value), ha (fun r => hp_fairAt n m w num (Rs j) r) (hw_pow w n) = b → hk_S G m_X10_fair (d + 4) 0 0 114 [some (.ref 43), some (.int (hI j)), some (.int (hI (hb b))), o3, o4, o5] [] h (fun o h' => ∃ x, o = .inl (some (.int x)) ∧ K x h') := by
      intro b o3 o4 o5 eb
      rw [eb] at hk
      cases b with
      | true => exact b_X10_fair_114 (fun z => absurd z (by decide)) (fun _ => b_X10_fair_118 ⟨_, rfl, hk⟩)
      | false => exact b_X10_fair_114 (fun _ => b_X10_fair_122 ⟨_, rfl, hk⟩) (fun z => absurd rfl z)
    refine b_X10_fair_13 ?_
    refine hk_upto (P := fun r => ∀ (b : Bool) (o4 o5 : Option Value), hk_c1 o4 → (b = true → ha_from (fun r => hp_fairAt n m w num (Rs j) r) (hw_pow w n - r) r = ha (fun r => hp_fairAt n m w num (Rs j) r) (hw_pow w n)) → (b = false → ha (fun r => hp_fairAt n m w num (Rs j) r) (hw_pow w n) = false) → hk_S G m_X10_fair (d + 4) 0 0 17 [some (.ref 43), some (.int (hI j)), some (.int (hI (hb b))), some (.int (hI (r : Int))), o4, o5] [] h (fun o h' => ∃ x, o = .inl (some (.int x)) ∧ K x h')) (hw_pow w n) (fun r hr ih b o4 o5 q4 A1 A2 => ?_) true none none hk_c10 (fun _ => rfl) (fun z => by cases z)
    refine b_X10_fair_17 B.o rfl (fun cc => ?_) (fun cc => ?_)
    · rw [hN_le (by omega) (by omega)] at cc
      refine fin b _ _ _ ?_
      cases b with
      | true =>
        have := A1 rfl
        rw [ha_end (by omega)] at this
        exact this.symm
      | false => exact A2 rfl
    · rw [hN_le (by omega) (by omega)] at cc
      have hrl : r < hw_pow w n := by omega
      cases b with
      | false => exact b_X10_fair_25 (fun _ => fin false _ _ _ (A2 rfl)) (fun z => absurd rfl z)
      | true =>
        have A1 := A1 rfl
        rw [ha_step hrl] at A1
        refine b_X10_fair_25 (fun z => absurd z (by decide)) (fun _ => ?_)
        refine b_X10_fair_29 ?_
        have out : ∀ (b : Bool) (o4 o5 : Option Value), hk_c1 o4 → hp_fairAt n m w num (Rs j) r = b → hk_S G m_X10_fair (d + 4) 0 0 108 [some (.ref 43), some (.int (hI j)), some (.int (hI (hb b))), some (.int (hI (r : Int))), o4, o5] [] h (fun o h' => ∃ x, o = .inl (some (.int x)) ∧ K x h') := by
          intro b o4 o5 q4 eb
          rw [eb] at A1
          refine b_X10_fair_108 ?_
          rw [hI_1]
          cases b with
          | true =>
            rw [Bool.true_and] at A1
            exact ih hrl true _ _ q4 (fun _ => A1) (fun z => by cases z)
          | false =>
            rw [Bool.false_and] at A1
            exact ih hrl false _ _ q4 (fun z => by cases z) (fun _ => A1.symm)
        refine hk_upto (P := fun i => ∀ (b : Bool) (o5 : Option Value), (b = true → ha_from (fun i => hr_end n m w num (Rs j) (hw_say w (hw_say w r i (hw_in w r (i + 1))) (i + 1) (hw_in w r i)) == hr_end n m w num (Rs j) r) (n - 1 - i) i = hp_fairAt n m w num (Rs j) r) → (b = false → hp_fairAt n m w num (Rs j) r = false) → hk_S G m_X10_fair (d + 4) 0 0 32 [some (.ref 43), some (.int (hI j)), some (.int (hI (hb b))), some (.int (hI (r : Int))), some (.int (hI (i : Int))), o5] [] h (fun o h' => ∃ x, o = .inl (some (.int x)) ∧ K x h')) (n - 1) (fun i hi ih2 b o5 C1 C2 => ?_) true o5 (fun _ => rfl) (fun z => by cases z)
        refine b_X10_fair_32 B.o rfl (fun c2 => ?_) (fun c2 => ?_)
        · rw [hI_1, hN_le (by omega) (by omega)] at c2
          refine out b _ _ hk_c1i ?_
          cases b with
          | true =>
            have := C1 rfl
            rw [ha_end (by omega)] at this
            exact this.symm
          | false => exact C2 rfl
        · rw [hI_1, hN_le (by omega) (by omega)] at c2
          have hin : i < n - 1 := by omega
          cases b with
          | false => exact b_X10_fair_43 (fun _ => out false _ _ hk_c1i (C2 rfl)) (fun z => absurd rfl z)
          | true =>
            have C1 := C1 rfl
            rw [ha_step hin] at C1
            have w1 := hw_in_lt hw r i
            have w2 := hw_in_lt hw r (i + 1)
            have l1 := B.say hj hrl (show i < n by omega) w2
            have l2 := B.say hj l1 (show i + 1 < n by omega) w1
            have e1 := hr_end_lt (num := num) hm.1 (B.ok hj) hrl
            have e2 := hr_end_lt (num := num) hm.1 (B.ok hj) l2
            refine b_X10_fair_43 (fun z => absurd z (by decide)) (fun _ => ?_)
            refine b_X10_fair_47 B.o ?_
            rw [hI_1]
            refine r_wishOf B hw (by omega) (by omega) ?_
            refine b_X10_fair_61 B.o (r_saying B hw (by omega) (by omega) ?_)
            refine b_X10_fair_64 B.o (r_wishOf B hw (by omega) (by omega) ?_)
            rw [hI_1]
            refine b_X10_fair_75 B.o (r_saying B hw (by omega) (by omega) ?_)
            refine b_X10_fair_78 B.o (r_ends B hj l2 ?_)
            refine b_X10_fair_87 B.o (r_ends B hj hrl ?_)
            refine b_X10_fair_93 (fun c3 => ?_) (fun c3 => ?_)
            · rw [hN_eq (by omega) (by omega)] at c3
              rw [show (hr_end n m w num (Rs j) (hw_say w (hw_say w r i (hw_in w r (i + 1))) (i + 1) (hw_in w r i)) == hr_end n m w num (Rs j) r) = false by rw [beq_eq_false_iff_ne]; exact c3, Bool.false_and] at C1
              refine b_X10_fair_100 ?_
              rw [hI_1]
              exact ih2 hin false _ (fun z => by cases z) (fun _ => C1.symm)
            · rw [hN_eq (by omega) (by omega)] at c3
              rw [show (hr_end n m w num (Rs j) (hw_say w (hw_say w r i (hw_in w r (i + 1))) (i + 1) (hw_in w r i)) == hr_end n m w num (Rs j) r) = true by rw [c3]; exact beq_self_eq_true _, Bool.true_and] at C1
              refine b_X10_fair_96 ?_
              rw [hI_1]
              exact ih2 hin true _ (fun _ => C1) (fun z => by cases z)
  · rw [hx_none c] at hk
    exact hk
end RE
