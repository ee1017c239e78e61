/-! The reference: put, pay, gift, middle. -/
section RI
variable {G : hk_G} {h h' : hk_H} {n m w rc th : Nat} {num : Nat → Int} {Rs : Nat → hr_R} {d : Nat}
theorem hB.put (B : hB h n m w rc num Rs th) {j r e : Nat} (hj : j < rc) (hr : r < hw_pow w n) (he : e < m) {f : Nat → Int32} (hf : h.2 47 = some (hc_i32 10368 f)) : hB (hk_set h 47 (hc_i32 10368 (upd f (1296 * j + r) (hI e)))) n m w rc num (hr_up Rs j (hr_setE (Rs j) r e)) th := by
  have hrow := B.rows
  obtain ⟨b1, b2, ⟨pf, b3, b3'⟩, ⟨⟨f1, r1, s1⟩, ⟨f2, r2, s2⟩, ⟨f3, r3, s3⟩, ⟨f4, r4, s4⟩, ⟨f5, r5, s5⟩, ⟨f6, r6, s6⟩⟩, b5, b6, b7, b8⟩ := id B
  have ef : f2 = f := by
    rw [r2] at hf; cases hf; rfl
  subst ef
  refine ⟨(hk_set_ne (by decide)).trans b1, (hk_set_ne (by decide)).trans b2, ⟨pf, (hk_set_ne (by decide)).trans b3, b3'⟩, ⟨⟨f1, (hk_set_ne (by decide)).trans r1, fun j' hj' => ?_⟩, ⟨_, hk_set_eq, fun j' r' hj' hr' => ?_⟩, ⟨f3, (hk_set_ne (by decide)).trans r3, fun j' r' i' hj' hr' hi' => ?_⟩, ⟨f4, (hk_set_ne (by decide)).trans r4, fun j' e' hj' he' => ?_⟩, ⟨f5, (hk_set_ne (by decide)).trans r5, fun j' i' hj' hi' => ?_⟩, ⟨f6, (hk_set_ne (by decide)).trans r6, fun j' i' hj' hi' => ?_⟩⟩, b5, b6, fun j' hj' => ?_, b8⟩
  · by_cases q : j' = j
    · rw [hr_up_eq q, q]; exact s1 j hj
    · rw [hr_up_ne q]; exact s1 j' hj'
  · unfold upd
    by_cases q : j' = j
    · rw [hr_up_eq q, q]
      show _ = hI ((if r' = r then e else (Rs j).2.1 r' : Nat) : Int)
      by_cases z : r' = r
      · rw [if_pos (by omega), if_pos z]
      · rw [if_neg (by omega), if_neg z]; exact s2 j r' hj hr'
    · rw [hr_up_ne q, if_neg (by omega)]; exact s2 j' r' hj' hr'
  · by_cases q : j' = j
    · rw [hr_up_eq q, q]; exact s3 j r' i' hj hr' hi'
    · rw [hr_up_ne q]; exact s3 j' r' i' hj' hr' hi'
  · by_cases q : j' = j
    · rw [hr_up_eq q, q]; exact s4 j e' hj he'
    · rw [hr_up_ne q]; exact s4 j' e' hj' he'
  · by_cases q : j' = j
    · rw [hr_up_eq q, q]; exact s5 j i' hj hi'
    · rw [hr_up_ne q]; exact s5 j' i' hj' hi'
  · by_cases q : j' = j
    · rw [hr_up_eq q, q]; exact s6 j i' hj hi'
    · rw [hr_up_ne q]; exact s6 j' i' hj' hi'
  · by_cases q : j' = j
    · rw [hr_up_eq q]
      obtain ⟨o1, o2, o3⟩ := b7 j hj
      refine ⟨o1, fun r' hr' => ?_, o3⟩
      show (if r' = r then e else (Rs j).2.1 r') < m
      split
      · exact he
      · exact o2 r' hr'
    · rw [hr_up_ne q]; exact b7 j' hj'
theorem hB.pay (B : hB h n m w rc num Rs th) {j r i : Nat} {v : Int} (hj : j < rc) (hr : r < hw_pow w n) (hi : i < n) (hv : -9999 ≤ v ∧ v ≤ 9999) {f : Nat → Int32} (hf : h.2 48 = some (hc_i32 41472 f)) : hB (hk_set h 48 (hc_i32 41472 (upd f (4 * (1296 * j + r) + i) (hI v)))) n m w rc num (hr_up Rs j (hr_setP (Rs j) r i v)) th := by
  have hrow := B.rows
  obtain ⟨b1, b2, ⟨pf, b3, b3'⟩, ⟨⟨f1, r1, s1⟩, ⟨f2, r2, s2⟩, ⟨f3, r3, s3⟩, ⟨f4, r4, s4⟩, ⟨f5, r5, s5⟩, ⟨f6, r6, s6⟩⟩, b5, b6, b7, b8⟩ := id B
  have hn := b5.1
  have ef : f3 = f := by
    rw [r3] at hf; cases hf; rfl
  subst ef
  refine ⟨(hk_set_ne (by decide)).trans b1, (hk_set_ne (by decide)).trans b2, ⟨pf, (hk_set_ne (by decide)).trans b3, b3'⟩, ⟨⟨f1, (hk_set_ne (by decide)).trans r1, fun j' hj' => ?_⟩, ⟨f2, (hk_set_ne (by decide)).trans r2, fun j' r' hj' hr' => ?_⟩, ⟨_, hk_set_eq, fun j' r' i' hj' hr' hi' => ?_⟩, ⟨f4, (hk_set_ne (by decide)).trans r4, fun j' e' hj' he' => ?_⟩, ⟨f5, (hk_set_ne (by decide)).trans r5, fun j' i' hj' hi' => ?_⟩, ⟨f6, (hk_set_ne (by decide)).trans r6, fun j' i' hj' hi' => ?_⟩⟩, b5, b6, fun j' hj' => ?_, b8⟩
  · by_cases q : j' = j
    · rw [hr_up_eq q, q]; exact s1 j hj
    · rw [hr_up_ne q]; exact s1 j' hj'
  · by_cases q : j' = j
    · rw [hr_up_eq q, q]; exact s2 j r' hj hr'
    · rw [hr_up_ne q]; exact s2 j' r' hj' hr'
  · unfold upd
    by_cases q : j' = j
    · rw [hr_up_eq q, q]
      show _ = hI (if r' = r ∧ i' = i then v else (Rs j).2.2.1 r' i')
      by_cases z : r' = r ∧ i' = i
      · rw [if_pos (by omega), if_pos z]
      · rw [if_neg (by omega), if_neg z]; exact s3 j r' i' hj hr' hi'
    · rw [hr_up_ne q, if_neg (by omega)]; exact s3 j' r' i' hj' hr' hi'
  · by_cases q : j' = j
    · rw [hr_up_eq q, q]; exact s4 j e' hj he'
    · rw [hr_up_ne q]; exact s4 j' e' hj' he'
  · by_cases q : j' = j
    · rw [hr_up_eq q, q]; exact s5 j i' hj hi'
    · rw [hr_up_ne q]; exact s5 j' i' hj' hi'
  · by_cases q : j' = j
    · rw [hr_up_eq q, q]; exact s6 j i' hj hi'
    · rw [hr_up_ne q]; exact s6 j' i' hj' hi'
  · by_cases q : j' = j
    · rw [hr_up_eq q]
      obtain ⟨o1, o2, o3, o4⟩ := b7 j hj
      refine ⟨o1, o2, fun r' i' hr' hi' => ?_, o4⟩
      show -9999 ≤ (if r' = r ∧ i' = i then v else (Rs j).2.2.1 r' i') ∧ (if r' = r ∧ i' = i then v else (Rs j).2.2.1 r' i') ≤ 9999
      split
      · exact hv
      · exact o3 r' i' hr' hi'
    · rw [hr_up_ne q]; exact b7 j' hj'
theorem hB.gift (B : hB h n m w rc num Rs th) {j e : Nat} {v : Int} (hj : j < rc) (he : e < m) (hv : -99 ≤ v ∧ v ≤ 99) {f : Nat → Int32} (hf : h.2 49 = some (hc_i32 40 f)) : hB (hk_set h 49 (hc_i32 40 (upd f (5 * j + e) (hI v)))) n m w rc num (hr_up Rs j (hr_setG (Rs j) e v)) th := by
  obtain ⟨b1, b2, ⟨pf, b3, b3'⟩, ⟨⟨f1, r1, s1⟩, ⟨f2, r2, s2⟩, ⟨f3, r3, s3⟩, ⟨f4, r4, s4⟩, ⟨f5, r5, s5⟩, ⟨f6, r6, s6⟩⟩, b5, b6, b7, b8⟩ := id B
  have hm := b5.2.1
  have ef : f4 = f := by
    rw [r4] at hf; cases hf; rfl
  subst ef
  refine ⟨(hk_set_ne (by decide)).trans b1, (hk_set_ne (by decide)).trans b2, ⟨pf, (hk_set_ne (by decide)).trans b3, b3'⟩, ⟨⟨f1, (hk_set_ne (by decide)).trans r1, fun j' hj' => ?_⟩, ⟨f2, (hk_set_ne (by decide)).trans r2, fun j' r' hj' hr' => ?_⟩, ⟨f3, (hk_set_ne (by decide)).trans r3, fun j' r' i' hj' hr' hi' => ?_⟩, ⟨_, hk_set_eq, fun j' e' hj' he' => ?_⟩, ⟨f5, (hk_set_ne (by decide)).trans r5, fun j' i' hj' hi' => ?_⟩, ⟨f6, (hk_set_ne (by decide)).trans r6, fun j' i' hj' hi' => ?_⟩⟩, b5, b6, fun j' hj' => ?_, b8⟩
  · by_cases q : j' = j
    · rw [hr_up_eq q, q]; exact s1 j hj
    · rw [hr_up_ne q]; exact s1 j' hj'
  · by_cases q : j' = j
    · rw [hr_up_eq q, q]; exact s2 j r' hj hr'
    · rw [hr_up_ne q]; exact s2 j' r' hj' hr'
  · by_cases q : j' = j
    · rw [hr_up_eq q, q]; exact s3 j r' i' hj hr' hi'
    · rw [hr_up_ne q]; exact s3 j' r' i' hj' hr' hi'
  · unfold upd
    by_cases q : j' = j
    · rw [hr_up_eq q, q]
      show _ = hI (if e' = e then v else (Rs j).2.2.2.1 e')
      by_cases z : e' = e
      · rw [if_pos (by omega), if_pos z]
      · rw [if_neg (by omega), if_neg z]; exact s4 j e' hj he'
    · rw [hr_up_ne q, if_neg (by omega)]; exact s4 j' e' hj' he'
  · by_cases q : j' = j
    · rw [hr_up_eq q, q]; exact s5 j i' hj hi'
    · rw [hr_up_ne q]; exact s5 j' i' hj' hi'
  · by_cases q : j' = j
    · rw [hr_up_eq q, q]; exact s6 j i' hj hi'
    · rw [hr_up_ne q]; exact s6 j' i' hj' hi'
  · by_cases q : j' = j
    · rw [hr_up_eq q]
      obtain ⟨o1, o2, o3, o4, o5⟩ := b7 j hj
      refine ⟨o1, o2, o3, fun e' he' => ?_, o5⟩
      show -99 ≤ (if e' = e then v else (Rs j).2.2.2.1 e') ∧ (if e' = e then v else (Rs j).2.2.2.1 e') ≤ 99
      split
      · exact hv
      · exact o4 e' he'
    · rw [hr_up_ne q]; exact b7 j' hj'
theorem hB.wei (B : hB h n m w rc num Rs th) {j i : Nat} {v : Int} (hj : j < rc) (hi : i < n) (hv : 0 ≤ v ∧ v ≤ 9) {f : Nat → Int32} (hf : h.2 50 = some (hc_i32 32 f)) : hB (hk_set h 50 (hc_i32 32 (upd f (4 * j + i) (hI v)))) n m w rc num (hr_up Rs j (hr_setW (Rs j) i v)) th := by
  obtain ⟨b1, b2, ⟨pf, b3, b3'⟩, ⟨⟨f1, r1, s1⟩, ⟨f2, r2, s2⟩, ⟨f3, r3, s3⟩, ⟨f4, r4, s4⟩, ⟨f5, r5, s5⟩, ⟨f6, r6, s6⟩⟩, b5, b6, b7, b8⟩ := id B
  have hn := b5.1
  have ef : f5 = f := by
    rw [r5] at hf; cases hf; rfl
  subst ef
  refine ⟨(hk_set_ne (by decide)).trans b1, (hk_set_ne (by decide)).trans b2, ⟨pf, (hk_set_ne (by decide)).trans b3, b3'⟩, ⟨⟨f1, (hk_set_ne (by decide)).trans r1, fun j' hj' => ?_⟩, ⟨f2, (hk_set_ne (by decide)).trans r2, fun j' r' hj' hr' => ?_⟩, ⟨f3, (hk_set_ne (by decide)).trans r3, fun j' r' i' hj' hr' hi' => ?_⟩, ⟨f4, (hk_set_ne (by decide)).trans r4, fun j' e' hj' he' => ?_⟩, ⟨_, hk_set_eq, fun j' i' hj' hi' => ?_⟩, ⟨f6, (hk_set_ne (by decide)).trans r6, fun j' i' hj' hi' => ?_⟩⟩, b5, b6, fun j' hj' => ?_, b8⟩
  · by_cases q : j' = j
    · rw [hr_up_eq q, q]; exact s1 j hj
    · rw [hr_up_ne q]; exact s1 j' hj'
  · by_cases q : j' = j
    · rw [hr_up_eq q, q]; exact s2 j r' hj hr'
    · rw [hr_up_ne q]; exact s2 j' r' hj' hr'
  · by_cases q : j' = j
    · rw [hr_up_eq q, q]; exact s3 j r' i' hj hr' hi'
    · rw [hr_up_ne q]; exact s3 j' r' i' hj' hr' hi'
  · by_cases q : j' = j
    · rw [hr_up_eq q, q]; exact s4 j e' hj he'
    · rw [hr_up_ne q]; exact s4 j' e' hj' he'
  · unfold upd
    by_cases q : j' = j
    · rw [hr_up_eq q, q]
      show _ = hI (if i' = i then v else (Rs j).2.2.2.2.1 i')
      by_cases z : i' = i
      · rw [if_pos (by omega), if_pos z]
      · rw [if_neg (by omega), if_neg z]; exact s5 j i' hj hi'
    · rw [hr_up_ne q, if_neg (by omega)]; exact s5 j' i' hj' hi'
  · by_cases q : j' = j
    · rw [hr_up_eq q, q]; exact s6 j i' hj hi'
    · rw [hr_up_ne q]; exact s6 j' i' hj' hi'
  · by_cases q : j' = j
    · rw [hr_up_eq q]
      obtain ⟨o1, o2, o3, o4, o5, o6⟩ := b7 j hj
      refine ⟨o1, o2, o3, o4, fun i' hi' => ?_, o6⟩
      show 0 ≤ (if i' = i then v else (Rs j).2.2.2.2.1 i') ∧ (if i' = i then v else (Rs j).2.2.2.2.1 i') ≤ 9
      split
      · exact hv
      · exact o5 i' hi'
    · rw [hr_up_ne q]; exact b7 j' hj'
theorem hB.mid (B : hB h n m w rc num Rs th) {j i e : Nat} (hj : j < rc) (hi : i < n - 1) (he : e < m) {f : Nat → Int32} (hf : h.2 51 = some (hc_i32 32 f)) : hB (hk_set h 51 (hc_i32 32 (upd f (4 * j + i) (hI (e : Nat))))) n m w rc num (hr_up Rs j (hr_setL (Rs j) i e)) th := by
  obtain ⟨b1, b2, ⟨pf, b3, b3'⟩, ⟨⟨f1, r1, s1⟩, ⟨f2, r2, s2⟩, ⟨f3, r3, s3⟩, ⟨f4, r4, s4⟩, ⟨f5, r5, s5⟩, ⟨f6, r6, s6⟩⟩, b5, b6, b7, b8⟩ := id B
  have hn := b5.1
  have ef : f6 = f := by
    rw [r6] at hf; cases hf; rfl
  subst ef
  refine ⟨(hk_set_ne (by decide)).trans b1, (hk_set_ne (by decide)).trans b2, ⟨pf, (hk_set_ne (by decide)).trans b3, b3'⟩, ⟨⟨f1, (hk_set_ne (by decide)).trans r1, fun j' hj' => ?_⟩, ⟨f2, (hk_set_ne (by decide)).trans r2, fun j' r' hj' hr' => ?_⟩, ⟨f3, (hk_set_ne (by decide)).trans r3, fun j' r' i' hj' hr' hi' => ?_⟩, ⟨f4, (hk_set_ne (by decide)).trans r4, fun j' e' hj' he' => ?_⟩, ⟨f5, (hk_set_ne (by decide)).trans r5, fun j' i' hj' hi' => ?_⟩, ⟨_, hk_set_eq, fun j' i' hj' hi' => ?_⟩⟩, b5, b6, fun j' hj' => ?_, b8⟩
  · by_cases q : j' = j
    · rw [hr_up_eq q, q]; exact s1 j hj
    · rw [hr_up_ne q]; exact s1 j' hj'
  · by_cases q : j' = j
    · rw [hr_up_eq q, q]; exact s2 j r' hj hr'
    · rw [hr_up_ne q]; exact s2 j' r' hj' hr'
  · by_cases q : j' = j
    · rw [hr_up_eq q, q]; exact s3 j r' i' hj hr' hi'
    · rw [hr_up_ne q]; exact s3 j' r' i' hj' hr' hi'
  · by_cases q : j' = j
    · rw [hr_up_eq q, q]; exact s4 j e' hj he'
    · rw [hr_up_ne q]; exact s4 j' e' hj' he'
  · by_cases q : j' = j
    · rw [hr_up_eq q, q]; exact s5 j i' hj hi'
    · rw [hr_up_ne q]; exact s5 j' i' hj' hi'
  · unfold upd
    by_cases q : j' = j
    · rw [hr_up_eq q, q]
      show _ = hI ((if i' = i then e else (Rs j).2.2.2.2.2 i' : Nat) : Int)
      by_cases z : i' = i
      · rw [if_pos (by omega), if_pos z]
      · rw [if_neg (by omega), if_neg z]; exact s6 j i' hj hi'
    · rw [hr_up_ne q, if_neg (by omega)]; exact s6 j' i' hj' hi'
  · by_cases q : j' = j
    · rw [hr_up_eq q]
      obtain ⟨o1, o2, o3, o4, o5, o6⟩ := b7 j hj
      refine ⟨o1, o2, o3, o4, o5, fun i' hi' => ?_⟩
      show (if i' = i then e else (Rs j).2.2.2.2.2 i') < m
      split
      · exact he
      · exact o6 i' hi'
    · rw [hr_up_ne q]; exact b7 j' hj'
theorem r_put (B : hB h n m w rc num Rs th) {x y z : Int32} {K : Int32 → hk_H → Prop} (hk : ∀ h', hB h' n m w rc num (hq_put n m w rc Rs x y z).2 th → hRf hRs43 h h' → K (hI (hq_put n m w rc Rs x y z).1) h') : hk_Ci G m_X10_put (d + 2) 0 0 [.ref 43, .int x, .int y, .int z] h K := by
  have hrc := B.rc8
  have hrow := B.rows
  obtain ⟨hn, hm, hw6, hnum⟩ := B.dim
  unfold hq_put at hk
  refine ⟨Nat.le_of_ble_eq_true rfl, ?_⟩
  refine b_X10_put_0 B.o (r_isRow B (fun j r hj hr hxj hyr => ?_) (fun c => ?_) (fun j hj hxj c => ?_))
  · rw [hxj, hyr, hx_some hj (by omega), hx_some hr (by omega)] at hk
    refine b_X10_put_6 (fun q => absurd q (by decide)) (fun _ => ?_)
    refine b_X10_put_9 B.o rfl (r_isIn (by omega) (fun e he hze => ?_) (fun c => b_X10_put_17 (fun q => absurd rfl q) (fun _ => b_X10_put_20 ⟨_, rfl, ?_⟩)))
    · rw [hze, hx_some he (by omega)] at hk
      simp only at hk
      obtain ⟨⟨kf, k1, k2⟩, ⟨ef, e1, e2⟩, -⟩ := B.2.2.2.1
      have hkd := (B.ok hj).1
      refine b_X10_put_17 (fun _ => ?_) (fun q => absurd q (by decide))
      rw [hxj, hyr, hze]
      refine b_X10_put_22 B.o rfl k1 j (hI_at rfl (by omega)) (by omega) (fun c => ?_) (fun c => ?_)
      · rw [k2 j hj, show (1 : Int32) = hI ((1 : Nat) : Int) from rfl, hN_le (by omega) (by omega)] at c
        rw [if_pos (by omega)] at hk
        refine b_X10_put_35 B.o rfl e1 (1296 * j + r) (hI_ji (q := 1296) (by omega)) (by omega) (by omega) rfl ⟨_, rfl, ?_⟩
        rw [e2 j r hj hr]
        exact hk _ (B.put hj hr he e1) (hRf.rf.set (by unfold hRs43; omega))
      · rw [k2 j hj, show (1 : Int32) = hI ((1 : Nat) : Int) from rfl, hN_le (by omega) (by omega)] at c
        rw [if_neg (by omega)] at hk
        exact b_X10_put_32 ⟨_, rfl, hk h B hRf.rf⟩
    · rw [hx_none c] at hk
      exact hk h B hRf.rf
  · rw [hx_none c] at hk
    exact b_X10_put_6 (fun _ => b_X10_put_20 ⟨_, rfl, hk h B hRf.rf⟩) (fun q => absurd rfl q)
  · rw [hxj, hx_some hj (by omega), hx_none c] at hk
    exact b_X10_put_6 (fun _ => b_X10_put_20 ⟨_, rfl, hk h B hRf.rf⟩) (fun q => absurd rfl q)
theorem r_pay (B : hB h n m w rc num Rs th) {x y z u : Int32} {K : Int32 → hk_H → Prop} (hk : ∀ h', hB h' n m w rc num (hq_pay n w rc Rs x y z u).2 th → hRf hRs43 h h' → K (hI (hq_pay n w rc Rs x y z u).1) h') : hk_Ci G m_X10_pay (d + 2) 0 0 [.ref 43, .int x, .int y, .int z, .int u] h K := by
  have hrc := B.rc8
  have hrow := B.rows
  obtain ⟨hn, hm, hw6, hnum⟩ := B.dim
  unfold hq_pay at hk
  refine ⟨Nat.le_of_ble_eq_true rfl, ?_⟩
  refine b_X10_pay_0 B.o (r_isRow B (fun j r hj hr hxj hyr => ?_) (fun c => ?_) (fun j hj hxj c => ?_))
  · rw [hxj, hyr, hx_some hj (by omega), hx_some hr (by omega)] at hk
    refine b_X10_pay_6 (fun q => absurd q (by decide)) (fun _ => ?_)
    refine b_X10_pay_9 B.o rfl (r_isIn (by omega) (fun i hi hzi => ?_) (fun c => b_X10_pay_17 (fun _ => b_X10_pay_36 ⟨_, rfl, ?_⟩) (fun q => absurd rfl q)))
    · rw [hzi, hx_some hi (by omega)] at hk
      simp only at hk
      obtain ⟨⟨kf, k1, k2⟩, -, ⟨pf, p1, p2⟩, -⟩ := B.2.2.2.1
      refine b_X10_pay_17 (fun q => absurd q (by decide)) (fun _ => ?_)
      rw [hxj, hyr, hzi]
      refine b_X10_pay_20 (fun c => ?_) (fun c => ?_)
      · rw [show (-9999 : Int32) = hI (-9999) from rfl, Int32.lt_iff_toInt_lt, hI_toInt (by omega)] at c
        rw [if_neg (by omega)] at hk
        exact b_X10_pay_36 ⟨_, rfl, hk h B hRf.rf⟩
      · rw [show (-9999 : Int32) = hI (-9999) from rfl, Int32.lt_iff_toInt_lt, hI_toInt (by omega)] at c
        refine b_X10_pay_28 (fun c2 => ?_) (fun c2 => ?_)
        · rw [show (9999 : Int32) = hI 9999 from rfl, Int32.le_iff_toInt_le, hI_toInt (by omega)] at c2
          rw [if_pos ⟨by omega, c2⟩] at hk
          refine b_X10_pay_38 B.o rfl k1 j (hI_at rfl (by omega)) (by omega) (fun c3 => ?_) (fun c3 => ?_)
          · have c3 := (r_kind B (k := 1) hj (by omega) k2).mp c3
            rw [if_pos c3] at hk
            have ob := (B.ok hj).2.2.1 r i hr hi
            obtain ⟨v, hv⟩ : ∃ v : Int, v = u.toInt := ⟨_, rfl⟩
            rw [← hv] at hk c c2
            have hk := hk _ (B.pay hj hr hi ⟨by omega, c2⟩ p1) (hRf.rf.set (by unfold hRs43; omega))
            rw [hI_of u, ← hv]
            refine b_X10_pay_51 B.o rfl p1 (4 * (1296 * j + r) + i) (hI_jk (by omega)) (by omega) (by omega) rfl (fun c4 => ?_) (fun c4 => ?_)
            · rw [p2 j r i hj hr hi, hI_eq (by omega) (by omega)] at c4
              rw [if_neg c4] at hk
              exact b_X10_pay_93 ⟨_, rfl, hk⟩
            · rw [p2 j r i hj hr hi, hI_eq (by omega) (by omega)] at c4
              rw [if_pos c4] at hk
              exact b_X10_pay_89 ⟨_, rfl, hk⟩
          · have c3 := mt (r_kind B (k := 1) hj (by omega) k2).mpr c3
            rw [if_neg c3] at hk
            exact b_X10_pay_48 ⟨_, rfl, hk h B hRf.rf⟩
        · rw [show (9999 : Int32) = hI 9999 from rfl, Int32.le_iff_toInt_le, hI_toInt (by omega)] at c2
          rw [if_neg (by omega)] at hk
          exact b_X10_pay_36 ⟨_, rfl, hk h B hRf.rf⟩
    · rw [hx_none c] at hk
      exact hk h B hRf.rf
  · rw [hx_none c] at hk
    exact b_X10_pay_6 (fun _ => b_X10_pay_36 ⟨_, rfl, hk h B hRf.rf⟩) (fun q => absurd rfl q)
  · rw [hxj, hx_some hj (by omega), hx_none c] at hk
    exact b_X10_pay_6 (fun _ => b_X10_pay_36 ⟨_, rfl, hk h B hRf.rf⟩) (fun q => absurd rfl q)
theorem r_middle (B : hB h n m w rc num Rs th) {x y z : Int32} {K : Int32 → hk_H → Prop} (hk : ∀ h', hB h' n m w rc num (hq_middle n m rc Rs x y z).2 th → hRf hRs43 h h' → K (hI (hq_middle n m rc Rs x y z).1) h') : hk_Ci G m_X10_middle (d + 2) 0 0 [.ref 43, .int x, .int y, .int z] h K := by
  have hrc := B.rc8
  obtain ⟨hn, hm, hw6, hnum⟩ := B.dim
  unfold hq_middle at hk
  refine ⟨Nat.le_of_ble_eq_true rfl, ?_⟩
  refine b_X10_middle_0 B.o rfl (r_isIn (by omega) (fun j hj hxj => ?_) (fun c => b_X10_middle_8 (fun _ => b_X10_middle_35 ⟨_, rfl, ?_⟩) (fun q => absurd rfl q)))
  · rw [hxj, hx_some hj (by omega)] at hk
    refine b_X10_middle_8 (fun q => absurd q (by decide)) (fun _ => ?_)
    refine b_X10_middle_11 B.o rfl ?_
    rw [show hI (n : Int) - 1 = hI ((n - 1 : Nat) : Int) by rw [show (1 : Int32) = hI 1 from rfl, hI_sub, show (n : Int) - 1 = ((n - 1 : Nat) : Int) by omega]]
    refine r_isIn (by omega) (fun i hi hyi => ?_) (fun c => b_X10_middle_21 (fun _ => b_X10_middle_35 ⟨_, rfl, ?_⟩) (fun q => absurd rfl q))
    · rw [hyi, hx_some hi (by omega)] at hk
      refine b_X10_middle_21 (fun q => absurd q (by decide)) (fun _ => ?_)
      refine b_X10_middle_24 B.o rfl (r_isIn (by omega) (fun e he hze => ?_) (fun c => b_X10_middle_32 (fun q => absurd rfl q) (fun _ => b_X10_middle_35 ⟨_, rfl, ?_⟩)))
      · rw [hze, hx_some he (by omega)] at hk
        simp only at hk
        obtain ⟨⟨kf, k1, k2⟩, -, -, -, -, ⟨lf, l1, l2⟩⟩ := B.2.2.2.1
        refine b_X10_middle_32 (fun _ => ?_) (fun q => absurd q (by decide))
        rw [hxj, hyi, hze]
        refine b_X10_middle_37 B.o rfl k1 j (hI_at rfl (by omega)) (by omega) (fun c3 => ?_) (fun c3 => ?_)
        · have c3 := (r_kind B (k := 3) hj (by omega) k2).mp c3
          rw [if_pos c3] at hk
          refine b_X10_middle_50 B.o rfl l1 (4 * j + i) (hI_ji (q := 4) (by omega)) (by omega) (by omega) rfl ⟨_, rfl, ?_⟩
          rw [l2 j i hj hi]
          exact hk _ (B.mid hj hi he l1) (hRf.rf.set (by unfold hRs43; omega))
        · have c3 := mt (r_kind B (k := 3) hj (by omega) k2).mpr c3
          rw [if_neg c3] at hk
          exact b_X10_middle_47 ⟨_, rfl, hk h B hRf.rf⟩
      · rw [hx_none c] at hk
        exact hk h B hRf.rf
    · rw [hx_none c] at hk
      exact hk h B hRf.rf
  · rw [hx_none c] at hk
    exact hk h B hRf.rf
end RI
