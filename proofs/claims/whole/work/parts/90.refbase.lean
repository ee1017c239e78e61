/-! The reference (object 43, its rows 44 to 69): how it holds the list and the rules, and what it reads of them. -/
def hBo (h : hk_H) (n m w rc th : Nat) : Prop := h.2 43 = some (.inr (10, [.int (hI n), .int (hI m), .int (hI w), .int (hI rc), .int (hI (hw_pow w n : Nat)), .ref 44, .ref 45, .ref 46, .ref 47, .ref 48, .ref 49, .ref 50, .ref 51, .int (hI th), .ref 52, .ref 53, .ref 54, .ref 55, .ref 56, .ref 57, .ref 58, .ref 59, .ref 60, .ref 61, .ref 62, .ref 63, .ref 64, .ref 65, .ref 66, .ref 67, .ref 68, .ref 69]))
def hBr (h : hk_H) (n m w rc : Nat) (Rs : Nat → hr_R) : Prop :=
  (∃ f, h.2 46 = some (hc_i32 8 f) ∧ ∀ j, j < rc → f j = hI ((Rs j).1 : Nat)) ∧
  (∃ f, h.2 47 = some (hc_i32 10368 f) ∧ ∀ j r, j < rc → r < hw_pow w n → f (1296 * j + r) = hI ((Rs j).2.1 r : Nat)) ∧
  (∃ f, h.2 48 = some (hc_i32 41472 f) ∧ ∀ j r i, j < rc → r < hw_pow w n → i < n → f (4 * (1296 * j + r) + i) = hI ((Rs j).2.2.1 r i)) ∧
  (∃ f, h.2 49 = some (hc_i32 40 f) ∧ ∀ j e, j < rc → e < m → f (5 * j + e) = hI ((Rs j).2.2.2.1 e)) ∧
  (∃ f, h.2 50 = some (hc_i32 32 f) ∧ ∀ j i, j < rc → i < n → f (4 * j + i) = hI ((Rs j).2.2.2.2.1 i)) ∧
  (∃ f, h.2 51 = some (hc_i32 32 f) ∧ ∀ j i, j < rc → i < n - 1 → f (4 * j + i) = hI ((Rs j).2.2.2.2.2 i : Nat))
def hB (h : hk_H) (n m w rc : Nat) (num : Nat → Int) (Rs : Nat → hr_R) (th : Nat) : Prop :=
  hBo h n m w rc th ∧ h.2 44 = some (hc_i32 30 (fun k => hI (num k))) ∧ (∃ pf, h.2 45 = some (hc_i32 5 pf) ∧ (1 ≤ w → ∀ i, i ≤ n → pf i = hI ((w ^ i : Nat) : Int))) ∧ hBr h n m w rc Rs ∧ hw_dim n m w num ∧ (0 < rc → 1 ≤ w) ∧ (∀ j, j < rc → hr_ok n m w (Rs j)) ∧ rc ≤ 8
theorem hI_ji {e i : Nat} {q : Nat} (h : q * e + i < 2147483648) : (hI (q : Int) * hI (e : Int) + hI (i : Int)).toInt = ((q * e + i : Nat) : Int) := by
  rw [hI_mul, hI_add]
  exact hI_at (by push_cast; rfl) h
theorem hI_jk {a b c : Nat} (h : 4 * (1296 * a + b) + c < 2147483648) : (4 * (1296 * hI (a : Int) + hI (b : Int)) + hI (c : Int)).toInt = ((4 * (1296 * a + b) + c : Nat) : Int) := by
  rw [show (4 : Int32) = hI ((4 : Nat) : Int) from rfl, show (1296 : Int32) = hI ((1296 : Nat) : Int) from rfl, hI_mul, hI_add, hI_mul, hI_add]
  exact hI_at (by omega) h
theorem hI_0 (a : Int) : hI a + 0 = hI a := by rw [show (0 : Int32) = hI 0 from rfl, hI_add, Int.add_zero]
section RB
variable {G : hk_G} {h h' : hk_H} {n m w rc th : Nat} {num : Nat → Int} {Rs : Nat → hr_R} {d : Nat}
theorem hB.o (B : hB h n m w rc num Rs th) : hBo h n m w rc th := B.1
theorem hB.dim (B : hB h n m w rc num Rs th) : hw_dim n m w num := B.2.2.2.2.1
theorem hB.rows (B : hB h n m w rc num Rs th) : hw_pow w n ≤ 1296 := hw_pow_lt B.dim.2.2.1 B.dim.1.2
theorem hB.w0 (B : hB h n m w rc num Rs th) {j : Nat} (hj : j < rc) : 1 ≤ w := B.2.2.2.2.2.1 (by omega)
theorem hB.ok (B : hB h n m w rc num Rs th) {j : Nat} (hj : j < rc) : hr_ok n m w (Rs j) := B.2.2.2.2.2.2.1 j hj
theorem hB.rc8 (B : hB h n m w rc num Rs th) : rc ≤ 8 := B.2.2.2.2.2.2.2
theorem hB.fr (B : hB h n m w rc num Rs th) (e : ∀ a, 43 ≤ a → a ≤ 51 → h'.2 a = h.2 a) : hB h' n m w rc num Rs th := by
  obtain ⟨b1, b2, ⟨pf, b3, b3'⟩, ⟨⟨f1, r1, s1⟩, ⟨f2, r2, s2⟩, ⟨f3, r3, s3⟩, ⟨f4, r4, s4⟩, ⟨f5, r5, s5⟩, ⟨f6, r6, s6⟩⟩, b5⟩ := B
  exact ⟨(e 43 (by omega) (by omega)).trans b1, (e 44 (by omega) (by omega)).trans b2, ⟨pf, (e 45 (by omega) (by omega)).trans b3, b3'⟩, ⟨⟨f1, (e 46 (by omega) (by omega)).trans r1, s1⟩, ⟨f2, (e 47 (by omega) (by omega)).trans r2, s2⟩, ⟨f3, (e 48 (by omega) (by omega)).trans r3, s3⟩, ⟨f4, (e 49 (by omega) (by omega)).trans r4, s4⟩, ⟨f5, (e 50 (by omega) (by omega)).trans r5, s5⟩, ⟨f6, (e 51 (by omega) (by omega)).trans r6, s6⟩⟩, b5⟩
/-- what it says of throws -/
theorem hB.thr (B : hB h n m w rc num Rs th) (t : Nat) : hB (hk_set h 43 (.inr (10, [.int (hI n), .int (hI m), .int (hI w), .int (hI rc), .int (hI (hw_pow w n : Nat)), .ref 44, .ref 45, .ref 46, .ref 47, .ref 48, .ref 49, .ref 50, .ref 51, .int (hI t), .ref 52, .ref 53, .ref 54, .ref 55, .ref 56, .ref 57, .ref 58, .ref 59, .ref 60, .ref 61, .ref 62, .ref 63, .ref 64, .ref 65, .ref 66, .ref 67, .ref 68, .ref 69]))) n m w rc num Rs t := by
  obtain ⟨b1, b2, ⟨pf, b3, b3'⟩, ⟨⟨f1, r1, s1⟩, ⟨f2, r2, s2⟩, ⟨f3, r3, s3⟩, ⟨f4, r4, s4⟩, ⟨f5, r5, s5⟩, ⟨f6, r6, s6⟩⟩, b5⟩ := B
  have e : ∀ a, a ≠ 43 → ∀ c, (hk_set h 43 c).2 a = h.2 a := fun a ha c => hk_set_ne ha
  exact ⟨hk_set_eq, (e 44 (by decide) _).trans b2, ⟨pf, (e 45 (by decide) _).trans b3, b3'⟩, ⟨⟨f1, (e 46 (by decide) _).trans r1, s1⟩, ⟨f2, (e 47 (by decide) _).trans r2, s2⟩, ⟨f3, (e 48 (by decide) _).trans r3, s3⟩, ⟨f4, (e 49 (by decide) _).trans r4, s4⟩, ⟨f5, (e 50 (by decide) _).trans r5, s5⟩, ⟨f6, (e 51 (by decide) _).trans r6, s6⟩⟩, b5⟩
theorem r_isIn {x : Int32} {k : Nat} (hk31 : k < 2147483648) {K : Int32 → hk_H → Prop} (hk1 : ∀ i : Nat, i < k → x = hI (i : Int) → K 1 h) (hk0 : ¬ hIn x k → K 0 h) : hk_Ci G m_X10_isIn d 0 0 [.int x, .int (hI k)] h K := by
  refine ⟨Nat.le_of_ble_eq_true rfl, ?_⟩
  refine b_X10_isIn_0 (fun c => b_X10_isIn_13 ⟨_, rfl, hk0 (hIn_not0 c)⟩) (fun c => ?_)
  refine b_X10_isIn_4 (fun c2 => b_X10_isIn_13 ⟨_, rfl, hk0 (hIn_notn c2 hk31)⟩) (fun c2 => ?_)
  obtain ⟨i, hi, hx⟩ := hI_nat c c2 hk31
  exact b_X10_isIn_9 ⟨_, rfl, hk1 i hi hx⟩
theorem r_isRow (B : hB h n m w rc num Rs th) {x y : Int32} {K : Int32 → hk_H → Prop} (hk1 : ∀ j r : Nat, j < rc → r < hw_pow w n → x = hI (j : Int) → y = hI (r : Int) → K 1 h) (hk0 : ¬ hIn x rc → K 0 h) (hk2 : ∀ j : Nat, j < rc → x = hI (j : Int) → ¬ hIn y (hw_pow w n) → K 0 h) : hk_Ci G m_X10_isRow (d + 1) 0 0 [.ref 43, .int x, .int y] h K := by
  have hrc := B.rc8
  have hrow := B.rows
  refine ⟨Nat.le_of_ble_eq_true rfl, ?_⟩
  refine b_X10_isRow_0 B.o rfl (r_isIn (by omega) (fun j hj hxj => ?_) (fun c => b_X10_isRow_8 (fun _ => b_X10_isRow_26 ⟨_, rfl, hk0 c⟩) (fun z => absurd rfl z)))
  refine b_X10_isRow_8 (fun z => absurd z (by decide)) (fun _ => ?_)
  refine b_X10_isRow_11 B.o rfl (r_isIn (by omega) (fun r hr hyr => ?_) (fun c => b_X10_isRow_19 (fun _ => b_X10_isRow_26 ⟨_, rfl, hk2 j hj hxj c⟩) (fun z => absurd rfl z)))
  exact b_X10_isRow_19 (fun z => absurd z (by decide)) (fun _ => b_X10_isRow_22 ⟨_, rfl, hk1 j r hj hr hxj hyr⟩)
theorem r_raises (B : hB h n m w rc num Rs th) {t : Nat} {K : Int32 → hk_H → Prop} (hk : ∀ h', hB h' n m w rc num Rs t → h'.1 = h.1 → (∀ a, a ≠ 43 → h'.2 a = h.2 a) → K 0 h') : hk_Ci G m_X10_raises d 0 0 [.ref 43, .int (hI t)] h K := by
  refine ⟨Nat.le_of_ble_eq_true rfl, ?_⟩
  exact b_X10_raises_0 B.o (by omega) rfl ⟨_, rfl, hk _ (B.thr t) rfl fun a ha => hk_set_ne ha⟩
theorem r_wishOf (B : hB h n m w rc num Rs th) (hw : 1 ≤ w) {r i : Nat} (hr : r < 1296) (hi : i < n) {K : Int32 → hk_H → Prop} (hk : K (hI (hw_in w r i : Nat)) h) : hk_Ci G m_X10_wishOf d 0 0 [.ref 43, .int (hI r), .int (hI i)] h K := by
  obtain ⟨hn, hm, hw6, hnum⟩ := B.dim
  obtain ⟨pf, p1, p2⟩ := B.2.2.1
  have hpl : w ^ i ≤ 1296 := by rw [← hw_pow_1 hw]; exact hw_pow_lt hw6 (by omega)
  have hp0 : 0 < w ^ i := Nat.pow_pos (by omega)
  have e1 := p2 hw i (by omega)
  have hq : r / w ^ i ≤ r := Nat.div_le_self _ _
  refine ⟨Nat.le_of_ble_eq_true rfl, ?_⟩
  refine b_X10_wishOf_0 B.o rfl p1 i (hI_at rfl (by omega)) (by omega) ?_ rfl ?_ ⟨_, rfl, ?_⟩
  · rw [e1, show (0 : Int32) = hI 0 from rfl, hI_eq (by omega) (by omega)]
    omega
  · rw [show (0 : Int32) = hI 0 from rfl, hI_eq (by omega) (by omega)]
    omega
  · have e2 : hI (r : Int) / pf i = hI ((r / w ^ i : Nat) : Int) := by
      rw [e1, hI_divN (by omega) hp0 (by omega)]
    rw [e2, hI_modN (by omega) (by omega) (by omega)]
    exact hk
theorem r_saying (B : hB h n m w rc num Rs th) (hw : 1 ≤ w) {r i v : Nat} (hr : r < 1296) (hi : i < n) {K : Int32 → hk_H → Prop} (hk : K (hI (hw_say w r i v : Nat)) h) : hk_Ci G m_X10_saying (d + 1) 0 0 [.ref 43, .int (hI r), .int (hI i), .int (hI v)] h K := by
  obtain ⟨hn, hm, hw6, hnum⟩ := B.dim
  obtain ⟨pf, p1, p2⟩ := B.2.2.1
  refine ⟨Nat.le_of_ble_eq_true rfl, ?_⟩
  refine b_X10_saying_0 B.o (r_wishOf B hw hr hi ?_)
  refine b_X10_saying_8 B.o rfl p1 i (hI_at rfl (by omega)) (by omega) ⟨_, rfl, ?_⟩
  rw [p2 hw i (by omega), hI_sub, hI_mul, hI_add]
  have := hw_in_le w r i
  have e : (r : Int) + ((v : Int) - (hw_in w r i : Int)) * ((w ^ i : Nat) : Int) = ((hw_say w r i v : Nat) : Int) := by
    unfold hw_say
    rw [Int.sub_mul]
    have e1 : (v : Int) * ((w ^ i : Nat) : Int) = ((v * w ^ i : Nat) : Int) := by push_cast; rfl
    have e2 : (hw_in w r i : Int) * ((w ^ i : Nat) : Int) = ((hw_in w r i * w ^ i : Nat) : Int) := by push_cast; rfl
    rw [e1, e2]
    omega
  rw [e]
  exact hk
theorem r_sumOf (B : hB h n m w rc num Rs th) {j r e wo : Nat} (hj : j < rc) (hr : r < 1296) (he : e < m) {x : Int32} (hx : ∀ i, i < n → (hI (i : Int) = x ↔ i = wo)) {K : Int32 → hk_H → Prop} (hk : K (hI (hr_sum n w num (Rs j) r e wo)) h) : hk_Ci G m_X10_sumOf (d + 1) 0 0 [.ref 43, .int (hI j), .int (hI r), .int (hI e), .int x] h K := by
  obtain ⟨hn, hm, hw6, hnum⟩ := B.dim
  have hw := B.w0 hj
  have hrc := B.rc8
  obtain ⟨-, -, -, ⟨gf, g1, g2⟩, ⟨wf, w1, w2⟩, -⟩ := B.2.2.2.1
  refine ⟨Nat.le_of_ble_eq_true rfl, ?_⟩
  refine b_X10_sumOf_0 B.o rfl g1 (5 * j + e) (hI_ji (q := 5) (by omega)) (by omega) ?_
  rw [g2 j e hj he]
  unfold hr_sum at hk
  refine hk_upto (P := fun i => hk_S G m_X10_sumOf (d + 1) 0 0 15 [some (.ref 43), some (.int (hI j)), some (.int (hI r)), some (.int (hI e)), some (.int x), some (.int (hI ((Rs j).2.2.2.1 e + hr_to (fun i => if i = wo then 0 else (Rs j).2.2.2.2.1 i * num (hw_in w r i * 5 + e)) i))), some (.int (hI (i : Int)))] [] h (fun o h' => ∃ x, o = .inl (some (.int x)) ∧ K x h')) n (fun i hi ih => ?_) |> (fun z => by rw [show (Rs j).2.2.2.1 e + hr_to (fun i => if i = wo then 0 else (Rs j).2.2.2.2.1 i * num (hw_in w r i * 5 + e)) 0 = (Rs j).2.2.2.1 e from Int.add_zero _] at z; exact z)
  refine b_X10_sumOf_15 B.o rfl (fun cc => ?_) (fun cc => ?_)
  · rw [hN_le (by omega) (by omega)] at cc
    have q : i = n := by omega
    subst q
    exact b_X10_sumOf_74 ⟨_, rfl, hk⟩
  · rw [hN_le (by omega) (by omega)] at cc
    have hin : i < n := by omega
    have hwi := hw_in_lt hw r i
    have ih := ih hin
    unfold hr_to at ih
    refine b_X10_sumOf_24 (fun c2 => ?_) (fun c2 => ?_)
    · have c2 := mt (hx i hin).mpr c2
      simp only [if_neg c2] at ih
      refine b_X10_sumOf_37 B.o rfl w1 (4 * j + i) (hI_ji (q := 4) (by omega)) (by omega) rfl (r_wishOf B hw hr hin ?_)
      rw [w2 j i hj hin]
      refine b_X10_sumOf_60 B.2.1 (5 * hw_in w r i + e) (hI_ji (q := 5) (by omega)) (by omega) ?_
      rw [hI_1, show 5 * hw_in w r i + e = hw_in w r i * 5 + e by omega, hI_mul, hI_add, Int.add_assoc]
      exact ih
    · have c2 := (hx i hin).mp c2
      simp only [if_pos c2] at ih
      refine b_X10_sumOf_33 ?_
      rw [hI_1, hI_0]
      rw [Int.add_zero] at ih
      exact ih
theorem hw_best_s {f : Nat → Int} {k : Nat} : hw_best f (k + 1) = if f (hw_best f k) < f (k + 1) then k + 1 else hw_best f k := rfl
theorem r_greatest (B : hB h n m w rc num Rs th) {j r wo : Nat} (hj : j < rc) (hr : r < 1296) {x : Int32} (hx : ∀ i, i < n → (hI (i : Int) = x ↔ i = wo)) {K : Int32 → hk_H → Prop} (hk : K (hI (hr_great n m w num (Rs j) r wo : Nat)) h) : hk_Ci G m_X10_greatest (d + 2) 0 0 [.ref 43, .int (hI j), .int (hI r), .int x] h K := by
  obtain ⟨hn, hm, hw6, hnum⟩ := B.dim
  have hw := B.w0 hj
  unfold hr_great at hk
  refine ⟨Nat.le_of_ble_eq_true rfl, ?_⟩
  refine b_X10_greatest_0 ?_
  refine hk_upto (P := fun e => hk_S G m_X10_greatest (d + 2) 0 0 6 [some (.ref 43), some (.int (hI j)), some (.int (hI r)), some (.int x), some (.int (hI (hw_best (fun e => hr_sum n w num (Rs j) r e wo) e : Nat))), some (.int (hI ((e + 1 : Nat) : Int)))] [] h (fun o h' => ∃ x, o = .inl (some (.int x)) ∧ K x h')) (m - 1) (fun e he ih => ?_)
  have hbe := hw_best_le (fun e => hr_sum n w num (Rs j) r e wo) e
  refine b_X10_greatest_6 B.o rfl (fun cc => ?_) (fun cc => ?_)
  · rw [hN_le (by omega) (by omega)] at cc
    have q : e = m - 1 := by omega
    subst q
    exact b_X10_greatest_46 ⟨_, rfl, hk⟩
  · rw [hN_le (by omega) (by omega)] at cc
    have ih := ih (by omega)
    rw [hw_best_s] at ih
    have b1 := hr_sum_bound (r := r) (e := e + 1) (wo := wo) B.dim (B.ok hj) hw (by omega)
    have b2 := hr_sum_bound (r := r) (e := hw_best (fun e => hr_sum n w num (Rs j) r e wo) e) (wo := wo) B.dim (B.ok hj) hw (by omega)
    refine b_X10_greatest_15 B.o (r_sumOf B hj hr (by omega) hx ?_)
    refine b_X10_greatest_24 B.o (r_sumOf B hj hr (by omega) hx ?_)
    refine b_X10_greatest_33 (fun c2 => ?_) (fun c2 => ?_)
    · rw [hI_le (by omega) (by omega)] at c2
      rw [if_neg (by omega)] at ih
      refine b_X10_greatest_40 ?_
      rw [hI_1]
      exact ih
    · rw [hI_le (by omega) (by omega)] at c2
      rw [if_pos (by omega)] at ih
      refine b_X10_greatest_36 ?_
      rw [hI_1]
      exact ih
theorem r_top (B : hB h n m w rc num Rs th) {a : Nat} (ha : a < 6) {K : Int32 → hk_H → Prop} (hk : K (hI (hw_top num m a : Nat)) h) : hk_Ci G m_X10_top d 0 0 [.ref 43, .int (hI a)] h K := by
  obtain ⟨hn, hm, hw6, hnum⟩ := B.dim
  unfold hw_top at hk
  refine ⟨Nat.le_of_ble_eq_true rfl, ?_⟩
  refine b_X10_top_0 ?_
  refine hk_upto (P := fun e => hk_S G m_X10_top d 0 0 4 [some (.ref 43), some (.int (hI a)), some (.int (hI (hw_best (fun e => num (a * 5 + e)) e : Nat))), some (.int (hI ((e + 1 : Nat) : Int)))] [] h (fun o h' => ∃ x, o = .inl (some (.int x)) ∧ K x h')) (m - 1) (fun e he ih => ?_)
  have hbe := hw_best_le (fun e => num (a * 5 + e)) e
  refine b_X10_top_4 B.o rfl (fun cc => ?_) (fun cc => ?_)
  · rw [hN_le (by omega) (by omega)] at cc
    have q : e = m - 1 := by omega
    subst q
    exact b_X10_top_43 ⟨_, rfl, hk⟩
  · rw [hN_le (by omega) (by omega)] at cc
    have ih := ih (by omega)
    rw [hw_best_s] at ih
    have b1 := hnum (a * 5 + (e + 1)) (by omega)
    have b2 := hnum (a * 5 + hw_best (fun e => num (a * 5 + e)) e) (by omega)
    refine b_X10_top_12 B.o rfl B.2.1 (5 * a + (e + 1)) (hI_ji (q := 5) (by omega)) (by omega) (5 * a + hw_best (fun e => num (a * 5 + e)) e) (hI_ji (q := 5) (by omega)) (by omega) (fun c2 => ?_) (fun c2 => ?_)
    · rw [show 5 * a + (e + 1) = a * 5 + (e + 1) by omega, show 5 * a + hw_best (fun e => num (a * 5 + e)) e = a * 5 + hw_best (fun e => num (a * 5 + e)) e by omega, hI_le (by omega) (by omega)] at c2
      rw [if_neg (by omega)] at ih
      refine b_X10_top_37 ?_
      rw [hI_1]
      exact ih
    · rw [show 5 * a + (e + 1) = a * 5 + (e + 1) by omega, show 5 * a + hw_best (fun e => num (a * 5 + e)) e = a * 5 + hw_best (fun e => num (a * 5 + e)) e by omega, hI_le (by omega) (by omega)] at c2
      rw [if_pos (by omega)] at ih
      refine b_X10_top_35 ?_
      rw [hI_1]
      exact ih
end RB
