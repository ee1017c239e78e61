theorem hw_best_max (f : Nat → Int) (k : Nat) : f (hw_best f (k + 1)) = max (f (hw_best f k)) (f (k + 1)) := by
  show f (if f (hw_best f k) < f (k + 1) then k + 1 else hw_best f k) = _
  split <;> omega
theorem hw_best_congr {f g : Nat → Int} {k : Nat} (h : ∀ i, i ≤ k → f i = g i) : hw_best f k = hw_best g k := by
  induction k with
  | zero => rfl
  | succ k ih =>
    have e := ih (fun i hi => h i (by omega))
    show (if f (hw_best f k) < f (k + 1) then k + 1 else hw_best f k) = (if g (hw_best g k) < g (k + 1) then k + 1 else hw_best g k)
    have hb := hw_best_le g k
    rw [e, h _ (by omega), h (k + 1) (by omega)]
theorem hr_to_bound {f : Nat → Int} {B : Int} {k : Nat} (h : ∀ i, i < k → -B ≤ f i ∧ f i ≤ B) : -((k : Int) * B) ≤ hr_to f k ∧ hr_to f k ≤ (k : Int) * B := by
  induction k with
  | zero => simp [hr_to]
  | succ k ih =>
    have h1 := ih (fun i hi => h i (by omega))
    have h2 := h k (by omega)
    unfold hr_to
    have e : ((k + 1 : Nat) : Int) * B = (k : Int) * B + B := by push_cast; rw [Int.add_mul]; omega
    rw [e]
    omega
/-- a weight times a number -/
theorem hr_wn {a b : Int} (ha : 0 ≤ a ∧ a ≤ 9) (hb : -99 ≤ b ∧ b ≤ 99) : -891 ≤ a * b ∧ a * b ≤ 891 := by
  rcases (show a = 0 ∨ a = 1 ∨ a = 2 ∨ a = 3 ∨ a = 4 ∨ a = 5 ∨ a = 6 ∨ a = 7 ∨ a = 8 ∨ a = 9 by omega) with rfl | rfl | rfl | rfl | rfl | rfl | rfl | rfl | rfl | rfl <;> omega
theorem hr_sum_bound {n m w : Nat} {num : Nat → Int} {R : hr_R} (hd : hw_dim n m w num) (hok : hr_ok n m w R) (hw : 1 ≤ w) {r e wo : Nat} (he : e < 5) : -3663 ≤ hr_sum n w num R r e wo ∧ hr_sum n w num R r e wo ≤ 3663 := by
  obtain ⟨hn, hm, hw6, hnum⟩ := hd
  obtain ⟨-, -, -, hg, hwt, -⟩ := hok
  unfold hr_sum
  have h1 := hg e he
  have h2 := hr_to_bound (B := 891) (k := n) (f := fun i => if i = wo then 0 else R.2.2.2.2.1 i * num (hw_in w r i * 5 + e)) (fun i hi => by
    try dsimp only
    split
    · omega
    · have := hw_in_lt hw r i
      exact hr_wn (hwt i (by omega)) (hnum _ (by omega)))
  omega
/-- leaving one out -/
theorem hr_sum_less {n w : Nat} {num : Nat → Int} {R : hr_R} {r e i : Nat} (hi : i < n) : hr_sum n w num R r e n - R.2.2.2.2.1 i * num (hw_in w r i * 5 + e) = hr_sum n w num R r e i := by
  have key : ∀ (f : Nat → Int) (k : Nat), hr_to f k = hr_to (fun j => if j = i then 0 else f j) k + (if i < k then f i else 0) := by
    intro f k
    induction k with
    | zero => simp [hr_to]
    | succ k ih =>
      unfold hr_to
      rw [ih]
      by_cases e1 : k = i
      · subst e1
        simp
      · by_cases e2 : i < k
        · simp [e1, e2, show i < k + 1 by omega]; omega
        · simp [e1, e2, show ¬ i < k + 1 by omega]
  have h1 := key (fun j => R.2.2.2.2.1 j * num (hw_in w r j * 5 + e)) n
  rw [if_pos hi] at h1
  rw [← hr_part_all]
  unfold hr_part hr_sum
  rw [h1]
  omega
section SO
variable {G : hk_G} {h : hk_H} {n m w : Nat} {num : Nat → Int} {pw : Nat → Int32} {d q k : Nat} {R : hr_R} {ef pf : Nat → Int32}
/-- what one pays by the sums S of all: weight v, wish a, the end b -/
def hr_own (num : Nat → Int) (S : Nat → Int) (m a b : Nat) (v : Int) : Int := if v = 0 then 0 else ((S (hw_best (fun e => S e - v * num (a * 5 + e)) (m - 1)) - v * num (a * 5 + hw_best (fun e => S e - v * num (a * 5 + e)) (m - 1))) - (S b - v * num (a * 5 + b))).tdiv v
set_option maxHeartbeats 1000000 in
theorem s_ownPayment (HW : hW h n m w num pw) (ho : h.2 q = some (.inr (7, hr_fs 2 q k))) {sf : Nat → Int32} {S : Nat → Int} (hsf : h.2 (q + 5) = some (hc_i32 5 sf)) (hS : ∀ e, e < m → sf e = hI (S e)) (hSb : ∀ e, e < m → -3663 ≤ S e ∧ S e ≤ 3663) {a b : Nat} {v : Int} (ha : a < 6) (hb : b < m) (hv : 0 ≤ v ∧ v ≤ 9) {K : Int32 → hk_H → Prop} (hk : K (hI (hr_own num S m a b v)) h) : hk_Ci G m_X7_ownPayment (d + 1) 0 0 [.ref q, .int (hI a), .int (hI v), .int (hI b)] h K := by
  obtain ⟨w1, w2, w3, w4, w5, w6, w7, w8⟩ := id HW
  refine ⟨Nat.le_of_ble_eq_true rfl, ?_⟩
  refine b_X7_ownPayment_0 (fun c => ?_) (fun c => ?_)
  · rw [show (1 : Int32) = hI 1 from rfl, hI_le ⟨by omega, by omega⟩ ⟨by omega, by omega⟩] at c
    refine b_X7_ownPayment_7 ?_
    have hT : ∀ e, e < m → -4554 ≤ S e - v * num (a * 5 + e) ∧ S e - v * num (a * 5 + e) ≤ 4554 := fun e he => by
      have h1 := hSb e he
      have h2 := hr_wn hv (w8 (a * 5 + e) (by omega))
      omega
    have loop : ∀ (c e : Nat) (g : Int), m - e = c → e ≤ m → (g = if e = 0 then -1000000 else S (hw_best (fun e => S e - v * num (a * 5 + e)) (e - 1)) - v * num (a * 5 + hw_best (fun e => S e - v * num (a * 5 + e)) (e - 1))) → hk_S G m_X7_ownPayment (d + 1) 0 0 14 [some (.ref q), some (.int (hI (a : Int))), some (.int (hI v)), some (.int (hI (b : Int))), some (.int (hI g)), some (.int (hI (e : Int)))] [] h (fun o h' => ∃ x, o = .inl (some (.int x)) ∧ K x h') := by
      intro c
      induction c with
      | zero =>
        intro e g hc0 he hg
        have hem : e = m := by omega
        subst hem
        refine b_X7_ownPayment_14 ho rfl w1 rfl (fun _ => ?_) (fun c => ?_)
        · refine b_X7_ownPayment_59 ho rfl hsf b (hI_at rfl (by omega)) (by omega) rfl w1 (s_number HW ha (by omega) ?_)
          refine b_X7_ownPayment_77 ?_ ⟨_, rfl, ?_⟩
          · rw [show (0 : Int32) = hI 0 from rfl, hI_eq ⟨by omega, by omega⟩ ⟨by omega, by omega⟩]
            omega
          · rw [if_neg (by omega)] at hg
            have hbl := hw_best_le (fun e => S e - v * num (a * 5 + e)) (e - 1)
            have t1 := hT _ (show hw_best (fun e => S e - v * num (a * 5 + e)) (e - 1) < e by omega)
            have t2 := hT b hb
            try dsimp only at t1 t2
            rw [hS b hb, hI_mul, hI_sub, hI_sub, hI_div ⟨by omega, by omega⟩ ⟨by omega, by omega⟩]
            unfold hr_own at hk
            rw [if_neg (by omega)] at hk
            rw [hg]
            exact hk
        · rw [hI_le ⟨by omega, by omega⟩ ⟨by omega, by omega⟩] at c
          omega
      | succ c ih =>
        intro e g hc0 he hg
        refine b_X7_ownPayment_14 ho rfl w1 rfl (fun c => ?_) (fun _ => ?_)
        · rw [hI_le ⟨by omega, by omega⟩ ⟨by omega, by omega⟩] at c
          omega
        refine b_X7_ownPayment_26 ho rfl hsf e (hI_at rfl (by omega)) (by omega) rfl w1 (s_number HW ha (by omega) ?_)
        have t0 := hT e (by omega)
        have hgb : -1000000 ≤ g ∧ g ≤ 4554 := by
          rw [hg]
          split
          · omega
          · have hbl := hw_best_le (fun e => S e - v * num (a * 5 + e)) (e - 1)
            have t1 := hT _ (show hw_best (fun e => S e - v * num (a * 5 + e)) (e - 1) < m by omega)
            try dsimp only at t1
            omega
        rw [hS e (by omega)]
        refine b_X7_ownPayment_46 ?_
        rw [hI_mul, hI_sub]
        refine s_max ⟨by omega, by omega⟩ ⟨by omega, by omega⟩ ?_
        refine b_X7_ownPayment_51 ?_
        rw [hI_1]
        refine ih (e + 1) _ (by omega) (by omega) ?_
        rw [if_neg (by omega), Nat.add_sub_cancel]
        rcases Nat.eq_zero_or_pos e with rfl | hpos
        · rw [if_pos rfl] at hg
          show max g (S 0 - v * num (a * 5 + 0)) = S 0 - v * num (a * 5 + 0)
          omega
        · rw [if_neg (by omega)] at hg
          have hm := hw_best_max (fun e => S e - v * num (a * 5 + e)) (e - 1)
          rw [show e - 1 + 1 = e by omega] at hm
          try dsimp only at hm
          rw [hm, hg]
    exact loop m 0 (-1000000) (by omega) (by omega) rfl
  · rw [show (1 : Int32) = hI 1 from rfl, hI_le ⟨by omega, by omega⟩ ⟨by omega, by omega⟩] at c
    refine b_X7_ownPayment_5 ⟨_, rfl, ?_⟩
    unfold hr_own at hk
    rw [if_pos (by omega)] at hk
    exact hk
end SO
