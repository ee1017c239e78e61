/-! Pure words of the answers: searches, all-of, and what a rule gives. -/
/-- x as one of 0 .. n - 1 -/
def hx (x : Int32) (n : Nat) : Option Nat := if 0 ≤ x.toInt ∧ x.toInt < (n : Int) then some x.toInt.toNat else none
theorem hx_some {j n : Nat} (hj : j < n) (hn : n < 2147483648) : hx (hI (j : Int)) n = some j := by
  unfold hx
  rw [hI_toInt (hI_rN (by omega)), if_pos ⟨by omega, by omega⟩]
  rfl
theorem hx_none {x : Int32} {n : Nat} (h : ¬ hIn x n) : hx x n = none := if_neg h
theorem hx_cases {x : Int32} {n j : Nat} (h : hx x n = some j) : j < n ∧ x = hI (j : Int) := by
  unfold hx at h
  split at h
  · rename_i c
    cases h
    refine ⟨by omega, ?_⟩
    rw [show ((x.toInt.toNat : Nat) : Int) = x.toInt by omega]
    exact hI_of x
  · cases h
theorem hx_not {x : Int32} {n : Nat} (h : hx x n = none) : ¬ hIn x n := by
  unfold hx at h
  split at h
  · cases h
  · rename_i c; exact c
/-- the first of f i, f (i + 1), .. (c of them) that is there -/
def hf_from (f : Nat → Option Int) : Nat → Nat → Option Int
  | 0, _ => none
  | c + 1, i => match f i with
    | some x => some x
    | none => hf_from f c (i + 1)
def hf (f : Nat → Option Int) (n : Nat) : Option Int := hf_from f n 0
theorem hf_end {f : Nat → Option Int} {n i : Nat} (h : n ≤ i) : hf_from f (n - i) i = none := by
  rw [show n - i = 0 by omega]; rfl
theorem hf_some {f : Nat → Option Int} {n i : Nat} {x : Int} (h : i < n) (hx : f i = some x) : hf_from f (n - i) i = some x := by
  rw [show n - i = (n - (i + 1)) + 1 by omega]
  unfold hf_from
  rw [hx]
theorem hf_none {f : Nat → Option Int} {n i : Nat} (h : i < n) (hx : f i = none) : hf_from f (n - i) i = hf_from f (n - (i + 1)) (i + 1) := by
  rw [show n - i = (n - (i + 1)) + 1 by omega]
  show (match f i with
    | some x => some x
    | none => hf_from f (n - (i + 1)) (i + 1)) = _
  rw [hx]
/-- p i, p (i + 1), .. (c of them) all hold -/
def ha_from (p : Nat → Bool) : Nat → Nat → Bool
  | 0, _ => true
  | c + 1, i => p i && ha_from p c (i + 1)
def ha (p : Nat → Bool) (n : Nat) : Bool := ha_from p n 0
theorem ha_end {p : Nat → Bool} {n i : Nat} (h : n ≤ i) : ha_from p (n - i) i = true := by
  rw [show n - i = 0 by omega]; rfl
theorem ha_step {p : Nat → Bool} {n i : Nat} (h : i < n) : ha_from p (n - i) i = (p i && ha_from p (n - (i + 1)) (i + 1)) := by
  rw [show n - i = (n - (i + 1)) + 1 by omega]; rfl
def hb (b : Bool) : Int := if b then 1 else 0
/-- bounds -/
theorem hr_pay_bound {n m w : Nat} {num : Nat → Int} {R : hr_R} (hd : hw_dim n m w num) (hok : hr_ok n m w R) (hw : 1 ≤ w) {r i : Nat} (hr : r < hw_pow w n) (hi : i < n) : -9999 ≤ hr_pay n m w num R r i ∧ hr_pay n m w num R r i ≤ 9999 := by
  unfold hr_pay
  split
  · exact hok.2.2.1 r i hr hi
  · split
    · split
      · omega
      · have hn := hd.1
        have hm := hd.2.1
        have g1 : hr_great n m w num R r i ≤ m - 1 := hw_best_le _ _
        have g2 : hr_great n m w num R r n ≤ m - 1 := hw_best_le _ _
        have b1 := hr_sum_bound hd hok hw (r := r) (e := hr_great n m w num R r i) (wo := i) (by omega)
        have b2 := hr_sum_bound hd hok hw (r := r) (e := hr_great n m w num R r n) (wo := i) (by omega)
        have h2 : ((hr_sum n w num R r (hr_great n m w num R r i) i - hr_sum n w num R r (hr_great n m w num R r n) i).tdiv (R.2.2.2.2.1 i)).natAbs ≤ (hr_sum n w num R r (hr_great n m w num R r i) i - hr_sum n w num R r (hr_great n m w num R r n) i).natAbs := by
          rw [Int.natAbs_tdiv]
          exact Nat.div_le_self _ _
        omega
    · omega
theorem hr_val_bound {n m w : Nat} {num : Nat → Int} {R : hr_R} (hd : hw_dim n m w num) (hok : hr_ok n m w R) (hw : 1 ≤ w) {r i a : Nat} (hr : r < hw_pow w n) (hi : i < n) (ha : a < w) : -10098 ≤ hr_val n m w num R r i a ∧ hr_val n m w num R r i a ≤ 10098 := by
  have h1 := hr_pay_bound hd hok hw hr hi
  have h2 := hr_end_lt (num := num) hd.2.1.1 hok hr
  have h3 := hd.2.2.2 (a * 5 + hr_end n m w num R r) (by have := hd.2.2.1; have := hd.2.1; omega)
  unfold hr_val
  omega
/-- what person i gains at row r by saying v -/
def hp_gain (n m w : Nat) (num : Nat → Int) (R : hr_R) (r i v : Nat) : Int := hr_val n m w num R (hw_say w r i v) i (hw_in w r i) - hr_val n m w num R r i (hw_in w r i)
def hp_liesAt (n m w : Nat) (num : Nat → Int) (R : hr_R) (r i : Nat) : Int := hr_to (fun v => if 0 < hp_gain n m w num R r i v then 1 else 0) w
def hp_lies (n m w : Nat) (num : Nat → Int) (R : hr_R) : Int := hr_to (fun r => hr_to (fun i => hp_liesAt n m w num R r i) n) (hw_pow w n)
def hp_part (what : Nat) (r i v : Nat) (g : Int) : Int := if what = 0 then (r : Int) else if what = 1 then (i : Int) else if what = 2 then (v : Int) else g
def hp_lieP (n m w : Nat) (num : Nat → Int) (R : hr_R) (what r i : Nat) : Option Int := hf (fun v => if 0 < hp_gain n m w num R r i v then some (hp_part what r i v (hp_gain n m w num R r i v)) else none) w
def hp_lieR (n m w : Nat) (num : Nat → Int) (R : hr_R) (what r : Nat) : Option Int := hf (fun i => hp_lieP n m w num R what r i) n
def hp_lie (n m w : Nat) (num : Nat → Int) (R : hr_R) (what : Nat) : Int := (hf (fun r => hp_lieR n m w num R what r) (hw_pow w n)).getD (-2)
def hp_isDict (n m w : Nat) (num : Nat → Int) (R : hr_R) (i : Nat) : Bool := ha (fun r => hr_end n m w num R r == hw_top num m (hw_in w r i)) (hw_pow w n)
def hp_dict (n m w : Nat) (num : Nat → Int) (R : hr_R) : Int := (hf (fun i => if hp_isDict n m w num R i then some (i : Int) else none) n).getD (-2)
def hp_sameAt (n m w : Nat) (num : Nat → Int) (R R' : hr_R) (r : Nat) : Bool := hr_end n m w num R r == hr_end n m w num R' r && ha (fun i => hr_pay n m w num R r i == hr_pay n m w num R' r i) n
def hp_same (n m w : Nat) (num : Nat → Int) (R R' : hr_R) : Int := hb (ha (fun r => hp_sameAt n m w num R R' r) (hw_pow w n))
def hp_fairAt (n m w : Nat) (num : Nat → Int) (R : hr_R) (r : Nat) : Bool := ha (fun i => hr_end n m w num R (hw_say w (hw_say w r i (hw_in w r (i + 1))) (i + 1) (hw_in w r i)) == hr_end n m w num R r) (n - 1)
def hp_fair (n m w : Nat) (num : Nat → Int) (R : hr_R) : Int := hb (ha (fun r => hp_fairAt n m w num R r) (hw_pow w n))
def hp_paid (n m w : Nat) (num : Nat → Int) (R : hr_R) (r : Nat) : Int := hr_to (fun i => hr_pay n m w num R r i) n
def hp_bud (n m w : Nat) (num : Nat → Int) (R : hr_R) (most : Bool) : Nat → Int
  | 0 => hp_paid n m w num R 0
  | k + 1 => if most then max (hp_bud n m w num R most k) (hp_paid n m w num R (k + 1)) else min (hp_bud n m w num R most k) (hp_paid n m w num R (k + 1))
def hp_wel (n m w : Nat) (num : Nat → Int) (R : hr_R) : Int := hr_to (fun r => hr_to (fun i => num (hw_in w r i * 5 + hr_end n m w num R r)) n) (hw_pow w n)
/-- longs -/
def hL (e : Int) : Int64 := Int64.ofInt e
theorem hL_add (a b : Int) : hL a + hL b = hL (a + b) := (Int64.ofInt_add a b).symm
theorem hL_I {a : Int} (h : -2147483648 ≤ a ∧ a < 2147483648) : (hI a).toInt64 = hL a := by
  apply Int64.toInt_inj.mp
  rw [Int32.toInt_toInt64, hI_toInt h]
  unfold hL
  rw [Int64.toInt_ofInt_of_le (by omega) (by omega)]
theorem hL_inj {a b : Int} (ha : -9223372036854775808 ≤ a ∧ a < 9223372036854775808) (hb : -9223372036854775808 ≤ b ∧ b < 9223372036854775808) : hL a = hL b ↔ a = b := by
  rw [← Int64.toInt_inj]
  unfold hL
  rw [Int64.toInt_ofInt_of_le (by omega) (by omega), Int64.toInt_ofInt_of_le (by omega) (by omega)]
