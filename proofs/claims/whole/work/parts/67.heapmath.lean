/-! Rows that differ in a heap's words alone, in their order. -/
def hh_mem (H i : Nat) : Bool := H / 2 ^ i % 2 == 1
/-- as the class goes from row to row: c persons left, person i, row r -/
def hh_nx (w H : Nat) : Nat → Nat → Nat → Nat
  | 0, _, r => r
  | c + 1, i, r => if hh_mem H i = true then (if hw_in w r i + 1 < w then hw_say w r i (hw_in w r i + 1) else hh_nx w H c (i + 1) (hw_say w r i 0)) else hh_nx w H c (i + 1) r
def hh_so (w H : Nat) : Nat → Nat → Nat → Nat
  | 0, _, r => r
  | c + 1, i, r => hh_so w H c (i + 1) (if hh_mem H i = true then hw_say w r i 0 else r)
/-- the same, digit by digit -/
def hh_row (w : Nat) : Nat → Nat → Nat → Nat → Nat
  | 0, _, _, _ => 0
  | n + 1, H, s, k => if H % 2 = 1 then k % w + w * hh_row w n (H / 2) (s / w) (k / w) else s % w + w * hh_row w n (H / 2) (s / w) k
def hh_start (w : Nat) : Nat → Nat → Nat → Nat
  | 0, _, _ => 0
  | n + 1, H, r => (if H % 2 = 1 then 0 else r % w) + w * hh_start w n (H / 2) (r / w)
def hh_rank (w : Nat) : Nat → Nat → Nat → Nat
  | 0, _, _ => 0
  | n + 1, H, r => if H % 2 = 1 then r % w + w * hh_rank w n (H / 2) (r / w) else hh_rank w n (H / 2) (r / w)
def hh_words (w : Nat) : Nat → Nat → Nat
  | 0, _ => 1
  | n + 1, H => if H % 2 = 1 then w * hh_words w n (H / 2) else hh_words w n (H / 2)
def hh_next (w : Nat) : Nat → Nat → Nat → Nat
  | 0, _, r => r
  | n + 1, H, r => if H % 2 = 1 then (if r % w + 1 < w then (r % w + 1) + w * (r / w) else 0 + w * hh_next w n (H / 2) (r / w)) else r % w + w * hh_next w n (H / 2) (r / w)
section HH
variable {w : Nat}
theorem hh_d1 {a b : Nat} (h : a < w) : (a + w * b) % w = a := by
  rw [Nat.add_mul_mod_self_left]; exact Nat.mod_eq_of_lt h
theorem hh_d2 {a b : Nat} (h : a < w) : (a + w * b) / w = b := by
  rw [Nat.add_mul_div_left _ _ (by omega), Nat.div_eq_of_lt h]; omega
theorem hh_d3 (r : Nat) : r % w + w * (r / w) = r := Nat.mod_add_div r w
theorem hh_lt {a b n : Nat} (h : a < w) (hb : b < w ^ n) : a + w * b < w ^ (n + 1) := by
  have : w * (b + 1) ≤ w * w ^ n := Nat.mul_le_mul_left _ hb
  rw [Nat.pow_succ, Nat.mul_comm (w ^ n) w]
  rw [Nat.mul_add] at this
  omega
theorem hh_dl {r n : Nat} (h : r < w ^ (n + 1)) : r / w < w ^ n := by
  rw [Nat.div_lt_iff_lt_mul (by
    rcases Nat.eq_zero_or_pos w with e | e
    · subst e; simp at h
    · exact e)]
  rw [Nat.pow_succ] at h; exact h
theorem hh_row_lt (hw : 1 ≤ w) : ∀ n H s k, hh_row w n H s k < w ^ n := by
  intro n
  induction n with
  | zero => intro H s k; simp [hh_row]
  | succ n ih =>
    intro H s k
    unfold hh_row
    by_cases e : H % 2 = 1
    · rw [if_pos e]; exact hh_lt (Nat.mod_lt _ hw) (ih _ _ _)
    · rw [if_neg e]; exact hh_lt (Nat.mod_lt _ hw) (ih _ _ _)
theorem hh_start_le : ∀ n H r, hh_start w n H r ≤ r := by
  intro n
  induction n with
  | zero => intro H r; exact Nat.zero_le _
  | succ n ih =>
    intro H r
    unfold hh_start
    have h1 := Nat.mul_le_mul_left w (ih (H / 2) (r / w))
    have h2 := hh_d3 (w := w) r
    by_cases e : H % 2 = 1
    · rw [if_pos e]; omega
    · rw [if_neg e]; omega
theorem hh_words_pos (hw : 1 ≤ w) : ∀ n H, 1 ≤ hh_words w n H := by
  intro n
  induction n with
  | zero => intro H; exact Nat.le_refl _
  | succ n ih =>
    intro H
    unfold hh_words
    by_cases e : H % 2 = 1
    · rw [if_pos e]; exact Nat.mul_pos hw (ih _)
    · rw [if_neg e]; exact ih _
theorem hh_rank_lt (hw : 1 ≤ w) : ∀ n H r, hh_rank w n H r < hh_words w n H := by
  intro n
  induction n with
  | zero => intro H r; exact Nat.zero_lt_one
  | succ n ih =>
    intro H r
    unfold hh_rank hh_words
    by_cases e : H % 2 = 1
    · rw [if_pos e, if_pos e]
      have h1 := Nat.mul_le_mul_left w (Nat.succ_le_of_lt (ih (H / 2) (r / w)))
      have h2 : r % w < w := Nat.mod_lt _ hw
      rw [Nat.mul_succ] at h1
      omega
    · rw [if_neg e, if_neg e]; exact ih _ _
theorem hh_row_of (hw : 1 ≤ w) : ∀ n H r, r < w ^ n → hh_row w n H (hh_start w n H r) (hh_rank w n H r) = r := by
  intro n
  induction n with
  | zero => intro H r hr; simp at hr; simp [hh_row, hr]
  | succ n ih =>
    intro H r hr
    have hi := ih (H / 2) (r / w) (hh_dl hr)
    have hm : r % w < w := Nat.mod_lt _ hw
    unfold hh_row hh_start hh_rank
    by_cases e : H % 2 = 1
    · rw [if_pos e, if_pos e, if_pos e, hh_d1 hm, hh_d2 hm, hh_d2 hw, hi, hh_d3]
    · rw [if_neg e, if_neg e, if_neg e, hh_d1 hm, hh_d2 hm, hi, hh_d3]
theorem hh_start_row (hw : 1 ≤ w) : ∀ n H s k, hh_start w n H (hh_row w n H s k) = hh_start w n H s := by
  intro n
  induction n with
  | zero => intro H s k; rfl
  | succ n ih =>
    intro H s k
    unfold hh_row hh_start
    by_cases e : H % 2 = 1
    · rw [if_pos e, if_pos e, if_pos e, hh_d2 (Nat.mod_lt _ hw), ih]
    · rw [if_neg e, if_neg e, if_neg e, hh_d2 (Nat.mod_lt _ hw), ih, hh_d1 (Nat.mod_lt _ hw)]
theorem hh_rank_row (hw : 1 ≤ w) : ∀ n H s k, k < hh_words w n H → hh_rank w n H (hh_row w n H s k) = k := by
  intro n
  induction n with
  | zero => intro H s k hk; unfold hh_words at hk; unfold hh_rank; omega
  | succ n ih =>
    intro H s k hk
    unfold hh_words at hk
    unfold hh_row hh_rank
    by_cases e : H % 2 = 1
    · rw [if_pos e] at hk
      rw [if_pos e, if_pos e, hh_d2 (Nat.mod_lt _ hw), hh_d1 (Nat.mod_lt _ hw), ih _ _ _ (by rw [Nat.div_lt_iff_lt_mul hw, Nat.mul_comm]; exact hk), hh_d3]
    · rw [if_neg e] at hk
      rw [if_neg e, if_neg e, hh_d2 (Nat.mod_lt _ hw), ih _ _ _ hk]
theorem hh_row_mono (hw : 1 ≤ w) : ∀ n H s k k', k < k' → k' < hh_words w n H → hh_row w n H s k < hh_row w n H s k' := by
  intro n
  induction n with
  | zero => intro H s k k' hl hk; unfold hh_words at hk; omega
  | succ n ih =>
    intro H s k k' hl hk
    unfold hh_words at hk
    unfold hh_row
    by_cases e : H % 2 = 1
    · rw [if_pos e] at hk
      rw [if_pos e, if_pos e]
      have hm : k % w < w := Nat.mod_lt _ hw
      by_cases c : k / w < k' / w
      · have h1 := ih (H / 2) (s / w) _ _ c (by rw [Nat.div_lt_iff_lt_mul hw, Nat.mul_comm]; exact hk)
        have h2 := Nat.mul_le_mul_left w (Nat.succ_le_of_lt h1)
        rw [Nat.mul_succ] at h2
        omega
      · have h1 : k / w ≤ k' / w := Nat.div_le_div_right (by omega)
        have h2 : k / w = k' / w := by omega
        have h3 := hh_d3 (w := w) k
        have h4 := hh_d3 (w := w) k'
        rw [h2] at h3 ⊢
        omega
    · rw [if_neg e] at hk
      rw [if_neg e, if_neg e]
      have h1 := ih (H / 2) (s / w) _ _ hl hk
      have h2 := Nat.mul_le_mul_left w (Nat.succ_le_of_lt h1)
      rw [Nat.mul_succ] at h2
      omega
theorem hh_row_0 : ∀ n H s, hh_row w n H s 0 = hh_start w n H s := by
  intro n
  induction n with
  | zero => intro H s; rfl
  | succ n ih =>
    intro H s
    unfold hh_row hh_start
    by_cases e : H % 2 = 1
    · rw [if_pos e, if_pos e, Nat.zero_mod, Nat.zero_div, ih]
    · rw [if_neg e, if_neg e, ih]
theorem hh_next_row (hw : 1 ≤ w) : ∀ n H s k, k + 1 < hh_words w n H → hh_next w n H (hh_row w n H s k) = hh_row w n H s (k + 1) := by
  intro n
  induction n with
  | zero => intro H s k hk; unfold hh_words at hk; omega
  | succ n ih =>
    intro H s k hk
    unfold hh_words at hk
    unfold hh_row hh_next
    by_cases e : H % 2 = 1
    · rw [if_pos e] at hk
      rw [if_pos e, if_pos e, if_pos e]
      have hm : k % w < w := Nat.mod_lt _ hw
      rw [hh_d1 hm, hh_d2 hm]
      have h3 := hh_d3 (w := w) k
      by_cases c : k % w + 1 < w
      · rw [if_pos c]
        have h4 : k + 1 = (k % w + 1) + w * (k / w) := by omega
        rw [h4, hh_d1 c, hh_d2 c]
      · rw [if_neg c]
        have h4 : k + 1 = 0 + w * (k / w + 1) := by rw [Nat.mul_succ]; omega
        have h5 : (k + 1) / w < hh_words w n (H / 2) := by rw [Nat.div_lt_iff_lt_mul hw, Nat.mul_comm]; exact hk
        rw [h4, hh_d2 hw] at h5
        rw [ih _ _ _ h5, h4, hh_d1 hw, hh_d2 hw]
    · rw [if_neg e] at hk
      rw [if_neg e, if_neg e, if_neg e]
      have hm : s % w < w := Nat.mod_lt _ hw
      rw [hh_d1 hm, hh_d2 hm, ih _ _ _ hk]
theorem hh_mem_s (H i : Nat) : hh_mem H (i + 1) = hh_mem (H / 2) i := by
  unfold hh_mem
  rw [Nat.pow_succ, Nat.mul_comm, ← Nat.div_div_eq_div_mul]
theorem hh_mem_0 (H : Nat) : hh_mem H 0 = true ↔ H % 2 = 1 := by
  unfold hh_mem
  simp
theorem hh_in_s {a r i : Nat} (ha : a < w) : hw_in w (a + w * r) (i + 1) = hw_in w r i := by
  unfold hw_in
  rw [Nat.pow_succ, Nat.mul_comm (w ^ i) w, ← Nat.div_div_eq_div_mul, hh_d2 ha]
theorem hh_in_0 {a r : Nat} (ha : a < w) : hw_in w (a + w * r) 0 = a := by
  unfold hw_in
  rw [Nat.pow_zero, Nat.div_one, hh_d1 ha]
theorem hh_in_le (r i : Nat) : hw_in w r i * w ^ i ≤ r := by
  unfold hw_in
  exact Nat.le_trans (Nat.mul_le_mul_right _ (Nat.mod_le _ _)) (Nat.div_mul_le_self _ _)
theorem hh_say_s {a r i v : Nat} (ha : a < w) : hw_say w (a + w * r) (i + 1) v = a + w * hw_say w r i v := by
  unfold hw_say
  rw [hh_in_s ha]
  have h1 := hh_in_le (w := w) r i
  have e : ∀ x, x * w ^ (i + 1) = w * (x * w ^ i) := fun x => by rw [Nat.pow_succ, Nat.mul_comm (w ^ i) w, Nat.mul_left_comm]
  have h2 := Nat.mul_le_mul_left w h1
  rw [e, e, Nat.mul_sub, Nat.mul_add]
  omega
theorem hh_say_0 {a r v : Nat} (ha : a < w) : hw_say w (a + w * r) 0 v = v + w * r := by
  unfold hw_say
  rw [hh_in_0 ha, Nat.pow_zero]
  omega
theorem hh_nx_s {a : Nat} (ha : a < w) (H : Nat) : ∀ c i r, hh_nx w H c (i + 1) (a + w * r) = a + w * hh_nx w (H / 2) c i r := by
  intro c
  induction c with
  | zero => intro i r; rfl
  | succ c ih =>
    intro i r
    unfold hh_nx
    rw [hh_mem_s, hh_in_s ha, hh_say_s ha, hh_say_s ha, ih, ih]
    split <;> (try split) <;> rfl
theorem hh_so_s {a : Nat} (ha : a < w) (H : Nat) : ∀ c i r, hh_so w H c (i + 1) (a + w * r) = a + w * hh_so w (H / 2) c i r := by
  intro c
  induction c with
  | zero => intro i r; rfl
  | succ c ih =>
    intro i r
    unfold hh_so
    rw [hh_mem_s, hh_say_s ha, ← ih]
    split <;> rfl
theorem hh_nx_eq (hw : 1 ≤ w) : ∀ n H r, hh_nx w H n 0 r = hh_next w n H r := by
  intro n
  induction n with
  | zero => intro H r; rfl
  | succ n ih =>
    intro H r
    have hm : r % w < w := Nat.mod_lt _ hw
    conv => lhs; rw [← hh_d3 (w := w) r]
    unfold hh_nx hh_next
    rw [hh_in_0 hm, hh_say_0 hm, hh_say_0 hm, hh_nx_s hm, hh_nx_s hw, ih]
    by_cases e : H % 2 = 1
    · rw [if_pos ((hh_mem_0 H).mpr e), if_pos e]
    · rw [if_neg (mt (hh_mem_0 H).mp e), if_neg e]
theorem hh_so_eq (hw : 1 ≤ w) : ∀ n H r, r < w ^ n → hh_so w H n 0 r = hh_start w n H r := by
  intro n
  induction n with
  | zero => intro H r hr; simp at hr; simp [hh_so, hh_start, hr]
  | succ n ih =>
    intro H r hr
    have hm : r % w < w := Nat.mod_lt _ hw
    conv => lhs; rw [← hh_d3 (w := w) r]
    unfold hh_so hh_start
    rw [hh_say_0 hm]
    by_cases e : H % 2 = 1
    · rw [if_pos ((hh_mem_0 H).mpr e), if_pos e, hh_so_s hw, ih _ _ (hh_dl hr)]
    · rw [if_neg (mt (hh_mem_0 H).mp e), if_neg e, hh_so_s hm, ih _ _ (hh_dl hr)]
/-- others say the same -/
theorem hh_same (hw : 1 ≤ w) : ∀ n H r o, r < w ^ n → o < w ^ n → ((∀ i, i < n → hh_mem H i = false → hw_in w r i = hw_in w o i) ↔ hh_start w n H r = hh_start w n H o) := by
  intro n
  induction n with
  | zero => intro H r o hr ho; exact ⟨fun _ => rfl, fun _ i hi => by omega⟩
  | succ n ih =>
    intro H r o hr ho
    have hm : r % w < w := Nat.mod_lt _ hw
    have hm' : o % w < w := Nat.mod_lt _ hw
    have hi := ih (H / 2) (r / w) (o / w) (hh_dl hr) (hh_dl ho)
    have e0 : ∀ x, hw_in w x 0 = x % w := fun x => by unfold hw_in; rw [Nat.pow_zero, Nat.div_one]
    have e1 : ∀ x i, hw_in w x (i + 1) = hw_in w (x / w) i := fun x i => by
      unfold hw_in; rw [Nat.pow_succ, Nat.mul_comm (w ^ i) w, ← Nat.div_div_eq_div_mul]
    unfold hh_start
    constructor
    · intro h
      rw [hi.mp fun i hi hmem => by rw [← e1, ← e1]; exact h (i + 1) (by omega) (by rw [hh_mem_s]; exact hmem)]
      by_cases e : H % 2 = 1
      · rw [if_pos e, if_pos e]
      · rw [if_neg e, if_neg e]
        have := h 0 (by omega) (by rw [← Bool.not_eq_true]; exact mt (hh_mem_0 H).mp e)
        rw [e0, e0] at this
        rw [this]
    · intro h i hin hmem
      have key : hh_start w n (H / 2) (r / w) = hh_start w n (H / 2) (o / w) ∧ (H % 2 ≠ 1 → r % w = o % w) := by
        by_cases e : H % 2 = 1
        · rw [if_pos e, if_pos e] at h
          exact ⟨Nat.eq_of_mul_eq_mul_left hw (by omega), fun c => absurd e c⟩
        · rw [if_neg e, if_neg e] at h
          have h1 := congrArg (· / w) h
          have h2 := congrArg (· % w) h
          simp only [hh_d2 hm, hh_d2 hm', hh_d1 hm, hh_d1 hm'] at h1 h2
          exact ⟨h1, fun _ => h2⟩
      cases i with
      | zero =>
        rw [e0, e0]
        refine key.2 fun c => ?_
        rw [(hh_mem_0 H).mpr c] at hmem
        cases hmem
      | succ i =>
        rw [e1, e1]
        exact hi.mpr key.1 i (by omega) (by rw [← hh_mem_s]; exact hmem)
end HH
