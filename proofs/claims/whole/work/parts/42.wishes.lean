/-! THE LIST, as the class holds it (cells 5, 6, 7): n people, m ends, w wishes; num: the numbers, 5 places a wish. -/
def hw_pow (w i : Nat) : Nat := if w = 0 then 0 else w ^ i
def hw_dim (n m w : Nat) (num : Nat → Int) : Prop := (2 ≤ n ∧ n ≤ 4) ∧ (2 ≤ m ∧ m ≤ 5) ∧ w ≤ 6 ∧ (∀ k, k < 30 → -99 ≤ num k ∧ num k ≤ 99)
def hW (h : hk_H) (n m w : Nat) (num : Nat → Int) (pf : Nat → Int32) : Prop :=
  h.2 5 = some (.inr (8, [.int (hI n), .int (hI m), .ref 6, .ref 7, .int (hI w), .int (hI (hw_pow w n))])) ∧ h.2 6 = some (hc_i32 30 (fun k => hI (num k))) ∧ h.2 7 = some (hc_i32 5 pf) ∧ (∀ i, i ≤ n → pf i = hI (hw_pow w i)) ∧ hw_dim n m w num
theorem hw_pow_lt {w i : Nat} (hw : w ≤ 6) (hi : i ≤ 4) : hw_pow w i ≤ 1296 := by
  unfold hw_pow
  split
  · omega
  · calc w ^ i ≤ 6 ^ i := Nat.pow_le_pow_left hw i
      _ ≤ 6 ^ 4 := Nat.pow_le_pow_right (by omega) hi
      _ = 1296 := by decide
theorem hw_pow_1 {w i : Nat} (hw : 1 ≤ w) : hw_pow w i = w ^ i := if_neg (by omega)
/-- the list is untouched by what other cells get -/
theorem hW.set {h : hk_H} {n m w : Nat} {num : Nat → Int} {pf : Nat → Int32} (H : hW h n m w num pf) {a : Nat} {c : hk_AC} (ha : 8 ≤ a) : hW (hk_set h a c) n m w num pf := by
  obtain ⟨h1, h2, h3, h4, h5⟩ := H
  exact ⟨by rw [hk_set_ne (by omega)]; exact h1, by rw [hk_set_ne (by omega)]; exact h2, by rw [hk_set_ne (by omega)]; exact h3, h4, h5⟩
/-- the wish of person i at a row; the row in which person i says wish v -/
def hw_in (w r i : Nat) : Nat := r / w ^ i % w
def hw_say (w r i v : Nat) : Nat := r + v * w ^ i - hw_in w r i * w ^ i
theorem hw_in_le (w r i : Nat) : hw_in w r i * w ^ i ≤ r := by
  unfold hw_in
  calc r / w ^ i % w * w ^ i ≤ r / w ^ i * w ^ i := Nat.mul_le_mul_right _ (Nat.mod_le _ _)
    _ ≤ r := Nat.div_mul_le_self _ _
theorem hw_in_lt {w : Nat} (hw : 1 ≤ w) (r i : Nat) : hw_in w r i < w := Nat.mod_lt _ (by omega)
/-- a row with another wish is a row -/
theorem hw_say_lt {w n r i v : Nat} (hr : r < w ^ n) (hi : i < n) (hv : v < w) : hw_say w r i v < w ^ n := by
  have hw : 1 ≤ w := by omega
  have hp : 0 < w ^ i := Nat.pow_pos (by omega)
  have e1 : w ^ n = w ^ i * (w * w ^ (n - i - 1)) := by
    rw [← Nat.pow_succ', ← Nat.pow_add]; congr 1; omega
  have e2 : r = r % w ^ i + w ^ i * (r / w ^ i) := (Nat.mod_add_div r (w ^ i)).symm
  have e3 : r / w ^ i = hw_in w r i + w * (r / w ^ i / w) := (Nat.mod_add_div (r / w ^ i) w).symm
  have h1 : r / w ^ i < w * w ^ (n - i - 1) := by
    rw [Nat.div_lt_iff_lt_mul hp, Nat.mul_comm, ← e1]; exact hr
  have h2 : r / w ^ i / w < w ^ (n - i - 1) := by
    rw [Nat.div_lt_iff_lt_mul (by omega), Nat.mul_comm]; exact h1
  have h3 : v + w * (r / w ^ i / w) < w * w ^ (n - i - 1) := by
    have : w * (r / w ^ i / w) + w ≤ w * w ^ (n - i - 1) := by
      rw [← Nat.mul_succ]; exact Nat.mul_le_mul_left _ h2
    omega
  have h4 : hw_say w r i v = r % w ^ i + w ^ i * (v + w * (r / w ^ i / w)) := by
    have e5 : r = r % w ^ i + w ^ i * (hw_in w r i + w * (r / w ^ i / w)) := by rw [← e3]; exact e2
    unfold hw_say
    clear e2 e3 h1 h2 h3 e1
    generalize hw_in w r i = a at *
    generalize r % w ^ i = b at *
    generalize r / w ^ i / w = c at *
    generalize w ^ i = p at *
    rw [Nat.mul_add] at e5 ⊢
    rw [Nat.mul_comm a, Nat.mul_comm v]
    generalize p * a = x at *
    generalize p * v = y at *
    generalize p * (w * c) = z at *
    omega
  rw [h4, e1]
  have h5 : r % w ^ i < w ^ i := Nat.mod_lt _ hp
  calc r % w ^ i + w ^ i * (v + w * (r / w ^ i / w)) < w ^ i + w ^ i * (v + w * (r / w ^ i / w)) := by omega
    _ = w ^ i * (v + w * (r / w ^ i / w) + 1) := by rw [Nat.mul_succ]; omega
    _ ≤ w ^ i * (w * w ^ (n - i - 1)) := Nat.mul_le_mul_left _ h3
/-- the first place of 0 .. k with the greatest number -/
def hw_best (f : Nat → Int) : Nat → Nat
  | 0 => 0
  | k + 1 => if f (hw_best f k) < f (k + 1) then k + 1 else hw_best f k
theorem hw_best_le (f : Nat → Int) (k : Nat) : hw_best f k ≤ k := by
  induction k with
  | zero => exact Nat.le_refl _
  | succ k ih => unfold hw_best; split <;> omega
def hw_top (num : Nat → Int) (m a : Nat) : Nat := hw_best (fun e => num (a * 5 + e)) (m - 1)
section SW
variable {G : hk_G} {h : hk_H} {n m w : Nat} {num : Nat → Int} {pf : Nat → Int32} {d : Nat}
theorem s_number (H : hW h n m w num pf) {a b : Nat} (ha : a < 6) (hb : b < 5) {K : Int32 → hk_H → Prop} (hk : K (hI (num (a * 5 + b))) h) : hk_Ci G m_X8_number d 0 0 [.ref 5, .int (hI a), .int (hI b)] h K := by
  obtain ⟨h1, h2, h3, h4, h5⟩ := H
  refine ⟨Nat.le_of_ble_eq_true rfl, ?_⟩
  refine b_X8_number_0 h1 rfl h2 (a * 5 + b) ?_ (by omega) ⟨_, rfl, hk⟩
  rw [show (5 : Int32) = hI 5 from rfl, hI_mul, hI_add]
  exact hI_at (by omega) (by omega)
theorem s_changeNumber (H : hW h n m w num pf) {a b : Nat} {v : Int} (ha : a < 6) (hb : b < 5) (hv : -99 ≤ v ∧ v ≤ 99) {K : Int32 → hk_H → Prop} (hk : hW (hk_set h 6 (hc_i32 30 (fun k => hI (if k = a * 5 + b then v else num k)))) n m w (fun k => if k = a * 5 + b then v else num k) pf → K (if num (a * 5 + b) = v then 0 else 1) (hk_set h 6 (hc_i32 30 (fun k => hI (if k = a * 5 + b then v else num k))))) : hk_Ci G m_X8_changeNumber (d + 1) 0 0 [.ref 5, .int (hI a), .int (hI b), .int (hI v)] h K := by
  obtain ⟨h1, h2, h3, h4, h5, h6, h7, h8⟩ := id H
  have hx : (hI (a : Int) * 5 + hI (b : Int)).toInt = ((a * 5 + b : Nat) : Int) := by
    rw [show (5 : Int32) = hI 5 from rfl, hI_mul, hI_add]
    exact hI_at (by omega) (by omega)
  have hn := h8 (a * 5 + b) (by omega)
  have eu : upd (fun k => hI (num k)) (a * 5 + b) (hI v) = fun k => hI (if k = a * 5 + b then v else num k) := by
    funext k
    by_cases e : k = a * 5 + b <;> simp [upd, e]
  have hW' : hW (hk_set h 6 (hc_i32 30 (fun k => hI (if k = a * 5 + b then v else num k)))) n m w (fun k => if k = a * 5 + b then v else num k) pf :=
    ⟨by rw [hk_set_ne (by decide)]; exact h1, hk_set_eq, by rw [hk_set_ne (by decide)]; exact h3, h4, h5, h6, h7, fun k hk => by
      dsimp only
      split
      · exact hv
      · exact h8 k hk⟩
  have hk := hk hW'
  refine ⟨Nat.le_of_ble_eq_true rfl, ?_⟩
  refine b_X8_changeNumber_0 h1 (s_number H ha hb ?_)
  refine b_X8_changeNumber_6 h1 rfl h2 (by decide) (a * 5 + b) hx (by omega) rfl (fun c => ?_) (fun c => ?_)
  · rw [hI_eq ⟨by omega, by omega⟩ ⟨by omega, by omega⟩] at c
    rw [if_neg c] at hk
    rw [eu]
    exact b_X8_changeNumber_29 ⟨_, rfl, hk⟩
  · rw [hI_eq ⟨by omega, by omega⟩ ⟨by omega, by omega⟩] at c
    rw [if_pos c] at hk
    rw [eu]
    exact b_X8_changeNumber_25 ⟨_, rfl, hk⟩
theorem s_wishIn (H : hW h n m w num pf) (hw : 1 ≤ w) {r i : Nat} (hr : r < 1296) (hi : i < n) {K : Int32 → hk_H → Prop} (hk : K (hI (hw_in w r i)) h) : hk_Ci G m_X8_wishIn d 0 0 [.ref 5, .int (hI r), .int (hI i)] h K := by
  obtain ⟨h1, h2, h3, h4, h5, h6, h7, h8⟩ := H
  have hpl : w ^ i ≤ 1296 := by rw [← hw_pow_1 hw]; exact hw_pow_lt h7 (by omega)
  have hp0 : 0 < w ^ i := Nat.pow_pos (by omega)
  have e1 : pf i = hI ((w ^ i : Nat) : Int) := by rw [h4 i (by omega), hw_pow_1 hw]
  refine ⟨Nat.le_of_ble_eq_true rfl, ?_⟩
  refine b_X8_wishIn_0 h1 rfl h3 i (hI_at rfl (by omega)) (by omega) (fun c => ?_) (fun _ => ?_)
  · rw [e1, show (1 : Int32) = hI 1 from rfl, hI_lt ⟨by omega, by omega⟩ ⟨by omega, by omega⟩] at c
    omega
  refine b_X8_wishIn_12 h1 rfl (fun _ => ?_) (fun c => ?_)
  · refine b_X8_wishIn_24 ?_ h1 rfl ?_ ⟨_, rfl, ?_⟩
    · rw [e1, show (0 : Int32) = hI 0 from rfl, hI_eq ⟨by omega, by omega⟩ ⟨by omega, by omega⟩]
      omega
    · rw [show (0 : Int32) = hI 0 from rfl, hI_eq ⟨by omega, by omega⟩ ⟨by omega, by omega⟩]
      omega
    · have hq : r / w ^ i ≤ r := Nat.div_le_self _ _
      have e2 : hI (r : Int) / pf i = hI ((r / w ^ i : Nat) : Int) := by
        rw [e1, hI_divN (by omega) hp0 (by omega)]
      rw [e2, hI_modN (Nat.lt_of_le_of_lt hq (Nat.lt_of_lt_of_le hr (by decide))) (by omega) (by omega)]
      exact hk
  · rw [show (1 : Int32) = hI 1 from rfl, hI_le ⟨by omega, by omega⟩ ⟨by omega, by omega⟩] at c
    omega
theorem s_rowSaying (H : hW h n m w num pf) (hw : 1 ≤ w) {r i v : Nat} (hr : r < 1296) (hi : i < n) {K : Int32 → hk_H → Prop} (hk : K (hI (hw_say w r i v)) h) : hk_Ci G m_X8_rowSaying (d + 1) 0 0 [.ref 5, .int (hI r), .int (hI i), .int (hI v)] h K := by
  obtain ⟨h1, h2, h3, h4, h5, h6, h7, h8⟩ := id H
  refine ⟨Nat.le_of_ble_eq_true rfl, ?_⟩
  refine b_X8_rowSaying_0 h1 (s_wishIn H hw hr hi ?_)
  refine b_X8_rowSaying_8 h1 rfl h3 i (hI_at rfl (by omega)) (by omega) ⟨_, rfl, ?_⟩
  rw [h4 i (by omega), hw_pow_1 hw, hI_sub, hI_mul, hI_add]
  have := hw_in_le w r i
  have e : (r : Int) + ((v : Int) - (hw_in w r i : Int)) * ((w ^ i : Nat) : Int) = ((hw_say w r i v : Nat) : Int) := by
    unfold hw_say
    rw [Int.sub_mul]
    have e1 : (v : Int) * ((w ^ i : Nat) : Int) = ((v * w ^ i : Nat) : Int) := by push_cast; rfl
    have e2 : (hw_in w r i : Int) * ((w ^ i : Nat) : Int) = ((hw_in w r i * w ^ i : Nat) : Int) := by push_cast; rfl
    rw [e1, e2]
    omega
  rw [e]
  exact hk
theorem s_top (H : hW h n m w num pf) {a : Nat} (ha : a < 6) {K : Int32 → hk_H → Prop} (hk : K (hI (hw_top num m a)) h) : hk_Ci G m_X8_top (d + 1) 0 0 [.ref 5, .int (hI a)] h K := by
  obtain ⟨h1, h2, h3, h4, h5, h6, h7, h8⟩ := id H
  refine ⟨Nat.le_of_ble_eq_true rfl, ?_⟩
  refine b_X8_top_0 ?_
  have loop : ∀ (k e : Nat), m - 1 - e = k → e ≤ m - 1 → hk_S G m_X8_top (d + 1) 0 0 4 [some (.ref 5), some (.int (hI (a : Int))), some (.int (hI (hw_best (fun e => num (a * 5 + e)) e : Nat))), some (.int (hI ((e + 1 : Nat) : Int)))] [] h (fun o h' => ∃ x, o = .inl (some (.int x)) ∧ K x h') := by
    intro k
    induction k with
    | zero =>
      intro e hk0 he
      have : e = m - 1 := by omega
      subst this
      refine b_X8_top_4 h1 rfl (fun _ => b_X8_top_35 ⟨_, rfl, hk⟩) (fun c => ?_)
      rw [hI_le ⟨by omega, by omega⟩ ⟨by omega, by omega⟩] at c
      omega
    | succ k ih =>
      intro e hk0 he
      have hb := hw_best_le (fun e => num (a * 5 + e)) e
      have r1 := h8 (a * 5 + (e + 1)) (by omega)
      have r2 := h8 (a * 5 + hw_best (fun e => num (a * 5 + e)) e) (by omega)
      refine b_X8_top_4 h1 rfl (fun c => ?_) (fun _ => ?_)
      · rw [hI_le ⟨by omega, by omega⟩ ⟨by omega, by omega⟩] at c
        omega
      refine b_X8_top_12 h1 (s_number H ha (by omega) ?_)
      refine b_X8_top_18 h1 (s_number H ha (by omega) ?_)
      refine b_X8_top_24 (fun c => ?_) (fun c => ?_)
      · rw [hI_le ⟨by omega, by omega⟩ ⟨by omega, by omega⟩] at c
        refine b_X8_top_29 ?_
        rw [hI_1]
        have := ih (e + 1) (by omega) (by omega)
        rw [show hw_best (fun e => num (a * 5 + e)) (e + 1) = hw_best (fun e => num (a * 5 + e)) e from if_neg (by dsimp only; omega)] at this
        exact this
      · rw [hI_le ⟨by omega, by omega⟩ ⟨by omega, by omega⟩] at c
        refine b_X8_top_27 ?_
        rw [hI_1]
        have := ih (e + 1) (by omega) (by omega)
        rw [show hw_best (fun e => num (a * 5 + e)) (e + 1) = e + 1 from if_pos (by dsimp only; omega)] at this
        exact this
  exact loop (m - 1) 0 (by omega) (by omega)
end SW
