theorem hI_ofNat (n : Nat) : Int32.ofNat n = hI (n : Int) := Int32.ofInt_eq_ofNat.symm
theorem hI_1 (n : Nat) : hI (n : Int) + 1 = hI ((n + 1 : Nat) : Int) := by
  rw [show (1 : Int32) = hI 1 from rfl, hI_add]; rfl
section SJ
variable {G : hk_G} {h : hk_H} {d : Nat}
theorem s_fill {n a : Nat} {f : Nat → Int32} {v : Int32} (ha : h.2 a = some (hc_i32 n f)) (h4 : 4 ≤ a) (hn : n < 2147483648) {K : hk_H → Prop} (hk : ∀ g : Nat → Int32, (∀ j, j < n → g j = v) → K (hk_set h a (hc_i32 n g))) : hk_Cv G m_J7_fill_53178 d 0 0 [.ref a, .int v] h K := by
  refine ⟨Nat.le_of_ble_eq_true rfl, ?_⟩
  refine b_J7_fill_53178_0 ha (by decide) ?_
  have loop : ∀ (k i : Nat) (g : Nat → Int32), n - i = k → i ≤ n → (∀ j, j < i → g j = v) → hk_S G m_J7_fill_53178 d 0 0 5 [some (.ref a), some (.int v), some (.int (hI (i : Int))), some (.int (Int32.ofNat n))] [] (hk_set h a (hc_i32 n g)) (fun o h' => o = .inl none ∧ K h') := by
    intro k
    induction k with
    | zero =>
      intro i g hk0 hi hg
      have hin : i = n := by omega
      refine b_J7_fill_53178_5 (fun _ => b_J7_fill_53178_20 ⟨rfl, hk g (fun j hj => hg j (by omega))⟩) (fun c => ?_)
      rw [hI_ofNat, hI_le (hI_rN hn) (hI_rN (by omega))] at c
      omega
    | succ k ih =>
      intro i g hk0 hi hg
      refine b_J7_fill_53178_5 (fun c => ?_) (fun _ => ?_)
      · rw [hI_ofNat, hI_le (hI_rN hn) (hI_rN (by omega))] at c
        omega
      · refine b_J7_fill_53178_10 hk_set_eq h4 i (hI_at rfl (by omega)) (by omega) hk_set_set ?_
        rw [hI_1]
        refine ih (i + 1) _ (by omega) (by omega) (fun j hj => ?_)
        by_cases e : j = i
        · simp [upd, e]
        · simp only [upd, e, if_false]
          exact hg j (by omega)
  have h0 := loop n 0 f (by omega) (by omega) (fun j hj => by omega)
  rw [hk_set_self ha] at h0
  exact h0
theorem s_fillL {n a : Nat} {f : Nat → Int64} {v : Int64} (ha : h.2 a = some (hc_i64 n f)) (h4 : 4 ≤ a) (hn : n < 2147483648) {K : hk_H → Prop} (hk : ∀ g : Nat → Int64, (∀ j, j < n → g j = v) → K (hk_set h a (hc_i64 n g))) : hk_Cv G m_J7_fill_d0a16 d 0 0 [.ref a, .long v] h K := by
  refine ⟨Nat.le_of_ble_eq_true rfl, ?_⟩
  refine b_J7_fill_d0a16_0 ha (by decide) ?_
  have loop : ∀ (k i : Nat) (g : Nat → Int64), n - i = k → i ≤ n → (∀ j, j < i → g j = v) → hk_S G m_J7_fill_d0a16 d 0 0 6 [some (.ref a), some (.long v), none, some (.int (hI (i : Int))), some (.int (Int32.ofNat n))] [] (hk_set h a (hc_i64 n g)) (fun o h' => o = .inl none ∧ K h') := by
    intro k
    induction k with
    | zero =>
      intro i g hk0 hi hg
      refine b_J7_fill_d0a16_6 (fun _ => b_J7_fill_d0a16_22 ⟨rfl, hk g (fun j hj => hg j (by omega))⟩) (fun c => ?_)
      rw [hI_ofNat, hI_le (hI_rN hn) (hI_rN (by omega))] at c
      omega
    | succ k ih =>
      intro i g hk0 hi hg
      refine b_J7_fill_d0a16_6 (fun c => ?_) (fun _ => ?_)
      · rw [hI_ofNat, hI_le (hI_rN hn) (hI_rN (by omega))] at c
        omega
      · refine b_J7_fill_d0a16_12 hk_set_eq h4 i (hI_at rfl (by omega)) (by omega) hk_set_set ?_
        rw [hI_1]
        refine ih (i + 1) _ (by omega) (by omega) (fun j hj => ?_)
        by_cases e : j = i
        · simp [vp_updL, e]
        · simp only [vp_updL, e, if_false]
          exact hg j (by omega)
  have h0 := loop n 0 f (by omega) (by omega) (fun j hj => by omega)
  rw [hk_set_self ha] at h0
  exact h0
theorem s_max {a b : Int} (ha : -2147483648 ≤ a ∧ a < 2147483648) (hb : -2147483648 ≤ b ∧ b < 2147483648) {K : Int32 → hk_H → Prop} (hk : K (hI (max a b)) h) : hk_Ci G m_J9_max_7cf53 d 0 0 [.int (hI a), .int (hI b)] h K := by
  refine ⟨Nat.le_of_ble_eq_true rfl, ?_⟩
  refine b_J9_max_7cf53_0 (fun c => b_J9_max_7cf53_9 ⟨_, rfl, ?_⟩) (fun c => b_J9_max_7cf53_5 ⟨_, rfl, ?_⟩)
  · rw [hI_lt ha hb] at c
    rw [show b = max a b by omega]
    exact hk
  · rw [hI_lt ha hb] at c
    rw [show a = max a b by omega]
    exact hk
theorem s_min {a b : Int} (ha : -2147483648 ≤ a ∧ a < 2147483648) (hb : -2147483648 ≤ b ∧ b < 2147483648) {K : Int32 → hk_H → Prop} (hk : K (hI (min a b)) h) : hk_Ci G m_J9_min_7cf53 d 0 0 [.int (hI a), .int (hI b)] h K := by
  refine ⟨Nat.le_of_ble_eq_true rfl, ?_⟩
  refine b_J9_min_7cf53_0 (fun c => b_J9_min_7cf53_9 ⟨_, rfl, ?_⟩) (fun c => b_J9_min_7cf53_5 ⟨_, rfl, ?_⟩)
  · rw [hI_lt hb ha] at c
    rw [show b = min a b by omega]
    exact hk
  · rw [hI_lt hb ha] at c
    rw [show a = min a b by omega]
    exact hk
/-- floorMod by 3 or 4: class and reference call it alike; what matters is that the answer is one number of 0 .. m - 1 -/
theorem s_floorMod {x : Int32} {m : Int} (hm : m = 3 ∨ m = 4) {K : Int32 → hk_H → Prop} (hk : K (hI (x.toInt % m)) h) : hk_Ci G m_J9_floorMod_7cf53 d 0 0 [.int x, .int (hI m)] h K := by
  have hx := hI_range x
  have hmr : -2147483648 ≤ m ∧ m < 2147483648 := by omega
  have hx1 : hI m ≠ -1 := by
    rw [show (-1 : Int32) = hI (-1) from rfl, Ne, hI_eq hmr ⟨by omega, by omega⟩]
    omega
  have e1 : (x / hI m).toInt = x.toInt.tdiv m := by rw [Int32.toInt_div_of_ne_right _ _ hx1, hI_toInt hmr]
  have e2 : x - x / hI m * hI m = hI (x.toInt.tmod m) := by
    have h1 : x / hI m = hI (x.toInt.tdiv m) := by rw [← e1]; exact hI_of _
    rw [h1, hI_mul]
    have h2 : x - hI (x.toInt.tdiv m * m) = hI x.toInt - hI (x.toInt.tdiv m * m) := by rw [← hI_of x]
    rw [h2, hI_sub]
    congr 1
    have := Int.mul_tdiv_add_tmod x.toInt m
    rw [Int.mul_comm] at this
    omega
  have hneg : ∀ y : Int32, (0 ≤ x ^^^ hI m) ↔ 0 ≤ x.toInt := by
    intro _
    rw [Int32.le_iff_toInt_le]
    have hms : (hI m).toBitVec.msb = false := by rcases hm with rfl | rfl <;> decide
    have h1 : (x ^^^ hI m).toBitVec.msb = x.toBitVec.msb := by
      rw [Int32.toBitVec_xor, BitVec.msb_xor, hms]; simp
    have h2 : ∀ z : Int32, 0 ≤ z.toInt ↔ z.toBitVec.msb = false := by
      intro z
      rw [← Int32.toInt_toBitVec]
      have := BitVec.toInt_neg_iff (x := z.toBitVec)
      rw [BitVec.msb_eq_toInt]
      simp
    rw [Int32.toInt_zero, h2, h2 x, h1]
  refine ⟨Nat.le_of_ble_eq_true rfl, ?_⟩
  have hm0 : ¬ hI m = 0 := by
    rw [show (0 : Int32) = hI 0 from rfl, hI_eq hmr ⟨by omega, by omega⟩]
    omega
  have ht : x.toInt.tmod m = if 0 ≤ x.toInt then x.toInt % m else (if x.toInt % m = 0 then 0 else x.toInt % m - m) := by
    split
    · rename_i h0
      exact Int.tmod_eq_emod_of_nonneg h0
    · rename_i h0
      have := Int.mul_tdiv_add_tmod x.toInt m
      have h3 := Int.tmod_lt_of_pos x.toInt (show 0 < m by omega)
      have h4 := Int.lt_tmod_of_pos x.toInt (show 0 < m by omega)
      have h5 : x.toInt.tmod m ≤ 0 := by
        rw [show x.toInt = -(-x.toInt) by omega, Int.neg_tmod]
        have := Int.tmod_nonneg m (show 0 ≤ -x.toInt by omega)
        omega
      rcases hm with rfl | rfl <;> split <;> omega
  refine b_J9_floorMod_7cf53_0 hm0 (fun c => ?_) (fun c => ?_)
  · rw [e2]
    rw [hneg 0] at c
    refine b_J9_floorMod_7cf53_18 ⟨_, rfl, ?_⟩
    rw [ht, if_pos c]
    exact hk
  · rw [e2]
    rw [hneg 0] at c
    refine b_J9_floorMod_7cf53_10 (fun c2 => ?_) (fun c2 => ?_)
    · refine b_J9_floorMod_7cf53_18 ⟨_, rfl, ?_⟩
      have hr : -2147483648 ≤ x.toInt.tmod m ∧ x.toInt.tmod m < 2147483648 := by
        rw [ht, if_neg c]
        rcases hm with rfl | rfl <;> split <;> omega
      rw [show (0 : Int32) = hI 0 from rfl, hI_eq hr ⟨by omega, by omega⟩] at c2
      rw [c2]
      rw [ht, if_neg c] at c2
      have : x.toInt % m = 0 := by
        rcases hm with rfl | rfl <;> split at c2 <;> omega
      rw [this] at hk
      exact hk
    · refine b_J9_floorMod_7cf53_14 ⟨_, rfl, ?_⟩
      rw [hI_add]
      have hr : -2147483648 ≤ x.toInt.tmod m ∧ x.toInt.tmod m < 2147483648 := by
        rw [ht, if_neg c]
        rcases hm with rfl | rfl <;> split <;> omega
      rw [show (0 : Int32) = hI 0 from rfl, hI_eq hr ⟨by omega, by omega⟩] at c2
      have : x.toInt.tmod m + m = x.toInt % m := by
        rw [ht, if_neg c] at c2 ⊢
        split at c2
        · omega
        · rw [if_neg (by assumption)]; omega
      rw [this]
      exact hk
end SJ
