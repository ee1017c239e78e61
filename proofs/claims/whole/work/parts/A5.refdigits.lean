/-! The reference's trades: orders as digits. -/
def hN (h : hk_H) (n m w rc th : Nat) (P : Nat → Nat → Nat) (c : Nat → Nat → Int32) : Prop :=
  hBo h n m w rc th ∧ (∃ tf, h.2 57 = some (hc_i32 16 tf) ∧ ∀ i k, i < n → k < n → tf (4 * i + k) = hI (P i k : Nat)) ∧ (∀ x, x < 5 → h.2 (58 + x) = some (hc_i32 4 (c x))) ∧ hm_ok n P ∧ (2 ≤ n ∧ n ≤ 4)
def hP57 (a : Nat) : Prop := 57 ≤ a ∧ a ≤ 62
theorem hm_b12 : ∀ n : Fin 5, ∀ a b c d : Fin 4, (decide (n.val < 2) || !(hm_4 n (fun k => decide (hm_f4 a b c d k < n.val)) && hm_4 n (fun k => hm_4 n (fun k' => !(hm_f4 a b c d k == hm_f4 a b c d k') || k == k'))) || (hm_list n).contains (hm_cd (hm_f4 a b c d) n)) = true := by decide +kernel
theorem hm_in {n : Nat} (hn : 2 ≤ n ∧ n ≤ 4) {d : Nat → Nat} (h : hm_perm n d) : ∃ j, j < hm_len n ∧ hm_at n j = hm_cd d n := by
  obtain ⟨h1, h2⟩ := h
  have e := hm_f4_is hn.2 d h1
  have q0 : (if 0 < n then d 0 else 0) < 4 := by split; have := h1 0 (by omega); omega; omega
  have q1 : (if 1 < n then d 1 else 0) < 4 := by split; have := h1 1 (by omega); omega; omega
  have q2 : (if 2 < n then d 2 else 0) < 4 := by split; have := h1 2 (by omega); omega; omega
  have q3 : (if 3 < n then d 3 else 0) < 4 := by split; have := h1 3 (by omega); omega; omega
  have hb := hm_b12 ⟨n, by omega⟩ ⟨_, q0⟩ ⟨_, q1⟩ ⟨_, q2⟩ ⟨_, q3⟩
  simp only at hb
  rw [decide_eq_false (by omega), (hm_4_is hn.2).mpr (fun k hk => by rw [e k hk]; exact decide_eq_true (h1 k hk)), (hm_4_is hn.2).mpr (fun k hk => (hm_4_is hn.2).mpr (fun k' hk' => by
    rw [e k hk, e k' hk']
    by_cases c : d k = d k'
    · rw [h2 k k' hk hk' c]; simp
    · rw [show (d k == d k') = false by rw [beq_eq_false_iff_ne]; exact c]; rfl))] at hb
  have hb : (hm_list n).contains (hm_cd (hm_f4 (if 0 < n then d 0 else 0) (if 1 < n then d 1 else 0) (if 2 < n then d 2 else 0) (if 3 < n then d 3 else 0)) n) = true := by simpa using hb
  rw [hm_cd_congr n e] at hb
  have hb := List.contains_iff_mem.mp hb
  obtain ⟨j, hj, ej⟩ := List.mem_iff_getElem.mp hb
  refine ⟨j, hj, ?_⟩
  unfold hm_at
  rw [List.getD_eq_getElem?_getD, List.getElem?_eq_getElem hj]
  exact ej
theorem hm_cd_dg : ∀ n v, v < 10 ^ n → hm_cd (hm_dg n v) n = v := by
  intro n
  induction n with
  | zero => intro v hv; rw [Nat.pow_zero] at hv; show 0 = v; omega
  | succ n ih =>
    intro v hv
    have h1 := ih (v / 10) (by rw [Nat.pow_succ] at hv; omega)
    have h2 : hm_cd (hm_dg (n + 1) v) n = hm_cd (hm_dg n (v / 10)) n := hm_cd_congr n fun k hk => by
      unfold hm_dg
      rw [show n + 1 - 1 - k = (n - 1 - k) + 1 by omega, Nat.pow_succ, Nat.mul_comm, ← Nat.div_div_eq_div_mul]
    show hm_cd (hm_dg (n + 1) v) n * 10 + hm_dg (n + 1) v n = v
    rw [h2, h1]
    unfold hm_dg
    rw [show n + 1 - 1 - n = 0 by omega, Nat.pow_zero, Nat.div_one]
    omega
theorem hm_or : ∀ g : Fin 16, ∀ i : Fin 4, hh_mem g i = false → (hI (g : Nat) ||| (1 <<< (hI (i : Nat) &&& 31))) = hI ((g.val + 2 ^ i.val : Nat) : Int) ∧ g.val + 2 ^ i.val < 16 ∧ ∀ x : Fin 4, hh_mem (g.val + 2 ^ i.val) x = (hh_mem g x || x == i) := by decide +kernel
/-- the orders below v are the first j -/
def hm_ix (n v j : Nat) : Prop := j ≤ hm_len n ∧ ∀ j', j' < hm_len n → (hm_at n j' < v ↔ j' < j)
def hm_last (n : Nat) : Nat := hm_cd (fun _ => n - 1) n
theorem hm_b13 : ∀ n : Fin 5, 2 ≤ n.val → hm_last n ≤ 3333 ∧ (∀ j : Fin 24, j.val < hm_len n → hm_at n j ≤ hm_last n) ∧ ∀ j : Fin 24, j.val + 1 < hm_len n → hm_at n j < hm_at n (j.val + 1) := by decide +kernel
theorem hm_mono {n : Nat} (hn : 2 ≤ n ∧ n ≤ 4) {a : Nat} : ∀ k, a + k + 1 < hm_len n → hm_at n a < hm_at n (a + k + 1) := by
  have hl := hm_len_b hn
  have hb := (hm_b13 ⟨n, by omega⟩ hn.1).2.2
  intro k
  induction k with
  | zero => intro h; exact hb ⟨a, by omega⟩ h
  | succ k ih =>
    intro h
    have h1 := ih (by omega)
    have h2 := hb ⟨a + k + 1, by omega⟩ h
    simp only at h2
    exact Nat.lt_trans h1 h2
theorem hm_ix_0 {n : Nat} : hm_ix n 0 0 := ⟨Nat.zero_le _, fun j' _ => by omega⟩
theorem hm_ix_in {n v j j' : Nat} (hn : 2 ≤ n ∧ n ≤ 4) (h : hm_ix n v j) (hj : j' < hm_len n) (e : hm_at n j' = v) : j' = j ∧ hm_ix n (v + 1) (j + 1) := by
  obtain ⟨h1, h2⟩ := h
  have a1 := h2 j' hj
  have e1 : j' = j := by
    by_cases c : j' = j
    · exact c
    · exfalso
      have c2 : j < j' := by omega
      have := hm_mono (a := j) hn (j' - j - 1) (by omega)
      rw [show j + (j' - j - 1) + 1 = j' by omega, e] at this
      have := (h2 j (by omega)).mp this
      omega
  subst e1
  refine ⟨rfl, by omega, fun i hi => ?_⟩
  have a2 := h2 i hi
  by_cases c : i = j'
  · subst c; omega
  · constructor
    · intro z
      by_cases q : hm_at n i = v
      · by_cases y : i < j'
        · omega
        · have := hm_mono (a := j') hn (i - j' - 1) (by omega)
          rw [show j' + (i - j' - 1) + 1 = i by omega] at this
          omega
      · have := a2.mp (by omega)
        omega
    · intro z
      have := a2.mpr (by omega)
      omega
theorem hm_ix_out {n v j : Nat} (h : hm_ix n v j) (e : ∀ j', j' < hm_len n → hm_at n j' ≠ v) : hm_ix n (v + 1) j := by
  refine ⟨h.1, fun j' hj' => ?_⟩
  have := h.2 j' hj'
  have := e j' hj'
  omega
theorem hm_ix_end {n v j : Nat} (hn : 2 ≤ n ∧ n ≤ 4) (h : hm_ix n v j) (hv : hm_last n < v) : j = hm_len n := by
  have hl := hm_len_b hn
  have hb := (hm_b13 ⟨n, by omega⟩ hn.1).2.1
  by_cases c : j = hm_len n
  · exact c
  · exfalso
    have hj : j < hm_len n := by have := h.1; omega
    have := hb ⟨j, by omega⟩ hj
    simp only at this
    have := (h.2 j hj).mp (by omega)
    omega
section RD
variable {G : hk_G} {h h' : hk_H} {n m w rc th : Nat} {P : Nat → Nat → Nat} {c : Nat → Nat → Int32} {d : Nat}
theorem hN.o (N : hN h n m w rc th P c) : hBo h n m w rc th := N.1
theorem hN.at (N : hN h n m w rc th P c) {x : Nat} (hx : x < 5) : h.2 (58 + x) = some (hc_i32 4 (c x)) := N.2.2.1 x hx
theorem hN.ok (N : hN h n m w rc th P c) : hm_ok n P := N.2.2.2.1
theorem hN.nn (N : hN h n m w rc th P c) : 2 ≤ n ∧ n ≤ 4 := N.2.2.2.2
theorem hN.set (N : hN h n m w rc th P c) {x : Nat} (hx : x < 5) {f : Nat → Int32} : hN (hk_set h (58 + x) (hc_i32 4 f)) n m w rc th P (hm_c c x f) := by
  obtain ⟨m1, ⟨tf, m3, m3'⟩, m5, m6, m7⟩ := N
  refine ⟨(hk_set_ne (by omega)).trans m1, ⟨tf, (hk_set_ne (by omega)).trans m3, m3'⟩, fun y hy => ?_, m6, m7⟩
  unfold hm_c
  by_cases e : y = x
  · subst e; rw [if_pos rfl]; exact hk_set_eq
  · rw [if_neg e, hk_set_ne (by omega)]; exact m5 y hy
theorem hm_c_c {x : Nat} {f g : Nat → Int32} : hm_c (hm_c c x f) x g = hm_c c x g := funext fun y => by unfold hm_c; split <;> rfl
theorem hm_c_id {x : Nat} : hm_c c x (c x) = c := funext fun y => by
  unfold hm_c
  by_cases e : y = x
  · rw [if_pos e, e]
  · rw [if_neg e]
theorem r_digits (N : hN h n m w rc th P c) {x : Int32} {y : Nat} (hy : y < 5) {K : Int32 → hk_H → Prop} (hk1 : ∀ h' f j, j < hm_len n → x = hI (hm_at n j : Nat) → hN h' n m w rc th P (hm_c c y f) → hRf hP57 h h' → (∀ k, k < n → f k = hI (hm_dg n (hm_at n j) k : Nat)) → K 1 h') (hk0 : ∀ h' f, (∀ j, j < hm_len n → x ≠ hI (hm_at n j : Nat)) → hN h' n m w rc th P (hm_c c y f) → hRf hP57 h h' → K 0 h') : hk_Ci G m_X10_digits d 0 0 [.ref 43, .int x, .ref (58 + y)] h K := by
  have hn := N.nn
  refine ⟨Nat.le_of_ble_eq_true rfl, ?_⟩
  refine b_X10_digits_0 (fun z => ?_) (fun z => b_X10_digits_4 ⟨_, rfl, ?_⟩)
  · rw [Int32.le_iff_toInt_le, Int32.toInt_zero] at z
    have hxr := hI_range x
    obtain ⟨v, hv, ex⟩ : ∃ v : Nat, v < 2147483648 ∧ x = hI (v : Int) := ⟨x.toInt.toNat, by omega, by rw [show ((x.toInt.toNat : Nat) : Int) = x.toInt by omega]; exact hI_of x⟩
    subst ex
    have isv : ∀ j, j < hm_len n → hI (v : Int) = hI (hm_at n j : Nat) → v = hm_at n j := fun j hj e => by
      have := (hm_at_ok hn hj).2.1
      rwa [hN_eq (by omega) (by omega)] at e
    refine b_X10_digits_6 N.o rfl ?_
    have e0 : hI (n : Int) - 1 = hI ((n : Int) - 1 - (0 : Nat)) := by
      rw [show (1 : Int32) = hI 1 from rfl, hI_sub]
      congr 1
      omega
    rw [e0]
    have e1 : hI (v : Int) = hI ((v / 10 ^ 0 : Nat) : Int) := by rw [Nat.pow_zero, Nat.div_one]
    have key : hk_S G m_X10_digits d 0 0 19 [some (.ref 43), some (.int (hI v)), some (.ref (58 + y)), some (.int (hI ((v / 10 ^ 0 : Nat) : Int))), some (.int (hI ((0 : Nat) : Int))), some (.int (hI ((n : Int) - 1 - (0 : Nat))))] [] h (fun o h' => ∃ x, o = .inl (some (.int x)) ∧ K x h') := by
      refine hk_upto (P := fun q => ∀ h' f (M : Nat), M < 16 → hN h' n m w rc th P (hm_c c y f) → hRf hP57 h h' → (∀ k, k < n → n - q ≤ k → f k = hI (hm_dg n v k : Nat) ∧ hm_dg n v k < n) → (∀ z, z < 4 → (hh_mem M z = true ↔ ∃ k, n - q ≤ k ∧ k < n ∧ hm_dg n v k = z)) → (∀ k k', n - q ≤ k → k < n → n - q ≤ k' → k' < n → hm_dg n v k = hm_dg n v k' → k = k') → hk_S G m_X10_digits d 0 0 19 [some (.ref 43), some (.int (hI v)), some (.ref (58 + y)), some (.int (hI ((v / 10 ^ q : Nat) : Int))), some (.int (hI (M : Int))), some (.int (hI ((n : Int) - 1 - (q : Nat))))] [] h' (fun o h' => ∃ x, o = .inl (some (.int x)) ∧ K x h')) n (fun q hq ih h' f M hM16 N' F' D' M' I' => ?_) h (c y) 0 (by omega) (by rw [hm_c_id]; exact N) hRf.rf (fun k h1 h2 => by omega) (fun z hz => ⟨fun q => by simp [hh_mem] at q, fun ⟨k, h1, h2, _⟩ => by omega⟩) (fun k k' h1 h2 => by omega)
      refine b_X10_digits_19 (fun cc => ?_) (fun cc => ?_)
      · rw [hI_lt0 (by omega)] at cc
        have eq : q = n := by omega
        subst eq
        have hle : v / 10 ^ q ≤ v := Nat.div_le_self _ _
        refine b_X10_digits_80 (fun c2 => ?_) (fun c2 => ?_)
        · rw [show (0 : Int32) = hI ((0 : Nat) : Int) from rfl, hN_eq (by omega) (by omega)] at c2
          refine b_X10_digits_88 ⟨_, rfl, hk0 h' f (fun j hj e => ?_) N' F'⟩
          have e2 := isv j hj e
          obtain ⟨p1, p2, p3⟩ := hm_at_ok hn hj
          have := hm_cd_lt (d := hm_dg q (hm_at q j)) q (fun i hi => by have := p1.1 i hi; omega)
          rw [p3, ← e2] at this
          exact c2 (Nat.div_eq_of_lt this)
        · rw [show (0 : Int32) = hI ((0 : Nat) : Int) from rfl, hN_eq (by omega) (by omega)] at c2
          have hlt : v < 10 ^ q := by
            rcases Nat.div_eq_zero_iff.mp c2 with z | z
            · have : 0 < 10 ^ q := Nat.pow_pos (by omega)
              omega
            · exact z
          have hp : hm_perm q (hm_dg q v) := ⟨fun k hk => (D' k hk (by omega)).2, fun k k' h1 h2 e => I' k k' (by omega) h1 (by omega) h2 e⟩
          obtain ⟨j, hj, ej⟩ := hm_in hn hp
          rw [hm_cd_dg q v hlt] at ej
          exact b_X10_digits_84 ⟨_, rfl, hk1 h' f j hj (by rw [ej]) N' F' fun k hk => by rw [ej]; exact (D' k hk (by omega)).1⟩
      · rw [hI_lt0 (by omega)] at cc
        have hqn : q < n := by omega
        have a1 := N'.at hy
        rw [hm_c_eq] at a1
        have hle : v / 10 ^ q ≤ v := Nat.div_le_self _ _
        have e3 : hI ((v / 10 ^ q : Nat) : Int) - hI ((v / 10 ^ q : Nat) : Int) / 10 * 10 = hI ((hm_dg n v (n - 1 - q) : Nat) : Int) := by
          rw [show (10 : Int32) = hI ((10 : Nat) : Int) from rfl, hI_modN (by omega) (by omega) (by omega)]
          unfold hm_dg
          rw [show n - 1 - (n - 1 - q) = q by omega]
        have N2 := N'.set hy (f := upd f (n - 1 - q) (hI ((hm_dg n v (n - 1 - q) : Nat) : Int)))
        rw [hm_c_c] at N2
        have F2 : hRf hP57 h _ := F'.set (a := 58 + y) (c := hc_i32 4 (upd f (n - 1 - q) (hI ((hm_dg n v (n - 1 - q) : Nat) : Int)))) (by unfold hP57; omega)
        have a2 := N2.at hy
        rw [hm_c_eq] at a2
        have hd10 : hm_dg n v (n - 1 - q) < 10 := Nat.mod_lt _ (by omega)
        have eu : upd f (n - 1 - q) (hI ((hm_dg n v (n - 1 - q) : Nat) : Int)) (n - 1 - q) = hI ((hm_dg n v (n - 1 - q) : Nat) : Int) := by unfold upd; rw [if_pos rfl]
        have hat : (hI ((n : Int) - 1 - (q : Nat))).toInt = ((n - 1 - q : Nat) : Int) := hI_at (by omega) (by omega)
        refine b_X10_digits_24 a1 (by omega) (n - 1 - q) hat (by omega) (by rw [e3]) a2 (by omega) N2.o rfl (fun c2 => ?_) (fun c2 => ?_)
        · rw [eu, hN_le (by omega) (by omega)] at c2
          refine b_X10_digits_56 ⟨_, rfl, hk0 _ _ (fun j hj e => ?_) N2 F2⟩
          have e2 := isv j hj e
          have := (hm_at_ok hn hj).1.1 (n - 1 - q) (by omega)
          rw [← e2] at this
          omega
        · rw [eu, hN_le (by omega) (by omega)] at c2
          refine b_X10_digits_43 a2 (n - 1 - q) hat (by omega) (fun c3 => ?_) (fun c3 => ?_)
          · rw [eu] at c3
            have c3 := mt (hh_bit' hM16 (by omega)).mpr c3
            have c3' := c3
            rw [Bool.not_eq_true] at c3
            obtain ⟨o1, o2, o3⟩ := hm_or ⟨M, hM16⟩ ⟨hm_dg n v (n - 1 - q), by omega⟩ c3
            simp only at o1 o2 o3
            refine b_X10_digits_58 a2 (n - 1 - q) hat (by omega) ?_
            have e4 : hI ((v / 10 ^ q : Nat) : Int) / 10 = hI ((v / 10 ^ (q + 1) : Nat) : Int) := by
              rw [show (10 : Int32) = hI ((10 : Nat) : Int) from rfl, hI_divN (by omega) (by omega) (by omega), Nat.div_div_eq_div_mul, ← Nat.pow_succ]
            have e5 : hI ((n : Int) - 1 - (q : Nat)) + (-1) = hI ((n : Int) - 1 - ((q + 1 : Nat) : Nat)) := by
              rw [show (-1 : Int32) = hI (-1) from rfl, hI_add]
              congr 1
              omega
            rw [eu, o1, e4, e5]
            refine ih hqn _ _ _ o2 N2 F2 (fun k h1 h2 => ?_) (fun z hz => ?_) (fun k k' h1 h2 h3 h4 e => ?_)
            · unfold upd
              by_cases e : k = n - 1 - q
              · rw [if_pos e, e]; exact ⟨rfl, by omega⟩
              · rw [if_neg e]; exact D' k h1 (by omega)
            · have := o3 ⟨z, hz⟩
              simp only at this
              rw [this, Bool.or_eq_true, M' z hz]
              constructor
              · rintro (⟨k, k1, k2, k3⟩ | e)
                · exact ⟨k, by omega, k2, k3⟩
                · have e := congrArg Fin.val (eq_of_beq e)
                  simp only at e
                  exact ⟨n - 1 - q, by omega, by omega, e.symm⟩
              · rintro ⟨k, k1, k2, k3⟩
                by_cases e : k = n - 1 - q
                · right
                  subst e
                  simp only [k3, beq_self_eq_true]
                · exact Or.inl ⟨k, by omega, k2, k3⟩
            · by_cases y1 : k = n - 1 - q
              · by_cases y2 : k' = n - 1 - q
                · omega
                · exfalso
                  refine c3' ((M' _ (by omega)).mpr ⟨k', by omega, h4, ?_⟩)
                  rw [← e, y1]
              · by_cases y2 : k' = n - 1 - q
                · exfalso
                  refine c3' ((M' _ (by omega)).mpr ⟨k, by omega, h2, ?_⟩)
                  rw [e, y2]
                · exact I' k k' (by omega) h2 (by omega) h4 e
          · rw [eu] at c3
            have c3 := (hh_bit' hM16 (by omega)).mp c3
            refine b_X10_digits_56 ⟨_, rfl, hk0 _ _ (fun j hj e => ?_) N2 F2⟩
            have e2 := isv j hj e
            obtain ⟨k, k1, k2, k3⟩ := (M' _ (by omega)).mp c3
            have := (hm_at_ok hn hj).1.2 k (n - 1 - q) k2 (by omega)
            rw [← e2] at this
            have := this k3
            omega
    rw [← e1] at key
    exact key
  · rw [Int32.le_iff_toInt_le, Int32.toInt_zero] at z
    refine hk0 h (c y) (fun j hj e => ?_) (by rw [hm_c_id]; exact N) hRf.rf
    have := (hm_at_ok hn hj).2.1
    rw [e, hI_toInt (hI_rN (by omega))] at z
    omega
theorem r_digitsN (N : hN h n m w rc th P c) {v j y : Nat} (hv : v ≤ 4000) (J : hm_ix n v j) (hy : y < 5) {K : Int32 → hk_H → Prop} (hk1 : ∀ h' f, j < hm_len n → hm_at n j = v → hm_ix n (v + 1) (j + 1) → hN h' n m w rc th P (hm_c c y f) → hRf hP57 h h' → (∀ k, k < n → f k = hI (hm_dg n (hm_at n j) k : Nat)) → K 1 h') (hk0 : ∀ h' f, hm_ix n (v + 1) j → hN h' n m w rc th P (hm_c c y f) → hRf hP57 h h' → K 0 h') : hk_Ci G m_X10_digits d 0 0 [.ref 43, .int (hI v), .ref (58 + y)] h K := by
  have hn := N.nn
  refine r_digits N hy (fun h' f j' hj' e N' F' D' => ?_) (fun h' f no N' F' => ?_)
  · have hb := (hm_at_ok hn hj').2.1
    rw [hN_eq (by omega) (by omega)] at e
    obtain ⟨e1, e2⟩ := hm_ix_in hn J hj' e.symm
    subst e1
    exact hk1 h' f hj' e.symm e2 N' F' D'
  · exact hk0 h' f (hm_ix_out J fun j' hj' e => no j' hj' (by rw [e])) N' F'
theorem r_last (N : hN h n m w rc th P c) {K : Int32 → hk_H → Prop} (hk : K (hI (hm_last n : Nat)) h) : hk_Ci G m_X10_last d 0 0 [.ref 43] h K := by
  have hn := N.nn
  refine ⟨Nat.le_of_ble_eq_true rfl, ?_⟩
  refine b_X10_last_0 ?_
  refine hk_upto (P := fun k => hk_S G m_X10_last d 0 0 4 [some (.ref 43), some (.int (hI (hm_cd (fun _ => n - 1) k : Nat))), some (.int (hI (k : Int)))] [] h (fun o h' => ∃ x, o = .inl (some (.int x)) ∧ K x h')) n (fun k hk1 ih => ?_)
  refine b_X10_last_4 N.o rfl (fun cc => ?_) (fun cc => ?_)
  · rw [hN_le (by omega) (by omega)] at cc
    have e : k = n := by omega
    subst e
    exact b_X10_last_30 ⟨_, rfl, hk⟩
  · rw [hN_le (by omega) (by omega)] at cc
    refine b_X10_last_12 N.o rfl ?_
    have e : 10 * hI ((hm_cd (fun _ => n - 1) k : Nat) : Int) + hI (n : Int) - 1 = hI ((hm_cd (fun _ => n - 1) (k + 1) : Nat) : Int) := by
      rw [show (10 : Int32) = hI 10 from rfl, show (1 : Int32) = hI 1 from rfl, hI_mul, hI_add, hI_sub]
      congr 1
      show _ = ((hm_cd (fun _ => n - 1) k * 10 + (n - 1) : Nat) : Int)
      omega
    rw [e, hI_1]
    exact ih (by omega)
theorem r_code (N : hN h n m w rc th P c) {x : Nat} (hx : x < 5) {t : Nat → Nat} (ht : ∀ k, k < n → c x k = hI (t k : Nat)) {K : Int32 → hk_H → Prop} (hk : K (hI (hm_cd t n : Nat)) h) : hk_Ci G m_X10_code d 0 0 [.ref 43, .ref (58 + x)] h K := by
  have hn := N.nn
  refine ⟨Nat.le_of_ble_eq_true rfl, ?_⟩
  refine b_X10_code_0 ?_
  refine hk_upto (P := fun k => hk_S G m_X10_code d 0 0 4 [some (.ref 43), some (.ref (58 + x)), some (.int (hI (hm_cd t k : Nat))), some (.int (hI (k : Int)))] [] h (fun o h' => ∃ x, o = .inl (some (.int x)) ∧ K x h')) n (fun k hk1 ih => ?_)
  refine b_X10_code_4 N.o rfl (fun cc => ?_) (fun cc => ?_)
  · rw [hN_le (by omega) (by omega)] at cc
    have e : k = n := by omega
    subst e
    exact b_X10_code_27 ⟨_, rfl, hk⟩
  · rw [hN_le (by omega) (by omega)] at cc
    refine b_X10_code_12 (N.at hx) k (hI_at rfl (by omega)) (by omega) ?_
    have e : 10 * hI ((hm_cd t k : Nat) : Int) + c x k = hI ((hm_cd t (k + 1) : Nat) : Int) := by
      rw [ht k (by omega), show (10 : Int32) = hI 10 from rfl, hI_mul, hI_add]
      congr 1
      show _ = ((hm_cd t k * 10 + t k : Nat) : Int)
      omega
    rw [e, hI_1]
    exact ih (by omega)
theorem r_place (N : hN h n m w rc th P c) {i x : Nat} (hi : i < n) (hx : x < n) {K : Int32 → hk_H → Prop} (hk : K (hI (hm_pl n P i x : Nat)) h) : hk_Ci G m_X10_place d 0 0 [.ref 43, .int (hI i), .int (hI x)] h K := by
  have hn := N.nn
  have hp := N.ok i hi
  obtain ⟨h1, h2⟩ := hm_pl_lt hn.2 hp hx
  obtain ⟨tf, t1, t2⟩ := N.2.1
  refine ⟨Nat.le_of_ble_eq_true rfl, ?_⟩
  refine b_X10_place_0 ?_
  refine hk_upto (P := fun a => hk_S G m_X10_place d 0 0 2 [some (.ref 43), some (.int (hI i)), some (.int (hI x)), some (.int (hI (a : Int)))] [] h (fun o h' => ∃ x, o = .inl (some (.int x)) ∧ K x h')) (hm_pl n P i x) (fun a ha ih => ?_)
  refine b_X10_place_2 N.o rfl t1 (4 * i + a) (hI_ji (q := 4) (by omega)) (by omega) (fun cc => ?_) (fun cc => ?_)
  · rw [t2 i a hi (by omega)] at cc
    have := hp.1 a (by omega)
    rw [hN_eq (by omega) (by omega)] at cc
    have e : a = hm_pl n P i x := hp.2 a _ (by omega) h1 (by rw [h2, cc])
    rw [← e] at hk
    exact b_X10_place_22 ⟨_, rfl, hk⟩
  · rw [t2 i a hi (by omega)] at cc
    have := hp.1 a (by omega)
    rw [hN_eq (by omega) (by omega)] at cc
    refine b_X10_place_16 ?_
    rw [hI_1]
    refine ih ?_
    by_cases e : a = hm_pl n P i x
    · rw [e] at cc; exact absurd h2 cc
    · omega
theorem hm_best_ix {i g a : Nat} (hn : n ≤ 4) (hp : hm_perm n (P i)) {x : Nat} (hx : x < n) (hg : hh_mem g x = true) (ha : ∀ a', a' < a → hh_mem g (P i a') = false) (han : a ≤ n) : a < n ∧ hm_bf P i g (n - a) a = hm_best n P i g := by
  obtain ⟨k, hk, e⟩ := hm_surj hn hp hx
  have : a ≤ k := by
    by_cases c : a ≤ k
    · exact c
    · have := ha k (by omega)
      rw [e, hg] at this
      cases this
  refine ⟨by omega, ?_⟩
  have key : ∀ b, b ≤ a → hm_bf P i g (n - b) b = hm_best n P i g := by
    intro b
    induction b with
    | zero => intro _; rfl
    | succ b ih =>
      intro hb
      rw [← ih (by omega), hm_bf_step (show b < n by omega), if_neg (by rw [ha b (by omega)]; decide)]
  exact key a (Nat.le_refl _)
theorem r_best (N : hN h n m w rc th P c) {i g x : Nat} (hi : i < n) (hg : g < 16) (hx : x < n) (hgx : hh_mem g x = true) {K : Int32 → hk_H → Prop} (hk : K (hI (hm_best n P i g : Nat)) h) : hk_Ci G m_X10_best d 0 0 [.ref 43, .int (hI i), .int (hI g)] h K := by
  have hn := N.nn
  have hp := N.ok i hi
  obtain ⟨tf, t1, t2⟩ := N.2.1
  refine ⟨Nat.le_of_ble_eq_true rfl, ?_⟩
  refine b_X10_best_0 ?_
  refine hk_upto (P := fun a => (∀ a', a' < a → hh_mem g (P i a') = false) → hk_S G m_X10_best d 0 0 2 [some (.ref 43), some (.int (hI i)), some (.int (hI g)), some (.int (hI (a : Int)))] [] h (fun o h' => ∃ x, o = .inl (some (.int x)) ∧ K x h')) n (fun a ha ih A => ?_) (fun a' ha' => by omega)
  obtain ⟨han, eb⟩ := hm_best_ix hn.2 hp hx hgx A ha
  have hpa := hp.1 a han
  have hbit := hd_bit ⟨g, by omega⟩ ⟨P i a, by omega⟩
  simp only at hbit
  rw [hm_bf_step han] at eb
  refine b_X10_best_2 N.o rfl t1 (4 * i + a) (hI_ji (q := 4) (by omega)) (by omega) (fun c2 => ?_) (fun c2 => ?_)
  · rw [t2 i a hi han] at c2
    have c2 := mt hbit.mpr c2
    rw [Bool.not_eq_false] at c2
    rw [if_pos c2] at eb
    refine b_X10_best_25 N.o rfl t1 (4 * i + a) (hI_ji (q := 4) (by omega)) (by omega) ⟨_, rfl, ?_⟩
    rw [t2 i a hi han, eb]
    exact hk
  · rw [t2 i a hi han] at c2
    have c2 := hbit.mp c2
    refine b_X10_best_19 ?_
    rw [hI_1]
    refine ih han fun a' ha' => ?_
    by_cases e : a' = a
    · rw [e]; exact c2
    · exact A a' (by omega)
end RD
