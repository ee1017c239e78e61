/-! Things, orders and trades. -/
def hm_list (n : Nat) : List Nat := if n = 2 then [1, 10] else if n = 3 then [12, 21, 102, 120, 201, 210] else [123, 132, 213, 231, 312, 321, 1023, 1032, 1203, 1230, 1302, 1320, 2013, 2031, 2103, 2130, 2301, 2310, 3012, 3021, 3102, 3120, 3201, 3210]
def hm_len (n : Nat) : Nat := (hm_list n).length
def hm_at (n j : Nat) : Nat := (hm_list n).getD j 0
def hm_dg (n v k : Nat) : Nat := v / 10 ^ (n - 1 - k) % 10
/-- a number of digits -/
def hm_cd (d : Nat → Nat) : Nat → Nat
  | 0 => 0
  | k + 1 => hm_cd d k * 10 + d k
def hm_perm (n : Nat) (d : Nat → Nat) : Prop := (∀ k, k < n → d k < n) ∧ (∀ k k', k < n → k' < n → d k = d k' → k = k')
def hm_ok (n : Nat) (P : Nat → Nat → Nat) : Prop := ∀ i, i < n → hm_perm n (P i)
theorem hm_b1 : ∀ n : Fin 5, 2 ≤ n.val → ∀ j : Fin 24, j.val < hm_len n → (∀ k : Fin 4, k.val < n.val → hm_dg n (hm_at n j) k < n) ∧ (∀ k k' : Fin 4, k.val < n.val → k'.val < n.val → hm_dg n (hm_at n j) k = hm_dg n (hm_at n j) k' → k = k') ∧ hm_at n j ≤ 3210 ∧ hm_cd (hm_dg n (hm_at n j)) n = hm_at n j := by decide +kernel
theorem hm_b2 : ∀ n : Fin 5, 2 ≤ n.val → 1 ≤ hm_len n ∧ hm_len n ≤ 24 := by decide +kernel
theorem hm_at_ok {n j : Nat} (hn : 2 ≤ n ∧ n ≤ 4) (hj : j < hm_len n) : hm_perm n (hm_dg n (hm_at n j)) ∧ hm_at n j ≤ 3210 ∧ hm_cd (hm_dg n (hm_at n j)) n = hm_at n j := by
  have hl := (hm_b2 ⟨n, by omega⟩ hn.1).2
  simp only at hl
  obtain ⟨h1, h2, h3, h4⟩ := hm_b1 ⟨n, by omega⟩ hn.1 ⟨j, by omega⟩ hj
  simp only at h1 h2 h3 h4
  refine ⟨⟨fun k hk => h1 ⟨k, by omega⟩ hk, fun k k' hk hk' e => ?_⟩, h3, h4⟩
  exact congrArg Fin.val (h2 ⟨k, by omega⟩ ⟨k', by omega⟩ hk hk' e)
theorem hm_cd_lt {d : Nat → Nat} : ∀ k, (∀ i, i < k → d i < 10) → hm_cd d k < 10 ^ k := by
  intro k
  induction k with
  | zero => intro _; exact Nat.zero_lt_one
  | succ k ih =>
    intro h
    have h1 := ih (fun i hi => h i (by omega))
    have h2 := h k (by omega)
    unfold hm_cd
    rw [Nat.pow_succ]
    omega
theorem hm_cd_congr {d d' : Nat → Nat} : ∀ k, (∀ i, i < k → d i = d' i) → hm_cd d k = hm_cd d' k := by
  intro k
  induction k with
  | zero => intro _; rfl
  | succ k ih =>
    intro h
    unfold hm_cd
    rw [ih (fun i hi => h i (by omega)), h k (by omega)]
theorem hm_dg_cd {d : Nat → Nat} : ∀ n, (∀ i, i < n → d i < 10) → ∀ k, k < n → hm_dg n (hm_cd d n) k = d k := by
  intro n
  induction n with
  | zero => intro _ k hk; omega
  | succ n ih =>
    intro h k hk
    unfold hm_dg hm_cd
    have hd := h n (by omega)
    by_cases e : k = n
    · subst e
      rw [show k + 1 - 1 - k = 0 by omega, Nat.pow_zero, Nat.div_one]
      omega
    · have := ih (fun i hi => h i (by omega)) k (by omega)
      unfold hm_dg at this
      rw [← this, show n + 1 - 1 - k = (n - 1 - k) + 1 by omega, Nat.pow_succ, Nat.mul_comm (10 ^ (n - 1 - k)) 10, ← Nat.div_div_eq_div_mul, show (hm_cd d n * 10 + d n) / 10 = hm_cd d n by omega]
/-- the place of a thing -/
def hm_plf (P : Nat → Nat → Nat) (i x : Nat) : Nat → Nat → Nat
  | 0, k => k
  | c + 1, k => if P i k = x then k else hm_plf P i x c (k + 1)
def hm_pl (n : Nat) (P : Nat → Nat → Nat) (i x : Nat) : Nat := hm_plf P i x n 0
theorem hm_plf_is {n : Nat} {P : Nat → Nat → Nat} {i : Nat} (h : hm_perm n (P i)) {k : Nat} (hk : k < n) : ∀ c a, a + c = n → a ≤ k → hm_plf P i (P i k) c a = k := by
  intro c
  induction c with
  | zero => intro a h1 h2; omega
  | succ c ih =>
    intro a h1 h2
    unfold hm_plf
    by_cases e : P i a = P i k
    · rw [if_pos e]
      exact h.2 a k (by omega) hk e
    · rw [if_neg e]
      refine ih (a + 1) (by omega) ?_
      by_cases q : a = k
      · subst q; exact absurd rfl e
      · omega
theorem hm_pl_is {n : Nat} {P : Nat → Nat → Nat} {i : Nat} (h : hm_perm n (P i)) {k : Nat} (hk : k < n) : hm_pl n P i (P i k) = k := hm_plf_is h hk n 0 (by omega) (by omega)
def hm_f4 (a b c d : Nat) (x : Nat) : Nat := if x = 0 then a else if x = 1 then b else if x = 2 then c else d
theorem hm_f4_is {n : Nat} (hn : n ≤ 4) (p : Nat → Nat) (hp : ∀ x, x < n → p x < n) : ∀ x, x < n → hm_f4 (if 0 < n then p 0 else 0) (if 1 < n then p 1 else 0) (if 2 < n then p 2 else 0) (if 3 < n then p 3 else 0) x = p x := by
  intro x hx
  have : x = 0 ∨ x = 1 ∨ x = 2 ∨ x = 3 := by omega
  rcases this with e | e | e | e <;> subst e <;> simp [hm_f4, hx]
def hm_4 (n : Nat) (p : Nat → Bool) : Bool := (p 0 || decide (n ≤ 0)) && (p 1 || decide (n ≤ 1)) && (p 2 || decide (n ≤ 2)) && (p 3 || decide (n ≤ 3))
def hm_e (n : Nat) (p : Nat → Bool) : Bool := (p 0 && decide (0 < n)) || (p 1 && decide (1 < n)) || (p 2 && decide (2 < n)) || (p 3 && decide (3 < n))
theorem hm_4_is {n : Nat} (hn : n ≤ 4) {p : Nat → Bool} : hm_4 n p = true ↔ ∀ x, x < n → p x = true := by
  unfold hm_4
  simp only [Bool.and_eq_true, Bool.or_eq_true, decide_eq_true_eq]
  constructor
  · intro h x hx
    have : x = 0 ∨ x = 1 ∨ x = 2 ∨ x = 3 := by omega
    rcases this with e | e | e | e <;> subst e
    · rcases h.1.1.1 with c | c; exact c; omega
    · rcases h.1.1.2 with c | c; exact c; omega
    · rcases h.1.2 with c | c; exact c; omega
    · rcases h.2 with c | c; exact c; omega
  · intro h
    have key : ∀ x, p x = true ∨ n ≤ x := fun x => by
      by_cases c : x < n
      · exact Or.inl (h x c)
      · exact Or.inr (by omega)
    exact ⟨⟨⟨key 0, key 1⟩, key 2⟩, key 3⟩
theorem hm_e_is {n : Nat} {p : Nat → Bool} (h : hm_e n p = true) : ∃ x, x < n ∧ p x = true := by
  unfold hm_e at h
  simp only [Bool.and_eq_true, Bool.or_eq_true, decide_eq_true_eq] at h
  rcases h with ((h | h) | h) | h
  · exact ⟨0, h.2, h.1⟩
  · exact ⟨1, h.2, h.1⟩
  · exact ⟨2, h.2, h.1⟩
  · exact ⟨3, h.2, h.1⟩
theorem hm_b0 : ∀ n : Fin 5, ∀ a b c d : Fin 4, ∀ x : Fin 4, (!(hm_4 n (fun k => decide (hm_f4 a b c d k < n.val)) && hm_4 n (fun k => hm_4 n (fun k' => !(hm_f4 a b c d k == hm_f4 a b c d k') || k == k'))) || decide (n.val ≤ x.val) || hm_e n (fun k => hm_f4 a b c d k == x.val)) = true := by decide +kernel
theorem hm_surj {n : Nat} (hn : n ≤ 4) {d : Nat → Nat} (h : hm_perm n d) {x : Nat} (hx : x < n) : ∃ k, k < n ∧ d k = x := by
  obtain ⟨h1, h2⟩ := h
  have e := hm_f4_is hn d h1
  have q0 : (if 0 < n then d 0 else 0) < 4 := by split; have := h1 0 (by omega); omega; omega
  have q1 : (if 1 < n then d 1 else 0) < 4 := by split; have := h1 1 (by omega); omega; omega
  have q2 : (if 2 < n then d 2 else 0) < 4 := by split; have := h1 2 (by omega); omega; omega
  have q3 : (if 3 < n then d 3 else 0) < 4 := by split; have := h1 3 (by omega); omega; omega
  have hb := hm_b0 ⟨n, by omega⟩ ⟨_, q0⟩ ⟨_, q1⟩ ⟨_, q2⟩ ⟨_, q3⟩ ⟨x, by omega⟩
  simp only at hb
  rw [(hm_4_is hn).mpr (fun k hk => by rw [e k hk]; exact decide_eq_true (h1 k hk)), (hm_4_is hn).mpr (fun k hk => (hm_4_is hn).mpr (fun k' hk' => by
    rw [e k hk, e k' hk']
    by_cases c : d k = d k'
    · rw [h2 k k' hk hk' c]; simp
    · rw [show (d k == d k') = false by rw [beq_eq_false_iff_ne]; exact c]; rfl)), decide_eq_false (by omega)] at hb
  obtain ⟨k, hk, ek⟩ := hm_e_is (by simpa using hb)
  rw [e k hk] at ek
  exact ⟨k, hk, eq_of_beq ek⟩
theorem hm_pl_lt {n : Nat} (hn : n ≤ 4) {P : Nat → Nat → Nat} {i : Nat} (h : hm_perm n (P i)) {x : Nat} (hx : x < n) : hm_pl n P i x < n ∧ P i (hm_pl n P i x) = x := by
  obtain ⟨k, hk, e⟩ := hm_surj hn h hx
  rw [← e, hm_pl_is h hk]
  exact ⟨hk, rfl⟩
/-- the best of what is left -/
def hm_bf (P : Nat → Nat → Nat) (i g : Nat) : Nat → Nat → Nat
  | 0, _ => 0
  | c + 1, k => if hh_mem g (P i k) = true then P i k else hm_bf P i g c (k + 1)
def hm_best (n : Nat) (P : Nat → Nat → Nat) (i g : Nat) : Nat := hm_bf P i g n 0
theorem hm_bf_lt {n : Nat} {P : Nat → Nat → Nat} {i g : Nat} (h : ∀ k, k < n → P i k < n) (hn : 1 ≤ n) : ∀ c a, a + c = n → hm_bf P i g c a < n := by
  intro c
  induction c with
  | zero => intro a h1; exact hn
  | succ c ih =>
    intro a h1
    unfold hm_bf
    split
    · exact h a (by omega)
    · exact ih (a + 1) (by omega)
theorem hm_bf_mem {P : Nat → Nat → Nat} {i g : Nat} : ∀ c a, (∃ k, a ≤ k ∧ k < a + c ∧ hh_mem g (P i k) = true) → hh_mem g (hm_bf P i g c a) = true := by
  intro c
  induction c with
  | zero => rintro a ⟨k, h1, h2, _⟩; omega
  | succ c ih =>
    rintro a ⟨k, h1, h2, h3⟩
    unfold hm_bf
    split
    · rename_i e; exact e
    · rename_i e
      refine ih (a + 1) ⟨k, ?_, by omega, h3⟩
      by_cases q : k = a
      · subst q; exact absurd h3 e
      · omega
theorem hm_best_lt {n : Nat} {P : Nat → Nat → Nat} {i g : Nat} (hn : 1 ≤ n) (h : hm_perm n (P i)) : hm_best n P i g < n := hm_bf_lt h.1 hn n 0 (by omega)
theorem hm_best_mem {n : Nat} (hn : n ≤ 4) {P : Nat → Nat → Nat} {i g x : Nat} (h : hm_perm n (P i)) (hx : x < n) (hg : hh_mem g x = true) : hh_mem g (hm_best n P i g) = true := by
  obtain ⟨k, hk, e⟩ := hm_surj hn h hx
  exact hm_bf_mem n 0 ⟨k, by omega, by omega, by rw [e]; exact hg⟩
/-- who stands on a ring -/
def hm_ch (p : Nat → Nat) (i : Nat) : Nat → Nat → Nat
  | 0, a => a
  | c + 1, a => if a = i then a else hm_ch p i c (p a)
def hm_on (n : Nat) (p : Nat → Nat) (i : Nat) : Bool := hm_ch p i (n - 1) (p i) == i
theorem hm_ch_congr {n : Nat} {p q : Nat → Nat} (h1 : ∀ x, x < n → p x < n) (h2 : ∀ x, x < n → p x = q x) (i : Nat) : ∀ c a, a < n → hm_ch p i c a = hm_ch q i c a := by
  intro c
  induction c with
  | zero => intro a _; rfl
  | succ c ih =>
    intro a ha
    unfold hm_ch
    rw [← h2 a ha, ih (p a) (h1 a ha)]
theorem hm_ch_lt {n : Nat} {p : Nat → Nat} (h1 : ∀ x, x < n → p x < n) (i : Nat) : ∀ c a, a < n → hm_ch p i c a < n := by
  intro c
  induction c with
  | zero => intro a h; exact h
  | succ c ih =>
    intro a h
    unfold hm_ch
    split
    · exact h
    · exact ih _ (h1 a h)
theorem hm_b3 : ∀ n : Fin 5, 2 ≤ n.val → ∀ a b c d : Fin 4, (∀ x : Fin 4, x.val < n.val → hm_f4 a b c d x < n) → ∀ i : Fin 4, i.val < n.val → (hm_ch (hm_f4 a b c d) i n (hm_f4 a b c d i) == i.val) = (hm_ch (hm_f4 a b c d) i (n - 1) (hm_f4 a b c d i) == i.val) := by decide +kernel
theorem hm_b4 : ∀ n : Fin 5, ∀ a b c d : Fin 4, ∀ g : Fin 16, (decide (n.val < 2) || !(hm_4 n (fun k => decide (hm_f4 a b c d k < n.val)) && decide (g.val < 2 ^ n.val) && !(g.val == 0) && hm_4 n (fun i => !(hh_mem g i) || hh_mem g (hm_f4 a b c d i))) || hm_e n (fun i => hh_mem g i && hm_on n (hm_f4 a b c d) i)) = true := by decide +kernel
theorem hm_on_ref {n : Nat} (hn : 2 ≤ n ∧ n ≤ 4) {p : Nat → Nat} (hp : ∀ x, x < n → p x < n) {i : Nat} (hi : i < n) : (hm_ch p i n (p i) == i) = hm_on n p i := by
  have e := hm_f4_is hn.2 p hp
  have q0 : (if 0 < n then p 0 else 0) < 4 := by split; have := hp 0 (by omega); omega; omega
  have q1 : (if 1 < n then p 1 else 0) < 4 := by split; have := hp 1 (by omega); omega; omega
  have q2 : (if 2 < n then p 2 else 0) < 4 := by split; have := hp 2 (by omega); omega; omega
  have q3 : (if 3 < n then p 3 else 0) < 4 := by split; have := hp 3 (by omega); omega; omega
  have h := hm_b3 ⟨n, by omega⟩ hn.1 ⟨_, q0⟩ ⟨_, q1⟩ ⟨_, q2⟩ ⟨_, q3⟩ (fun x hx => by simp only; rw [e x.val hx]; exact hp x.val hx) ⟨i, by omega⟩ hi
  simp only at h
  rw [e i hi] at h
  unfold hm_on
  rw [hm_ch_congr hp (fun x hx => (e x hx).symm) i n (p i) (hp i hi), hm_ch_congr hp (fun x hx => (e x hx).symm) i (n - 1) (p i) (hp i hi)]
  exact h
theorem hm_on_congr {n : Nat} {p q : Nat → Nat} (h1 : ∀ x, x < n → p x < n) (h2 : ∀ x, x < n → p x = q x) {i : Nat} (hi : i < n) : hm_on n p i = hm_on n q i := by
  unfold hm_on
  rw [hm_ch_congr h1 h2 i (n - 1) (p i) (h1 i hi), h2 i hi]
theorem hm_on_ex {n : Nat} (hn : 2 ≤ n ∧ n ≤ 4) {p : Nat → Nat} (hp : ∀ x, x < n → p x < n) {g : Nat} (hg : g < 2 ^ n) (hg0 : g ≠ 0) (hpg : ∀ i, i < n → hh_mem g i = true → hh_mem g (p i) = true) : ∃ i, i < n ∧ hh_mem g i = true ∧ hm_on n p i = true := by
  have e := hm_f4_is hn.2 p hp
  have q0 : (if 0 < n then p 0 else 0) < 4 := by split; have := hp 0 (by omega); omega; omega
  have q1 : (if 1 < n then p 1 else 0) < 4 := by split; have := hp 1 (by omega); omega; omega
  have q2 : (if 2 < n then p 2 else 0) < 4 := by split; have := hp 2 (by omega); omega; omega
  have q3 : (if 3 < n then p 3 else 0) < 4 := by split; have := hp 3 (by omega); omega; omega
  have h16 : g < 16 := Nat.lt_of_lt_of_le hg (Nat.pow_le_pow_right (n := 2) (by omega) hn.2)
  have hb := hm_b4 ⟨n, by omega⟩ ⟨_, q0⟩ ⟨_, q1⟩ ⟨_, q2⟩ ⟨_, q3⟩ ⟨g, h16⟩
  simp only at hb
  rw [decide_eq_false (by omega), (hm_4_is hn.2).mpr (fun k hk => by rw [e k hk]; exact decide_eq_true (hp k hk)), decide_eq_true hg, show (g == 0) = false by rw [beq_eq_false_iff_ne]; exact hg0, (hm_4_is hn.2).mpr (fun i hi => by
    rw [e i hi]
    by_cases c : hh_mem g i = true
    · rw [hpg i hi c]; simp
    · rw [Bool.not_eq_true] at c; rw [c]; rfl)] at hb
  obtain ⟨i, hi, ei⟩ := hm_e_is (by simpa using hb)
  rw [Bool.and_eq_true] at ei
  refine ⟨i, hi, ei.1, ?_⟩
  rw [hm_on_congr hp (fun x hx => (e x hx).symm) hi]
  exact ei.2
/-- who stays: c people looked at -/
def hm_st (n : Nat) (P : Nat → Nat → Nat) (g : Nat) : Nat → Nat
  | 0 => g
  | c + 1 => if hh_mem g c = true ∧ hm_on n (fun x => hm_best n P x g) c = true then hm_st n P g c - 2 ^ c else hm_st n P g c
/-- what a person gets, and when: f turns left -/
def hm_rg (n : Nat) (P : Nat → Nat → Nat) : Nat → Nat → Nat → Nat → Nat × Nat
  | 0, _, _, _ => (0, 0)
  | f + 1, g, t, i => if hh_mem g i = true ∧ hm_on n (fun x => hm_best n P x g) i = true then (hm_best n P i g, t) else hm_rg n P f (hm_st n P g n) (t + 1) i
def hm_fin (n : Nat) (P : Nat → Nat → Nat) (i : Nat) : Nat × Nat := hm_rg n P n (2 ^ n - 1) 1 i
theorem hm_b5 : ∀ g : Fin 16, ∀ c : Fin 4, hh_mem g c = true → 2 ^ c.val ≤ g.val ∧ (∀ x : Fin 4, hh_mem (g.val - 2 ^ c.val) x = (hh_mem g x && !(x == c))) ∧ hh_cnt 4 (g.val - 2 ^ c.val) + 1 = hh_cnt 4 g := by decide +kernel
theorem hm_st_is {n : Nat} (hn : n ≤ 4) {P : Nat → Nat → Nat} {g : Nat} (hg : g < 16) : ∀ c, c ≤ n → hm_st n P g c ≤ g ∧ ∀ x, x < 4 → hh_mem (hm_st n P g c) x = (hh_mem g x && !(decide (x < c) && hm_on n (fun x => hm_best n P x g) x)) := by
  intro c
  induction c with
  | zero => intro _; exact ⟨Nat.le_refl _, fun x _ => by simp [hm_st]⟩
  | succ c ih =>
    intro hc
    obtain ⟨i1, i2⟩ := ih (by omega)
    unfold hm_st
    by_cases q : hh_mem g c = true ∧ hm_on n (fun x => hm_best n P x g) c = true
    · rw [if_pos q]
      have hmc : hh_mem (hm_st n P g c) c = true := by rw [i2 c (by omega), q.1]; simp
      obtain ⟨b1, b2, -⟩ := hm_b5 ⟨hm_st n P g c, by omega⟩ ⟨c, by omega⟩ hmc
      simp only at b1 b2
      refine ⟨Nat.le_trans (Nat.sub_le _ _) i1, fun x hx => ?_⟩
      have := b2 ⟨x, hx⟩
      simp only at this
      rw [this, i2 x hx]
      by_cases e : x = c
      · subst e; simp [q.2]
      · have e1 : ((⟨x, hx⟩ : Fin 4) == ⟨c, by omega⟩) = false := by rw [beq_eq_false_iff_ne]; intro z; exact e (congrArg Fin.val z)
        rw [e1]
        have e2 : decide (x < c + 1) = decide (x < c) := by
          by_cases z : x < c
          · rw [decide_eq_true z, decide_eq_true (by omega)]
          · rw [decide_eq_false z, decide_eq_false (by omega)]
        rw [e2]; simp
    · rw [if_neg q]
      refine ⟨i1, fun x hx => ?_⟩
      rw [i2 x hx]
      by_cases e : x = c
      · subst e
        have e3 : (hh_mem g x && hm_on n (fun x => hm_best n P x g) x) = false := by
          rw [← Bool.not_eq_true, Bool.and_eq_true]
          exact q
        cases h1 : hh_mem g x
        · simp
        · rw [h1, Bool.true_and] at e3
          rw [e3]; simp
      · have e2 : decide (x < c + 1) = decide (x < c) := by
          by_cases z : x < c
          · rw [decide_eq_true z, decide_eq_true (by omega)]
          · rw [decide_eq_false z, decide_eq_false (by omega)]
        rw [e2]
theorem hm_b6 : ∀ g g' : Fin 16, (∀ x : Fin 4, hh_mem g' x = true → hh_mem g x = true) → hh_cnt 4 g' ≤ hh_cnt 4 g ∧ ((∃ x : Fin 4, hh_mem g x = true ∧ hh_mem g' x = false) → hh_cnt 4 g' < hh_cnt 4 g) := by decide +kernel
theorem hm_b7 : ∀ g : Fin 16, (hh_cnt 4 g = 0 → g = 0) ∧ hh_cnt 4 g ≤ 4 := by decide +kernel
theorem hm_b8 : ∀ n : Fin 5, hh_cnt 4 (2 ^ n.val - 1) = n.val ∧ ∀ x : Fin 4, hh_mem (2 ^ n.val - 1) x = decide (x.val < n.val) := by decide +kernel
theorem hm_b9 : ∀ g : Fin 16, ∀ n : Fin 5, (∀ x : Fin 4, hh_mem g x = true → x.val < n.val) → g.val < 2 ^ n.val := by decide +kernel
theorem hm_b10 : ∀ n : Fin 5, ∀ g : Fin 16, g.val < 2 ^ n.val → ∀ x : Fin 4, hh_mem g x = true → x.val < n.val := by decide +kernel
/-- a turn takes one at least -/
theorem hm_st_cnt {n : Nat} (hn : 2 ≤ n ∧ n ≤ 4) {P : Nat → Nat → Nat} (hP : hm_ok n P) {g : Nat} (hg : g < 2 ^ n) (hg0 : g ≠ 0) : hm_st n P g n < 2 ^ n ∧ hh_cnt 4 (hm_st n P g n) < hh_cnt 4 g := by
  have h16 : g < 16 := Nat.lt_of_lt_of_le hg (Nat.pow_le_pow_right (n := 2) (by omega) hn.2)
  obtain ⟨i1, i2⟩ := hm_st_is (P := P) hn.2 h16 n (Nat.le_refl _)
  refine ⟨by omega, ?_⟩
  obtain ⟨i, a1, a2, a3⟩ := hm_on_ex hn (p := fun x => hm_best n P x g) (fun x hx => hm_best_lt (by omega) (hP x hx)) hg hg0 (fun i hi hmi => hm_best_mem hn.2 (hP i hi) hi hmi)
  refine (hm_b6 ⟨g, h16⟩ ⟨hm_st n P g n, by omega⟩ fun x hx => ?_).2 ⟨⟨i, by omega⟩, a2, ?_⟩
  · simp only at hx
    rw [i2 x.val x.isLt, Bool.and_eq_true] at hx
    exact hx.1
  · simp only
    rw [i2 i (by omega), a3, decide_eq_true a1]
    simp
