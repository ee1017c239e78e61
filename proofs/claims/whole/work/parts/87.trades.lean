/-! likes, rings, leaves, turns, blocks, core, good, by, wrong, count. -/
def hMk (h : hk_H) (n : Nat) (P : Nat → Nat → Nat) : Prop := ∃ c, hM h n P c
section STr
variable {G : hk_G} {h h' : hk_H} {n m w rc : Nat} {num : Nat → Int} {Rs : Nat → hr_R} {rq : Nat → Nat} {P : Nat → Nat → Nat} {d : Nat}
theorem hMk.fr (M : hMk h n P) (e : ∀ a, 18 ≤ a → a ≤ 25 → h'.2 a = h.2 a) (e3 : ∀ a, a ≤ 3 → h'.2 a = h.2 a) : hMk h' n P := by
  obtain ⟨c, m1, m2, ⟨tf, m3, m3'⟩, ⟨pf, m4, m4'⟩, m5, m6, m7⟩ := M
  exact ⟨c, (e 18 (by omega) (by omega)).trans m1, (e3 (n - 1) (by omega)).trans m2, ⟨tf, (e 19 (by omega) (by omega)).trans m3, m3'⟩, ⟨pf, (e 20 (by omega) (by omega)).trans m4, m4'⟩, fun x hx => (e _ (by omega) (by omega)).trans (m5 x hx), m6, m7⟩
theorem hMf.c (F : hMf h h') (C : hC h n m w rc num Rs rq) : hC h' n m w rc num Rs rq := C.fr (by rw [F.1]; exact Nat.le_refl _) fun a ha => F.2 a (by omega)
def hq_likes (n : Nat) (P : Nat → Nat → Nat) (x y : Int32) : Int × (Nat → Nat → Nat) := match hx x n, hm_of n y with
  | some i, some v => (0, hm_up P i (hm_dg n v))
  | _, _ => (-1, P)
theorem s_likes (C : hC h n m w rc num Rs rq) (M : hMk h n P) {x y : Int32} {K : Int32 → hk_H → Prop} (hk : ∀ h', hMk h' n (hq_likes n P x y).2 → hMf h h' → K (hI (hq_likes n P x y).1) h') : hk_Ci G m_X9_likes (d + 2) 0 0 [.ref 4, .int x, .int y] h K := by
  obtain ⟨c, M⟩ := M
  have hn := M.2.2.2.2.2.2
  unfold hq_likes at hk
  refine ⟨Nat.le_of_ble_eq_true rfl, ?_⟩
  refine b_X9_likes_0 C.1 (s_isPerson C.1 hn.2 (fun i hi hxi => ?_) (fun z => b_X9_likes_5 (fun _ => b_X9_likes_19 ⟨_, rfl, ?_⟩) (fun z2 => absurd rfl z2)))
  · rw [hxi, hx_some hi (by omega)] at hk
    refine b_X9_likes_5 (fun z => absurd z (by decide)) (fun _ => ?_)
    refine b_X9_likes_8 C.1 rfl M.1 (s_isOrder M (fun j hj hyj => ?_) (fun z => b_X9_likes_16 (fun z2 => absurd rfl z2) (fun _ => b_X9_likes_19 ⟨_, rfl, ?_⟩)))
    · rw [hyj, hm_of_some hn hj] at hk
      simp only at hk
      obtain ⟨op, ob, -⟩ := hm_at_ok hn hj
      refine b_X9_likes_16 (fun _ => ?_) (fun z => absurd z (by decide))
      rw [hxi, hyj]
      exact b_X9_likes_21 C.1 rfl M.1 (s_learn M hi (by omega) op fun h1 f M1 F1 => b_X9_likes_30 ⟨_, rfl, hk h1 ⟨_, M1⟩ F1⟩)
    · rw [hm_of_none z] at hk
      exact hk h ⟨_, M⟩ hMf.rf
  · rw [hx_none z] at hk
    exact hk h ⟨_, M⟩ hMf.rf
def hq_rings (n : Nat) (P : Nat → Nat → Nat) : Int := (hm_cd (fun k => (hm_fin n P k).1) n : Nat)
theorem s_rings (C : hC h n m w rc num Rs rq) (M : hMk h n P) {K : Int32 → hk_H → Prop} (hk : ∀ h', hMk h' n P → hMf h h' → K (hI (hq_rings n P)) h') : hk_Ci G m_X9_rings (d + 3) 0 0 [.ref 4] h K := by
  obtain ⟨c, M⟩ := M
  refine ⟨Nat.le_of_ble_eq_true rfl, ?_⟩
  exact b_X9_rings_0 C.1 rfl M.1 (s_tradeByRings M fun h1 c1 M1 F1 D1 => b_X9_rings_7 ⟨_, rfl, hk h1 ⟨_, M1⟩ F1⟩)
def hq_leaves (n : Nat) (P : Nat → Nat → Nat) (x : Int32) : Int := match hx x n with
  | some i => ((hm_fin n P i).2 : Nat)
  | none => -1
theorem s_leaves (C : hC h n m w rc num Rs rq) (M : hMk h n P) {x : Int32} {K : Int32 → hk_H → Prop} (hk : ∀ h', hMk h' n P → hMf h h' → K (hI (hq_leaves n P x)) h') : hk_Ci G m_X9_leaves (d + 3) 0 0 [.ref 4, .int x] h K := by
  obtain ⟨c, M⟩ := M
  have hn := M.2.2.2.2.2.2
  unfold hq_leaves at hk
  refine ⟨Nat.le_of_ble_eq_true rfl, ?_⟩
  refine b_X9_leaves_0 C.1 (s_isPerson C.1 hn.2 (fun i hi hxi => ?_) (fun z => b_X9_leaves_5 (fun z2 => absurd rfl z2) (fun _ => b_X9_leaves_8 ⟨_, rfl, ?_⟩)))
  · rw [hxi, hx_some hi (by omega)] at hk
    simp only at hk
    refine b_X9_leaves_5 (fun _ => ?_) (fun z => absurd z (by decide))
    refine b_X9_leaves_10 C.1 rfl M.1 (s_tradeByRings M fun h1 c1 M1 F1 D1 => ?_)
    refine b_X9_leaves_17 (F1.c C).1 rfl M1.1 rfl (M1.at (x := 2) (by omega)) i (by rw [hxi]; exact hI_at rfl (by omega)) (by omega) ⟨_, rfl, ?_⟩
    rw [(D1 i hi).2]
    exact hk h1 ⟨_, M1⟩ F1
  · rw [hx_none z] at hk
    exact hk h ⟨_, M⟩ hMf.rf
def hq_turns (n : Nat) (P : Nat → Nat → Nat) (x : Int32) : Int := match hm_of n x with
  | some v => (hm_turn n P (hm_dg n v) : Nat)
  | none => -1
theorem s_turns (C : hC h n m w rc num Rs rq) (M : hMk h n P) {x : Int32} {K : Int32 → hk_H → Prop} (hk : ∀ h', hMk h' n P → hMf h h' → K (hI (hq_turns n P x)) h') : hk_Ci G m_X9_turns (d + 2) 0 0 [.ref 4, .int x] h K := by
  obtain ⟨c, M⟩ := M
  have hn := M.2.2.2.2.2.2
  unfold hq_turns at hk
  refine ⟨Nat.le_of_ble_eq_true rfl, ?_⟩
  refine b_X9_turns_0 C.1 rfl M.1 (s_isOrder M (fun j hj hyj => ?_) (fun z => b_X9_turns_8 (fun _ => b_X9_turns_22 ⟨_, rfl, ?_⟩) (fun z2 => absurd rfl z2)))
  · rw [hyj, hm_of_some hn hj] at hk
    simp only at hk
    obtain ⟨op, ob, -⟩ := hm_at_ok hn hj
    refine b_X9_turns_8 (fun z => absurd z (by decide)) (fun _ => ?_)
    rw [hyj]
    exact b_X9_turns_11 C.1 rfl M.1 (s_tradeByTurns M (by omega) op fun h1 c1 M1 F1 => b_X9_turns_19 ⟨_, rfl, hk h1 ⟨_, M1⟩ F1⟩)
  · rw [hm_of_none z] at hk
    exact hk h ⟨_, M⟩ hMf.rf
def hq_blocks (n : Nat) (P : Nat → Nat → Nat) (x : Int32) : Int := match hm_of n x with
  | some v => (hm_blk n P (hm_dg n v)).getD (-2)
  | none => -1
theorem s_blocks (C : hC h n m w rc num Rs rq) (M : hMk h n P) {x : Int32} {K : Int32 → hk_H → Prop} (hk : ∀ h', hMk h' n P → hMf h h' → K (hI (hq_blocks n P x)) h') : hk_Ci G m_X9_blocks (d + 3) 0 0 [.ref 4, .int x] h K := by
  obtain ⟨c, M⟩ := M
  have hn := M.2.2.2.2.2.2
  unfold hq_blocks at hk
  refine ⟨Nat.le_of_ble_eq_true rfl, ?_⟩
  refine b_X9_blocks_0 C.1 rfl M.1 (s_isOrder M (fun j hj hyj => ?_) (fun z => b_X9_blocks_8 (fun z2 => absurd rfl z2) (fun _ => b_X9_blocks_11 ⟨_, rfl, ?_⟩)))
  · rw [hyj, hm_of_some hn hj] at hk
    simp only at hk
    obtain ⟨op, ob, -⟩ := hm_at_ok hn hj
    have z0 := (hm_blk_0 (P := P) (t := hm_dg n (hm_at n j)) hn.2).1
    refine b_X9_blocks_8 (fun _ => ?_) (fun z => absurd z (by decide))
    rw [hyj]
    refine b_X9_blocks_13 C.1 rfl M.1 (s_leastBlocking M (by omega) op fun h1 c1 M1 F1 => ?_)
    refine b_X9_blocks_21 (fun z => ?_) (fun z => ?_)
    · have z := mt z0.mpr z
      cases e : hm_blk n P (hm_dg n (hm_at n j)) with
      | none => exact absurd e z
      | some u =>
        rw [e] at hk
        exact b_X9_blocks_31 ⟨_, rfl, hk h1 ⟨_, M1⟩ F1⟩
    · have z := z0.mp z
      rw [z] at hk
      exact b_X9_blocks_26 ⟨_, rfl, hk h1 ⟨_, M1⟩ F1⟩
  · rw [hm_of_none z] at hk
    exact hk h ⟨_, M⟩ hMf.rf
/-- the i-th of the core: c orders left, order j, b found before -/
def hm_cr (n : Nat) (P : Nat → Nat → Nat) (i : Nat) : Nat → Nat → Nat → Int
  | 0, _, _ => -2
  | c + 1, j, b => if hm_blk n P (hm_dg n (hm_at n j)) = none then (if b = i then (hm_at n j : Int) else hm_cr n P i c (j + 1) (b + 1)) else hm_cr n P i c (j + 1) b
def hq_core (n : Nat) (P : Nat → Nat → Nat) (x : Int32) : Int := if 0 ≤ x.toInt then hm_cr n P x.toInt.toNat (hm_len n) 0 0 else -1
theorem s_core (C : hC h n m w rc num Rs rq) (M : hMk h n P) {x : Int32} {K : Int32 → hk_H → Prop} (hk : ∀ h', hMk h' n P → hMf h h' → K (hI (hq_core n P x)) h') : hk_Ci G m_X9_core (d + 3) 0 0 [.ref 4, .int x] h K := by
  obtain ⟨c, M⟩ := M
  have hn := M.2.2.2.2.2.2
  have hl := hm_len_b hn
  unfold hq_core at hk
  refine ⟨Nat.le_of_ble_eq_true rfl, ?_⟩
  refine b_X9_core_0 (fun z => ?_) (fun z => b_X9_core_4 ⟨_, rfl, ?_⟩)
  · rw [Int32.le_iff_toInt_le, Int32.toInt_zero] at z
    rw [if_pos z] at hk
    have hxr := hI_range x
    obtain ⟨i, hi, ex⟩ : ∃ i : Nat, i < 2147483648 ∧ x = hI (i : Int) := ⟨x.toInt.toNat, by omega, by rw [show ((x.toInt.toNat : Nat) : Int) = x.toInt by omega]; exact hI_of x⟩
    have ei : x.toInt.toNat = i := by rw [ex, hI_toInt (hI_rN hi)]; omega
    rw [ei] at hk
    refine b_X9_core_6 C.1 rfl M.1 rfl M.2.1 (by omega) ?_
    rw [hm_of_len]
    refine hk_upto (P := fun j => ∀ h' c' (b : Nat) (o6 : Option Value), b ≤ j → hM h' n P c' → hMf h h' → hm_cr n P i (hm_len n - j) j b = hm_cr n P i (hm_len n) 0 0 → hk_S G m_X9_core (d + 3) 0 0 23 [some (.ref 4), some (.int x), some (.int (hI (b : Int))), some (.ref (n - 1)), some (.int (hI (hm_len n : Nat))), some (.int (hI (j : Int))), o6] [] h' (fun o h' => ∃ x, o = .inl (some (.int x)) ∧ K x h')) (hm_len n) (fun j hj ih h' c' b o6 hbj M' F' E' => ?_) h c 0 none (Nat.le_refl _) M hMf.rf rfl
    refine b_X9_core_23 (fun c2 => ?_) (fun c2 => ?_)
    · rw [hN_le (by omega) (by omega)] at c2
      rw [show hm_len n - j = 0 by omega] at E'
      rw [← E'] at hk
      exact b_X9_core_65 ⟨_, rfl, hk h' ⟨_, M'⟩ F'⟩
    · rw [hN_le (by omega) (by omega)] at c2
      have hjl : j < hm_len n := by omega
      obtain ⟨op, ob, -⟩ := hm_at_ok hn hjl
      have z0 := (hm_blk_0 (P := P) (t := hm_dg n (hm_at n j)) hn.2).1
      have E2 : hm_cr n P i (hm_len n - j) j b = if hm_blk n P (hm_dg n (hm_at n j)) = none then (if b = i then (hm_at n j : Int) else hm_cr n P i (hm_len n - (j + 1)) (j + 1) (b + 1)) else hm_cr n P i (hm_len n - (j + 1)) (j + 1) b := by
        rw [show hm_len n - j = (hm_len n - (j + 1)) + 1 by omega]; rfl
      rw [E2] at E'
      refine b_X9_core_30 M'.2.1 j (hI_at rfl (by omega)) (by omega) (F'.c C).1 rfl M'.1 (s_leastBlocking M' (by omega) op fun h1 c1 M1 F1 => ?_)
      refine b_X9_core_45 (fun z => ?_) (fun z => ?_)
      · rw [if_neg (mt z0.mpr z)] at E'
        refine b_X9_core_59 ?_
        rw [hI_1]
        exact ih hjl h1 c1 b _ (by omega) M1 (F'.tr F1) E'
      · rw [if_pos (z0.mp z)] at E'
        rw [ex]
        refine b_X9_core_48 (fun q => ?_) (fun q => ?_)
        · rw [hN_eq (by omega) (by omega)] at q
          rw [if_neg q] at E'
          refine b_X9_core_56 ?_
          rw [hI_1, hI_1, ← ex]
          exact ih hjl h1 c1 (b + 1) _ (by omega) M1 (F'.tr F1) E'
        · rw [hN_eq (by omega) (by omega)] at q
          rw [if_pos q] at E'
          rw [← E'] at hk
          exact b_X9_core_53 ⟨_, rfl, hk h1 ⟨_, M1⟩ (F'.tr F1)⟩
  · rw [Int32.le_iff_toInt_le, Int32.toInt_zero] at z
    rw [if_neg z] at hk
    exact hk h ⟨_, M⟩ hMf.rf
def hq_good (n : Nat) (P : Nat → Nat → Nat) (x : Int32) : Int := match hm_of n x with
  | some v => if hm_beat n P (2 ^ n - 1) (hm_dg n v) = true then 0 else 1
  | none => -1
theorem s_good (C : hC h n m w rc num Rs rq) (M : hMk h n P) {x : Int32} {K : Int32 → hk_H → Prop} (hk : ∀ h', hMk h' n P → hMf h h' → K (hI (hq_good n P x)) h') : hk_Ci G m_X9_good (d + 3) 0 0 [.ref 4, .int x] h K := by
  obtain ⟨c, M⟩ := M
  have hn := M.2.2.2.2.2.2
  unfold hq_good at hk
  refine ⟨Nat.le_of_ble_eq_true rfl, ?_⟩
  refine b_X9_good_0 C.1 rfl M.1 (s_isOrder M (fun j hj hyj => ?_) (fun z => b_X9_good_8 (fun z2 => absurd rfl z2) (fun _ => b_X9_good_11 ⟨_, rfl, ?_⟩)))
  · rw [hyj, hm_of_some hn hj] at hk
    simp only at hk
    obtain ⟨op, ob, -⟩ := hm_at_ok hn hj
    refine b_X9_good_8 (fun _ => ?_) (fun z => absurd z (by decide))
    rw [hyj]
    refine b_X9_good_13 C.1 rfl M.1 (s_isBettered M (by omega) op fun h1 c1 M1 F1 => ?_)
    by_cases k2 : hm_beat n P (2 ^ n - 1) (hm_dg n (hm_at n j)) = true
    · rw [if_pos k2] at hk
      rw [k2]
      exact b_X9_good_21 (fun z => absurd z (by decide)) (fun _ => b_X9_good_24 ⟨_, rfl, hk h1 ⟨_, M1⟩ F1⟩)
    · rw [if_neg k2] at hk
      rw [Bool.not_eq_true] at k2
      rw [k2]
      exact b_X9_good_21 (fun _ => b_X9_good_28 ⟨_, rfl, hk h1 ⟨_, M1⟩ F1⟩) (fun z => absurd rfl z)
  · rw [hm_of_none z] at hk
    exact hk h ⟨_, M⟩ hMf.rf
def hq_by (n : Nat) (P : Nat → Nat → Nat) (x : Int32) : Int := match hm_of n x with
  | some v => (hf (fun j => if hm_turn n P (hm_dg n (hm_at n j)) = v then some (hm_at n j : Int) else none) (hm_len n)).getD (-2)
  | none => -1
theorem hm_bf_lt2 (hn : 1 ≤ n) (hP : hm_ok n P) {t : Nat → Nat} (ht : ∀ k, k < n → t k < n) : ∀ q, q ≤ n → ∀ x, hm_tt n P t q x < n := by
  intro q
  induction q with
  | zero => intro _ x; exact hn
  | succ q ih =>
    intro hq x
    show (if x = t q then _ else _) < n
    split
    · exact hm_best_lt hn (hP _ (ht q (by omega)))
    · exact ih (by omega) x
theorem hm_turn_b (hn : 2 ≤ n ∧ n ≤ 4) (hP : hm_ok n P) {t : Nat → Nat} (ht : ∀ k, k < n → t k < n) : hm_turn n P t < 10000 := by
  have h1 := hm_cd_lt (d := hm_tt n P t n) n (fun i _ => by have := hm_bf_lt2 (by omega) hP ht n (Nat.le_refl _) i; omega)
  have : 10 ^ n ≤ 10 ^ 4 := Nat.pow_le_pow_right (by omega) hn.2
  unfold hm_turn
  omega
theorem s_by (C : hC h n m w rc num Rs rq) (M : hMk h n P) {x : Int32} {K : Int32 → hk_H → Prop} (hk : ∀ h', hMk h' n P → hMf h h' → K (hI (hq_by n P x)) h') : hk_Ci G m_X9_by (d + 2) 0 0 [.ref 4, .int x] h K := by
  obtain ⟨c, M⟩ := M
  have hn := M.2.2.2.2.2.2
  have hP := M.2.2.2.2.2.1
  have hl := hm_len_b hn
  unfold hq_by at hk
  refine ⟨Nat.le_of_ble_eq_true rfl, ?_⟩
  refine b_X9_by_0 C.1 rfl M.1 (s_isOrder M (fun j0 hj0 hyj => ?_) (fun z => b_X9_by_8 (fun z2 => absurd rfl z2) (fun _ => b_X9_by_11 ⟨_, rfl, ?_⟩)))
  · rw [hyj, hm_of_some hn hj0] at hk
    simp only at hk
    obtain ⟨-, ob0, -⟩ := hm_at_ok hn hj0
    generalize hm_at n j0 = v at hyj hk ob0
    refine b_X9_by_8 (fun _ => ?_) (fun z => absurd z (by decide))
    refine b_X9_by_13 C.1 rfl M.1 rfl M.2.1 (by omega) ?_
    rw [hm_of_len]
    refine hk_upto (P := fun j => ∀ h' c' (o5 : Option Value), hM h' n P c' → hMf h h' → hf_from (fun j => if hm_turn n P (hm_dg n (hm_at n j)) = v then some (hm_at n j : Int) else none) (hm_len n - j) j = hf (fun j => if hm_turn n P (hm_dg n (hm_at n j)) = v then some (hm_at n j : Int) else none) (hm_len n) → hk_S G m_X9_by (d + 2) 0 0 27 [some (.ref 4), some (.int x), some (.ref (n - 1)), some (.int (hI (hm_len n : Nat))), some (.int (hI (j : Int))), o5] [] h' (fun o h' => ∃ x, o = .inl (some (.int x)) ∧ K x h')) (hm_len n) (fun j hj ih h' c' o5 M' F' E' => ?_) h c none M hMf.rf rfl
    refine b_X9_by_27 (fun c2 => ?_) (fun c2 => ?_)
    · rw [hN_le (by omega) (by omega)] at c2
      rw [hf_end (by omega)] at E'
      rw [← E'] at hk
      exact b_X9_by_61 ⟨_, rfl, hk h' ⟨_, M'⟩ F'⟩
    · rw [hN_le (by omega) (by omega)] at c2
      have hjl : j < hm_len n := by omega
      obtain ⟨op, ob, -⟩ := hm_at_ok hn hjl
      have hb := hm_turn_b hn hP op.1
      refine b_X9_by_33 M'.2.1 j (hI_at rfl (by omega)) (by omega) (F'.c C).1 rfl M'.1 (s_tradeByTurns M' (by omega) op fun h1 c1 M1 F1 => ?_)
      rw [hyj]
      refine b_X9_by_48 (fun q => ?_) (fun q => ?_)
      · rw [hN_eq (by omega) (by omega)] at q
        rw [hf_none hjl (if_neg q)] at E'
        refine b_X9_by_55 ?_
        rw [hI_1, ← hyj]
        exact ih hjl h1 c1 _ M1 (F'.tr F1) E'
      · rw [hN_eq (by omega) (by omega)] at q
        rw [hf_some hjl (if_pos q)] at E'
        rw [← E'] at hk
        exact b_X9_by_52 ⟨_, rfl, hk h1 ⟨_, M1⟩ (F'.tr F1)⟩
  · rw [hm_of_none z] at hk
    exact hk h ⟨_, M⟩ hMf.rf
def hq_wrong (n : Nat) (P : Nat → Nat → Nat) (x : Int32) : Int := match hx x n with
  | some i => hm_lie n P i
  | none => -1
theorem s_wrong (C : hC h n m w rc num Rs rq) (M : hMk h n P) {x : Int32} {K : Int32 → hk_H → Prop} (hk : ∀ h', hMk h' n P → hMf h h' → K (hI (hq_wrong n P x)) h') : hk_Ci G m_X9_wrong (d + 5) 0 0 [.ref 4, .int x] h K := by
  obtain ⟨c, M⟩ := M
  have hn := M.2.2.2.2.2.2
  unfold hq_wrong at hk
  refine ⟨Nat.le_of_ble_eq_true rfl, ?_⟩
  refine b_X9_wrong_0 C.1 (s_isPerson C.1 hn.2 (fun i hi hxi => ?_) (fun z => b_X9_wrong_5 (fun _ => b_X9_wrong_19 ⟨_, rfl, ?_⟩) (fun z2 => absurd rfl z2)))
  · rw [hxi, hx_some hi (by omega)] at hk
    simp only at hk
    refine b_X9_wrong_5 (fun z => absurd z (by decide)) (fun _ => ?_)
    rw [hxi]
    exact b_X9_wrong_8 C.1 rfl M.1 (s_leastLie M hi fun h1 c1 M1 F1 => b_X9_wrong_16 ⟨_, rfl, hk h1 ⟨_, M1⟩ F1⟩)
  · rw [hx_none z] at hk
    exact hk h ⟨_, M⟩ hMf.rf
def hq_count (n m w rc : Nat) (P : Nat → Nat → Nat) (x : Int32) : Int := if x = 0 then n else if x = 1 then m else if x = 2 then w else if x = 3 then rc else if x = 4 then hw_pow w n else if x = 5 then hm_goodN n P (hm_len n) else if x = 6 then hm_coreN n P (hm_len n) else -1
theorem s_count (C : hC h n m w rc num Rs rq) (M : hMk h n P) {x : Int32} {K : Int32 → hk_H → Prop} (hk : ∀ h', hMk h' n P → hMf h h' → K (hI (hq_count n m w rc P x)) h') : hk_Ci G m_X9_count (d + 4) 0 0 [.ref 4, .int x] h K := by
  obtain ⟨c, M⟩ := M
  unfold hq_count at hk
  have hk0 := hk h ⟨_, M⟩ hMf.rf
  refine ⟨Nat.le_of_ble_eq_true rfl, ?_⟩
  refine b_X9_count_0 (fun q => ?_) (fun q => ?_) (fun q => ?_) (fun q => ?_) (fun q => ?_) (fun q => ?_) (fun q => ?_) (fun q0 q1 q2 q3 q4 q5 q6 => ?_)
  · rw [if_pos q] at hk0
    exact b_X9_count_44 C.1 rfl ⟨_, rfl, hk0⟩
  · rw [if_neg (by rw [q]; decide), if_pos q] at hk0
    exact b_X9_count_49 C.1 rfl ⟨_, rfl, hk0⟩
  · rw [if_neg (by rw [q]; decide), if_neg (by rw [q]; decide), if_pos q] at hk0
    exact b_X9_count_54 C.1 rfl C.w1 rfl ⟨_, rfl, hk0⟩
  · rw [if_neg (by rw [q]; decide), if_neg (by rw [q]; decide), if_neg (by rw [q]; decide), if_pos q] at hk0
    exact b_X9_count_62 C.1 rfl ⟨_, rfl, hk0⟩
  · rw [if_neg (by rw [q]; decide), if_neg (by rw [q]; decide), if_neg (by rw [q]; decide), if_neg (by rw [q]; decide), if_pos q] at hk0
    exact b_X9_count_67 C.1 rfl C.w1 rfl ⟨_, rfl, hk0⟩
  · rw [if_neg (by rw [q]; decide), if_neg (by rw [q]; decide), if_neg (by rw [q]; decide), if_neg (by rw [q]; decide), if_neg (by rw [q]; decide), if_pos q] at hk
    exact b_X9_count_75 C.1 rfl M.1 (s_goodTrades M fun h1 c1 M1 F1 => b_X9_count_82 ⟨_, rfl, hk h1 ⟨_, M1⟩ F1⟩)
  · rw [if_neg (by rw [q]; decide), if_neg (by rw [q]; decide), if_neg (by rw [q]; decide), if_neg (by rw [q]; decide), if_neg (by rw [q]; decide), if_neg (by rw [q]; decide), if_pos q] at hk
    exact b_X9_count_83 C.1 rfl M.1 (s_coreTrades M fun h1 c1 M1 F1 => b_X9_count_90 ⟨_, rfl, hk h1 ⟨_, M1⟩ F1⟩)
  · rw [if_neg q0, if_neg q1, if_neg q2, if_neg q3, if_neg q4, if_neg q5, if_neg q6] at hk0
    exact b_X9_count_91 ⟨_, rfl, hk0⟩
end STr
