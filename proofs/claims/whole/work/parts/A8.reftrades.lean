/-! The reference: likes, rings, leaves, turns, blocks, core, good, by, wrong, count. -/
def hBl (h : hk_H) (n : Nat) (P : Nat → Nat → Nat) : Prop := (∃ tf, h.2 57 = some (hc_i32 16 tf) ∧ ∀ i k, i < n → k < n → tf (4 * i + k) = hI (P i k : Nat)) ∧ hm_ok n P
def hBA (h : hk_H) (n m w rc : Nat) (num : Nat → Int) (Rs : Nat → hr_R) (th : Nat) (P : Nat → Nat → Nat) : Prop := hB h n m w rc num Rs th ∧ hBs h ∧ hBl h n P
/-- orders on the way -/
def hN0 (h : hk_H) (n m w rc th : Nat) (Q : Nat → Nat → Nat) (c : Nat → Nat → Int32) : Prop :=
  hBo h n m w rc th ∧ (∃ tf, h.2 57 = some (hc_i32 16 tf) ∧ ∀ i k, i < n → k < n → tf (4 * i + k) = hI (Q i k : Nat)) ∧ (∀ x, x < 5 → h.2 (58 + x) = some (hc_i32 4 (c x))) ∧ (2 ≤ n ∧ n ≤ 4)
def hm_pt (Q : Nat → Nat → Nat) (i : Nat) (t : Nat → Nat) (k : Nat) : Nat → Nat → Nat := fun i' k' => if i' = i ∧ k' < k then t k' else Q i' k'
section RT
variable {G : hk_G} {h h' : hk_H} {n m w rc th : Nat} {num : Nat → Int} {Rs : Nat → hr_R} {P : Nat → Nat → Nat} {c : Nat → Nat → Int32} {d : Nat}
theorem hN.mid (N : hN h n m w rc th P c) : hN0 h n m w rc th P c := ⟨N.1, N.2.1, N.2.2.1, N.2.2.2.2⟩
theorem hN0.up (N : hN0 h n m w rc th P c) {P' : Nat → Nat → Nat} (ok : hm_ok n P') (e : ∀ i k, i < n → k < n → P i k = P' i k) : hN h n m w rc th P' c := by
  obtain ⟨m1, ⟨tf, m3, m3'⟩, m5, m7⟩ := N
  exact ⟨m1, ⟨tf, m3, fun i k hi hk => by rw [← e i k hi hk]; exact m3' i k hi hk⟩, m5, ok, m7⟩
theorem hm_pt_0 {i : Nat} {t : Nat → Nat} : hm_pt P i t 0 = P := funext fun i' => funext fun k' => if_neg (fun z => by omega)
theorem hm_pt_n {i : Nat} {t : Nat → Nat} : ∀ i' k', i' < n → k' < n → hm_pt P i t n i' k' = hm_up P i t i' k' := fun i' k' h1 h2 => by
  unfold hm_pt hm_up
  by_cases e : i' = i
  · rw [if_pos ⟨e, h2⟩, if_pos e]
  · rw [if_neg (fun z => e z.1), if_neg e]
theorem hN0.put {i k : Nat} {t : Nat → Nat} (hi : i < n) (hk : k < n) {tf : Nat → Int32} (N : hN0 h n m w rc th (hm_pt P i t k) c) (a : h.2 57 = some (hc_i32 16 tf)) (e : ∀ i' k', i' < n → k' < n → tf (4 * i' + k') = hI (hm_pt P i t k i' k' : Nat)) {v : Int32} (hv : v = hI (t k : Nat)) : hN0 (hk_set h 57 (hc_i32 16 (upd tf (4 * i + k) v))) n m w rc th (hm_pt P i t (k + 1)) c := by
  obtain ⟨m1, -, m5, m7⟩ := N
  refine ⟨(hk_set_ne (by decide)).trans m1, ⟨_, hk_set_eq, fun i' k' h1 h2 => ?_⟩, fun x hx => (hk_set_ne (by omega)).trans (m5 x hx), m7⟩
  unfold upd
  have e := e i' k' h1 h2
  unfold hm_pt at e ⊢
  by_cases z : i' = i ∧ k' = k
  · rw [if_pos (by omega), if_pos ⟨z.1, by omega⟩, z.2]; exact hv
  · rw [if_neg (by omega), e]
    by_cases y : i' = i ∧ k' < k
    · rw [if_pos y, if_pos ⟨y.1, by omega⟩]
    · rw [if_neg y, if_neg (fun q => y ⟨q.1, by omega⟩)]
theorem hBA.N (A : hBA h n m w rc num Rs th P) : ∃ c, hN h n m w rc th P c := by
  obtain ⟨B, S, L⟩ := A
  obtain ⟨f0, s0⟩ := S.2.2.2.2.2.1 0 (by omega)
  obtain ⟨f1, s1⟩ := S.2.2.2.2.2.1 1 (by omega)
  obtain ⟨f2, s2⟩ := S.2.2.2.2.2.1 2 (by omega)
  obtain ⟨f3, s3⟩ := S.2.2.2.2.2.1 3 (by omega)
  obtain ⟨f4, s4⟩ := S.2.2.2.2.2.1 4 (by omega)
  refine ⟨fun x => if x = 0 then f0 else if x = 1 then f1 else if x = 2 then f2 else if x = 3 then f3 else f4, B.o, L.1, fun x hx => ?_, L.2, B.dim.1⟩
  have : x = 0 ∨ x = 1 ∨ x = 2 ∨ x = 3 ∨ x = 4 := by omega
  rcases this with e | e | e | e | e <;> subst e
  · exact s0
  · exact s1
  · exact s2
  · exact s3
  · exact s4
theorem hBA.out (A : hBA h n m w rc num Rs th P) {P' : Nat → Nat → Nat} (N : hN h' n m w rc th P' c) (F : hRf hP57 h h') : hBA h' n m w rc num Rs th P' := by
  obtain ⟨B, S, L⟩ := A
  refine ⟨B.fr fun a h1 h2 => F.2 a (by unfold hP57; omega), ?_, N.2.1, N.ok⟩
  obtain ⟨⟨f1, s1⟩, ⟨f2, s2⟩, ⟨f3, s3⟩, ⟨f4, s4⟩, ⟨f5, s5⟩, s6, ⟨f7, s7⟩⟩ := S
  have e : ∀ a, ¬ hP57 a → h'.2 a = h.2 a := F.2
  exact ⟨⟨f1, (e 52 (by unfold hP57; omega)).trans s1⟩, ⟨f2, (e 53 (by unfold hP57; omega)).trans s2⟩, ⟨f3, (e 54 (by unfold hP57; omega)).trans s3⟩, ⟨f4, (e 55 (by unfold hP57; omega)).trans s4⟩, ⟨f5, (e 56 (by unfold hP57; omega)).trans s5⟩, fun x hx => ⟨_, N.at hx⟩, ⟨f7, (e 69 (by unfold hP57; omega)).trans s7⟩⟩
theorem r_likes (A : hBA h n m w rc num Rs th P) {x y : Int32} {K : Int32 → hk_H → Prop} (hk : ∀ h', hBA h' n m w rc num Rs th (hq_likes n P x y).2 → hRf hP57 h h' → K (hI (hq_likes n P x y).1) h') : hk_Ci G m_X10_likes (d + 1) 0 0 [.ref 43, .int x, .int y] h K := by
  obtain ⟨c, N⟩ := A.N
  have hn := N.nn
  have out := fun {h'} {P'} {c'} => A.out (h' := h') (P' := P') (c := c')
  unfold hq_likes at hk
  refine ⟨Nat.le_of_ble_eq_true rfl, ?_⟩
  refine b_X10_likes_0 N.o rfl (r_isIn (by omega) (fun i hi hxi => ?_) (fun z => b_X10_likes_8 (fun _ => b_X10_likes_23 ⟨_, rfl, ?_⟩) (fun z2 => absurd rfl z2)))
  · rw [hxi, hx_some hi (by omega)] at hk
    refine b_X10_likes_8 (fun z => absurd z (by decide)) (fun _ => ?_)
    refine b_X10_likes_11 N.o rfl (r_digits N (y := 1) (by omega) (fun h1 f j hj hyj N1 F1 D1 => ?_) (fun h1 f z N1 F1 => b_X10_likes_20 (fun z2 => absurd rfl z2) (fun _ => b_X10_likes_23 ⟨_, rfl, ?_⟩)))
    · rw [hyj, hm_of_some hn hj] at hk
      simp only at hk
      obtain ⟨op, ob, -⟩ := hm_at_ok hn hj
      refine b_X10_likes_20 (fun _ => ?_) (fun z => absurd z (by decide))
      refine b_X10_likes_25 ?_
      rw [hxi]
      refine hk_upto (P := fun k => ∀ h', hN0 h' n m w rc th (hm_pt P i (hm_dg n (hm_at n j)) k) (hm_c c 1 f) → hRf hP57 h h' → hk_S G m_X10_likes (d + 1) 0 0 27 [some (.ref 43), some (.int (hI (i : Int))), some (.int y), some (.int (hI (k : Int)))] [] h' (fun o h' => ∃ x, o = .inl (some (.int x)) ∧ K x h')) n (fun k hkn ih h' M' F' => ?_) h1 (by rw [hm_pt_0]; exact N1.mid) F1
      refine b_X10_likes_27 M'.1 rfl (fun cc => ?_) (fun cc => ?_)
      · rw [hN_le (by omega) (by omega)] at cc
        have e : k = n := by omega
        subst e
        exact b_X10_likes_57 ⟨_, rfl, hk h' (out (M'.up (hm_up_ok N.ok op) hm_pt_n) F') F'⟩
      · rw [hN_le (by omega) (by omega)] at cc
        obtain ⟨tf, t1, t2⟩ := M'.2.1
        have a1 := M'.2.2.1 1 (by omega)
        rw [hm_c_eq] at a1
        refine b_X10_likes_35 M'.1 rfl rfl a1 k (hI_at rfl (by omega)) (by omega) t1 (by omega) (4 * i + k) (hI_ji (q := 4) (by omega)) (by omega) rfl ?_
        rw [hI_1]
        exact ih (by omega) _ (M'.put hi (by omega) t1 t2 (D1 k (by omega))) (F'.set (by unfold hP57; omega))
    · rw [hm_of_none z] at hk
      exact hk h1 (out N1 F1) F1
  · rw [hx_none z] at hk
    exact hk h A hRf.rf
theorem r_rings (A : hBA h n m w rc num Rs th P) {K : Int32 → hk_H → Prop} (hk : ∀ h', hBA h' n m w rc num Rs th P → hRf hP57 h h' → K (hI (hq_rings n P)) h') : hk_Ci G m_X10_rings (d + 2) 0 0 [.ref 43] h K := by
  obtain ⟨c, N⟩ := A.N
  refine ⟨Nat.le_of_ble_eq_true rfl, ?_⟩
  refine b_X10_rings_0 N.o (r_ring N fun h1 c1 N1 F1 _ _ _ D1 => ?_)
  exact b_X10_rings_4 N1.o rfl (r_code N1 (x := 0) (by omega) (t := fun k => (hm_fin n P k).1) (fun k hk => (D1 k hk).1) (b_X10_rings_12 ⟨_, rfl, hk h1 (A.out N1 F1) F1⟩))
theorem r_leaves (A : hBA h n m w rc num Rs th P) {x : Int32} {K : Int32 → hk_H → Prop} (hk : ∀ h', hBA h' n m w rc num Rs th P → hRf hP57 h h' → K (hI (hq_leaves n P x)) h') : hk_Ci G m_X10_leaves (d + 2) 0 0 [.ref 43, .int x] h K := by
  obtain ⟨c, N⟩ := A.N
  have hn := N.nn
  unfold hq_leaves at hk
  refine ⟨Nat.le_of_ble_eq_true rfl, ?_⟩
  refine b_X10_leaves_0 N.o rfl (r_isIn (by omega) (fun i hi hxi => ?_) (fun z => b_X10_leaves_8 (fun z2 => absurd rfl z2) (fun _ => b_X10_leaves_11 ⟨_, rfl, ?_⟩)))
  · rw [hxi, hx_some hi (by omega)] at hk
    simp only at hk
    refine b_X10_leaves_8 (fun _ => ?_) (fun z => absurd z (by decide))
    refine b_X10_leaves_13 N.o (r_ring N fun h1 c1 N1 F1 _ _ _ D1 => ?_)
    refine b_X10_leaves_17 N1.o rfl (N1.at (x := 2) (by omega)) i (by rw [hxi]; exact hI_at rfl (by omega)) (by omega) ⟨_, rfl, ?_⟩
    rw [(D1 i hi).2]
    exact hk h1 (A.out N1 F1) F1
  · rw [hx_none z] at hk
    exact hk h A hRf.rf
theorem r_turns (A : hBA h n m w rc num Rs th P) {x : Int32} {K : Int32 → hk_H → Prop} (hk : ∀ h', hBA h' n m w rc num Rs th P → hRf hP57 h h' → K (hI (hq_turns n P x)) h') : hk_Ci G m_X10_turns (d + 2) 0 0 [.ref 43, .int x] h K := by
  obtain ⟨c, N⟩ := A.N
  have hn := N.nn
  unfold hq_turns at hk
  refine ⟨Nat.le_of_ble_eq_true rfl, ?_⟩
  refine b_X10_turns_0 N.o rfl (r_digits N (y := 3) (by omega) (fun h1 f j hj hyj N1 F1 D1 => ?_) (fun h1 f z N1 F1 => b_X10_turns_9 (fun z2 => absurd rfl z2) (fun _ => b_X10_turns_12 ⟨_, rfl, ?_⟩)))
  · rw [hyj, hm_of_some hn hj] at hk
    simp only at hk
    obtain ⟨op, ob, -⟩ := hm_at_ok hn hj
    refine b_X10_turns_9 (fun _ => ?_) (fun z => absurd z (by decide))
    refine b_X10_turns_14 N1.o (r_turn N1 op (fun k hk => by rw [hm_c_eq]; exact D1 k hk) fun h2 c2 N2 F2 _ _ _ D2 => ?_)
    exact b_X10_turns_18 N2.o rfl (r_code N2 (x := 0) (by omega) (t := hm_tt n P (hm_dg n (hm_at n j)) n) D2 (b_X10_turns_26 ⟨_, rfl, hk h2 (A.out N2 (F1.tr F2)) (F1.tr F2)⟩))
  · rw [hm_of_none z] at hk
    exact hk h1 (A.out N1 F1) F1
theorem r_blocks (A : hBA h n m w rc num Rs th P) {x : Int32} {K : Int32 → hk_H → Prop} (hk : ∀ h', hBA h' n m w rc num Rs th P → hRf hP57 h h' → K (hI (hq_blocks n P x)) h') : hk_Ci G m_X10_blocks (d + 4) 0 0 [.ref 43, .int x] h K := by
  obtain ⟨c, N⟩ := A.N
  have hn := N.nn
  unfold hq_blocks at hk
  refine ⟨Nat.le_of_ble_eq_true rfl, ?_⟩
  refine b_X10_blocks_0 N.o rfl (r_digits N (y := 4) (by omega) (fun h1 f j hj hyj N1 F1 D1 => ?_) (fun h1 f z N1 F1 => b_X10_blocks_9 (fun _ => b_X10_blocks_23 ⟨_, rfl, ?_⟩) (fun z2 => absurd rfl z2)))
  · rw [hyj, hm_of_some hn hj] at hk
    simp only at hk
    obtain ⟨op, ob, -⟩ := hm_at_ok hn hj
    refine b_X10_blocks_9 (fun z => absurd z (by decide)) (fun _ => ?_)
    exact b_X10_blocks_12 N1.o rfl (r_blocking N1 op.1 (fun k hk => by rw [hm_c_eq]; exact D1 k hk) fun h2 c2 N2 F2 _ => b_X10_blocks_20 ⟨_, rfl, hk h2 (A.out N2 (F1.tr F2)) (F1.tr F2)⟩)
  · rw [hm_of_none z] at hk
    exact hk h1 (A.out N1 F1) F1
theorem r_good (A : hBA h n m w rc num Rs th P) {x : Int32} {K : Int32 → hk_H → Prop} (hk : ∀ h', hBA h' n m w rc num Rs th P → hRf hP57 h h' → K (hI (hq_good n P x)) h') : hk_Ci G m_X10_good (d + 3) 0 0 [.ref 43, .int x] h K := by
  obtain ⟨c, N⟩ := A.N
  have hn := N.nn
  have h2n : 1 ≤ 2 ^ n := Nat.pow_pos (by omega)
  have h216 := hm_16 hn
  unfold hq_good at hk
  refine ⟨Nat.le_of_ble_eq_true rfl, ?_⟩
  refine b_X10_good_0 N.o rfl (r_digits N (y := 4) (by omega) (fun h1 f j hj hyj N1 F1 D1 => ?_) (fun h1 f z N1 F1 => b_X10_good_9 (fun _ => b_X10_good_39 ⟨_, rfl, ?_⟩) (fun z2 => absurd rfl z2)))
  · rw [hyj, hm_of_some hn hj] at hk
    simp only at hk
    obtain ⟨op, ob, -⟩ := hm_at_ok hn hj
    refine b_X10_good_9 (fun z => absurd z (by decide)) (fun _ => ?_)
    refine b_X10_good_12 N1.o rfl rfl ?_
    rw [hh_full hn, show ((2 ^ n : Nat) : Int) - 1 = ((2 ^ n - 1 : Nat) : Int) by omega]
    refine r_isBeaten N1 (by omega) op.1 (fun k hk => by rw [hm_c_eq]; exact D1 k hk) fun h2 c2 N2 F2 _ => ?_
    have hk := fun z => hk h2 (A.out N2 (F1.tr F2)) z
    by_cases k2 : hm_beat n P (2 ^ n - 1) (hm_dg n (hm_at n j)) = true
    · rw [if_pos k2] at hk
      rw [k2]
      exact b_X10_good_28 (fun z => absurd z (by decide)) (fun _ => b_X10_good_31 ⟨_, rfl, hk (F1.tr F2)⟩)
    · rw [if_neg k2] at hk
      rw [Bool.not_eq_true] at k2
      rw [k2]
      exact b_X10_good_28 (fun _ => b_X10_good_35 ⟨_, rfl, hk (F1.tr F2)⟩) (fun z => absurd rfl z)
  · rw [hm_of_none z] at hk
    exact hk h1 (A.out N1 F1) F1
theorem hm_blk_2 {t : Nat → Nat} (hn : n ≤ 4) : hI ((hm_blk n P t).getD (-2)) = -2 ↔ hm_blk n P t = none := by
  have z0 := hm_blk_0 (P := P) (t := t) hn
  cases e : hm_blk n P t with
  | none => exact ⟨fun _ => rfl, fun _ => rfl⟩
  | some v =>
    rw [e] at z0
    have z1 := z0.2
    simp only [Option.getD_some] at z1 ⊢
    refine ⟨fun q => ?_, fun q => by cases q⟩
    rw [show (-2 : Int32) = hI (-2) from rfl, hI_eq (by omega) (by omega)] at q
    omega
theorem r_core (A : hBA h n m w rc num Rs th P) {x : Int32} {K : Int32 → hk_H → Prop} (hk : ∀ h', hBA h' n m w rc num Rs th P → hRf hP57 h h' → K (hI (hq_core n P x)) h') : hk_Ci G m_X10_core (d + 4) 0 0 [.ref 43, .int x] h K := by
  obtain ⟨c, N⟩ := A.N
  have hn := N.nn
  have hlast := (hm_b13 ⟨n, by omega⟩ hn.1).1
  simp only at hlast
  unfold hq_core at hk
  refine ⟨Nat.le_of_ble_eq_true rfl, ?_⟩
  refine b_X10_core_0 (fun z => ?_) (fun z => b_X10_core_4 ⟨_, rfl, ?_⟩)
  · rw [Int32.le_iff_toInt_le, Int32.toInt_zero] at z
    rw [if_pos z] at hk
    have hxr := hI_range x
    obtain ⟨i, hi, ex⟩ : ∃ i : Nat, i < 2147483648 ∧ x = hI (i : Int) := ⟨x.toInt.toNat, by omega, by rw [show ((x.toInt.toNat : Nat) : Int) = x.toInt by omega]; exact hI_of x⟩
    have ei : x.toInt.toNat = i := by rw [ex, hI_toInt (hI_rN hi)]; omega
    rw [ei] at hk
    refine b_X10_core_6 ?_
    have key : hk_S G m_X10_core (d + 4) 0 0 10 [some (.ref 43), some (.int x), some (.int (hI ((i - 0 : Nat) : Int))), some (.int (hI ((0 : Nat) : Int)))] [] h (fun o h' => ∃ x, o = .inl (some (.int x)) ∧ K x h') := by
      refine hk_upto (P := fun v => ∀ h' c' j (b : Nat), b ≤ i → hm_ix n v j → hN h' n m w rc th P c' → hRf hP57 h h' → hm_cr n P i (hm_len n - j) j b = hm_cr n P i (hm_len n) 0 0 → hk_S G m_X10_core (d + 4) 0 0 10 [some (.ref 43), some (.int x), some (.int (hI ((i - b : Nat) : Int))), some (.int (hI (v : Int)))] [] h' (fun o h' => ∃ x, o = .inl (some (.int x)) ∧ K x h')) (hm_last n + 1) (fun v hv ih h' c' j b hbi J N' F' E' => ?_) h c 0 0 (by omega) hm_ix_0 N hRf.rf rfl
      refine b_X10_core_10 N'.o (r_last N' ?_)
      refine b_X10_core_15 (fun c2 => ?_) (fun c2 => ?_)
      · rw [hN_lt (by omega) (by omega)] at c2
        have ej := hm_ix_end hn J c2
        subst ej
        rw [Nat.sub_self] at E'
        rw [← E'] at hk
        exact b_X10_core_61 ⟨_, rfl, hk h' (A.out N' F') F'⟩
      · rw [hN_lt (by omega) (by omega)] at c2
        refine b_X10_core_18 N'.o rfl (r_digitsN N' (y := 4) (by omega) J (by omega) (fun h2 f hj ev J2 N2 F2 D2 => ?_) (fun h2 f J2 N2 F2 => ?_))
        · obtain ⟨op, ob, -⟩ := hm_at_ok hn hj
          have z0 := hm_blk_2 (P := P) (t := hm_dg n (hm_at n j)) hn.2
          have E2 : hm_cr n P i (hm_len n - j) j b = if hm_blk n P (hm_dg n (hm_at n j)) = none then (if b = i then (hm_at n j : Int) else hm_cr n P i (hm_len n - (j + 1)) (j + 1) (b + 1)) else hm_cr n P i (hm_len n - (j + 1)) (j + 1) b := by
            rw [show hm_len n - j = (hm_len n - (j + 1)) + 1 by omega]; rfl
          rw [E2] at E'
          refine b_X10_core_27 (fun z => absurd z (by decide)) (fun _ => ?_)
          refine b_X10_core_30 N2.o rfl (r_blocking N2 op.1 (fun k hk => by rw [hm_c_eq]; exact D2 k hk) fun h3 c3 N3 F3 _ => ?_)
          have F4 := (F'.tr F2).tr F3
          refine b_X10_core_38 (fun z => ?_) (fun z => ?_)
          · rw [if_pos (z0.mp z)] at E'
            refine b_X10_core_46 (fun q => ?_) (fun q => ?_)
            · rw [show (0 : Int32) = hI ((0 : Nat) : Int) from rfl, hN_eq (by omega) (by omega)] at q
              rw [if_neg (by omega)] at E'
              refine b_X10_core_52 ?_
              have e1 : hI ((i - b : Nat) : Int) + (-1) = hI ((i - (b + 1) : Nat) : Int) := by
                rw [show (-1 : Int32) = hI (-1) from rfl, hI_add]
                congr 1
                omega
              rw [hI_1, e1]
              exact ih (by omega) h3 c3 (j + 1) (b + 1) (by omega) J2 N3 F4 E'
            · rw [show (0 : Int32) = hI ((0 : Nat) : Int) from rfl, hN_eq (by omega) (by omega)] at q
              rw [if_pos (by omega)] at E'
              rw [← E', ev] at hk
              exact b_X10_core_50 ⟨_, rfl, hk h3 (A.out N3 F4) F4⟩
          · rw [if_neg (mt z0.mpr z)] at E'
            refine b_X10_core_43 ?_
            rw [hI_1]
            exact ih (by omega) h3 c3 (j + 1) b hbi J2 N3 F4 E'
        · refine b_X10_core_27 (fun _ => ?_) (fun z => absurd rfl z)
          refine b_X10_core_55 ?_
          rw [hI_1]
          exact ih (by omega) h2 _ j b hbi J2 N2 (F'.tr F2) E'
    rw [Nat.sub_zero, ← ex] at key
    exact key
  · rw [Int32.le_iff_toInt_le, Int32.toInt_zero] at z
    rw [if_neg z] at hk
    exact hk h A hRf.rf
theorem r_by (A : hBA h n m w rc num Rs th P) {x : Int32} {K : Int32 → hk_H → Prop} (hk : ∀ h', hBA h' n m w rc num Rs th P → hRf hP57 h h' → K (hI (hq_by n P x)) h') : hk_Ci G m_X10_by (d + 2) 0 0 [.ref 43, .int x] h K := by
  obtain ⟨c, N⟩ := A.N
  have hn := N.nn
  have hP := N.ok
  have hlast := (hm_b13 ⟨n, by omega⟩ hn.1).1
  simp only at hlast
  unfold hq_by at hk
  refine ⟨Nat.le_of_ble_eq_true rfl, ?_⟩
  refine b_X10_by_0 N.o rfl (r_digits N (y := 4) (by omega) (fun h1 f j0 hj0 hyj N1 F1 D1 => ?_) (fun h1 f z N1 F1 => b_X10_by_9 (fun z2 => absurd rfl z2) (fun _ => b_X10_by_12 ⟨_, rfl, ?_⟩)))
  · rw [hyj, hm_of_some hn hj0] at hk
    simp only at hk
    obtain ⟨-, ob0, -⟩ := hm_at_ok hn hj0
    clear D1
    generalize hm_at n j0 = u at hyj hk ob0
    refine b_X10_by_9 (fun _ => ?_) (fun z => absurd z (by decide))
    refine b_X10_by_14 ?_
    refine hk_upto (P := fun v => ∀ h' c' j, hm_ix n v j → hN h' n m w rc th P c' → hRf hP57 h h' → hf_from (fun j => if hm_turn n P (hm_dg n (hm_at n j)) = u then some (hm_at n j : Int) else none) (hm_len n - j) j = hf (fun j => if hm_turn n P (hm_dg n (hm_at n j)) = u then some (hm_at n j : Int) else none) (hm_len n) → hk_S G m_X10_by (d + 2) 0 0 16 [some (.ref 43), some (.int x), some (.int (hI (v : Int)))] [] h' (fun o h' => ∃ x, o = .inl (some (.int x)) ∧ K x h')) (hm_last n + 1) (fun v hv ih h' c' j J N' F' E' => ?_) h1 _ 0 hm_ix_0 N1 F1 rfl
    refine b_X10_by_16 N'.o (r_last N' ?_)
    refine b_X10_by_21 (fun c2 => ?_) (fun c2 => ?_)
    · rw [hN_lt (by omega) (by omega)] at c2
      have ej := hm_ix_end hn J c2
      subst ej
      rw [hf_end (by omega)] at E'
      rw [← E'] at hk
      exact b_X10_by_63 ⟨_, rfl, hk h' (A.out N' F') F'⟩
    · rw [hN_lt (by omega) (by omega)] at c2
      refine b_X10_by_24 N'.o rfl (r_digitsN N' (y := 3) (by omega) J (by omega) (fun h2 f hj ev J2 N2 F2 D2 => ?_) (fun h2 f J2 N2 F2 => ?_))
      · obtain ⟨op, ob, -⟩ := hm_at_ok hn hj
        have hb := hm_turn_b hn hP op.1
        refine b_X10_by_33 (fun _ => ?_) (fun z => absurd z (by decide))
        refine b_X10_by_39 N2.o (r_turn N2 op (fun k hk => by rw [hm_c_eq]; exact D2 k hk) fun h3 c3 N3 F3 _ _ _ D3 => ?_)
        refine b_X10_by_43 N3.o rfl (r_code N3 (x := 0) (by omega) (t := hm_tt n P (hm_dg n (hm_at n j)) n) D3 ?_)
        have F4 := (F'.tr F2).tr F3
        change hk_S G m_X10_by (d + 2) 0 0 51 _ [.int (hI (hm_turn n P (hm_dg n (hm_at n j)) : Nat))] _ _
        rw [hyj]
        refine b_X10_by_51 (fun q => ?_) (fun q => ?_)
        · rw [hN_eq (by omega) (by omega)] at q
          rw [hf_none hj (if_neg q)] at E'
          refine b_X10_by_57 ?_
          rw [hI_1, ← hyj]
          exact ih (by omega) h3 c3 (j + 1) J2 N3 F4 E'
        · rw [hN_eq (by omega) (by omega)] at q
          rw [hf_some hj (if_pos q)] at E'
          rw [← E', ev] at hk
          exact b_X10_by_55 ⟨_, rfl, hk h3 (A.out N3 F4) F4⟩
      · refine b_X10_by_33 (fun z => absurd rfl z) (fun _ => ?_)
        refine b_X10_by_36 ?_
        rw [hI_1]
        exact ih (by omega) h2 _ j J2 N2 (F'.tr F2) E'
  · rw [hm_of_none z] at hk
    exact hk h1 (A.out N1 F1) F1
end RT
