/-! Turns; what blocks, what is better. -/
def hm_tg (n : Nat) (P : Nat → Nat → Nat) (t : Nat → Nat) : Nat → Nat
  | 0 => 2 ^ n - 1
  | k + 1 => hm_tg n P t k - 2 ^ hm_best n P (t k) (hm_tg n P t k)
def hm_tt (n : Nat) (P : Nat → Nat → Nat) (t : Nat → Nat) : Nat → Nat → Nat
  | 0 => fun _ => 0
  | k + 1 => fun x => if x = t k then hm_best n P (t k) (hm_tg n P t k) else hm_tt n P t k x
def hm_turn (n : Nat) (P : Nat → Nat → Nat) (t : Nat → Nat) : Nat := hm_cd (hm_tt n P t n) n
theorem hm_b11 : ∀ g : Fin 16, (g.val == 0 || hm_e 4 (fun x => hh_mem g x)) = true := by decide +kernel
theorem hm_tg_is {n : Nat} (hn : 2 ≤ n ∧ n ≤ 4) {P : Nat → Nat → Nat} (hP : hm_ok n P) {t : Nat → Nat} (ht : ∀ k, k < n → t k < n) : ∀ k, k ≤ n → hm_tg n P t k < 2 ^ n ∧ hh_cnt 4 (hm_tg n P t k) = n - k ∧ (k < n → hh_mem (hm_tg n P t k) (hm_best n P (t k) (hm_tg n P t k)) = true) := by
  have h2n : 1 ≤ 2 ^ n := Nat.pow_pos (by omega)
  have h216 : 2 ^ n ≤ 16 := Nat.pow_le_pow_right (n := 2) (by omega) hn.2
  have key : ∀ k g, k < n → g < 2 ^ n → hh_cnt 4 g = n - k → hh_mem g (hm_best n P (t k) g) = true := by
    intro k g hk hg hc
    have hb := hm_b11 ⟨g, by omega⟩
    simp only at hb
    rw [Bool.or_eq_true] at hb
    rcases hb with e | e
    · have e : g = 0 := eq_of_beq e
      subst e
      have : hh_cnt 4 0 = 0 := rfl
      omega
    · obtain ⟨x, hx, ex⟩ := hm_e_is e
      have hxn := hm_b10 ⟨n, by omega⟩ ⟨g, by omega⟩ hg ⟨x, hx⟩ ex
      exact hm_best_mem hn.2 (hP _ (ht k hk)) hxn ex
  intro k
  induction k with
  | zero =>
    intro _
    have b8 := (hm_b8 ⟨n, by omega⟩).1
    simp only at b8
    refine ⟨by show 2 ^ n - 1 < 2 ^ n; omega, by show hh_cnt 4 (2 ^ n - 1) = n - 0; omega, fun hk => key 0 _ hk (by show 2 ^ n - 1 < 2 ^ n; omega) (by show hh_cnt 4 (2 ^ n - 1) = n - 0; omega)⟩
  | succ k ih =>
    intro hk
    obtain ⟨i1, i2, i3⟩ := ih (by omega)
    have i3 := i3 (by omega)
    have hbl := hm_best_lt (g := hm_tg n P t k) (by omega) (hP _ (ht k (by omega)))
    obtain ⟨b1, -, b3⟩ := hm_b5 ⟨hm_tg n P t k, by omega⟩ ⟨hm_best n P (t k) (hm_tg n P t k), by omega⟩ i3
    simp only at b1 b3
    have e1 : hm_tg n P t (k + 1) < 2 ^ n := by
      exact Nat.lt_of_le_of_lt (Nat.sub_le _ _) i1
    have e2 : hh_cnt 4 (hm_tg n P t (k + 1)) = n - (k + 1) := by
      show hh_cnt 4 (hm_tg n P t k - 2 ^ hm_best n P (t k) (hm_tg n P t k)) = n - (k + 1)
      omega
    exact ⟨e1, e2, fun hk' => key (k + 1) _ hk' e1 e2⟩
def hm_keep (n : Nat) (g : Nat) (o : Nat → Nat) : Bool := ha (fun i => !hh_mem g i || hh_mem g (o i)) n
def hm_btr (n : Nat) (P : Nat → Nat → Nat) (g : Nat) (t o : Nat → Nat) : Bool := ha (fun i => !hh_mem g i || decide (hm_pl n P i (o i) ≤ hm_pl n P i (t i))) n && !ha (fun i => !(hh_mem g i && decide (hm_pl n P i (o i) < hm_pl n P i (t i)))) n
def hm_bet (n : Nat) (P : Nat → Nat → Nat) (g : Nat) (t o : Nat → Nat) : Bool := hm_keep n g o && hm_btr n P g t o
def hm_beat (n : Nat) (P : Nat → Nat → Nat) (g : Nat) (t : Nat → Nat) : Bool := !ha (fun j => !hm_bet n P g t (hm_dg n (hm_at n j))) (hm_len n)
def hm_blk (n : Nat) (P : Nat → Nat → Nat) (t : Nat → Nat) : Option Int := hf (fun g => if 1 ≤ g ∧ hm_beat n P g t = true then some (g : Int) else none) (2 ^ n)
section STu
variable {G : hk_G} {h h' : hk_H} {n : Nat} {P : Nat → Nat → Nat} {c : Nat → Nat → Int32} {d : Nat}
theorem s_tradeByTurns (M : hM h n P c) {v : Nat} (hv : v < 100000) (hp : hm_perm n (hm_dg n v)) {K : Int32 → hk_H → Prop} (hk : ∀ h' c', hM h' n P c' → hMf h h' → K (hI (hm_turn n P (hm_dg n v) : Nat)) h') : hk_Ci G m_X1_tradeByTurns (d + 1) 0 0 [.ref 18, .int (hI v)] h K := by
  have hn := M.2.2.2.2.2.2
  have hP := M.2.2.2.2.2.1
  have h2n : 1 ≤ 2 ^ n := Nat.pow_pos (by omega)
  have h216 : 2 ^ n ≤ 16 := Nat.pow_le_pow_right (n := 2) (by omega) hn.2
  have tg := hm_tg_is hn hP hp.1
  refine ⟨Nat.le_of_ble_eq_true rfl, ?_⟩
  refine b_X1_tradeByTurns_0 M.1 rfl (s_read M hv (x := 4) (by omega) fun h1 f M1 F1 D1 => ?_)
  refine b_X1_tradeByTurns_9 M1.1 rfl ?_
  rw [hh_full hn, show ((2 ^ n : Nat) : Int) - 1 = ((2 ^ n - 1 : Nat) : Int) by omega]
  generalize hm_dg n v = t at hp hk D1 tg
  refine hk_upto (P := fun q => ∀ h' c' (o4 : Option Value), hM h' n P c' → hMf h h' → (∀ k, k < n → c' 4 k = hI (t k : Nat)) → (∀ x, x < n → (∃ k', k' < q ∧ t k' = x) → c' 1 x = hI (hm_tt n P t q x : Nat)) → hk_S G m_X1_tradeByTurns (d + 1) 0 0 20 [some (.ref 18), some (.int (hI v)), some (.int (hI (hm_tg n P t q : Nat))), some (.int (hI (q : Int))), o4] [] h' (fun o h' => ∃ x, o = .inl (some (.int x)) ∧ K x h')) n (fun q hq ih h' c' o4 M' F' D' E' => ?_) h1 _ none M1 F1 (fun k hk => by rw [hm_c_eq]; exact D1 k hk) (fun x _ ⟨k', hk', _⟩ => by omega)
  refine b_X1_tradeByTurns_20 M'.1 rfl (fun cc => ?_) (fun cc => ?_)
  · rw [hN_le (by omega) (by omega)] at cc
    have e : q = n := by omega
    subst e
    refine b_X1_tradeByTurns_70 M'.1 rfl (s_told M' (x := 1) (by omega) (t := hm_tt q P t q) (fun k hk => E' k hk (hm_surj hn.2 hp hk)) ?_)
    exact b_X1_tradeByTurns_78 ⟨_, rfl, hk h' c' M' F'⟩
  · rw [hN_le (by omega) (by omega)] at cc
    have hqn : q < n := by omega
    obtain ⟨t1, t2, t3⟩ := tg q (by omega)
    have t3 := t3 hqn
    have htq := hp.1 q hqn
    have hbl := hm_best_lt (g := hm_tg n P t q) (by omega) (hP _ htq)
    have a4 := M'.at (x := 4) (by omega)
    have a1 := M'.at (x := 1) (by omega)
    refine b_X1_tradeByTurns_28 M'.1 rfl a4 q (hI_at rfl (by omega)) (by omega) rfl ?_
    rw [D' q hqn]
    refine s_bestOf M' htq (by omega) ?_
    have M2 := M'.set (x := 1) (by omega) (f := upd (c' 1) (t q) (hI (hm_best n P (t q) (hm_tg n P t q) : Nat)))
    have b1 := M2.at (x := 1) (by omega)
    rw [hm_c_eq] at b1
    refine b_X1_tradeByTurns_49 a1 (by omega) (t q) (hI_at rfl (by omega)) (by omega) rfl M2.1 rfl b1 (t q) (hI_at rfl (by omega)) (by omega) ?_
    have eu : upd (c' 1) (t q) (hI (hm_best n P (t q) (hm_tg n P t q) : Nat)) (t q) = hI (hm_best n P (t q) (hm_tg n P t q) : Nat) := by unfold upd; rw [if_pos rfl]
    rw [eu, hI_1, hm_and' (by omega) (by omega) t3]
    refine ih hqn _ _ _ M2 (F'.set (a := 22) (by omega)) (fun k hk => by rw [hm_c_ne (by omega)]; exact D' k hk) (fun x hx hex => ?_)
    rw [hm_c_eq]
    unfold upd
    show _ = hI ((if x = t q then _ else _ : Nat) : Int)
    by_cases e : x = t q
    · rw [if_pos e, if_pos e]
    · rw [if_neg e, if_neg e]
      refine E' x hx ?_
      obtain ⟨k', h1, h2⟩ := hex
      refine ⟨k', ?_, h2⟩
      by_cases z : k' = q
      · subst z; exact absurd h2.symm e
      · omega
theorem s_keepsWithin (M : hM h n P c) {g : Nat} (hg : g < 16) {o : Nat → Nat} (ho : ∀ k, k < n → o k < n) (hc : ∀ k, k < n → c 4 k = hI (o k : Nat)) {K : Int32 → hk_H → Prop} (hk : K (hI (hb (hm_keep n g o))) h) : hk_Ci G m_X1_keepsWithin d 0 0 [.ref 18, .int (hI g)] h K := by
  have hn := M.2.2.2.2.2.2
  refine ⟨Nat.le_of_ble_eq_true rfl, ?_⟩
  refine b_X1_keepsWithin_0 ?_
  refine hk_upto (P := fun i => ha_from (fun i => !hh_mem g i || hh_mem g (o i)) (n - i) i = hm_keep n g o → hk_S G m_X1_keepsWithin d 0 0 2 [some (.ref 18), some (.int (hI g)), some (.int (hI (i : Int)))] [] h (fun o h' => ∃ x, o = .inl (some (.int x)) ∧ K x h')) n (fun i hi ih e => ?_) rfl
  refine b_X1_keepsWithin_2 M.1 rfl (fun cc => ?_) (fun cc => ?_)
  · rw [hN_le (by omega) (by omega)] at cc
    rw [ha_end (by omega)] at e
    rw [← e] at hk
    exact b_X1_keepsWithin_40 ⟨_, rfl, hk⟩
  · rw [hN_le (by omega) (by omega)] at cc
    have hin : i < n := by omega
    rw [ha_step hin] at e
    have next : (!hh_mem g i || hh_mem g (o i)) = true → hk_S G m_X1_keepsWithin d 0 0 34 [some (.ref 18), some (.int (hI g)), some (.int (hI (i : Int)))] [] h (fun o h' => ∃ x, o = .inl (some (.int x)) ∧ K x h') := by
      intro z
      rw [z, Bool.true_and] at e
      refine b_X1_keepsWithin_34 ?_
      rw [hI_1]
      exact ih hin e
    refine b_X1_keepsWithin_10 (fun c2 => ?_) (fun c2 => ?_)
    · have c2 := mt (hh_bit' hg (by omega)).mpr c2
      rw [Bool.not_eq_true] at c2
      exact next (by rw [c2]; rfl)
    · have c2 := (hh_bit' hg (by omega)).mp c2
      have hoi := ho i hin
      have hbit := hd_bit ⟨g, by omega⟩ ⟨o i, by omega⟩
      simp only at hbit
      refine b_X1_keepsWithin_19 M.1 rfl (M.at (x := 4) (by omega)) i (hI_at rfl (by omega)) (by omega) (fun c3 => ?_) (fun c3 => ?_)
      · rw [hc i hin] at c3
        have c3 := mt hbit.mpr c3
        rw [Bool.not_eq_false] at c3
        exact next (by rw [c3, Bool.or_true])
      · rw [hc i hin] at c3
        have c3 := hbit.mp c3
        rw [c2, c3] at e
        rw [← e] at hk
        exact b_X1_keepsWithin_32 ⟨_, rfl, hk⟩
theorem hb_or (b : Bool) : hI (hb b) ||| 1 = 1 ∧ hI (hb b) ||| 0 = hI (hb b) := by cases b <;> decide
theorem s_isBetterFor (M : hM h n P c) {g : Nat} (hg : g < 16) {t o : Nat → Nat} (ht : ∀ k, k < n → t k < n) (ho : ∀ k, k < n → o k < n) (hc3 : ∀ k, k < n → c 3 k = hI (t k : Nat)) (hc4 : ∀ k, k < n → c 4 k = hI (o k : Nat)) {K : Int32 → hk_H → Prop} (hk : K (hI (hb (hm_btr n P g t o))) h) : hk_Ci G m_X1_isBetterFor (d + 1) 0 0 [.ref 18, .int (hI g)] h K := by
  have hn := M.2.2.2.2.2.2
  have hP := M.2.2.2.2.2.1
  refine ⟨Nat.le_of_ble_eq_true rfl, ?_⟩
  refine b_X1_isBetterFor_0 ?_
  refine hk_upto (P := fun i => ∀ (b : Bool) (o4 : Option Value), (∀ i', i' < i → (!hh_mem g i' || decide (hm_pl n P i' (o i') ≤ hm_pl n P i' (t i'))) = true) → (b = true ↔ ∃ i', i' < i ∧ hh_mem g i' = true ∧ hm_pl n P i' (o i') < hm_pl n P i' (t i')) → hk_S G m_X1_isBetterFor (d + 1) 0 0 4 [some (.ref 18), some (.int (hI g)), some (.int (hI (hb b))), some (.int (hI (i : Int))), o4] [] h (fun o h' => ∃ x, o = .inl (some (.int x)) ∧ K x h')) n (fun i hi ih b o4 A B => ?_) false none (fun i' hi' => by omega) ⟨(fun z => by cases z), fun ⟨i', hi', _⟩ => by omega⟩
  refine b_X1_isBetterFor_4 M.1 rfl (fun cc => ?_) (fun cc => ?_)
  · rw [hN_le (by omega) (by omega)] at cc
    have e1 : ha (fun i => !hh_mem g i || decide (hm_pl n P i (o i) ≤ hm_pl n P i (t i))) n = true := ha_is.mpr fun i' hi' => A i' (by omega)
    have e2 : (!ha (fun i => !(hh_mem g i && decide (hm_pl n P i (o i) < hm_pl n P i (t i)))) n) = b := by
      cases b with
      | true =>
        obtain ⟨i', h1, h2, h3⟩ := B.mp rfl
        rw [Bool.not_eq_true', ← Bool.not_eq_true, ha_is]
        intro z
        have := z i' (by omega)
        rw [h2, decide_eq_true h3] at this
        cases this
      | false =>
        rw [Bool.not_eq_false', ha_is]
        intro i' hi'
        rw [Bool.not_eq_true', ← Bool.not_eq_true, Bool.and_eq_true, decide_eq_true_eq]
        rintro ⟨z1, z2⟩
        have := B.mpr ⟨i', by omega, z1, z2⟩
        cases this
    unfold hm_btr at hk
    rw [e1, e2, Bool.true_and] at hk
    refine b_X1_isBetterFor_72 ⟨_, rfl, hk⟩ ?_
    cases b
    · exact Or.inl rfl
    · exact Or.inr rfl
  · rw [hN_le (by omega) (by omega)] at cc
    have hin : i < n := by omega
    have p1 := (hm_pl_lt hn.2 (hP i hin) (ht i hin)).1
    have p2 := (hm_pl_lt hn.2 (hP i hin) (ho i hin)).1
    refine b_X1_isBetterFor_12 M.1 rfl (M.at (x := 3) (by omega)) i (hI_at rfl (by omega)) (by omega) ?_
    rw [hc3 i hin]
    refine s_placeFor M hin (ht i hin) ?_
    refine b_X1_isBetterFor_23 M.1 rfl (M.at (x := 4) (by omega)) i (hI_at rfl (by omega)) (by omega) ?_
    rw [hc4 i hin]
    refine s_placeFor M hin (ho i hin) ?_
    refine b_X1_isBetterFor_34 (fun c2 => ?_) (fun c2 => ?_)
    · have c2 := mt (hh_bit' hg (by omega)).mpr c2
      have c2' := c2
      rw [Bool.not_eq_true] at c2
      refine b_X1_isBetterFor_66 ?_
      rw [hI_1]
      refine ih hin b _ (fun i' hi' => ?_) ?_
      · by_cases e : i' = i
        · subst e; rw [c2]; rfl
        · exact A i' (by omega)
      · rw [B]
        constructor
        · rintro ⟨i', h1, h2⟩; exact ⟨i', by omega, h2⟩
        · rintro ⟨i', h1, h2⟩
          refine ⟨i', ?_, h2⟩
          by_cases e : i' = i
          · subst e; exact absurd h2.1 c2'
          · omega
    · have c2 := (hh_bit' hg (by omega)).mp c2
      rw [hI_sub]
      refine b_X1_isBetterFor_46 (fun c3 => ?_) (fun c3 => ?_)
      · rw [show (0 : Int32) = hI 0 from rfl, hI_le (by omega) (by omega)] at c3
        have A' : ∀ i', i' < i + 1 → (!hh_mem g i' || decide (hm_pl n P i' (o i') ≤ hm_pl n P i' (t i'))) = true := fun i' hi' => by
          by_cases e : i' = i
          · subst e; rw [decide_eq_true (by omega), Bool.or_true]
          · exact A i' (by omega)
        refine b_X1_isBetterFor_53 (fun c4 => ?_) (fun c4 => ?_)
        · rw [show (0 : Int32) = hI 0 from rfl, hI_le (by omega) (by omega)] at c4
          refine b_X1_isBetterFor_63 ?_
          rw [hI_1, (hb_or b).2]
          refine ih hin b _ A' ?_
          rw [B]
          constructor
          · rintro ⟨i', h1, h2⟩; exact ⟨i', by omega, h2⟩
          · rintro ⟨i', h1, h2⟩
            refine ⟨i', ?_, h2⟩
            by_cases e : i' = i
            · subst e; omega
            · omega
        · rw [show (0 : Int32) = hI 0 from rfl, hI_le (by omega) (by omega)] at c4
          refine b_X1_isBetterFor_59 ?_
          rw [hI_1, (hb_or b).1]
          exact ih hin true _ A' ⟨fun _ => ⟨i, by omega, c2, by omega⟩, fun _ => rfl⟩
      · rw [show (0 : Int32) = hI 0 from rfl, hI_le (by omega) (by omega)] at c3
        have e1 : ha (fun i => !hh_mem g i || decide (hm_pl n P i (o i) ≤ hm_pl n P i (t i))) n = false := by
          rw [← Bool.not_eq_true, ha_is]
          intro z
          have := z i hin
          rw [c2, decide_eq_false (by omega)] at this
          cases this
        unfold hm_btr at hk
        rw [e1, Bool.false_and] at hk
        exact b_X1_isBetterFor_51 ⟨_, rfl, hk⟩
end STu
