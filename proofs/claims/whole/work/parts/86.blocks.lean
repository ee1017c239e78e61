/-! What blocks a trade, what betters it; the least lie. -/
section SBl
variable {G : hk_G} {h h' : hk_H} {n : Nat} {P : Nat → Nat → Nat} {c : Nat → Nat → Int32} {d : Nat}
theorem hm_len_b (hn : 2 ≤ n ∧ n ≤ 4) : hm_len n ≤ 24 := (hm_b2 ⟨n, by omega⟩ hn.1).2
theorem hm_of_len : Int32.ofNat (hm_len n) = hI ((hm_len n : Nat) : Int) := rfl
theorem s_leastBlocking (M : hM h n P c) {v : Nat} (hv : v < 100000) (hp : hm_perm n (hm_dg n v)) {K : Int32 → hk_H → Prop} (hk : ∀ h' c', hM h' n P c' → hMf h h' → K (hI ((hm_blk n P (hm_dg n v)).getD 0)) h') : hk_Ci G m_X1_leastBlocking (d + 2) 0 0 [.ref 18, .int (hI v)] h K := by
  have hn := M.2.2.2.2.2.2
  have h2n : 1 ≤ 2 ^ n := Nat.pow_pos (by omega)
  have h216 : 2 ^ n ≤ 16 := Nat.pow_le_pow_right (n := 2) (by omega) hn.2
  have hl := hm_len_b hn
  have hsh := hd_sh ⟨n, by omega⟩
  simp only at hsh
  refine ⟨Nat.le_of_ble_eq_true rfl, ?_⟩
  refine b_X1_leastBlocking_0 M.1 rfl (s_read M hv (x := 3) (by omega) fun h1 f M1 F1 D1 => ?_)
  refine b_X1_leastBlocking_9 ?_
  generalize hm_dg n v = t at hp hk D1
  refine hk_uptoF (P := fun g => ∀ h' c' (o3 o4 o5 o6 : Option Value), hk_c1 o3 → hk_c1 o4 → hk_c1 o5 → hM h' n P c' → hMf h h' → (∀ k, k < n → c' 3 k = hI (t k : Nat)) → hf_from (fun g => if 1 ≤ g ∧ hm_beat n P g t = true then some (g : Int) else none) (2 ^ n - g) g = hm_blk n P t → hk_S G m_X1_leastBlocking (d + 2) 0 0 11 [some (.ref 18), some (.int (hI v)), some (.int (hI (g : Int))), o3, o4, o5, o6] [] h' (fun o h' => ∃ x, o = .inl (some (.int x)) ∧ K x h')) 1 (2 ^ n) h2n (fun g hg0 hg ih h' c' o3 o4 o5 o6 q3 q4 q5 M' F' D' E' => ?_) h1 _ none none none none hk_c10 hk_c10 hk_c10 M1 F1 (fun k hk => by rw [hm_c_eq]; exact D1 k hk) ?_
  · refine b_X1_leastBlocking_11 M'.1 rfl (fun cc => ?_) (fun cc => ?_)
    · rw [hsh, hN_le (by omega) (by omega)] at cc
      rw [hf_end (by omega)] at E'
      rw [← E'] at hk
      exact b_X1_leastBlocking_86 ⟨_, rfl, hk h' c' M' F'⟩
    · rw [hsh, hN_le (by omega) (by omega)] at cc
      have hgl : g < 2 ^ n := by omega
      refine b_X1_leastBlocking_21 M'.1 rfl M'.2.1 (by omega) ?_
      rw [hm_of_len]
      refine hk_upto (P := fun j => ∀ h' c' (o6 : Option Value), hM h' n P c' → hMf h h' → (∀ k, k < n → c' 3 k = hI (t k : Nat)) → (∀ j', j' < j → hm_bet n P g t (hm_dg n (hm_at n j')) = false) → hk_S G m_X1_leastBlocking (d + 2) 0 0 33 [some (.ref 18), some (.int (hI v)), some (.int (hI (g : Int))), some (.ref (n - 1)), some (.int (hI (hm_len n : Nat))), some (.int (hI (j : Int))), o6] [] h' (fun o h' => ∃ x, o = .inl (some (.int x)) ∧ K x h')) (hm_len n) (fun j hj ih2 h' c' o6 M' F' D' N' => ?_) h' c' _ M' F' D' (fun j' hj' => by omega)
      refine b_X1_leastBlocking_33 (fun c2 => ?_) (fun c2 => ?_)
      · rw [hN_le (by omega) (by omega)] at c2
        have hb : hm_beat n P g t = false := by
          unfold hm_beat
          rw [Bool.not_eq_false', ha_is]
          intro j' hj'
          rw [N' j' (by omega)]; rfl
        rw [hf_none hgl (if_neg (fun z => by rw [hb] at z; cases z.2))] at E'
        refine b_X1_leastBlocking_80 ?_
        rw [hI_1]
        exact ih hgl h' c' _ _ _ _ hk_c1r hk_c1i hk_c1i M' F' D' E'
      · rw [hN_le (by omega) (by omega)] at c2
        have hjl : j < hm_len n := by omega
        obtain ⟨op, ob, -⟩ := hm_at_ok hn hjl
        refine b_X1_leastBlocking_40 M'.2.1 j (hI_at rfl (by omega)) (by omega) M'.1 rfl (s_read M' (x := 4) (by omega) (by omega) fun h2 f2 M2 F2 D2 => ?_)
        have F3 := F'.tr F2
        have D3 : ∀ k, k < n → hm_c c' 4 f2 3 k = hI (t k : Nat) := fun k hk => by rw [hm_c_ne (by omega)]; exact D' k hk
        have D4 : ∀ k, k < n → hm_c c' 4 f2 4 k = hI (hm_dg n (hm_at n j) k : Nat) := fun k hk => by rw [hm_c_eq]; exact D2 k hk
        have next : hm_bet n P g t (hm_dg n (hm_at n j)) = false → ∀ o6 : Option Value, hk_S G m_X1_leastBlocking (d + 2) 0 0 74 [some (.ref 18), some (.int (hI v)), some (.int (hI (g : Int))), some (.ref (n - 1)), some (.int (hI (hm_len n : Nat))), some (.int (hI (j : Int))), o6] [] h2 (fun o h' => ∃ x, o = .inl (some (.int x)) ∧ K x h') := by
          intro z o6
          refine b_X1_leastBlocking_74 ?_
          rw [hI_1]
          refine ih2 hjl h2 _ _ M2 F3 D3 fun j' hj' => ?_
          by_cases e : j' = j
          · subst e; exact z
          · exact N' j' (by omega)
        refine b_X1_leastBlocking_56 M2.1 (s_keepsWithin M2 (by omega) op.1 D4 ?_)
        by_cases k1 : hm_keep n g (hm_dg n (hm_at n j)) = true
        · rw [k1]
          refine b_X1_leastBlocking_61 (fun z => absurd z (by decide)) (fun _ => ?_)
          refine b_X1_leastBlocking_64 M2.1 (s_isBetterFor M2 (by omega) hp.1 op.1 D3 D4 ?_)
          by_cases k2 : hm_btr n P g t (hm_dg n (hm_at n j)) = true
          · rw [k2]
            have hb : hm_beat n P g t = true := by
              unfold hm_beat
              rw [Bool.not_eq_true', ← Bool.not_eq_true, ha_is]
              intro z
              have := z j hjl
              unfold hm_bet at this
              rw [k1, k2] at this
              cases this
            rw [hf_some hgl (if_pos ⟨hg0, hb⟩)] at E'
            rw [← E'] at hk
            exact b_X1_leastBlocking_69 (fun z => absurd z (by decide)) (fun _ => b_X1_leastBlocking_72 ⟨_, rfl, hk h2 _ M2 F3⟩)
          · rw [Bool.not_eq_true] at k2
            rw [k2]
            exact b_X1_leastBlocking_69 (fun _ => next (by unfold hm_bet; rw [k2, Bool.and_false]) _) (fun z => absurd rfl z)
        · rw [Bool.not_eq_true] at k1
          rw [k1]
          exact b_X1_leastBlocking_61 (fun _ => next (by unfold hm_bet; rw [k1, Bool.false_and]) _) (fun z => absurd rfl z)
  · unfold hm_blk hf
    have := hf_none (f := fun g => if 1 ≤ g ∧ hm_beat n P g t = true then some (g : Int) else none) (n := 2 ^ n) (i := 0) (by omega) (if_neg (fun z => by omega))
    rw [Nat.sub_zero] at this
    exact this.symm
theorem hm_keep_full (hn : 2 ≤ n ∧ n ≤ 4) {o : Nat → Nat} (ho : ∀ k, k < n → o k < n) : hm_keep n (2 ^ n - 1) o = true := by
  unfold hm_keep
  rw [ha_is]
  intro i hi
  rw [hm_full_and hn (o i) (ho i hi), Bool.or_true]
theorem s_isBettered (M : hM h n P c) {v : Nat} (hv : v < 100000) (hp : hm_perm n (hm_dg n v)) {K : Int32 → hk_H → Prop} (hk : ∀ h' c', hM h' n P c' → hMf h h' → K (hI (hb (hm_beat n P (2 ^ n - 1) (hm_dg n v)))) h') : hk_Ci G m_X1_isBettered (d + 2) 0 0 [.ref 18, .int (hI v)] h K := by
  have hn := M.2.2.2.2.2.2
  have h2n : 1 ≤ 2 ^ n := Nat.pow_pos (by omega)
  have h216 : 2 ^ n ≤ 16 := Nat.pow_le_pow_right (n := 2) (by omega) hn.2
  have hl := hm_len_b hn
  refine ⟨Nat.le_of_ble_eq_true rfl, ?_⟩
  refine b_X1_isBettered_0 M.1 rfl (s_read M hv (x := 3) (by omega) fun h1 f M1 F1 D1 => ?_)
  refine b_X1_isBettered_9 M1.1 rfl M1.2.1 (by omega) ?_
  rw [hm_of_len]
  generalize hm_dg n v = t at hp hk D1
  refine hk_upto (P := fun j => ∀ h' c' (o5 : Option Value), hM h' n P c' → hMf h h' → (∀ k, k < n → c' 3 k = hI (t k : Nat)) → (∀ j', j' < j → hm_bet n P (2 ^ n - 1) t (hm_dg n (hm_at n j')) = false) → hk_S G m_X1_isBettered (d + 2) 0 0 20 [some (.ref 18), some (.int (hI v)), some (.ref (n - 1)), some (.int (hI (hm_len n : Nat))), some (.int (hI (j : Int))), o5] [] h' (fun o h' => ∃ x, o = .inl (some (.int x)) ∧ K x h')) (hm_len n) (fun j hj ih h' c' o5 M' F' D' N' => ?_) h1 _ none M1 F1 (fun k hk => by rw [hm_c_eq]; exact D1 k hk) (fun j' hj' => by omega)
  refine b_X1_isBettered_20 (fun c2 => ?_) (fun c2 => ?_)
  · rw [hN_le (by omega) (by omega)] at c2
    have hb : hm_beat n P (2 ^ n - 1) t = false := by
      unfold hm_beat
      rw [Bool.not_eq_false', ha_is]
      intro j' hj'
      rw [N' j' (by omega)]; rfl
    rw [hb] at hk
    exact b_X1_isBettered_65 ⟨_, rfl, hk h' c' M' F'⟩
  · rw [hN_le (by omega) (by omega)] at c2
    have hjl : j < hm_len n := by omega
    obtain ⟨op, ob, -⟩ := hm_at_ok hn hjl
    refine b_X1_isBettered_26 M'.2.1 j (hI_at rfl (by omega)) (by omega) M'.1 rfl (s_read M' (x := 4) (by omega) (by omega) fun h2 f2 M2 F2 D2 => ?_)
    have F3 := F'.tr F2
    have D3 : ∀ k, k < n → hm_c c' 4 f2 3 k = hI (t k : Nat) := fun k hk => by rw [hm_c_ne (by omega)]; exact D' k hk
    have D4 : ∀ k, k < n → hm_c c' 4 f2 4 k = hI (hm_dg n (hm_at n j) k : Nat) := fun k hk => by rw [hm_c_eq]; exact D2 k hk
    have kf := hm_keep_full hn op.1
    refine b_X1_isBettered_42 M2.1 rfl ?_
    rw [hh_full hn, show ((2 ^ n : Nat) : Int) - 1 = ((2 ^ n - 1 : Nat) : Int) by omega]
    refine s_isBetterFor M2 (by omega) hp.1 op.1 D3 D4 ?_
    by_cases k2 : hm_btr n P (2 ^ n - 1) t (hm_dg n (hm_at n j)) = true
    · rw [k2]
      have hb : hm_beat n P (2 ^ n - 1) t = true := by
        unfold hm_beat
        rw [Bool.not_eq_true', ← Bool.not_eq_true, ha_is]
        intro z
        have := z j hjl
        unfold hm_bet at this
        rw [kf, k2] at this
        cases this
      rw [hb] at hk
      exact b_X1_isBettered_54 (fun z => absurd z (by decide)) (fun _ => b_X1_isBettered_57 ⟨_, rfl, hk h2 _ M2 F3⟩)
    · rw [Bool.not_eq_true] at k2
      rw [k2]
      refine b_X1_isBettered_54 (fun _ => ?_) (fun z => absurd rfl z)
      refine b_X1_isBettered_59 ?_
      rw [hI_1]
      refine ih hjl h2 _ _ M2 F3 D3 fun j' hj' => ?_
      by_cases e : j' = j
      · subst e; unfold hm_bet; rw [k2, Bool.and_false]
      · exact N' j' (by omega)
def hm_goodN (n : Nat) (P : Nat → Nat → Nat) : Nat → Nat
  | 0 => 0
  | j + 1 => if hm_beat n P (2 ^ n - 1) (hm_dg n (hm_at n j)) = true then hm_goodN n P j else hm_goodN n P j + 1
def hm_coreN (n : Nat) (P : Nat → Nat → Nat) : Nat → Nat
  | 0 => 0
  | j + 1 => if hm_blk n P (hm_dg n (hm_at n j)) = none then hm_coreN n P j + 1 else hm_coreN n P j
theorem s_goodTrades (M : hM h n P c) {K : Int32 → hk_H → Prop} (hk : ∀ h' c', hM h' n P c' → hMf h h' → K (hI (hm_goodN n P (hm_len n) : Nat)) h') : hk_Ci G m_X1_goodTrades (d + 3) 0 0 [.ref 18] h K := by
  have hn := M.2.2.2.2.2.2
  have hl := hm_len_b hn
  refine ⟨Nat.le_of_ble_eq_true rfl, ?_⟩
  refine b_X1_goodTrades_0 M.1 rfl M.2.1 (by omega) ?_
  rw [hm_of_len]
  refine hk_upto (P := fun j => ∀ h' c' (o5 : Option Value), hM h' n P c' → hMf h h' → hk_S G m_X1_goodTrades (d + 3) 0 0 13 [some (.ref 18), some (.int (hI (hm_goodN n P j : Nat))), some (.ref (n - 1)), some (.int (hI (hm_len n : Nat))), some (.int (hI (j : Int))), o5] [] h' (fun o h' => ∃ x, o = .inl (some (.int x)) ∧ K x h')) (hm_len n) (fun j hj ih h' c' o5 M' F' => ?_) h c none M hMf.rf
  refine b_X1_goodTrades_13 (fun c2 => ?_) (fun c2 => ?_)
  · rw [hN_le (by omega) (by omega)] at c2
    have e : j = hm_len n := by omega
    subst e
    exact b_X1_goodTrades_43 ⟨_, rfl, hk h' c' M' F'⟩
  · rw [hN_le (by omega) (by omega)] at c2
    have hjl : j < hm_len n := by omega
    obtain ⟨op, ob, -⟩ := hm_at_ok hn hjl
    refine b_X1_goodTrades_19 M'.2.1 j (hI_at rfl (by omega)) (by omega) M'.1 (s_isBettered M' (by omega) op fun h2 c2' M2 F2 => ?_)
    by_cases k2 : hm_beat n P (2 ^ n - 1) (hm_dg n (hm_at n j)) = true
    · rw [k2]
      refine b_X1_goodTrades_31 (fun _ => ?_) (fun z => absurd z (by decide))
      refine b_X1_goodTrades_37 ?_
      rw [hI_1]
      have := ih hjl h2 _ (some (.int (hI (hm_at n j : Nat)))) M2 (F'.tr F2)
      unfold hm_goodN at this
      rw [if_pos k2] at this
      exact this
    · have := ih hjl h2 _ (some (.int (hI (hm_at n j : Nat)))) M2 (F'.tr F2)
      unfold hm_goodN at this
      rw [if_neg k2] at this
      rw [Bool.not_eq_true] at k2
      rw [k2]
      refine b_X1_goodTrades_31 (fun z => absurd rfl z) (fun _ => ?_)
      refine b_X1_goodTrades_34 ?_
      rw [hI_1, hI_1]
      exact this
theorem hm_blk_0 {t : Nat → Nat} (hn : n ≤ 4) : (hI ((hm_blk n P t).getD 0) = 0 ↔ hm_blk n P t = none) ∧ 0 ≤ (hm_blk n P t).getD 0 ∧ (hm_blk n P t).getD 0 ≤ 16 := by
  have h216 : 2 ^ n ≤ 16 := Nat.pow_le_pow_right (n := 2) (by omega) hn
  cases e : hm_blk n P t with
  | none => exact ⟨⟨fun _ => rfl, fun _ => rfl⟩, by decide, by decide⟩
  | some v =>
    unfold hm_blk at e
    obtain ⟨g, h1, h2, -⟩ := hf_is.mp e
    split at h2
    · rename_i z
      have h2 := Option.some.inj h2
      show (hI v = 0 ↔ some v = none) ∧ 0 ≤ v ∧ v ≤ 16
      refine ⟨⟨fun q => ?_, fun q => by cases q⟩, by omega, by omega⟩
      rw [show (0 : Int32) = hI 0 from rfl, hI_eq (by omega) (by omega)] at q
      omega
    · cases h2
theorem s_coreTrades (M : hM h n P c) {K : Int32 → hk_H → Prop} (hk : ∀ h' c', hM h' n P c' → hMf h h' → K (hI (hm_coreN n P (hm_len n) : Nat)) h') : hk_Ci G m_X1_coreTrades (d + 3) 0 0 [.ref 18] h K := by
  have hn := M.2.2.2.2.2.2
  have hl := hm_len_b hn
  refine ⟨Nat.le_of_ble_eq_true rfl, ?_⟩
  refine b_X1_coreTrades_0 M.1 rfl M.2.1 (by omega) ?_
  rw [hm_of_len]
  refine hk_upto (P := fun j => ∀ h' c' (o5 : Option Value), hM h' n P c' → hMf h h' → hk_S G m_X1_coreTrades (d + 3) 0 0 13 [some (.ref 18), some (.int (hI (hm_coreN n P j : Nat))), some (.ref (n - 1)), some (.int (hI (hm_len n : Nat))), some (.int (hI (j : Int))), o5] [] h' (fun o h' => ∃ x, o = .inl (some (.int x)) ∧ K x h')) (hm_len n) (fun j hj ih h' c' o5 M' F' => ?_) h c none M hMf.rf
  refine b_X1_coreTrades_13 (fun c2 => ?_) (fun c2 => ?_)
  · rw [hN_le (by omega) (by omega)] at c2
    have e : j = hm_len n := by omega
    subst e
    exact b_X1_coreTrades_43 ⟨_, rfl, hk h' c' M' F'⟩
  · rw [hN_le (by omega) (by omega)] at c2
    have hjl : j < hm_len n := by omega
    obtain ⟨op, ob, -⟩ := hm_at_ok hn hjl
    have z0 := (hm_blk_0 (P := P) (t := hm_dg n (hm_at n j)) hn.2).1
    refine b_X1_coreTrades_19 M'.2.1 j (hI_at rfl (by omega)) (by omega) M'.1 (s_leastBlocking M' (by omega) op fun h2 c2' M2 F2 => ?_)
    have := ih hjl h2 _ (some (.int (hI (hm_at n j : Nat)))) M2 (F'.tr F2)
    unfold hm_coreN at this
    refine b_X1_coreTrades_31 (fun z => ?_) (fun z => ?_)
    · rw [if_neg (mt z0.mpr z)] at this
      refine b_X1_coreTrades_37 ?_
      rw [hI_1]
      exact this
    · rw [if_pos (z0.mp z)] at this
      refine b_X1_coreTrades_34 ?_
      rw [hI_1, hI_1]
      exact this
def hm_lie (n : Nat) (P : Nat → Nat → Nat) (i : Nat) : Int := (hf (fun j => if hm_pl n P i (hm_fin n (hm_up P i (hm_dg n (hm_at n j))) i).1 < hm_pl n P i (hm_fin n P i).1 then some (hm_at n j : Int) else none) (hm_len n)).getD (-2)
theorem hm_rg_lt (hn : 1 ≤ n) (hP : hm_ok n P) {i : Nat} (hi : i < n) : ∀ f g t, (hm_rg n P f g t i).1 < n := by
  intro f
  induction f with
  | zero => intro g t; exact hn
  | succ f ih =>
    intro g t
    unfold hm_rg
    split
    · exact hm_best_lt hn (hP i hi)
    · exact ih _ _
theorem hm_fin_lt (hn : 1 ≤ n) (hP : hm_ok n P) {i : Nat} (hi : i < n) : (hm_fin n P i).1 < n := hm_rg_lt hn hP hi _ _ _
theorem s_thingBySaying (M : hM h n P c) {i v : Nat} (hi : i < n) (hv : v < 100000) (hp : hm_perm n (hm_dg n v)) {K : Int32 → hk_H → Prop} (hk : ∀ h' c', hM h' n (hm_up P i (hm_dg n v)) c' → hMf h h' → K (hI ((hm_fin n (hm_up P i (hm_dg n v)) i).1 : Nat)) h') : hk_Ci G m_X1_thingBySaying (d + 3) 0 0 [.ref 18, .int (hI i), .int (hI v)] h K := by
  have hn := M.2.2.2.2.2.2
  refine ⟨Nat.le_of_ble_eq_true rfl, ?_⟩
  refine b_X1_thingBySaying_0 M.1 (s_learn M hi hv hp fun h1 f M1 F1 => ?_)
  refine b_X1_thingBySaying_6 M1.1 (s_tradeByRings M1 fun h2 c2 M2 F2 D2 => ?_)
  refine b_X1_thingBySaying_10 M2.1 rfl (M2.at (x := 1) (by omega)) i (hI_at rfl (by omega)) (by omega) ⟨_, rfl, ?_⟩
  rw [(D2 i hi).1]
  exact hk h2 c2 M2 (F1.tr F2)
theorem hm_up_back (hP : hm_ok n P) (hn : n ≤ 4) {i : Nat} (hi : i < n) {t : Nat → Nat} : ∀ i' k, i' < n → k < n → hm_up (hm_up P i t) i (hm_dg n (hm_cd (P i) n)) i' k = P i' k := by
  intro i' k h1 h2
  unfold hm_up
  by_cases e : i' = i
  · subst e
    simp only [if_true]
    exact hm_dg_cd n (fun q hq => by have := (hP i' hi).1 q hq; omega) k h2
  · simp only [e, if_false]
theorem hM.to (M : hM h n P c) {P' : Nat → Nat → Nat} (e : ∀ i k, i < n → k < n → P' i k = P i k) : hM h n P' c := by
  obtain ⟨m1, m2, ⟨tf, m3, m3'⟩, ⟨pf, m4, m4'⟩, m5, m6, m7⟩ := M
  refine ⟨m1, m2, ⟨tf, m3, fun i k hi hk => by rw [e i k hi hk]; exact m3' i k hi hk⟩, ⟨pf, m4, fun i k hi hk => by rw [e i k hi hk]; exact m4' i k hi hk⟩, m5, fun i hi => ⟨fun k hk => by rw [e i k hi hk]; exact (m6 i hi).1 k hk, fun k k' hk hk' q => ?_⟩, m7⟩
  rw [e i k hi hk, e i k' hi hk'] at q
  exact (m6 i hi).2 k k' hk hk' q
theorem s_leastLie (M : hM h n P c) {i : Nat} (hi : i < n) {K : Int32 → hk_H → Prop} (hk : ∀ h' c', hM h' n P c' → hMf h h' → K (hI (hm_lie n P i)) h') : hk_Ci G m_X1_leastLie (d + 4) 0 0 [.ref 18, .int (hI i)] h K := by
  have hn := M.2.2.2.2.2.2
  have hP := M.2.2.2.2.2.1
  have hl := hm_len_b hn
  have hd10 : ∀ q, q < n → P i q < 10 := fun q hq => by have := (hP i hi).1 q hq; omega
  have hcd : hm_cd (P i) n < 100000 := by
    have h1 := hm_cd_lt n hd10
    have : 10 ^ n ≤ 10 ^ 4 := Nat.pow_le_pow_right (by omega) hn.2
    omega
  have hpc : hm_perm n (hm_dg n (hm_cd (P i) n)) := by
    have e := hm_dg_cd n hd10
    refine ⟨fun k hk => by rw [e k hk]; exact (hP i hi).1 k hk, fun k k' hk hk' q => ?_⟩
    rw [e k hk, e k' hk'] at q
    exact (hP i hi).2 k k' hk hk' q
  have hf0 := hm_fin_lt (by omega) hP hi
  have hpl0 := (hm_pl_lt hn.2 (hP i hi) hf0).1
  unfold hm_lie at hk
  refine ⟨Nat.le_of_ble_eq_true rfl, ?_⟩
  refine b_X1_leastLie_0 M.1 (s_orderOf M hi fun h1 f1 M1 F1 => ?_)
  refine b_X1_leastLie_5 M1.1 (s_tradeByRings M1 fun h2 c2 M2 F2 D2 => ?_)
  refine b_X1_leastLie_10 M2.1 rfl (M2.at (x := 1) (by omega)) i (hI_at rfl (by omega)) (by omega) ?_
  rw [(D2 i hi).1]
  refine s_placeFor M2 hi hf0 ?_
  refine b_X1_leastLie_22 ?_
  refine hk_upto (P := fun j => ∀ h' c' (o6 : Option Value), hk_c1 o6 → hM h' n P c' → hMf h h' → (∀ j', j' < j → ¬ hm_pl n P i (hm_fin n (hm_up P i (hm_dg n (hm_at n j'))) i).1 < hm_pl n P i (hm_fin n P i).1) → hk_S G m_X1_leastLie (d + 4) 0 0 30 [some (.ref 18), some (.int (hI i)), some (.int (hI (hm_cd (P i) n : Nat))), some (.int (hI (hm_pl n P i (hm_fin n P i).1 : Nat))), some (.int (-2)), some (.int (hI (j : Int))), o6] [] h' (fun o h' => ∃ x, o = .inl (some (.int x)) ∧ K x h')) (hm_len n) (fun j hj ih h' c' o6 q6 M' F' N' => ?_) h2 c2 none hk_c10 M2 (F1.tr F2) (fun j' hj' => by omega)
  refine b_X1_leastLie_30 M'.1 rfl M'.2.1 (by omega) (fun cc => ?_) (fun cc => ?_)
  · rw [hm_of_len, hN_le (by omega) (by omega)] at cc
    rw [hf_no.mpr fun j' hj' => if_neg (N' j' (by omega))] at hk
    exact b_X1_leastLie_93 ⟨_, rfl, hk h' c' M' F'⟩
  · rw [hm_of_len, hN_le (by omega) (by omega)] at cc
    have hjl : j < hm_len n := by omega
    obtain ⟨op, ob, -⟩ := hm_at_ok hn hjl
    refine b_X1_leastLie_40 (fun z => absurd rfl z) (fun _ => ?_)
    refine b_X1_leastLie_47 M'.1 rfl M'.2.1 j (hI_at rfl (by omega)) (by omega) (s_thingBySaying M' hi (by omega) op fun h3 c3 M3 F3 => ?_)
    have hfl := hm_fin_lt (by omega) M3.2.2.2.2.2.1 hi
    have hpl := (hm_pl_lt hn.2 (hP i hi) hfl).1
    refine b_X1_leastLie_59 M3.1 (s_learn M3 hi hcd hpc fun h4 f4 M4 F4 => ?_)
    have M5 := M4.to (P' := P) fun i' k h1 h2 => (hm_up_back hP hn.2 hi i' k h1 h2).symm
    have F5 := (F'.tr F3).tr F4
    refine b_X1_leastLie_67 M5.1 (s_placeFor M5 hi hfl ?_)
    refine b_X1_leastLie_74 (fun c3 => ?_) (fun c3 => ?_)
    · rw [hN_le (by omega) (by omega)] at c3
      refine b_X1_leastLie_87 ?_
      rw [hI_1]
      refine ih hjl h4 _ _ hk_c1i M5 F5 fun j' hj' => ?_
      by_cases e : j' = j
      · subst e; omega
      · exact N' j' (by omega)
    · rw [hN_le (by omega) (by omega)] at c3
      have ev := hf_is (f := fun j => if hm_pl n P i (hm_fin n (hm_up P i (hm_dg n (hm_at n j))) i).1 < hm_pl n P i (hm_fin n P i).1 then some (hm_at n j : Int) else none) (n := hm_len n) (v := (hm_at n j : Int)) |>.mpr ⟨j, hjl, if_pos (by omega), fun j' hj' => if_neg (N' j' hj')⟩
      rw [ev] at hk
      refine b_X1_leastLie_78 M5.1 rfl M5.2.1 j (hI_at rfl (by omega)) (by omega) ?_
      have e2 : ¬ hI (hm_at n j : Nat) = -2 := by
        rw [show (-2 : Int32) = hI (-2) from rfl, hI_eq (by omega) (by omega)]
        omega
      refine b_X1_leastLie_30 M5.1 rfl M5.2.1 (by omega) (fun _ => ?_) (fun _ => ?_)
      · exact b_X1_leastLie_93 ⟨_, rfl, hk h4 _ M5 F5⟩
      · exact b_X1_leastLie_40 (fun _ => b_X1_leastLie_93 ⟨_, rfl, hk h4 _ M5 F5⟩) (fun z => absurd z e2)
end SBl
