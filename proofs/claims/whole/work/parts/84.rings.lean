/-! Rings. -/
section SRi
variable {G : hk_G} {h h' : hk_H} {n : Nat} {P : Nat → Nat → Nat} {c : Nat → Nat → Int32} {d : Nat}
theorem hm_c_ne {x y : Nat} {f : Nat → Int32} (e : y ≠ x) : hm_c c x f y = c y := if_neg e
theorem s_isOnRing (M : hM h n P c) {p : Nat → Nat} (hp : ∀ k, k < n → p k < n) (hc : ∀ k, k < n → c 0 k = hI (p k : Nat)) {i : Nat} (hi : i < n) {K : Int32 → hk_H → Prop} (hk : K (hI (hb (hm_on n p i))) h) : hk_Ci G m_X1_isOnRing d 0 0 [.ref 18, .int (hI i)] h K := by
  have hn := M.2.2.2.2.2.2
  have a0 := M.at (x := 0) (by omega)
  refine ⟨Nat.le_of_ble_eq_true rfl, ?_⟩
  refine b_X1_isOnRing_0 M.1 rfl a0 i (hI_at rfl (by omega)) (by omega) ?_
  rw [hc i hi]
  have fin : ∀ (a : Nat) (o3 : Option Value), a < n → hm_ch p i (n - 1) (p i) = a → hk_S G m_X1_isOnRing d 0 0 35 [some (.ref 18), some (.int (hI i)), some (.int (hI (a : Int))), o3] [] h (fun o h' => ∃ x, o = .inl (some (.int x)) ∧ K x h') := by
    intro a o3 ha e
    unfold hm_on at hk
    rw [e] at hk
    refine b_X1_isOnRing_35 (fun c2 => ?_) (fun c2 => ?_)
    · rw [hN_eq (by omega) (by omega)] at c2
      rw [show (a == i) = false by rw [beq_eq_false_iff_ne]; exact c2] at hk
      exact b_X1_isOnRing_44 ⟨_, rfl, hk⟩
    · rw [hN_eq (by omega) (by omega)] at c2
      rw [show (a == i) = true by rw [c2]; exact beq_self_eq_true _] at hk
      exact b_X1_isOnRing_40 ⟨_, rfl, hk⟩
  refine hk_uptoF (P := fun s => ∀ a : Nat, a < n → hm_ch p i (n - s) a = hm_ch p i (n - 1) (p i) → hk_S G m_X1_isOnRing d 0 0 9 [some (.ref 18), some (.int (hI i)), some (.int (hI (a : Int))), some (.int (hI (s : Int)))] [] h (fun o h' => ∃ x, o = .inl (some (.int x)) ∧ K x h')) 1 n (by omega) (fun s hs0 hs ih a ha e => ?_) (p i) (hp i hi) rfl
  refine b_X1_isOnRing_9 M.1 rfl (fun cc => ?_) (fun cc => ?_)
  · rw [hN_le (by omega) (by omega)] at cc
    rw [show n - s = 0 by omega] at e
    exact fin a _ ha e.symm
  · rw [hN_le (by omega) (by omega)] at cc
    rw [show n - s = (n - (s + 1)) + 1 by omega] at e
    have e' : (if a = i then a else hm_ch p i (n - (s + 1)) (p a)) = hm_ch p i (n - 1) (p i) := e
    refine b_X1_isOnRing_17 (fun c2 => ?_) (fun c2 => ?_)
    · rw [hN_eq (by omega) (by omega)] at c2
      rw [if_pos c2] at e'
      exact fin a _ ha e'.symm
    · rw [hN_eq (by omega) (by omega)] at c2
      rw [if_neg c2] at e'
      refine b_X1_isOnRing_22 M.1 rfl a0 a (hI_at rfl (by omega)) (by omega) ?_
      rw [hc a ha, hI_1]
      exact ih (by omega) (p a) (hp a ha) e'
theorem s_leaveByRings (M : hM h n P c) {g t : Nat} (hg : g < 2 ^ n) {K : Int32 → hk_H → Prop} (hk : ∀ h' c', hM h' n P c' → hMf h h' → (∀ k, k < n → c' 1 k = if hh_mem g k = true ∧ hm_on n (fun x => hm_best n P x g) k = true then hI (hm_best n P k g : Nat) else c 1 k) → (∀ k, k < n → c' 2 k = if hh_mem g k = true ∧ hm_on n (fun x => hm_best n P x g) k = true then hI (t : Nat) else c 2 k) → K (hI (hm_st n P g n : Nat)) h') : hk_Ci G m_X1_leaveByRings (d + 1) 0 0 [.ref 18, .int (hI g), .int (hI t)] h K := by
  have hn := M.2.2.2.2.2.2
  have hP := M.2.2.2.2.2.1
  have h16 : g < 16 := Nat.lt_of_lt_of_le hg (Nat.pow_le_pow_right (n := 2) (by omega) hn.2)
  have hpb : ∀ k, k < n → hm_best n P k g < n := fun k hk => hm_best_lt (by omega) (hP k hk)
  refine ⟨Nat.le_of_ble_eq_true rfl, ?_⟩
  refine b_X1_leaveByRings_0 ?_
  refine hk_upto (P := fun q => ∀ h' c' (o4 : Option Value), hM h' n P c' → hMf h h' → c' 1 = c 1 → c' 2 = c 2 → (∀ k, k < q → c' 0 k = hI (hm_best n P k g : Nat)) → hk_S G m_X1_leaveByRings (d + 1) 0 0 2 [some (.ref 18), some (.int (hI g)), some (.int (hI t)), some (.int (hI (q : Int))), o4] [] h' (fun o h' => ∃ x, o = .inl (some (.int x)) ∧ K x h')) n (fun q hq ih h' c' o4 M' F' e1 e2 B' => ?_) h c none M hMf.rf rfl rfl (fun k hk => by omega)
  refine b_X1_leaveByRings_2 M'.1 rfl (fun cc => ?_) (fun cc => ?_)
  · rw [hN_le (by omega) (by omega)] at cc
    refine b_X1_leaveByRings_28 ?_
    refine hk_upto (P := fun q => ∀ h' c', hM h' n P c' → hMf h h' → (∀ k, k < n → c' 0 k = hI (hm_best n P k g : Nat)) → (∀ k, k < n → c' 1 k = if k < q ∧ hh_mem g k = true ∧ hm_on n (fun x => hm_best n P x g) k = true then hI (hm_best n P k g : Nat) else c 1 k) → (∀ k, k < n → c' 2 k = if k < q ∧ hh_mem g k = true ∧ hm_on n (fun x => hm_best n P x g) k = true then hI (t : Nat) else c 2 k) → hk_S G m_X1_leaveByRings (d + 1) 0 0 33 [some (.ref 18), some (.int (hI g)), some (.int (hI t)), some (.int (hI (hm_st n P g q : Nat))), some (.int (hI (q : Int)))] [] h' (fun o h' => ∃ x, o = .inl (some (.int x)) ∧ K x h')) n (fun q hq ih2 h' c' M' F' B' D1 D2 => ?_) h' c' M' F' (fun k hk => B' k (by omega)) (fun k hk => by rw [if_neg (fun z => by omega), e1]) (fun k hk => by rw [if_neg (fun z => by omega), e2])
    refine b_X1_leaveByRings_33 M'.1 rfl (fun c2 => ?_) (fun c2 => ?_)
    · rw [hN_le (by omega) (by omega)] at c2
      have e : q = n := by omega
      subst e
      refine b_X1_leaveByRings_98 ⟨_, rfl, hk h' c' M' F' (fun k hk => ?_) (fun k hk => ?_)⟩
      · rw [D1 k hk]
        by_cases z : hh_mem g k = true ∧ hm_on q (fun x => hm_best q P x g) k = true
        · rw [if_pos z, if_pos ⟨hk, z⟩]
        · rw [if_neg z, if_neg (fun y => z y.2)]
      · rw [D2 k hk]
        by_cases z : hh_mem g k = true ∧ hm_on q (fun x => hm_best q P x g) k = true
        · rw [if_pos z, if_pos ⟨hk, z⟩]
        · rw [if_neg z, if_neg (fun y => z y.2)]
    · rw [hN_le (by omega) (by omega)] at c2
      have hqn : q < n := by omega
      obtain ⟨s1, s2⟩ := hm_st_is (P := P) hn.2 h16 q (by omega)
      have skip : ¬ (hh_mem g q = true ∧ hm_on n (fun x => hm_best n P x g) q = true) → hk_S G m_X1_leaveByRings (d + 1) 0 0 92 [some (.ref 18), some (.int (hI g)), some (.int (hI t)), some (.int (hI (hm_st n P g q : Nat))), some (.int (hI (q : Int)))] [] h' (fun o h' => ∃ x, o = .inl (some (.int x)) ∧ K x h') := by
        intro hno
        have est : hm_st n P g (q + 1) = hm_st n P g q := if_neg hno
        refine b_X1_leaveByRings_92 ?_
        rw [hI_1]
        have := ih2 hqn h' c' M' F' B' (fun k hk => ?_) (fun k hk => ?_)
        · rw [est] at this; exact this
        · rw [D1 k hk]
          by_cases z : k < q ∧ hh_mem g k = true ∧ hm_on n (fun x => hm_best n P x g) k = true
          · rw [if_pos z, if_pos ⟨by omega, z.2⟩]
          · rw [if_neg z, if_neg]
            rintro ⟨y1, y2⟩
            by_cases e : k = q
            · subst e; exact hno y2
            · exact z ⟨by omega, y2⟩
        · rw [D2 k hk]
          by_cases z : k < q ∧ hh_mem g k = true ∧ hm_on n (fun x => hm_best n P x g) k = true
          · rw [if_pos z, if_pos ⟨by omega, z.2⟩]
          · rw [if_neg z, if_neg]
            rintro ⟨y1, y2⟩
            by_cases e : k = q
            · subst e; exact hno y2
            · exact z ⟨by omega, y2⟩
      refine b_X1_leaveByRings_42 (fun c3 => ?_) (fun c3 => ?_)
      · exact skip fun z => mt (hh_bit' h16 (by omega)).mpr c3 z.1
      · have c3 := (hh_bit' h16 (by omega)).mp c3
        refine b_X1_leaveByRings_52 M'.1 (s_isOnRing M' (p := fun x => hm_best n P x g) hpb B' hqn ?_)
        by_cases on : hm_on n (fun x => hm_best n P x g) q = true
        · rw [on]
          have est : hm_st n P g (q + 1) = hm_st n P g q - 2 ^ q := if_pos ⟨c3, on⟩
          refine b_X1_leaveByRings_58 (fun z => absurd z (by decide)) (fun _ => ?_)
          have a0 := M'.at (x := 0) (by omega)
          have a1 := M'.at (x := 1) (by omega)
          have M2 := M'.set (x := 1) (by omega) (f := upd (c' 1) q (c' 0 q))
          have a2 := M2.at (x := 2) (by omega)
          have hmq : hh_mem (hm_st n P g q) q = true := by rw [s2 q (by omega), c3]; simp
          refine b_X1_leaveByRings_61 M'.1 rfl rfl a0 q (hI_at rfl (by omega)) (by omega) a1 (by omega) (by omega) rfl M2.1 rfl a2 (by omega) (by omega) rfl ?_
          rw [hI_1, hm_and' (by omega) (by omega) hmq, ← est]
          have M3 := M2.set (x := 2) (by omega) (f := upd (hm_c c' 1 (upd (c' 1) q (c' 0 q)) 2) q (hI (t : Nat)))
          refine ih2 hqn _ _ M3 ((F'.set (a := 22) (by omega)).set (a := 23) (by omega)) (fun k hk => ?_) (fun k hk => ?_) (fun k hk => ?_)
          · rw [hm_c_ne (by omega), hm_c_ne (by omega)]; exact B' k hk
          · rw [hm_c_ne (by omega), hm_c_eq]
            unfold upd
            by_cases e : k = q
            · subst e; rw [if_pos rfl, if_pos ⟨by omega, c3, on⟩]; exact B' k hk
            · rw [if_neg e, D1 k hk]
              by_cases z : k < q ∧ hh_mem g k = true ∧ hm_on n (fun x => hm_best n P x g) k = true
              · rw [if_pos z, if_pos ⟨by omega, z.2⟩]
              · rw [if_neg z, if_neg]
                rintro ⟨y1, y2⟩
                exact z ⟨by omega, y2⟩
          · rw [hm_c_eq]
            unfold upd
            by_cases e : k = q
            · subst e; rw [if_pos rfl, if_pos ⟨by omega, c3, on⟩]
            · rw [if_neg e, hm_c_ne (by omega), D2 k hk]
              by_cases z : k < q ∧ hh_mem g k = true ∧ hm_on n (fun x => hm_best n P x g) k = true
              · rw [if_pos z, if_pos ⟨by omega, z.2⟩]
              · rw [if_neg z, if_neg]
                rintro ⟨y1, y2⟩
                exact z ⟨by omega, y2⟩
        · have on' := on
          rw [Bool.not_eq_true] at on
          rw [on]
          exact b_X1_leaveByRings_58 (fun _ => skip fun z => on' z.2) (fun z => absurd rfl z)
  · rw [hN_le (by omega) (by omega)] at cc
    refine b_X1_leaveByRings_10 M'.1 rfl (s_bestOf M' (by omega) h16 ?_)
    have a0 := M'.at (x := 0) (by omega)
    refine b_X1_leaveByRings_21 a0 (by omega) q (hI_at rfl (by omega)) (by omega) rfl ?_
    rw [hI_1]
    refine ih (by omega) _ _ _ (M'.set (x := 0) (by omega)) (F'.set (a := 21) (by omega)) (by rw [hm_c_ne (by omega)]; exact e1) (by rw [hm_c_ne (by omega)]; exact e2) (fun k hk => ?_)
    rw [hm_c_eq]
    unfold upd
    by_cases e : k = q
    · subst e; rw [if_pos rfl]
    · rw [if_neg e]; exact B' k (by omega)
theorem hm_full_and {n : Nat} (hn : 2 ≤ n ∧ n ≤ 4) : ∀ k, k < n → hh_mem (2 ^ n - 1) k = true := fun k hk => by
  have := (hm_b8 ⟨n, by omega⟩).2 ⟨k, by omega⟩
  simp only at this
  rw [this]
  exact decide_eq_true hk
theorem s_tradeByRings (M : hM h n P c) {K : Int32 → hk_H → Prop} (hk : ∀ h' c', hM h' n P c' → hMf h h' → (∀ k, k < n → c' 1 k = hI ((hm_fin n P k).1 : Nat) ∧ c' 2 k = hI ((hm_fin n P k).2 : Nat)) → K (hI (hm_cd (fun k => (hm_fin n P k).1) n : Nat)) h') : hk_Ci G m_X1_tradeByRings (d + 2) 0 0 [.ref 18] h K := by
  have hn := M.2.2.2.2.2.2
  have hP := M.2.2.2.2.2.1
  have h2n : 1 ≤ 2 ^ n := Nat.pow_pos (by omega)
  have h216 : 2 ^ n ≤ 16 := Nat.pow_le_pow_right (n := 2) (by omega) hn.2
  have hb8 := (hm_b8 ⟨n, by omega⟩).1
  simp only at hb8
  refine ⟨Nat.le_of_ble_eq_true rfl, ?_⟩
  refine b_X1_tradeByRings_0 M.1 rfl ?_
  rw [hh_full hn, show ((2 ^ n : Nat) : Int) - 1 = ((2 ^ n - 1 : Nat) : Int) by omega]
  have done : ∀ h' c' (o1 o2 : Option Value), hM h' n P c' → hMf h h' → (∀ k, k < n → c' 1 k = hI ((hm_fin n P k).1 : Nat) ∧ c' 2 k = hI ((hm_fin n P k).2 : Nat)) → hk_S G m_X1_tradeByRings (d + 2) 0 0 36 [some (.ref 18), o1, o2] [] h' (fun o h' => ∃ x, o = .inl (some (.int x)) ∧ K x h') := fun h' c' o1 o2 M' F' D' =>
    b_X1_tradeByRings_36 M'.1 rfl (s_told M' (x := 1) (by omega) (t := fun k => (hm_fin n P k).1) (fun k hk => (D' k hk).1) (b_X1_tradeByRings_44 ⟨_, rfl, hk h' c' M' F' D'⟩))
  refine hk_uptoF (P := fun t => ∀ h' c' (g : Nat), hM h' n P c' → hMf h h' → g < 2 ^ n → hh_cnt 4 g ≤ n + 1 - t → (∀ k, k < n → hh_mem g k = false → c' 1 k = hI ((hm_fin n P k).1 : Nat) ∧ c' 2 k = hI ((hm_fin n P k).2 : Nat)) → (∀ k, k < n → hh_mem g k = true → hm_rg n P (n + 1 - t) g t k = hm_fin n P k) → hk_S G m_X1_tradeByRings (d + 2) 0 0 11 [some (.ref 18), some (.int (hI (g : Int))), some (.int (hI (t : Int)))] [] h' (fun o h' => ∃ x, o = .inl (some (.int x)) ∧ K x h')) 1 (n + 1) (by omega) (fun t ht0 ht ih h' c' g M' F' hg hcnt D1 D2 => ?_) h c (2 ^ n - 1) M hMf.rf (by omega) (by omega) (fun k hk hm => by rw [hm_full_and hn k hk] at hm; cases hm) (fun k hk _ => by
    rw [show n + 1 - 1 = n by omega]; rfl)
  have zero : g = 0 → hk_S G m_X1_tradeByRings (d + 2) 0 0 36 [some (.ref 18), some (.int (hI (g : Int))), some (.int (hI (t : Int)))] [] h' (fun o h' => ∃ x, o = .inl (some (.int x)) ∧ K x h') := by
    intro e
    subst e
    exact done h' c' _ _ M' F' fun k hk => D1 k hk (by simp [hh_mem])
  refine b_X1_tradeByRings_11 M'.1 rfl (fun cc => ?_) (fun cc => ?_)
  · rw [hN_lt (by omega) (by omega)] at cc
    refine zero ?_
    have := (hm_b7 ⟨g, by omega⟩).1 (by simp only; omega)
    exact congrArg Fin.val this
  · rw [hN_lt (by omega) (by omega)] at cc
    refine b_X1_tradeByRings_19 (fun c2 => ?_) (fun c2 => ?_)
    · rw [show (0 : Int32) = hI ((0 : Nat) : Int) from rfl, hN_eq (by omega) (by omega)] at c2
      exact zero c2
    · rw [show (0 : Int32) = hI ((0 : Nat) : Int) from rfl, hN_eq (by omega) (by omega)] at c2
      obtain ⟨q1, q2⟩ := hm_st_cnt hn hP hg c2
      obtain ⟨s1, s2⟩ := hm_st_is (P := P) hn.2 (show g < 16 by omega) n (Nat.le_refl _)
      refine b_X1_tradeByRings_23 M'.1 (s_leaveByRings M' hg fun h2 c2' M2 F2 E1 E2 => ?_)
      refine b_X1_tradeByRings_29 ?_
      rw [hI_1]
      have est : ∀ k, k < n → hm_rg n P (n + 1 - t) g t k = if hh_mem g k = true ∧ hm_on n (fun x => hm_best n P x g) k = true then (hm_best n P k g, t) else hm_rg n P (n + 1 - (t + 1)) (hm_st n P g n) (t + 1) k := fun k _ => by
        rw [show n + 1 - t = (n + 1 - (t + 1)) + 1 by omega]; rfl
      refine ih (by omega) h2 c2' _ M2 (F'.tr F2) q1 (by omega) (fun k hk hm => ?_) (fun k hk hm => ?_)
      · rw [s2 k (by omega), decide_eq_true hk, Bool.true_and] at hm
        rw [E1 k hk, E2 k hk]
        by_cases z : hh_mem g k = true ∧ hm_on n (fun x => hm_best n P x g) k = true
        · rw [if_pos z, if_pos z]
          have := D2 k hk z.1
          rw [est k hk, if_pos z] at this
          rw [← this]
          exact ⟨rfl, rfl⟩
        · rw [if_neg z, if_neg z]
          refine D1 k hk ?_
          cases c3 : hh_mem g k with
          | false => rfl
          | true =>
            rw [c3, Bool.true_and, Bool.not_eq_false'] at hm
            exact absurd ⟨c3, hm⟩ z
      · rw [s2 k (by omega), decide_eq_true hk, Bool.true_and, Bool.and_eq_true, Bool.not_eq_true'] at hm
        have := D2 k hk hm.1
        rw [est k hk, if_neg (fun z => by rw [hm.2] at z; cases z.2)] at this
        exact this
end SRi
