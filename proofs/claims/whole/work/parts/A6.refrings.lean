/-! The reference's trades: rings, turns, who is better. -/
theorem hm_b14 : ∀ g s : Fin 16, (∀ x : Fin 4, hh_mem s x = true → hh_mem g x = true) → s.val ≤ g.val ∧ (hI (g : Nat) &&& (hI ((g.val - s.val : Nat) : Int) ^^^ (-1))) = hI (s : Nat) ∧ ∀ i : Fin 4, hh_mem s i = true → (hI ((g.val - s.val : Nat) : Int) ||| (1 <<< (hI (i : Nat) &&& 31))) = hI ((g.val - (s.val - 2 ^ i.val) : Nat) : Int) := by decide +kernel
section RR
variable {G : hk_G} {h h' : hk_H} {n m w rc th : Nat} {P : Nat → Nat → Nat} {c : Nat → Nat → Int32} {d : Nat}
theorem hm_16 (hn : 2 ≤ n ∧ n ≤ 4) : 2 ^ n ≤ 16 := Nat.pow_le_pow_right (n := 2) (by omega) hn.2
theorem hm_ex0 {g : Nat} (hn : 2 ≤ n ∧ n ≤ 4) (hg : g < 2 ^ n) (h0 : g ≠ 0) : ∃ x, x < n ∧ hh_mem g x = true := by
  have h216 := hm_16 hn
  have hb := hm_b11 ⟨g, by omega⟩
  simp only at hb
  rw [Bool.or_eq_true] at hb
  rcases hb with e | e
  · exact absurd (eq_of_beq e) h0
  · obtain ⟨x, hx, ex⟩ := hm_e_is e
    exact ⟨x, hm_b10 ⟨n, by omega⟩ ⟨g, by omega⟩ hg ⟨x, hx⟩ ex, ex⟩
theorem r_ring (N : hN h n m w rc th P c) {K : hk_H → Prop} (hk : ∀ h' c', hN h' n m w rc th P c' → hRf hP57 h h' → c' 1 = c 1 → c' 3 = c 3 → c' 4 = c 4 → (∀ k, k < n → c' 0 k = hI ((hm_fin n P k).1 : Nat) ∧ c' 2 k = hI ((hm_fin n P k).2 : Nat)) → K h') : hk_Cv G m_X10_ring (d + 1) 0 0 [.ref 43] h K := by
  have hn := N.nn
  have hP := N.ok
  have h2n : 1 ≤ 2 ^ n := Nat.pow_pos (by omega)
  have h216 := hm_16 hn
  have hb8 := (hm_b8 ⟨n, by omega⟩).1
  simp only at hb8
  refine ⟨Nat.le_of_ble_eq_true rfl, ?_⟩
  refine b_X10_ring_0 N.o rfl ?_
  rw [hh_full hn, show ((2 ^ n : Nat) : Int) - 1 = ((2 ^ n - 1 : Nat) : Int) by omega]
  refine hk_uptoF (P := fun t => ∀ h' c' (g : Nat) (o3 o4 o5 o6 : Option Value), hk_c1 o3 → hk_c1 o4 → hk_c1 o5 → hN h' n m w rc th P c' → hRf hP57 h h' → c' 1 = c 1 → c' 3 = c 3 → c' 4 = c 4 → g < 2 ^ n → hh_cnt 4 g ≤ n + 1 - t → (∀ k, k < n → hh_mem g k = false → c' 0 k = hI ((hm_fin n P k).1 : Nat) ∧ c' 2 k = hI ((hm_fin n P k).2 : Nat)) → (∀ k, k < n → hh_mem g k = true → hm_rg n P (n + 1 - t) g t k = hm_fin n P k) → hk_S G m_X10_ring (d + 1) 0 0 11 [some (.ref 43), some (.int (hI (g : Int))), some (.int (hI (t : Int))), o3, o4, o5, o6] [] h' (fun o h' => o = .inl none ∧ K h')) 1 (n + 1) (by omega) (fun t ht0 ht ih h' c' g o3 o4 o5 o6 q3 q4 q5 N' F' y1 y3 y4 hg hcnt D1 D2 => ?_) h c (2 ^ n - 1) none none none none hk_c10 hk_c10 hk_c10 N hRf.rf rfl rfl rfl (by omega) (by omega) (fun k hk hm => by rw [hm_full_and hn k hk] at hm; cases hm) (fun k hk _ => by
    rw [show n + 1 - 1 = n by omega]; rfl)
  refine b_X10_ring_11 (fun c2 => ?_) (fun c2 => ?_)
  · rw [show (0 : Int32) = hI ((0 : Nat) : Int) from rfl, hN_eq (by omega) (by omega)] at c2
    subst c2
    exact b_X10_ring_141 ⟨rfl, hk h' c' N' F' y1 y3 y4 fun k hk => D1 k hk (by simp [hh_mem])⟩
  · rw [show (0 : Int32) = hI ((0 : Nat) : Int) from rfl, hN_eq (by omega) (by omega)] at c2
    obtain ⟨q1, q2⟩ := hm_st_cnt hn hP hg c2
    have h16 : g < 16 := by omega
    obtain ⟨x0, hx0, hgx0⟩ := hm_ex0 hn hg c2
    have hpb : ∀ k, k < n → hm_best n P k g < n := fun k hk => hm_best_lt (by omega) (hP k hk)
    have htn : t < n + 1 := by
      by_cases z : t < n + 1
      · exact z
      · have := (hm_b7 ⟨g, by omega⟩).1 (by simp only; omega)
        exact absurd (congrArg Fin.val this) c2
    refine b_X10_ring_15 ?_
    have key : hk_S G m_X10_ring (d + 1) 0 0 20 [some (.ref 43), some (.int (hI (g : Int))), some (.int (hI (t : Int))), some (.int (hI ((g - hm_st n P g 0 : Nat) : Int))), some (.int (hI ((0 : Nat) : Int))), o5, o6] [] h' (fun o h' => o = .inl none ∧ K h') := by
      refine hk_upto (P := fun q => ∀ h2 c2' (o5 o6 : Option Value), hk_c1 o5 → hN h2 n m w rc th P c2' → hRf hP57 h h2 → c2' 1 = c 1 → c2' 3 = c 3 → c2' 4 = c 4 → (∀ k, k < n → c2' 0 k = if k < q ∧ hh_mem g k = true ∧ hm_on n (fun x => hm_best n P x g) k = true then hI (hm_best n P k g : Nat) else c' 0 k) → (∀ k, k < n → c2' 2 k = if k < q ∧ hh_mem g k = true ∧ hm_on n (fun x => hm_best n P x g) k = true then hI (t : Nat) else c' 2 k) → hk_S G m_X10_ring (d + 1) 0 0 20 [some (.ref 43), some (.int (hI (g : Int))), some (.int (hI (t : Int))), some (.int (hI ((g - hm_st n P g q : Nat) : Int))), some (.int (hI (q : Int))), o5, o6] [] h2 (fun o h' => o = .inl none ∧ K h')) n (fun q hq ih2 h2 c2' o5 o6 q5 N2 F2 x1 x3 x4 E1 E2 => ?_) h' c' o5 o6 q5 N' F' y1 y3 y4 (fun k hk => by rw [if_neg (fun z => by omega)]) (fun k hk => by rw [if_neg (fun z => by omega)])
      obtain ⟨s1, s2⟩ := hm_st_is (P := P) hn.2 h16 q (by omega)
      obtain ⟨u1, u2, u3⟩ := hm_b14 ⟨g, h16⟩ ⟨hm_st n P g q, by omega⟩ (fun x hx => by
        have := s2 x.val x.isLt
        simp only at hx ⊢
        rw [hx] at this
        have := this.symm
        rw [Bool.and_eq_true] at this
        exact this.1)
      simp only at u1 u2 u3
      refine b_X10_ring_20 N2.o rfl (fun c3 => ?_) (fun c3 => ?_)
      · rw [hN_le (by omega) (by omega)] at c3
        have e : q = n := by omega
        subst e
        refine b_X10_ring_129 ?_
        rw [u2, hI_1]
        have est : ∀ k, k < q → hm_rg q P (q + 1 - t) g t k = if hh_mem g k = true ∧ hm_on q (fun x => hm_best q P x g) k = true then (hm_best q P k g, t) else hm_rg q P (q + 1 - (t + 1)) (hm_st q P g q) (t + 1) k := fun k _ => by
          rw [show q + 1 - t = (q + 1 - (t + 1)) + 1 by omega]; rfl
        refine ih htn h2 c2' _ _ _ _ _ hk_c1i hk_c1i q5 N2 F2 x1 x3 x4 q1 (by omega) (fun k hk hm => ?_) (fun k hk hm => ?_)
        · rw [s2 k (by omega), decide_eq_true hk, Bool.true_and] at hm
          rw [E1 k hk, E2 k hk]
          by_cases z : hh_mem g k = true ∧ hm_on q (fun x => hm_best q P x g) k = true
          · rw [if_pos ⟨hk, z⟩, if_pos ⟨hk, z⟩]
            have := D2 k hk z.1
            rw [est k hk, if_pos z] at this
            rw [← this]
            exact ⟨rfl, rfl⟩
          · rw [if_neg (fun y => z y.2), if_neg (fun y => z y.2)]
            refine D1 k hk ?_
            cases c3 : hh_mem g k with
            | false => rfl
            | true =>
              rw [c3, Bool.true_and, Bool.not_eq_false'] at hm
              exact absurd ⟨c3, hm⟩ z
        · rw [s2 k (by omega), decide_eq_true hk, Bool.true_and, Bool.and_eq_true, Bool.not_eq_true'] at hm
          have := D2 k hk hm.1
          rw [est k hk, if_neg (fun z => by rw [hm.2] at z; cases z.2)] at this
          exact this
      · rw [hN_le (by omega) (by omega)] at c3
        have hqn : q < n := by omega
        have skip : ¬ (hh_mem g q = true ∧ hm_on n (fun x => hm_best n P x g) q = true) → ∀ (o5 o6 : Option Value), hk_c1 o5 → hk_S G m_X10_ring (d + 1) 0 0 20 [some (.ref 43), some (.int (hI (g : Int))), some (.int (hI (t : Int))), some (.int (hI ((g - hm_st n P g q : Nat) : Int))), some (.int (hI ((q + 1 : Nat) : Int))), o5, o6] [] h2 (fun o h' => o = .inl none ∧ K h') := by
          intro hno o5 o6 q5
          have est : hm_st n P g (q + 1) = hm_st n P g q := if_neg hno
          have := ih2 hqn h2 c2' o5 o6 q5 N2 F2 x1 x3 x4 (fun k hk => ?_) (fun k hk => ?_)
          · rw [est] at this; exact this
          · rw [E1 k hk]
            by_cases z : k < q ∧ hh_mem g k = true ∧ hm_on n (fun x => hm_best n P x g) k = true
            · rw [if_pos z, if_pos ⟨by omega, z.2⟩]
            · rw [if_neg z, if_neg]
              rintro ⟨y1, y2⟩
              by_cases e : k = q
              · subst e; exact hno y2
              · exact z ⟨by omega, y2⟩
          · rw [E2 k hk]
            by_cases z : k < q ∧ hh_mem g k = true ∧ hm_on n (fun x => hm_best n P x g) k = true
            · rw [if_pos z, if_pos ⟨by omega, z.2⟩]
            · rw [if_neg z, if_neg]
              rintro ⟨y1, y2⟩
              by_cases e : k = q
              · subst e; exact hno y2
              · exact z ⟨by omega, y2⟩
        have hbit := hd_bit ⟨g, by omega⟩ ⟨q, by omega⟩
        simp only at hbit
        refine b_X10_ring_29 (fun c4 => ?_) (fun c4 => ?_)
        · have c4 := mt hbit.mpr c4
          rw [Bool.not_eq_false] at c4
          refine b_X10_ring_41 N2.o (r_best N2 hqn h16 hx0 hgx0 ?_)
          refine b_X10_ring_48 ?_
          have fin : ∀ (a : Nat) (o6 : Option Value), a < n → hm_ch (fun x => hm_best n P x g) q n (hm_best n P q g) = a → hk_S G m_X10_ring (d + 1) 0 0 84 [some (.ref 43), some (.int (hI (g : Int))), some (.int (hI (t : Int))), some (.int (hI ((g - hm_st n P g q : Nat) : Int))), some (.int (hI (q : Int))), some (.int (hI (a : Int))), o6] [] h2 (fun o h' => o = .inl none ∧ K h') := by
            intro a o6 ha e
            have on := hm_on_ref hn (p := fun x => hm_best n P x g) hpb hqn
            rw [e] at on
            refine b_X10_ring_84 (fun c5 => ?_) (fun c5 => ?_)
            · rw [hN_eq (by omega) (by omega)] at c5
              rw [c5, beq_self_eq_true] at on
              have on := on.symm
              have hmq : hh_mem (hm_st n P g q) q = true := by rw [s2 q (by omega), c4]; simp
              have est : hm_st n P g (q + 1) = hm_st n P g q - 2 ^ q := if_pos ⟨c4, on⟩
              have u3 := u3 ⟨q, by omega⟩ hmq
              simp only at u3
              refine b_X10_ring_94 N2.o rfl ?_
              refine r_best N2 hqn h16 hx0 hgx0 ?_
              have a0 := N2.at (x := 0) (by omega)
              have N3 := N2.set (x := 0) (by omega) (f := upd (c2' 0) q (hI (hm_best n P q g : Nat)))
              have a2 := N3.at (x := 2) (by omega)
              refine b_X10_ring_114 a0 (by omega) q (hI_at rfl (by omega)) (by omega) rfl N3.o rfl a2 (by omega) q (hI_at rfl (by omega)) (by omega) rfl ?_
              rw [u3, ← est, hI_1]
              have N4 := N3.set (x := 2) (by omega) (f := upd (hm_c c2' 0 (upd (c2' 0) q (hI (hm_best n P q g : Nat))) 2) q (hI (t : Nat)))
              refine ih2 hqn _ _ _ _ hk_c1i N4 ((F2.set (a := 58) (by unfold hP57; omega)).set (a := 60) (by unfold hP57; omega)) (by rw [hm_c_ne (by omega), hm_c_ne (by omega)]; exact x1) (by rw [hm_c_ne (by omega), hm_c_ne (by omega)]; exact x3) (by rw [hm_c_ne (by omega), hm_c_ne (by omega)]; exact x4) (fun k hk => ?_) (fun k hk => ?_)
              · rw [hm_c_ne (by omega), hm_c_eq]
                unfold upd
                by_cases e : k = q
                · subst e; rw [if_pos rfl, if_pos ⟨by omega, c4, on⟩]
                · rw [if_neg e, E1 k hk]
                  by_cases z : k < q ∧ hh_mem g k = true ∧ hm_on n (fun x => hm_best n P x g) k = true
                  · rw [if_pos z, if_pos ⟨by omega, z.2⟩]
                  · rw [if_neg z, if_neg]
                    rintro ⟨y1, y2⟩
                    exact z ⟨by omega, y2⟩
              · rw [hm_c_eq]
                unfold upd
                by_cases e : k = q
                · subst e; rw [if_pos rfl, if_pos ⟨by omega, c4, on⟩]
                · rw [if_neg e, hm_c_ne (by omega), E2 k hk]
                  by_cases z : k < q ∧ hh_mem g k = true ∧ hm_on n (fun x => hm_best n P x g) k = true
                  · rw [if_pos z, if_pos ⟨by omega, z.2⟩]
                  · rw [if_neg z, if_neg]
                    rintro ⟨y1, y2⟩
                    exact z ⟨by omega, y2⟩
            · rw [hN_eq (by omega) (by omega)] at c5
              rw [show (a == q) = false by rw [beq_eq_false_iff_ne]; exact c5] at on
              refine b_X10_ring_91 ?_
              rw [hI_1]
              exact skip (fun z => by rw [z.2] at on; cases on) _ _ hk_c1i
          refine hk_upto (P := fun s => ∀ a : Nat, a < n → hm_ch (fun x => hm_best n P x g) q (n - s) a = hm_ch (fun x => hm_best n P x g) q n (hm_best n P q g) → hk_S G m_X10_ring (d + 1) 0 0 53 [some (.ref 43), some (.int (hI (g : Int))), some (.int (hI (t : Int))), some (.int (hI ((g - hm_st n P g q : Nat) : Int))), some (.int (hI (q : Int))), some (.int (hI (a : Int))), some (.int (hI (s : Int)))] [] h2 (fun o h' => o = .inl none ∧ K h')) n (fun s hs ih3 a ha e => ?_) (hm_best n P q g) (hpb q hqn) rfl
          refine b_X10_ring_53 N2.o rfl (fun c5 => ?_) (fun c5 => ?_)
          · rw [hN_le (by omega) (by omega)] at c5
            rw [show n - s = 0 by omega] at e
            exact fin a _ ha e.symm
          · rw [hN_le (by omega) (by omega)] at c5
            rw [show n - s = (n - (s + 1)) + 1 by omega] at e
            have e' : (if a = q then a else hm_ch (fun x => hm_best n P x g) q (n - (s + 1)) (hm_best n P a g)) = hm_ch (fun x => hm_best n P x g) q n (hm_best n P q g) := e
            refine b_X10_ring_62 (fun c6 => ?_) (fun c6 => ?_)
            · rw [hN_eq (by omega) (by omega)] at c6
              rw [if_pos c6] at e'
              exact fin a _ ha e'.symm
            · rw [hN_eq (by omega) (by omega)] at c6
              rw [if_neg c6] at e'
              refine b_X10_ring_69 N2.o (r_best N2 ha h16 hx0 hgx0 ?_)
              refine b_X10_ring_76 ?_
              rw [hI_1]
              exact ih3 (by omega) _ (hpb a ha) e'
        · have c4 := hbit.mp c4
          refine b_X10_ring_38 ?_
          rw [hI_1]
          exact skip (fun z => by rw [z.1] at c4; cases c4) _ _ q5
    rw [show g - hm_st n P g 0 = 0 from Nat.sub_self g] at key
    exact key
theorem r_turn (N : hN h n m w rc th P c) {t : Nat → Nat} (hp : hm_perm n t) (ht : ∀ k, k < n → c 3 k = hI (t k : Nat)) {K : hk_H → Prop} (hk : ∀ h' c', hN h' n m w rc th P c' → hRf hP57 h h' → c' 1 = c 1 → c' 3 = c 3 → c' 4 = c 4 → (∀ k, k < n → c' 0 k = hI (hm_tt n P t n k : Nat)) → K h') : hk_Cv G m_X10_turn (d + 1) 0 0 [.ref 43] h K := by
  have hn := N.nn
  have hP := N.ok
  have h2n : 1 ≤ 2 ^ n := Nat.pow_pos (by omega)
  have h216 := hm_16 hn
  have tg := hm_tg_is hn hP hp.1
  refine ⟨Nat.le_of_ble_eq_true rfl, ?_⟩
  refine b_X10_turn_0 N.o rfl ?_
  rw [hh_full hn, show ((2 ^ n : Nat) : Int) - 1 = ((2 ^ n - 1 : Nat) : Int) by omega]
  refine hk_upto (P := fun q => ∀ h' c', hN h' n m w rc th P c' → hRf hP57 h h' → c' 1 = c 1 → c' 3 = c 3 → c' 4 = c 4 → (∀ x, x < n → (∃ k', k' < q ∧ t k' = x) → c' 0 x = hI (hm_tt n P t q x : Nat)) → hk_S G m_X10_turn (d + 1) 0 0 11 [some (.ref 43), some (.int (hI (hm_tg n P t q : Nat))), some (.int (hI (q : Int)))] [] h' (fun o h' => o = .inl none ∧ K h')) n (fun q hq ih h' c' N' F' y1 y3 y4 E' => ?_) h c N hRf.rf rfl rfl rfl (fun x _ ⟨k', hk', _⟩ => by omega)
  refine b_X10_turn_11 N'.o rfl (fun cc => ?_) (fun cc => ?_)
  · rw [hN_le (by omega) (by omega)] at cc
    have e : q = n := by omega
    subst e
    exact b_X10_turn_65 ⟨rfl, hk h' c' N' F' y1 y3 y4 fun k hk => E' k hk (hm_surj hn.2 hp hk)⟩
  · rw [hN_le (by omega) (by omega)] at cc
    have hqn : q < n := by omega
    obtain ⟨t1, t2, t3⟩ := tg q (by omega)
    have t3 := t3 hqn
    have htq := hp.1 q hqn
    have hbl := hm_best_lt (g := hm_tg n P t q) (by omega) (hP _ htq)
    have a3 := N'.at (x := 3) (by omega)
    have a0 := N'.at (x := 0) (by omega)
    refine b_X10_turn_19 N'.o rfl rfl a3 q (hI_at rfl (by omega)) (by omega) ?_
    rw [y3, ht q hqn]
    refine r_best N' htq (by omega) hbl t3 ?_
    have N2 := N'.set (x := 0) (by omega) (f := upd (c' 0) (t q) (hI (hm_best n P (t q) (hm_tg n P t q) : Nat)))
    have b0 := N2.at (x := 0) (by omega)
    have b3 := N2.at (x := 3) (by omega)
    rw [hm_c_eq] at b0
    rw [hm_c_ne (by omega), y3] at b3
    refine b_X10_turn_40 a0 (by omega) (t q) (hI_at rfl (by omega)) (by omega) rfl N2.o rfl rfl b3 q (hI_at rfl (by omega)) (by omega) b0 (t q) (by rw [ht q hqn]; exact hI_at rfl (by omega)) (by omega) ?_
    have eu : upd (c' 0) (t q) (hI (hm_best n P (t q) (hm_tg n P t q) : Nat)) (t q) = hI (hm_best n P (t q) (hm_tg n P t q) : Nat) := by unfold upd; rw [if_pos rfl]
    rw [eu, hI_1, hm_and' (by omega) (by omega) t3]
    refine ih hqn _ _ N2 (F'.set (a := 58) (by unfold hP57; omega)) (by rw [hm_c_ne (by omega)]; exact y1) (by rw [hm_c_ne (by omega)]; exact y3) (by rw [hm_c_ne (by omega)]; exact y4) (fun x hx hex => ?_)
    rw [hm_c_eq]
    unfold upd
    show _ = hI ((if x = t q then _ else _ : Nat) : Int)
    by_cases e : x = t q
    · rw [if_pos e, if_pos e]
    · rw [if_neg e, if_neg e]
      refine E' x hx ?_
      obtain ⟨k', h1, h2⟩ := hex
      refine ⟨k', ?_, h2⟩
      by_cases z : k' = q
      · subst z; exact absurd h2.symm e
      · omega
end RR
