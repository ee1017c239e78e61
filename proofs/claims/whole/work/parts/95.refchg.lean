/-! The reference: wish, worth, rule. -/
def hRs43 (a : Nat) : Prop := 43 ≤ a ∧ a ≤ 51
section RG
variable {G : hk_G} {h h' : hk_H} {n m w rc th : Nat} {num : Nat → Int} {Rs : Nat → hr_R} {d : Nat}
theorem r_counts {rv : Int32} {pf : Nat → Int32} (hn : 2 ≤ n ∧ n ≤ 4) (hw : w ≤ 6) (o : h.2 43 = some (.inr (10, [.int (hI n), .int (hI m), .int (hI w), .int (hI rc), .int rv, .ref 44, .ref 45, .ref 46, .ref 47, .ref 48, .ref 49, .ref 50, .ref 51, .int (hI th), .ref 52, .ref 53, .ref 54, .ref 55, .ref 56, .ref 57, .ref 58, .ref 59, .ref 60, .ref 61, .ref 62, .ref 63, .ref 64, .ref 65, .ref 66, .ref 67, .ref 68, .ref 69]))) (p : h.2 45 = some (hc_i32 5 pf)) {K : hk_H → Prop} (hk : ∀ h' pf', hBo h' n m w rc th → h'.2 45 = some (hc_i32 5 pf') → (∀ i, i ≤ n → pf' i = hI ((w ^ i : Nat) : Int)) → h'.1 = h.1 → (∀ a, a ≠ 43 → a ≠ 45 → h'.2 a = h.2 a) → K h') : hk_Cv G m_X10_counts d 0 0 [.ref 43] h K := by
  refine ⟨Nat.le_of_ble_eq_true rfl, ?_⟩
  refine b_X10_counts_0 o rfl p (by omega) 0 (by decide) (by omega) rfl ?_
  refine hk_uptoF (P := fun i => ∀ pf' : Nat → Int32, (∀ k, k < i → pf' k = hI ((w ^ k : Nat) : Int)) → hk_S G m_X10_counts d 0 0 9 [some (.ref 43), some (.int (hI (i : Int)))] [] (hk_set h 45 (hc_i32 5 pf')) (fun o h' => o = .inl none ∧ K h')) 1 (n + 1) (by omega) (fun i hi0 hi ih pf' D => ?_) (upd pf 0 1) (fun k hk => by
    have : k = 0 := by omega
    subst this
    unfold upd
    rw [if_pos rfl]
    rfl)
  have o' : (hk_set h 45 (hc_i32 5 pf')).2 43 = some (.inr (10, [.int (hI n), .int (hI m), .int (hI w), .int (hI rc), .int rv, .ref 44, .ref 45, .ref 46, .ref 47, .ref 48, .ref 49, .ref 50, .ref 51, .int (hI th), .ref 52, .ref 53, .ref 54, .ref 55, .ref 56, .ref 57, .ref 58, .ref 59, .ref 60, .ref 61, .ref 62, .ref 63, .ref 64, .ref 65, .ref 66, .ref 67, .ref 68, .ref 69])) := by rw [hk_set_ne (by decide)]; exact o
  refine b_X10_counts_9 o' rfl (fun cc => ?_) (fun cc => ?_)
  · rw [hN_lt (by omega) (by omega)] at cc
    refine b_X10_counts_42 o' rfl (fun c2 => ?_) (fun c2 => ?_)
    · rw [show (0 : Int32) = hI ((0 : Nat) : Int) from rfl, hN_eq (by omega) (by omega)] at c2
      refine b_X10_counts_54 o' rfl rfl hk_set_eq n (hI_at rfl (by omega)) (by omega) o' (by omega) rfl ⟨rfl, hk _ pf' ?_ ?_ (fun k hk => D k (by omega)) rfl fun a ha hb => ?_⟩
      · unfold hBo
        rw [hk_set_eq, D n (by omega), hw_pow_1 (by omega)]
        rfl
      · rw [hk_set_ne (by decide)]; exact hk_set_eq
      · rw [hk_set_ne ha, hk_set_ne hb]
    · rw [show (0 : Int32) = hI ((0 : Nat) : Int) from rfl, hN_eq (by omega) (by omega)] at c2
      refine b_X10_counts_50 o' (by omega) rfl ⟨rfl, hk _ pf' ?_ ?_ (fun k hk => D k (by omega)) rfl fun a ha hb => ?_⟩
      · subst c2
        exact hk_set_eq
      · rw [hk_set_ne (by decide)]; exact hk_set_eq
      · rw [hk_set_ne ha, hk_set_ne hb]
  · rw [hN_lt (by omega) (by omega)] at cc
    refine b_X10_counts_17 o' rfl hk_set_eq (i - 1) (by rw [show (1 : Int32) = hI 1 from rfl, hI_sub]; exact hI_at (by omega) (by omega)) (by omega) rfl (by omega) i (hI_at rfl (by omega)) (by omega) hk_set_set ?_
    rw [hI_1]
    refine ih (by omega) _ fun k hk => ?_
    unfold upd
    by_cases e : k = i
    · rw [if_pos e, e, D (i - 1) (by omega), hI_mul]
      congr 1
      have : i = (i - 1) + 1 := by omega
      conv => rhs; rw [this, Nat.pow_succ]
      push_cast
      rfl
    · rw [if_neg e]; exact D k (by omega)
theorem hBr.e0 (H : hBr h n m w rc Rs) {w' : Nat} : hBr h n m w' 0 Rs := by
  obtain ⟨⟨f1, r1, s1⟩, ⟨f2, r2, s2⟩, ⟨f3, r3, s3⟩, ⟨f4, r4, s4⟩, ⟨f5, r5, s5⟩, ⟨f6, r6, s6⟩⟩ := H
  exact ⟨⟨f1, r1, fun j hj => by omega⟩, ⟨f2, r2, fun j r hj => by omega⟩, ⟨f3, r3, fun j r i hj => by omega⟩, ⟨f4, r4, fun j e hj => by omega⟩, ⟨f5, r5, fun j i hj => by omega⟩, ⟨f6, r6, fun j i hj => by omega⟩⟩
theorem hBr.fr (H : hBr h n m w rc Rs) (e : ∀ a, 46 ≤ a → a ≤ 51 → h'.2 a = h.2 a) : hBr h' n m w rc Rs := by
  obtain ⟨⟨f1, r1, s1⟩, ⟨f2, r2, s2⟩, ⟨f3, r3, s3⟩, ⟨f4, r4, s4⟩, ⟨f5, r5, s5⟩, ⟨f6, r6, s6⟩⟩ := H
  exact ⟨⟨f1, (e 46 (by omega) (by omega)).trans r1, s1⟩, ⟨f2, (e 47 (by omega) (by omega)).trans r2, s2⟩, ⟨f3, (e 48 (by omega) (by omega)).trans r3, s3⟩, ⟨f4, (e 49 (by omega) (by omega)).trans r4, s4⟩, ⟨f5, (e 50 (by omega) (by omega)).trans r5, s5⟩, ⟨f6, (e 51 (by omega) (by omega)).trans r6, s6⟩⟩
theorem r_wish (B : hB h n m w rc num Rs th) {K : Int32 → hk_H → Prop} (hk : ∀ h', hB h' n m (hq_wish w rc).2 rc num Rs th → hRf hRs43 h h' → K (hI (hq_wish w rc).1) h') : hk_Ci G m_X10_wish (d + 1) 0 0 [.ref 43] h K := by
  obtain ⟨hn, hm, hw6, hnum⟩ := B.dim
  have hrc := B.rc8
  unfold hq_wish at hk
  refine ⟨Nat.le_of_ble_eq_true rfl, ?_⟩
  refine b_X10_wish_0 B.o rfl (fun c => ?_) (fun c => ?_)
  · rw [show (6 : Int32) = hI ((6 : Nat) : Int) from rfl, hN_eq (by omega) (by omega)] at c
    rw [if_pos (by omega)] at hk
    refine b_X10_wish_12 B.o rfl (fun c2 => ?_) (fun c2 => ?_)
    · rw [show (0 : Int32) = hI ((0 : Nat) : Int) from rfl, hN_le (by omega) (by omega)] at c2
      have e0 : rc = 0 := by omega
      rw [if_pos e0] at hk
      obtain ⟨pf, p1, p2⟩ := B.2.2.1
      refine b_X10_wish_22 B.o rfl (by omega) rfl hk_set_eq (r_counts (m := m) (rc := rc) (th := th) (w := w + 1) (rv := hI (hw_pow w n : Nat)) hn (by omega) ?_ (by rw [hk_set_ne (by decide)]; exact p1) fun h' pf' O' P' D' e' f' => ?_)
      · rw [hk_set_eq, ← hI_1]; rfl
      · refine b_X10_wish_36 O' rfl ⟨_, rfl, ?_⟩
        rw [hI_s1]
        refine hk h' ⟨O', ?_, ⟨pf', P', fun _ => D'⟩, ?_, ⟨hn, hm, by omega, hnum⟩, fun z => by omega, fun j hj => by omega, hrc⟩ ⟨e', fun a ha => ?_⟩
        · rw [f' 44 (by decide) (by decide), hk_set_ne (by decide)]; exact B.2.1
        · subst e0
          exact B.2.2.2.1.e0.fr fun a ha hb => by rw [f' a (by omega) (by omega), hk_set_ne (by omega)]
        · have h1 : a ≠ 43 := fun z => ha (by unfold hRs43; omega)
          rw [f' a h1 (fun z => ha (by unfold hRs43; omega)), hk_set_ne h1]
    · rw [show (0 : Int32) = hI ((0 : Nat) : Int) from rfl, hN_le (by omega) (by omega)] at c2
      rw [if_neg (by omega)] at hk
      exact b_X10_wish_19 ⟨_, rfl, hk h B hRf.rf⟩
  · rw [show (6 : Int32) = hI ((6 : Nat) : Int) from rfl, hN_eq (by omega) (by omega)] at c
    rw [if_neg (by omega)] at hk
    exact b_X10_wish_9 ⟨_, rfl, hk h B hRf.rf⟩
theorem r_worth (B : hB h n m w rc num Rs th) {x y z : Int32} {K : Int32 → hk_H → Prop} (hk : ∀ h', hB h' n m w rc (hq_worth m w rc num x y z).2 Rs th → hRf hRs43 h h' → K (hI (hq_worth m w rc num x y z).1) h') : hk_Ci G m_X10_worth (d + 1) 0 0 [.ref 43, .int x, .int y, .int z] h K := by
  obtain ⟨hn, hm, hw6, hnum⟩ := B.dim
  have hrc := B.rc8
  unfold hq_worth at hk
  refine ⟨Nat.le_of_ble_eq_true rfl, ?_⟩
  refine b_X10_worth_0 B.o rfl (r_isIn (by omega) (fun a ha hxa => ?_) (fun c => b_X10_worth_8 (fun _ => b_X10_worth_34 ⟨_, rfl, ?_⟩) (fun q => absurd rfl q)))
  · rw [hxa, hx_some ha (by omega)] at hk
    refine b_X10_worth_8 (fun q => absurd q (by decide)) (fun _ => ?_)
    refine b_X10_worth_11 B.o rfl (r_isIn (by omega) (fun e he hye => ?_) (fun c => b_X10_worth_19 (fun _ => b_X10_worth_34 ⟨_, rfl, ?_⟩) (fun q => absurd rfl q)))
    · rw [hye, hx_some he (by omega)] at hk
      simp only at hk
      refine b_X10_worth_19 (fun q => absurd q (by decide)) (fun _ => ?_)
      refine b_X10_worth_22 (fun c => ?_) (fun c => ?_)
      · rw [show (-99 : Int32) = hI (-99) from rfl, Int32.lt_iff_toInt_lt, hI_toInt (by omega)] at c
        rw [if_neg (by omega)] at hk
        exact b_X10_worth_34 ⟨_, rfl, hk h B hRf.rf⟩
      · rw [show (-99 : Int32) = hI (-99) from rfl, Int32.lt_iff_toInt_lt, hI_toInt (by omega)] at c
        refine b_X10_worth_28 (fun c2 => ?_) (fun c2 => ?_)
        · rw [show (99 : Int32) = hI 99 from rfl, Int32.le_iff_toInt_le, hI_toInt (by omega)] at c2
          rw [if_pos ⟨by omega, c2⟩] at hk
          refine b_X10_worth_36 B.o rfl (fun c3 => ?_) (fun c3 => ?_)
          · rw [show (0 : Int32) = hI ((0 : Nat) : Int) from rfl, hN_le (by omega) (by omega)] at c3
            rw [if_pos (by omega)] at hk
            have e0 : rc = 0 := by omega
            have hb := hnum (a * 5 + e) (by omega)
            have ef : (upd (fun k => hI (num k)) (5 * a + e) z) = fun k => hI (if k = a * 5 + e then z.toInt else num k) := funext fun k => by
              unfold upd
              by_cases q : k = 5 * a + e
              · rw [if_pos q, if_pos (by omega)]; exact hI_of z
              · rw [if_neg q, if_neg (by omega)]
            have B' : hB (hk_set h 44 (hc_i32 30 (upd (fun k => hI (num k)) (5 * a + e) z))) n m w rc (fun k => if k = a * 5 + e then z.toInt else num k) Rs th := by
              obtain ⟨b1, b2, ⟨pf, b3, b3'⟩, b4, b5, b6, b7, b8⟩ := id B
              refine ⟨(hk_set_ne (by decide)).trans b1, by rw [hk_set_eq, ef], ⟨pf, (hk_set_ne (by decide)).trans b3, b3'⟩, b4.fr fun a ha hb => hk_set_ne (by omega), ⟨hn, hm, hw6, fun k hk => ?_⟩, b6, b7, b8⟩
              show -99 ≤ (if k = a * 5 + e then z.toInt else num k) ∧ (if k = a * 5 + e then z.toInt else num k) ≤ 99
              split
              · omega
              · exact hnum k hk
            have hk := hk _ B' (hRf.rf.set (by unfold hRs43; omega))
            rw [hxa, hye]
            refine b_X10_worth_46 B.o rfl B.2.1 (5 * a + e) (hI_ji (q := 5) (by omega)) (by omega) (by omega) rfl (fun c4 => ?_) (fun c4 => ?_)
            · rw [show 5 * a + e = a * 5 + e by omega, hI_of z, hI_eq (by omega) (by omega)] at c4
              rw [if_neg c4] at hk
              exact b_X10_worth_79 ⟨_, rfl, hk⟩
            · rw [show 5 * a + e = a * 5 + e by omega, hI_of z, hI_eq (by omega) (by omega)] at c4
              rw [if_pos c4] at hk
              exact b_X10_worth_75 ⟨_, rfl, hk⟩
          · rw [show (0 : Int32) = hI ((0 : Nat) : Int) from rfl, hN_le (by omega) (by omega)] at c3
            rw [if_neg (by omega)] at hk
            exact b_X10_worth_43 ⟨_, rfl, hk h B hRf.rf⟩
        · rw [show (99 : Int32) = hI 99 from rfl, Int32.le_iff_toInt_le, hI_toInt (by omega)] at c2
          rw [if_neg (by omega)] at hk
          exact b_X10_worth_34 ⟨_, rfl, hk h B hRf.rf⟩
    · rw [hx_none c] at hk
      exact hk h B hRf.rf
  · rw [hx_none c] at hk
    exact hk h B hRf.rf
end RG
