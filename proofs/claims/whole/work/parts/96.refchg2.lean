/-! The reference: rule, put, pay, gift, middle. -/
/-- a stretch of a row set to one value -/
def hs_pl (f f' : Nat → Int32) (b q : Nat) (c : Int32) : Prop := ∀ p, f' p = if b ≤ p ∧ p < b + q then c else f p
theorem hs_pl_0 {f : Nat → Int32} {b : Nat} {c : Int32} : hs_pl f f b 0 c := fun p => by rw [if_neg (by omega)]
theorem hs_pl_s {f f' : Nat → Int32} {b q : Nat} {c : Int32} (H : hs_pl f f' b q c) : hs_pl f (upd f' (b + q) c) b (q + 1) c := fun p => by
  unfold upd
  by_cases e : p = b + q
  · rw [if_pos e, if_pos (by omega)]
  · rw [if_neg e, H p]
    by_cases z : b ≤ p ∧ p < b + q
    · rw [if_pos z, if_pos (by omega)]
    · rw [if_neg z, if_neg (by omega)]
theorem hr_up_eq {Rs : Nat → hr_R} {i j : Nat} {R : hr_R} (e : i = j) : hr_up Rs j R i = R := if_pos e
theorem hr_up_ne {Rs : Nat → hr_R} {i j : Nat} {R : hr_R} (e : ¬ i = j) : hr_up Rs j R i = Rs i := if_neg e
section RH
variable {G : hk_G} {h h' : hk_H} {n m w rc th : Nat} {num : Nat → Int} {Rs : Nat → hr_R} {d : Nat}
theorem r_rule (B : hB h n m w rc num Rs th) {x : Int32} {K : Int32 → hk_H → Prop} (hk : ∀ h', hB h' n m w (hq_rule w rc Rs x).2.1 num (hq_rule w rc Rs x).2.2 th → hRf hRs43 h h' → K (hI (hq_rule w rc Rs x).1) h') : hk_Ci G m_X10_rule (d + 1) 0 0 [.ref 43, .int x] h K := by
  obtain ⟨hn, hm, hw6, hnum⟩ := B.dim
  have hrc := B.rc8
  have hrow := B.rows
  unfold hq_rule at hk
  refine ⟨Nat.le_of_ble_eq_true rfl, ?_⟩
  refine b_X10_rule_0 (r_isIn (k := 4) (by omega) (fun kd hkd hxk => ?_) (fun c => b_X10_rule_5 (fun _ => b_X10_rule_15 ⟨_, rfl, ?_⟩) (fun q => absurd rfl q)))
  · rw [hxk, hx_some hkd (by omega)] at hk
    simp only at hk
    refine b_X10_rule_5 (fun q => absurd q (by decide)) (fun _ => ?_)
    refine b_X10_rule_8 B.o rfl (fun c => ?_) (fun c => ?_)
    · rw [show (0 : Int32) = hI ((0 : Nat) : Int) from rfl, hN_eq (by omega) (by omega)] at c
      rw [if_neg c] at hk
      refine b_X10_rule_17 B.o rfl (fun c2 => ?_) (fun c2 => ?_)
      · rw [show (8 : Int32) = hI ((8 : Nat) : Int) from rfl, hN_eq (by omega) (by omega)] at c2
        have hr8 : rc < 8 := by omega
        rw [if_pos hr8] at hk
        have hk : ∀ h', hB h' n m w (rc + 1) num (hr_up Rs rc (hr_new kd)) th → hRf hRs43 h h' → K (hI (rc : Int)) h' := hk
        obtain ⟨b1, b2, ⟨pf, b3, b3'⟩, ⟨⟨f1, r1, s1⟩, ⟨f2, r2, s2⟩, ⟨f3, r3, s3⟩, ⟨f4, r4, s4⟩, ⟨f5, r5, s5⟩, ⟨f6, r6, s6⟩⟩, b5, b6, b7, b8⟩ := id B
        rw [hxk]
        refine b_X10_rule_29 B.o rfl rfl r1 (by omega) rc (hI_at rfl (by omega)) (by omega) rfl ?_
        -- the state: which rows are set how far
        have O : ∀ {h1 : hk_H}, h1.2 43 = h.2 43 → hBo h1 n m w rc th := fun e => e.trans b1
        refine hk_upto (P := fun q => ∀ g2, hs_pl f2 g2 (1296 * rc) q 0 → hk_S G m_X10_rule (d + 1) 0 0 41 [some (.ref 43), some (.int (hI kd)), some (.int (hI (q : Int)))] [] (hk_set (hk_set h 46 (hc_i32 8 (upd f1 rc (hI kd)))) 47 (hc_i32 10368 g2)) (fun o h' => ∃ x, o = .inl (some (.int x)) ∧ K x h')) (hw_pow w n) (fun q hq ih g2 H2 => ?_) f2 hs_pl_0 |> (fun z => by
          rw [hk_set_self (h := hk_set h 46 (hc_i32 8 (upd f1 rc (hI kd)))) (by rw [hk_set_ne (by decide)]; exact r2)] at z
          exact z)
        have o1 := O (h1 := hk_set (hk_set h 46 (hc_i32 8 (upd f1 rc (hI kd)))) 47 (hc_i32 10368 g2)) (by rw [hk_set_ne (by decide), hk_set_ne (by decide)])
        refine b_X10_rule_41 o1 rfl (fun c3 => ?_) (fun c3 => ?_)
        · rw [hN_le (by omega) (by omega)] at c3
          have eq : q = hw_pow w n := by omega
          subst eq
          generalize hh2 : hk_set (hk_set h 46 (hc_i32 8 (upd f1 rc (hI kd)))) 47 (hc_i32 10368 g2) = h2 at o1
          have t3 : h2.2 48 = some (hc_i32 41472 f3) := by rw [← hh2, hk_set_ne (by decide), hk_set_ne (by decide)]; exact r3
          refine b_X10_rule_71 ?_
          refine hk_upto (P := fun q => ∀ g3, hs_pl f3 g3 (5184 * rc) q 0 → hk_S G m_X10_rule (d + 1) 0 0 73 [some (.ref 43), some (.int (hI kd)), some (.int (hI (q : Int)))] [] (hk_set h2 48 (hc_i32 41472 g3)) (fun o h' => ∃ x, o = .inl (some (.int x)) ∧ K x h')) (4 * hw_pow w n) (fun q hq ih g3 H3 => ?_) f3 hs_pl_0 |> (fun z => by rw [hk_set_self t3] at z; exact z)
          have o2 : hBo (hk_set h2 48 (hc_i32 41472 g3)) n m w rc th := (hk_set_ne (by decide)).trans o1
          have e4 : 4 * hI ((hw_pow w n : Nat) : Int) = hI ((4 * hw_pow w n : Nat) : Int) := by
            rw [show (4 : Int32) = hI ((4 : Nat) : Int) from rfl, hI_mul]
            congr 1
          refine b_X10_rule_73 o2 rfl (fun c3 => ?_) (fun c3 => ?_)
          · rw [e4, hN_le (by omega) (by omega)] at c3
            have eq : q = 4 * hw_pow w n := by omega
            subst eq
            generalize hh3 : hk_set h2 48 (hc_i32 41472 g3) = h3 at o2
            have t4 : h3.2 49 = some (hc_i32 40 f4) := by rw [← hh3, ← hh2, hk_set_ne (by decide), hk_set_ne (by decide), hk_set_ne (by decide)]; exact r4
            refine b_X10_rule_105 ?_
            refine hk_upto (P := fun q => ∀ g4, hs_pl f4 g4 (5 * rc) q 0 → hk_S G m_X10_rule (d + 1) 0 0 107 [some (.ref 43), some (.int (hI kd)), some (.int (hI (q : Int)))] [] (hk_set h3 49 (hc_i32 40 g4)) (fun o h' => ∃ x, o = .inl (some (.int x)) ∧ K x h')) m (fun q hq ih g4 H4 => ?_) f4 hs_pl_0 |> (fun z => by rw [hk_set_self t4] at z; exact z)
            have o3 : hBo (hk_set h3 49 (hc_i32 40 g4)) n m w rc th := (hk_set_ne (by decide)).trans o2
            refine b_X10_rule_107 o3 rfl (fun c3 => ?_) (fun c3 => ?_)
            · rw [hN_le (by omega) (by omega)] at c3
              have eq : q = m := by omega
              subst eq
              generalize hh4 : hk_set h3 49 (hc_i32 40 g4) = h4 at o3
              have t5 : h4.2 50 = some (hc_i32 32 f5) := by rw [← hh4, ← hh3, ← hh2, hk_set_ne (by decide), hk_set_ne (by decide), hk_set_ne (by decide), hk_set_ne (by decide)]; exact r5
              refine b_X10_rule_135 ?_
              refine hk_upto (P := fun q => ∀ g5, hs_pl f5 g5 (4 * rc) q 1 → hk_S G m_X10_rule (d + 1) 0 0 137 [some (.ref 43), some (.int (hI kd)), some (.int (hI (q : Int)))] [] (hk_set h4 50 (hc_i32 32 g5)) (fun o h' => ∃ x, o = .inl (some (.int x)) ∧ K x h')) n (fun p hp ih g5 H5 => ?_) f5 hs_pl_0 |> (fun z => by rw [hk_set_self t5] at z; exact z)
              have o4 : hBo (hk_set h4 50 (hc_i32 32 g5)) n q w rc th := (hk_set_ne (by decide)).trans o3
              refine b_X10_rule_137 o4 rfl (fun c3 => ?_) (fun c3 => ?_)
              · rw [hN_le (by omega) (by omega)] at c3
                have eq : p = n := by omega
                subst eq
                generalize hh5 : hk_set h4 50 (hc_i32 32 g5) = h5 at o4
                have t6 : h5.2 51 = some (hc_i32 32 f6) := by rw [← hh5, ← hh4, ← hh3, ← hh2, hk_set_ne (by decide), hk_set_ne (by decide), hk_set_ne (by decide), hk_set_ne (by decide), hk_set_ne (by decide)]; exact r6
                refine b_X10_rule_165 ?_
                refine hk_upto (P := fun z => ∀ g6, hs_pl f6 g6 (4 * rc) z 0 → hk_S G m_X10_rule (d + 1) 0 0 167 [some (.ref 43), some (.int (hI kd)), some (.int (hI (z : Int)))] [] (hk_set h5 51 (hc_i32 32 g6)) (fun o h' => ∃ x, o = .inl (some (.int x)) ∧ K x h')) (p - 1) (fun z hz ih g6 H6 => ?_) f6 hs_pl_0 |> (fun z => by rw [hk_set_self t6] at z; exact z)
                have o5 : hBo (hk_set h5 51 (hc_i32 32 g6)) p q w rc th := (hk_set_ne (by decide)).trans o4
                have en : hI (p : Int) - 1 = hI ((p - 1 : Nat) : Int) := by
                  rw [show (1 : Int32) = hI 1 from rfl, hI_sub, show (p : Int) - 1 = ((p - 1 : Nat) : Int) by omega]
                refine b_X10_rule_167 o5 rfl (fun c3 => ?_) (fun c3 => ?_)
                · rw [en, hN_le (by omega) (by omega)] at c3
                  have ez : z = p - 1 := by omega
                  subst ez
                  refine b_X10_rule_197 o5 rfl (by omega) rfl hk_set_eq rfl ⟨_, rfl, ?_⟩
                  rw [hI_1, hI_s1]
                  refine hk _ ⟨hk_set_eq, ?_, ⟨pf, ?_, b3'⟩, ⟨⟨upd f1 rc (hI kd), ?_, fun j hj => ?_⟩, ⟨g2, ?_, fun j r hj hr => ?_⟩, ⟨g3, ?_, fun j r i hj hr hi => ?_⟩, ⟨g4, ?_, fun j e hj he => ?_⟩, ⟨g5, ?_, fun j i hj hi => ?_⟩, ⟨g6, ?_, fun j i hj hi => ?_⟩⟩, b5, fun _ => by omega, fun j hj => ?_, by omega⟩ ⟨?_, fun a ha => ?_⟩
                  · rw [hk_set_ne (by decide), hk_set_ne (by decide), ← hh5, hk_set_ne (by decide), ← hh4, hk_set_ne (by decide), ← hh3, hk_set_ne (by decide), ← hh2, hk_set_ne (by decide), hk_set_ne (by decide)]; exact b2
                  · rw [hk_set_ne (by decide), hk_set_ne (by decide), ← hh5, hk_set_ne (by decide), ← hh4, hk_set_ne (by decide), ← hh3, hk_set_ne (by decide), ← hh2, hk_set_ne (by decide), hk_set_ne (by decide)]; exact b3
                  · rw [hk_set_ne (by decide), hk_set_ne (by decide), ← hh5, hk_set_ne (by decide), ← hh4, hk_set_ne (by decide), ← hh3, hk_set_ne (by decide), ← hh2, hk_set_ne (by decide)]; exact hk_set_eq
                  · unfold upd
                    by_cases e : j = rc
                    · rw [if_pos e, hr_up_eq e]; rfl
                    · rw [if_neg e, hr_up_ne e]; exact s1 j (by omega)
                  · rw [hk_set_ne (by decide), hk_set_ne (by decide), ← hh5, hk_set_ne (by decide), ← hh4, hk_set_ne (by decide), ← hh3, hk_set_ne (by decide), ← hh2]; exact hk_set_eq
                  · rw [H2]
                    by_cases e : j = rc
                    · rw [if_pos (by omega), hr_up_eq e]; rfl
                    · rw [if_neg (by omega), hr_up_ne e]; exact s2 j r (by omega) hr
                  · rw [hk_set_ne (by decide), hk_set_ne (by decide), ← hh5, hk_set_ne (by decide), ← hh4, hk_set_ne (by decide), ← hh3]; exact hk_set_eq
                  · rw [H3]
                    by_cases e : j = rc
                    · rw [if_pos (by omega), hr_up_eq e]; rfl
                    · rw [if_neg (by omega), hr_up_ne e]; exact s3 j r i (by omega) hr hi
                  · rw [hk_set_ne (by decide), hk_set_ne (by decide), ← hh5, hk_set_ne (by decide), ← hh4]; exact hk_set_eq
                  · rw [H4]
                    by_cases e' : j = rc
                    · rw [if_pos (by omega), hr_up_eq e']; rfl
                    · rw [if_neg (by omega), hr_up_ne e']; exact s4 j e (by omega) he
                  · rw [hk_set_ne (by decide), hk_set_ne (by decide), ← hh5]; exact hk_set_eq
                  · rw [H5]
                    by_cases e : j = rc
                    · rw [if_pos (by omega), hr_up_eq e]
                      show 1 = hI (if i < 4 then 1 else 0)
                      rw [if_pos (by omega)]; rfl
                    · rw [if_neg (by omega), hr_up_ne e]; exact s5 j i (by omega) hi
                  · rw [hk_set_ne (by decide)]; exact hk_set_eq
                  · rw [H6]
                    by_cases e : j = rc
                    · rw [if_pos (by omega), hr_up_eq e]; rfl
                    · rw [if_neg (by omega), hr_up_ne e]; exact s6 j i (by omega) hi
                  · by_cases e : j = rc
                    · rw [hr_up_eq e]; exact hr_new_ok (by omega) hm.1
                    · rw [hr_up_ne e]; exact b7 j (by omega)
                  · show h5.1 = h.1
                    rw [← hh5, ← hh4, ← hh3, ← hh2]; rfl
                  · unfold hRs43 at ha
                    rw [hk_set_ne (by omega), hk_set_ne (by omega), ← hh5, hk_set_ne (by omega), ← hh4, hk_set_ne (by omega), ← hh3, hk_set_ne (by omega), ← hh2, hk_set_ne (by omega), hk_set_ne (by omega)]
                · rw [en, hN_le (by omega) (by omega)] at c3
                  refine b_X10_rule_177 o5 rfl rfl hk_set_eq (by omega) (4 * rc + z) (hI_ji (q := 4) (by omega)) (by omega) hk_set_set ?_
                  rw [hI_1]
                  exact ih (by omega) _ (hs_pl_s H6)
              · rw [hN_le (by omega) (by omega)] at c3
                refine b_X10_rule_145 o4 rfl rfl hk_set_eq (by omega) (4 * rc + p) (hI_ji (q := 4) (by omega)) (by omega) hk_set_set ?_
                rw [hI_1]
                exact ih (by omega) _ (hs_pl_s H5)
            · rw [hN_le (by omega) (by omega)] at c3
              refine b_X10_rule_115 o3 rfl rfl hk_set_eq (by omega) (5 * rc + q) (hI_ji (q := 5) (by omega)) (by omega) hk_set_set ?_
              rw [hI_1]
              exact ih (by omega) _ (hs_pl_s H4)
          · rw [e4, hN_le (by omega) (by omega)] at c3
            refine b_X10_rule_83 o2 rfl rfl hk_set_eq (by omega) (5184 * rc + q) (hI_ji (q := 5184) (by omega)) (by omega) hk_set_set ?_
            rw [hI_1]
            exact ih (by omega) _ (hs_pl_s H3)
        · rw [hN_le (by omega) (by omega)] at c3
          refine b_X10_rule_49 o1 rfl rfl hk_set_eq (by omega) (1296 * rc + q) (hI_ji (q := 1296) (by omega)) (by omega) hk_set_set ?_
          rw [hI_1]
          exact ih (by omega) _ (hs_pl_s H2)
      · rw [show (8 : Int32) = hI ((8 : Nat) : Int) from rfl, hN_eq (by omega) (by omega)] at c2
        rw [if_neg (by omega)] at hk
        exact b_X10_rule_26 ⟨_, rfl, hk h B hRf.rf⟩
    · rw [show (0 : Int32) = hI ((0 : Nat) : Int) from rfl, hN_eq (by omega) (by omega)] at c
      rw [if_pos c] at hk
      exact b_X10_rule_15 ⟨_, rfl, hk h B hRf.rf⟩
  · rw [hx_none c] at hk
    exact hk h B hRf.rf
end RH
