/-! The reference: price, honest. -/
def hPh (a : Nat) : Prop := (43 ≤ a ∧ a ≤ 51) ∨ (54 ≤ a ∧ a ≤ 56)
theorem hr_up_up {Rs : Nat → hr_R} {j : Nat} {R R' : hr_R} : hr_up (hr_up Rs j R) j R' = hr_up Rs j R' := funext fun i => by
  unfold hr_up
  split <;> rfl
section RO
variable {G : hk_G} {h h' : hk_H} {n m w rc th : Nat} {num : Nat → Int} {Rs : Nat → hr_R} {d : Nat}
theorem hd_of {m : Nat} {cm : Nat → Bool} {L : Nat → Nat → Int} (hm : m ≤ 5) (h0 : ∀ e, e < m → cm e = true → L e e = 0) (hn : ¬ hy_least m cm L < 0) : ∀ e, e < m → cm e = true → 0 ≤ hy_fl m cm L m e e := fun e he ce => by
  by_cases c : 0 ≤ hy_fl m cm L m e e
  · exact c
  · exact absurd ((hy_least_fl hm h0).mpr ⟨e, he, ce, by omega⟩) hn
theorem r_price (B : hB h n m w rc num Rs th) (S : hBs h) {x y z u : Int32} {K : Int32 → hk_H → Prop} (hk : ∀ h', hB h' n m w rc num Rs (hq_th (hq_price n m w rc num Rs x y z u)) → hBs h' → hRf hP5 h h' → K (hI (hq_val (hq_price n m w rc num Rs x y z u))) h') : hk_Ci G m_X10_price (d + 7) 0 0 [.ref 43, .int x, .int y, .int z, .int u] h K := by
  have hrc := B.rc8
  have hrow := B.rows
  obtain ⟨hn, hm, hw6, hnum⟩ := B.dim
  obtain ⟨h1, e1, B1, F1⟩ := B.t1
  have S1 := S.r43 F1
  unfold hq_price at hk
  refine ⟨Nat.le_of_ble_eq_true rfl, ?_⟩
  have bad : (∀ h', hB h' n m w rc num Rs 1 → hBs h' → hRf hP5 h h' → K 0 h') → ∀ (o1 o2 o3 o4 : Option Value), hk_S G m_X10_price (d + 7) 0 0 37 [some (.ref 43), o1, o2, o3, o4] [] h1 (fun o h' => ∃ x, o = .inl (some (.int x)) ∧ K x h') := fun hk o1 o2 o3 o4 => b_X10_price_37 B1.o (r_rise (t := 1) B1 F1 fun h' B' F' => b_X10_price_42 ⟨_, rfl, hk h' B' (S.r43 F') F'.to5⟩)
  refine b_X10_price_0 B.o (by omega) e1 B1.o (r_isRow B1 (fun j r hj hr hxj hyr => ?_) (fun c => ?_) (fun j hj hxj c => ?_))
  · rw [hxj, hyr, hx_some hj (by omega), hx_some hr (by omega)] at hk
    refine b_X10_price_11 (fun q => absurd q (by decide)) (fun _ => ?_)
    refine b_X10_price_14 B1.o rfl (r_isIn (by omega) (fun i hi hzi => ?_) (fun c => b_X10_price_22 (fun _ => ?_) (fun q => absurd rfl q)))
    · rw [hzi, hx_some hi (by omega)] at hk
      refine b_X10_price_22 (fun q => absurd q (by decide)) (fun _ => ?_)
      refine b_X10_price_25 B1.o rfl (r_isIn (by omega) (fun e he hue => ?_) (fun c => b_X10_price_34 (fun q => absurd rfl q) (fun _ => ?_)))
      · rw [hue, hx_some he (by omega)] at hk
        simp only at hk
        have hE := hq_E_ltB B hj hr hi
        refine b_X10_price_34 (fun _ => ?_) (fun q => absurd q (by decide))
        rw [hxj, hyr, hzi]
        refine b_X10_price_43 B1.o (r_measure B1 S1 hj hr hi fun h2 B2 S2 F2 M2 => ?_)
        have F3 : hRf hP5 h h2 := F1.to5.tr F2.m5
        have Lb := hy_L_bd hnum hE hm.2 hw6
        have L0 : ∀ e, e < m → hy_cm (hq_E n m w num (Rs j) r i) w e = true → hy_L num (hq_E n m w num (Rs j) r i) w e e = 0 := fun e _ ce => hy_L_0 ce
        obtain ⟨cf, lf, m1, m2, m3, m4⟩ := id M2
        have late : (∀ h', hB h' n m w rc num Rs 2 → hBs h' → hRf hP5 h h' → K 0 h') → ∀ (o1 o2 o3 o4 : Option Value), hk_S G m_X10_price (d + 7) 0 0 67 [some (.ref 43), o1, o2, o3, o4] [] h2 (fun o h' => ∃ x, o = .inl (some (.int x)) ∧ K x h') := fun hk o1 o2 o3 o4 => b_X10_price_67 B2.o (r_rise (t := 2) B2 hRf.rf fun h' B' F' => b_X10_price_72 ⟨_, rfl, hk h' B' (S2.r43 F') (F3.tr F'.to5)⟩)
        refine b_X10_price_50 B2.o rfl m1 e (by rw [hue]; exact hI_at rfl (by omega)) (by omega) (fun q => ?_) (fun q => ?_)
        · rw [m3 e he, hb_0] at q
          rw [if_neg (fun z => by rw [q] at z; cases z.1)] at hk
          exact late hk _ _ _ _
        · rw [m3 e he, hb_0] at q
          rw [Bool.not_eq_false] at q
          refine b_X10_price_60 B2.o (r_least B2 M2 Lb fun lb ub => ?_)
          refine b_X10_price_64 (fun c4 => ?_) (fun c4 => ?_)
          · rw [show (0 : Int32) = hI 0 from rfl, hI_le (by omega) (by omega)] at c4
            rw [if_pos ⟨q, by omega⟩] at hk
            obtain ⟨p0, s5⟩ := S2.2.2.2.2.1
            refine b_X10_price_73 B2.o (r_priceAll B2 M2 s5 Lb L0 (hd_of hm.2 L0 (by omega)) ⟨e, he, q⟩ fun h4 pf F4 p4 D4 => ?_)
            have B4 : hB h4 n m w rc num Rs 0 := B2.fr fun a _ _ => F4.2 a (by unfold hP56; omega)
            have S4 : hBs h4 := by
              obtain ⟨⟨f1, t1⟩, ⟨f2, t2⟩, ⟨f3, t3⟩, ⟨f4, t4⟩, -, t6, ⟨f7, t7⟩⟩ := S2
              have eq : ∀ a, a ≠ 56 → h4.2 a = h2.2 a := fun a ha => F4.2 a ha
              refine ⟨⟨f1, (eq 52 (by decide)).trans t1⟩, ⟨f2, (eq 53 (by decide)).trans t2⟩, ⟨f3, (eq 54 (by decide)).trans t3⟩, ⟨f4, (eq 55 (by decide)).trans t4⟩, ⟨pf, p4⟩, fun x hx => ?_, ⟨f7, (eq 69 (by decide)).trans t7⟩⟩
              obtain ⟨g, s⟩ := t6 x hx
              exact ⟨g, (eq _ (by omega)).trans s⟩
            refine b_X10_price_77 B4.o rfl p4 e (by rw [hue]; exact hI_at rfl (by omega)) (by omega) ⟨_, rfl, ?_⟩
            rw [D4 e he q]
            exact hk h4 B4 S4 (F3.tr (F4.mono fun a ha => by unfold hP56 at ha; unfold hP5; omega))
          · rw [show (0 : Int32) = hI 0 from rfl, hI_le (by omega) (by omega)] at c4
            rw [if_neg (fun z => z.2 (by omega))] at hk
            exact late hk _ _ _ _
      · rw [hx_none c] at hk
        exact bad hk _ _ _ _
    · rw [hx_none c] at hk
      exact bad hk _ _ _ _
  · rw [hx_none c] at hk
    exact b_X10_price_11 (fun _ => bad hk _ _ _ _) (fun q => absurd rfl q)
  · rw [hxj, hx_some hj (by omega), hx_none c] at hk
    exact b_X10_price_11 (fun _ => bad hk _ _ _ _) (fun q => absurd rfl q)
/-- told by its rows alone, one rule with payments -/
theorem hB.to1 {R : hr_R} (B : hB h n m w (rc + 1) num (hr_up Rs rc R) th) {R' : hr_R} (e1 : R.1 = 1) (e1' : R'.1 = 1) (hE : ∀ r, r < hw_pow w n → R'.2.1 r = R.2.1 r) (hP : ∀ r i, r < hw_pow w n → i < n → R'.2.2.1 r i = R.2.2.1 r i) (hr : R'.2.2.2 = R.2.2.2) : hB h n m w (rc + 1) num (hr_up Rs rc R') th := by
  obtain ⟨b1, b2, b3, ⟨⟨f1, r1, s1⟩, ⟨f2, r2, s2⟩, ⟨f3, r3, s3⟩, ⟨f4, r4, s4⟩, ⟨f5, r5, s5⟩, ⟨f6, r6, s6⟩⟩, b5, b6, b7, b8⟩ := B
  refine ⟨b1, b2, b3, ⟨⟨f1, r1, fun j hj => ?_⟩, ⟨f2, r2, fun j r hj hr => ?_⟩, ⟨f3, r3, fun j r i hj hr hi => ?_⟩, ⟨f4, r4, fun j e hj he => ?_⟩, ⟨f5, r5, fun j i hj hi => ?_⟩, ⟨f6, r6, fun j i hj hi => ?_⟩⟩, b5, b6, fun j hj => ?_, b8⟩
  all_goals by_cases q : j = rc
  · have := s1 j hj; rw [hr_up_eq q] at this ⊢; rw [e1']; rw [e1] at this; exact this
  · have := s1 j hj; rw [hr_up_ne q] at this ⊢; exact this
  · have := s2 j r hj hr; rw [hr_up_eq q] at this ⊢; rw [hE r hr]; exact this
  · have := s2 j r hj hr; rw [hr_up_ne q] at this ⊢; exact this
  · have := s3 j r i hj hr hi; rw [hr_up_eq q] at this ⊢; rw [hP r i hr hi]; exact this
  · have := s3 j r i hj hr hi; rw [hr_up_ne q] at this ⊢; exact this
  · have := s4 j e hj he; rw [hr_up_eq q] at this ⊢; rw [hr]; exact this
  · have := s4 j e hj he; rw [hr_up_ne q] at this ⊢; exact this
  · have := s5 j i hj hi; rw [hr_up_eq q] at this ⊢; rw [hr]; exact this
  · have := s5 j i hj hi; rw [hr_up_ne q] at this ⊢; exact this
  · have := s6 j i hj hi; rw [hr_up_eq q] at this ⊢; rw [hr]; exact this
  · have := s6 j i hj hi; rw [hr_up_ne q] at this ⊢; exact this
  · have := b7 j hj
    rw [hr_up_eq q] at this ⊢
    obtain ⟨o1, o2, o3, o4, o5, o6⟩ := this
    exact ⟨by omega, fun r hr => by rw [hE r hr]; exact o2 r hr, fun r i hr hi => by rw [hP r i hr hi]; exact o3 r i hr hi, by rw [hr]; exact o4, by rw [hr]; exact o5, by rw [hr]; exact o6⟩
  · have := b7 j hj; rw [hr_up_ne q] at this ⊢; exact this
theorem r_honest (B : hB h n m w rc num Rs th) (S : hBs h) {x : Int32} {K : Int32 → hk_H → Prop} (hk : ∀ h', hB h' n m w (hq_honest n m w rc num Rs x).2.1 num (hq_honest n m w rc num Rs x).2.2 th → hBs h' → hRf hPh h h' → K (hI (hq_honest n m w rc num Rs x).1) h') : hk_Ci G m_X10_honest (d + 8) 0 0 [.ref 43, .int x] h K := by
  have hrc := B.rc8
  have hrow := B.rows
  obtain ⟨hn, hm, hw6, hnum⟩ := B.dim
  unfold hq_honest at hk
  refine ⟨Nat.le_of_ble_eq_true rfl, ?_⟩
  refine b_X10_honest_0 B.o rfl (r_isIn (by omega) (fun j hj hxj => ?_) (fun c => b_X10_honest_8 (fun z => absurd rfl z) (fun _ => b_X10_honest_11 ⟨_, rfl, ?_⟩)))
  · rw [hxj, hx_some hj (by omega)] at hk
    simp only at hk
    have hw := B.w0 hj
    refine b_X10_honest_8 (fun _ => ?_) (fun z => absurd z (by decide))
    rw [hxj]
    refine b_X10_honest_13 B.o rfl (fun c => ?_) (fun c => ?_)
    · rw [show (8 : Int32) = hI ((8 : Nat) : Int) from rfl, hN_eq (by omega) (by omega)] at c
      have hr8 : rc < 8 := by omega
      rw [if_pos hr8] at hk
      refine b_X10_honest_25 B.o (r_round (y := hI ((0 : Nat) : Int)) B S fun h1 B1 S1 F1 => ?_)
      have er : hq_round n m w rc num Rs (hI (j : Int)) (hI ((0 : Nat) : Int)) = hp_round n m w num (Rs j) 0 := by
        unfold hq_round
        rw [hx_some hj (by omega), hx_some (by omega) (by omega)]
      rw [er]
      have hr0 := hp_round_0 (n := n) (m := m) (w := w) (num := num) (R := Rs j)
      have F1' : hRf hPh h h1 := F1.mono fun a ha => by unfold hP55 at ha; unfold hPh; omega
      refine b_X10_honest_31 (fun c2 => ?_) (fun c2 => ?_)
      · rw [show (-2 : Int32) = hI (-2) from rfl, hI_eq (by omega) (by omega)] at c2
        rw [if_pos c2] at hk
        have hk : ∀ h', hB h' n m w (rc + 1) num (hr_up Rs rc (hp_priced n m w num (Rs j))) th → hBs h' → hRf hPh h h' → K (hI (rc : Int)) h' := hk
        have hpos := hp_round_none c2
        have hq1 : hq_rule w rc Rs (hI ((1 : Nat) : Int)) = ((rc : Int), rc + 1, hr_up Rs rc (hr_new 1)) := by
          unfold hq_rule
          rw [hx_some (by omega) (by omega)]
          simp only
          rw [if_neg (by omega), if_pos hr8]
        refine b_X10_honest_39 B1.o (r_rule (x := hI ((1 : Nat) : Int)) B1 fun h2 B2 F2 => ?_)
        rw [hq1] at B2 ⊢
        have B2 : hB h2 n m w (rc + 1) num (hr_up Rs rc (hr_new 1)) th := B2
        have S2 : hBs h2 := S1.fr fun a ha => F2.2 a (by unfold hRs43; unfold hPsc at ha; omega)
        have F2' : hRf hPh h h2 := F1'.tr (F2.mono fun a ha => by unfold hRs43 at ha; unfold hPh; omega)
        refine b_X10_honest_44 ?_
        refine hk_upto (P := fun r => ∀ h' R (o4 o5 : Option Value), hk_c1 o4 → hB h' n m w (rc + 1) num (hr_up Rs rc R) th → hBs h' → hRf hPh h h' → R.1 = 1 → R.2.2.2 = (hr_new 1).2.2.2 → (∀ r', r' < r → R.2.1 r' = hr_end n m w num (Rs j) r' ∧ ∀ i, i < n → R.2.2.1 r' i = hp_pr n m w num (Rs j) r' i) → hk_S G m_X10_honest (d + 8) 0 0 47 [some (.ref 43), some (.int (hI j)), some (.int (hI (rc : Int))), some (.int (hI (r : Int))), o4, o5] [] h' (fun o h' => ∃ x, o = .inl (some (.int x)) ∧ K x h')) (hw_pow w n) (fun r hr ih h' R o4 o5 q4 B' S' F' R1 R2 D => ?_) h2 (hr_new 1) none none hk_c10 B2 S2 F2' rfl rfl (fun r' hr' => by omega)
        refine b_X10_honest_47 B'.o rfl (fun cc => ?_) (fun cc => ?_)
        · rw [hN_le (by omega) (by omega)] at cc
          refine b_X10_honest_137 ⟨_, rfl, hk h' (B'.to1 R1 rfl (fun r' hr' => (D r' (by omega)).1.symm) (fun r' i hr' hi => ((D r' (by omega)).2 i hi).symm) R2.symm) S' F'⟩
        · rw [hN_le (by omega) (by omega)] at cc
          have hrl : r < hw_pow w n := by omega
          have hjn : ¬ j = rc := by omega
          have el := hr_end_lt (num := num) hm.1 (B.ok hj) hrl
          have hre := r_ends (G := G) (d := d + 4) (K := fun x h9 => hk_S G m_X10_honest (d + 8) 0 0 61 [some (.ref 43), some (.int (hI j)), some (.int (hI (rc : Int))), some (.int (hI (r : Int))), o4, o5] [.int x] h9 (fun o h' => ∃ x, o = .inl (some (.int x)) ∧ K x h')) B' (show j < rc + 1 by omega) hrl
          rw [hr_up_ne hjn] at hre
          refine b_X10_honest_55 B'.o (hre ?_)
          obtain ⟨-, ⟨ef, e1, e2⟩, -⟩ := B'.2.2.2.1
          refine b_X10_honest_61 B'.o rfl e1 (by omega) (1296 * rc + r) (hI_ji (q := 1296) (by omega)) (by omega) rfl ?_
          have B3 := B'.put (j := rc) (by omega) hrl el e1
          rw [hr_up_eq rfl, hr_up_up] at B3
          have S3 : hBs (hk_set h' 47 (hc_i32 10368 (upd ef (1296 * rc + r) (hI (hr_end n m w num (Rs j) r : Nat))))) := S'.fr fun a ha => hk_set_ne (by unfold hPsc at ha; omega)
          refine hk_upto (P := fun i => ∀ h' R', hB h' n m w (rc + 1) num (hr_up Rs rc R') th → hBs h' → hRf hPh h h' → R'.1 = 1 → R'.2.2.2 = (hr_new 1).2.2.2 → (∀ r', r' < r → R'.2.1 r' = hr_end n m w num (Rs j) r' ∧ ∀ i, i < n → R'.2.2.1 r' i = hp_pr n m w num (Rs j) r' i) → R'.2.1 r = hr_end n m w num (Rs j) r → (∀ i', i' < i → R'.2.2.1 r i' = hp_pr n m w num (Rs j) r i') → hk_S G m_X10_honest (d + 8) 0 0 80 [some (.ref 43), some (.int (hI j)), some (.int (hI (rc : Int))), some (.int (hI (r : Int))), some (.int (hI (hr_end n m w num (Rs j) r : Nat))), some (.int (hI (i : Int)))] [] h' (fun o h' => ∃ x, o = .inl (some (.int x)) ∧ K x h')) n (fun i hi ih2 h' R' B' S' F' R1 R2 D Dr Di => ?_) _ _ B3 S3 (F'.set (by unfold hPh; omega)) R1 R2 (fun r' hr' => ⟨?_, fun i hi => (D r' hr').2 i hi⟩) ?_ (fun i' hi' => by omega)
          · refine b_X10_honest_80 B'.o rfl (fun c3 => ?_) (fun c3 => ?_)
            · rw [hN_le (by omega) (by omega)] at c3
              refine b_X10_honest_131 ?_
              rw [hI_1]
              refine ih hrl h' R' _ _ hk_c1i B' S' F' R1 R2 fun r' hr' => ?_
              by_cases q : r' = r
              · subst q; exact ⟨Dr, fun i' hi' => Di i' (by omega)⟩
              · exact D r' (by omega)
            · rw [hN_le (by omega) (by omega)] at c3
              have hin : i < n := by omega
              have hE := hq_E_ltB B hj hrl hin
              have hmz := r_measure (G := G) (d := d + 3) (K := fun h9 => hk_S G m_X10_honest (d + 8) 0 0 97 [some (.ref 43), some (.int (hI j)), some (.int (hI (rc : Int))), some (.int (hI (r : Int))), some (.int (hI (hr_end n m w num (Rs j) r : Nat))), some (.int (hI (i : Int)))] [] h9 (fun o h' => ∃ x, o = .inl (some (.int x)) ∧ K x h')) B' S' (show j < rc + 1 by omega) hrl hin
              rw [hr_up_ne hjn] at hmz
              refine b_X10_honest_89 B'.o (hmz fun h4 B4 S4 F4 M4 => ?_)
              have Lb := hy_L_bd hnum hE hm.2 hw6
              have L0 : ∀ e, e < m → hy_cm (hq_E n m w num (Rs j) r i) w e = true → hy_L num (hq_E n m w num (Rs j) r i) w e e = 0 := fun e _ ce => hy_L_0 ce
              have hwi := hw_in_lt hw r i
              have hs0 := B.say hj hrl hin (show 0 < w by omega)
              have eE : hq_E n m w num (Rs j) (hw_say w r i 0) i = hq_E n m w num (Rs j) r i := funext fun v => by
                unfold hq_E
                rw [hw_say_say hw (by omega)]
              have hnn : ¬ hy_least m (hy_cm (hq_E n m w num (Rs j) r i) w) (hy_L num (hq_E n m w num (Rs j) r i) w) < 0 := by
                have := hpos i (hw_say w r i 0) hin hs0 (hw_in_say hw (by omega) i r)
                unfold hp_lst at this
                rw [eE] at this
                exact this
              have eend : hq_E n m w num (Rs j) r i (hw_in w r i) = hr_end n m w num (Rs j) r := by
                unfold hq_E
                rw [hw_say_in]
              have hce : hy_cm (hq_E n m w num (Rs j) r i) w (hr_end n m w num (Rs j) r) = true := (hy_cm_is w).mpr ⟨hw_in w r i, hwi, eend⟩
              obtain ⟨p0, s5⟩ := S4.2.2.2.2.1
              refine b_X10_honest_97 B4.o (r_priceAll B4 M4 s5 Lb L0 (hd_of hm.2 L0 hnn) ⟨_, el, hce⟩ fun h5 pf F5 p5 D5 => ?_)
              have B5 : hB h5 n m w (rc + 1) num (hr_up Rs rc R') th := B4.fr fun a _ _ => F5.2 a (by unfold hP56; omega)
              have S5 : hBs h5 := by
                obtain ⟨⟨f1, t1⟩, ⟨f2, t2⟩, ⟨f3, t3⟩, ⟨f4, t4⟩, -, t6, ⟨f7, t7⟩⟩ := S4
                have eq : ∀ a, a ≠ 56 → h5.2 a = h4.2 a := fun a ha => F5.2 a ha
                refine ⟨⟨f1, (eq 52 (by decide)).trans t1⟩, ⟨f2, (eq 53 (by decide)).trans t2⟩, ⟨f3, (eq 54 (by decide)).trans t3⟩, ⟨f4, (eq 55 (by decide)).trans t4⟩, ⟨pf, p5⟩, fun x hx => ?_, ⟨f7, (eq 69 (by decide)).trans t7⟩⟩
                obtain ⟨g, s⟩ := t6 x hx
                exact ⟨g, (eq _ (by omega)).trans s⟩
              have ev : pf (hr_end n m w num (Rs j) r) = hI (hp_pr n m w num (Rs j) r i) := D5 _ el hce
              have hfst := hy_fst_is (cm := hy_cm (hq_E n m w num (Rs j) r i) w) m 0 ⟨_, Nat.zero_le _, by omega, hce⟩
              rw [Nat.zero_add] at hfst
              have pb : -198 ≤ hp_pr n m w num (Rs j) r i ∧ hp_pr n m w num (Rs j) r i ≤ 198 := hy_fl_198 Lb L0 (hd_of hm.2 L0 hnn) hfst.2 hfst.1 el hce
              obtain ⟨-, -, ⟨pf3, p1, p2⟩, -⟩ := B5.2.2.2.1
              refine b_X10_honest_101 B5.o rfl rfl p5 (hr_end n m w num (Rs j) r) (hI_at rfl (by omega)) (by omega) p1 (by omega) (4 * (1296 * rc + r) + i) (hI_jk (by omega)) (by omega) rfl ?_
              rw [hI_1, ev]
              have B6 := B5.pay (j := rc) (by omega) hrl hin (v := hp_pr n m w num (Rs j) r i) ⟨by omega, by omega⟩ p1
              rw [hr_up_eq rfl, hr_up_up] at B6
              refine ih2 hin _ _ B6 (S5.fr fun a ha => hk_set_ne (by unfold hPsc at ha; omega)) (((F'.tr (F4.mono fun a ha => by unfold hP55 at ha; unfold hPh; omega)).tr (F5.mono fun a ha => by unfold hP56 at ha; unfold hPh; omega)).set (by unfold hPh; omega)) R1 R2 (fun r' hr' => ⟨(D r' hr').1, fun i' hi' => ?_⟩) Dr (fun i' hi' => ?_)
              · show (if r' = r ∧ i' = i then _ else R'.2.2.1 r' i') = _
                rw [if_neg (by omega)]
                exact (D r' hr').2 i' hi'
              · show (if r = r ∧ i' = i then _ else R'.2.2.1 r i') = _
                by_cases q : i' = i
                · rw [if_pos ⟨rfl, q⟩, q]
                · rw [if_neg (by omega)]; exact Di i' (by omega)
          · show (if r' = r then _ else R.2.1 r') = _
            rw [if_neg (by omega)]
            exact (D r' hr').1
          · show (if r = r then _ else R.2.1 r) = _
            rw [if_pos rfl]
      · rw [show (-2 : Int32) = hI (-2) from rfl, hI_eq (by omega) (by omega)] at c2
        rw [if_neg c2] at hk
        exact b_X10_honest_36 ⟨_, rfl, hk h1 B1 S1 F1'⟩
    · rw [show (8 : Int32) = hI ((8 : Nat) : Int) from rfl, hN_eq (by omega) (by omega)] at c
      rw [if_neg (by omega)] at hk
      exact b_X10_honest_22 ⟨_, rfl, hk h B S hRf.rf⟩
  · rw [hx_none c] at hk
    exact hk h B S hRf.rf
end RO
