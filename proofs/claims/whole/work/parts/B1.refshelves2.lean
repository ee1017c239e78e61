/-! The reference's shelves: keep, make, copy. -/
section RV2
variable {G : hk_G} {h h' : hk_H} {n m w rc th : Nat} {num : Nat → Int} {Rs : Nat → hr_R} {P : Nat → Nat → Nat} {Ss : Nat → hv_S} {S : hv_S} {hf sf kf nf uf hf' sf' kf' nf' uf' : Nat → Int32} {ef ef' : Nat → Int64} {D d : Nat}
theorem hBv_mk (v2 : ∀ D, D < 8 → hv_2 rc Rs hf sf kf nf uf ef D (Ss D)) (V : hVc h' hf' sf' kf' nf' uf' ef') (e : ∀ E, E < 8 → E ≠ D → hf' E = hf E ∧ sf' E = sf E ∧ kf' E = kf E ∧ nf' E = nf E ∧ uf' E = uf E ∧ ∀ i, i < 60 → ef' (60 * E + i) = ef (60 * E + i)) (H : hv_2 rc Rs hf' sf' kf' nf' uf' ef' D S) : hBv h' rc Rs (hv_up Ss D S) := by
  refine ⟨hf', sf', kf', nf', uf', ef', V, fun E hE => ?_⟩
  unfold hv_up
  by_cases c : E = D
  · subst c; rw [if_pos rfl]; exact H
  · rw [if_neg c]
    obtain ⟨e1, e2, e3, e4, e5, e6⟩ := e E hE c
    exact (v2 E hE).eq e1 e2 e3 e4 e5 e6
theorem r_keep (A : hBA h n m w rc num Rs th P) (V : hBv h rc Rs Ss) {x y z : Int32} {K : Int32 → hk_H → Prop} (hk : ∀ h', hBA h' n m w rc num Rs th P → hBv h' rc Rs (hq_keep n m w rc num Rs Ss x y z).2 → hRf hP63 h h' → K (hI (hq_keep n m w rc num Rs Ss x y z).1) h') : hk_Ci G m_X10_keep (d + 4) 0 0 [.ref 43, .int x, .int y, .int z] h K := by
  have B := A.1
  have hrc := B.rc8
  have hrow := B.rows
  obtain ⟨hn, hm, hw6, hnum⟩ := B.dim
  have hk : ∀ h', hBv h' rc Rs (hq_keep n m w rc num Rs Ss x y z).2 → hRf hP68 h h' → K (hI (hq_keep n m w rc num Rs Ss x y z).1) h' := fun h' V' F' => hk h' (A.p68 F') V' (F'.mono fun a => hP68_63)
  have hk0 := hk h
  have V0 := V
  obtain ⟨hf, sf, kf, nf, uf, ef, v1, v2⟩ := V
  have Bf : ∀ {h1 : hk_H}, hRf hP68 h h1 → hB h1 n m w rc num Rs th := fun F => B.fr fun a h1 h2 => F.2 a (by unfold hP68; omega)
  unfold hq_keep at hk hk0
  refine ⟨Nat.le_of_ble_eq_true rfl, ?_⟩
  refine b_X10_keep_0 (r_isIn8 (fun D hD hxD => ?_) (fun c => ?_))
  · rw [hxD, hx_some hD (by omega)] at hk hk0
    simp only at hk hk0
    refine b_X10_keep_6 (fun z => absurd z (by decide)) (fun _ => ?_)
    rw [hxD]
    have F63 : ∀ q : Int32, hRf hP68 h (hk_set h 63 (hc_i32 8 (upd hf D q))) := fun q => hRf.rf.set (by unfold hP68; omega)
    by_cases y0 : y = 0
    · rw [if_pos y0] at hk
      refine b_X10_keep_9 (fun _ => ?_) (fun c => absurd y0 c)
      refine b_X10_keep_30 (fun c => absurd (y0.symm.trans c) (by decide)) (fun _ => ?_)
      refine b_X10_keep_35 (fun _ => ?_) (fun c => absurd (y0.symm.trans c) (by decide))
      refine b_X10_keep_51 (fun _ => ?_) (fun c => absurd (y0.symm.trans c) (by decide))
      refine b_X10_keep_69 B.o rfl v1.1 (by omega) D (hI_at rfl (by omega)) (by omega) rfl (fun _ => ?_) (fun c => absurd (y0.symm.trans c) (by decide))
      refine b_X10_keep_150 (fun _ => ?_) (fun c => absurd (y0.symm.trans c) (by decide))
      refine b_X10_keep_213 (fun _ => ?_) (fun c => absurd (y0.symm.trans c) (by decide))
      refine b_X10_keep_270 ⟨_, rfl, hk _ (hBv_mk v2 v1.s63 (fun E _ hE => ⟨upd_ne hE, rfl, rfl, rfl, rfl, fun _ _ => rfl⟩) ?_) (F63 y)⟩
      exact ⟨Or.inl rfl, by rw [upd_eq, y0]; rfl, fun c => absurd (show 0 = 1 from c) (by decide), fun c => absurd (show 3 ≤ 0 from c) (by decide)⟩
    · rw [if_neg y0] at hk hk0
      refine b_X10_keep_9 (fun c => absurd c y0) (fun _ => ?_)
      by_cases y1 : y = 1
      · rw [if_pos y1] at hk hk0
        refine b_X10_keep_13 (fun _ => ?_) (fun c => absurd y1 c)
        refine b_X10_keep_30 (fun _ => ?_) (fun c => absurd y1 c)
        refine b_X10_keep_40 B.o rfl (r_isIn (by omega) (fun j hj hzj => ?_) (fun c => ?_))
        · rw [hzj, hx_some hj (by omega)] at hk
          simp only at hk
          refine b_X10_keep_48 (fun z => absurd z (by decide)) (fun _ => ?_)
          refine b_X10_keep_51 (fun _ => ?_) (fun c => absurd (y1.symm.trans c) (by decide))
          rw [hzj]
          refine b_X10_keep_69 B.o rfl v1.1 (by omega) D (hI_at rfl (by omega)) (by omega) rfl (fun c => absurd y1 c) (fun _ => ?_)
          have B1 := Bf (F63 y)
          have w1 : hVc (hk_set h 63 (hc_i32 8 (upd hf D y))) _ _ _ _ _ _ := v1.s63 (hf' := upd hf D y)
          obtain ⟨⟨f6, k1, k2⟩, -⟩ := B1.2.2.2.1
          have F2 := (F63 y).set (a := 65) (c := hc_i32 8 (upd kf D (f6 j))) (by unfold hP68; omega)
          have F3 := F2.set (a := 66) (c := hc_i32 8 (upd nf D (hI j))) (by unfold hP68; omega)
          have F4 := F3.set (a := 67) (c := hc_i32 8 (upd uf D 0)) (by unfold hP68; omega)
          have w2 := w1.s65 (kf' := upd kf D (f6 j))
          have w3 := w2.s66 (nf' := upd nf D (hI j))
          have w4 := w3.s67 (uf' := upd uf D 0)
          refine b_X10_keep_81 B1.o rfl rfl k1 j (hI_at rfl (by omega)) (by omega) w1.2.2.1 (by omega) D (hI_at rfl (by omega)) (by omega) rfl (Bf F2).o rfl w2.2.2.2.1 (by omega) (by omega) rfl (Bf F3).o rfl w3.2.2.2.2.1 (by omega) (by omega) rfl ?_
          have e6 : f6 j = hI ((Rs j).1 : Nat) := k2 j hj
          refine hk_upto (P := fun i => ∀ h' u, hVc h' (upd hf D y) sf (upd kf D (f6 j)) (upd nf D (hI j)) u ef → hRf hP68 h h' → (∀ E, E ≠ D → u E = uf E) → u D = hI (hr_to (fun i => (((Rs j).2.2.2.2.2 i : Nat) : Int)) i) → hk_S G m_X10_keep (d + 4) 0 0 110 [some (.ref 43), some (.int (hI (D : Int))), some (.int y), some (.int (hI (j : Int))), some (.int (hI (i : Int)))] [] h' (fun o h' => ∃ x, o = .inl (some (.int x)) ∧ K x h')) (n - 1) (fun i hi ih h' u W' F' U' e' => ?_) _ _ w4 F4 (fun E hE => upd_ne hE) upd_eq
          have B' := Bf F'
          have en : hI (n : Int) - 1 = hI ((n - 1 : Nat) : Int) := by
            rw [show (1 : Int32) = hI 1 from rfl, hI_sub]
            congr 1
            omega
          refine b_X10_keep_110 B'.o rfl (fun c => ?_) (fun c => ?_)
          · rw [en, hN_le (by omega) (by omega)] at c
            have ei : i = n - 1 := by omega
            subst ei
            refine b_X10_keep_147 ⟨_, rfl, hk _ (hBv_mk v2 W' (fun E _ hE => ⟨upd_ne hE, rfl, upd_ne hE, upd_ne hE, U' E hE, fun _ _ => rfl⟩) ?_) F'⟩
            refine ⟨Or.inr (Or.inl rfl), by rw [upd_eq, y1]; rfl, fun _ => ⟨hj, by rw [upd_eq]; exact e6, upd_eq, _, e', ?_⟩, fun c => absurd (show 3 ≤ 1 from c) (by decide)⟩
            show hr_heft n j (Rs j) = hv_w (Rs j).1 j _
            rfl
          · rw [en, hN_le (by omega) (by omega)] at c
            obtain ⟨-, -, -, -, -, ⟨f51, p1, p2⟩⟩ := B'.2.2.2.1
            refine b_X10_keep_121 B'.o rfl W'.2.2.2.2.1 D (hI_at rfl (by omega)) (by omega) rfl p1 (4 * j + i) (hI_ji (q := 4) (by omega)) (by omega) (by omega) rfl ?_
            rw [hI_1]
            refine ih (by omega) _ _ W'.s67 (F'.set (by unfold hP68; omega)) (fun E hE => (upd_ne hE).trans (U' E hE)) ?_
            rw [upd_eq, e', p2 j i hj (by omega), hI_add]
            rfl
        · rw [hx_none c] at hk0
          exact b_X10_keep_48 (fun _ => b_X10_keep_67 ⟨_, rfl, hk0 V0 hRf.rf⟩) (fun z => absurd rfl z)
      · rw [if_neg y1] at hk hk0
        refine b_X10_keep_13 (fun c => absurd c y1) (fun _ => ?_)
        by_cases y3 : y = 3
        · rw [if_pos y3] at hk hk0
          refine b_X10_keep_18 (fun _ => ?_) (fun c => absurd y3 c)
          refine b_X10_keep_30 (fun c => absurd c y1) (fun _ => ?_)
          refine b_X10_keep_35 (fun c => absurd y3 c) (fun _ => ?_)
          refine b_X10_keep_40 B.o rfl (r_isIn (by omega) (fun j hj hzj => ?_) (fun c => ?_))
          · rw [hzj, hx_some hj (by omega)] at hk
            simp only at hk
            refine b_X10_keep_48 (fun z => absurd z (by decide)) (fun _ => ?_)
            refine b_X10_keep_51 (fun _ => ?_) (fun c => absurd (y3.symm.trans c) (by decide))
            rw [hzj]
            refine b_X10_keep_69 B.o rfl v1.1 (by omega) D (hI_at rfl (by omega)) (by omega) rfl (fun _ => ?_) (fun c => absurd c y1)
            have B1 := Bf (F63 y)
            have w1 : hVc (hk_set h 63 (hc_i32 8 (upd hf D y))) _ _ _ _ _ _ := v1.s63 (hf' := upd hf D y)
            refine b_X10_keep_150 (fun c => absurd y3 c) (fun _ => ?_)
            refine b_X10_keep_155 B1.o rfl rfl (s_min (b := 60) (by omega) (by omega) ?_)
            rw [show min ((hw_pow w n : Nat) : Int) (60 : Int) = ((min 60 (hw_pow w n) : Nat) : Int) by omega]
            generalize hz : min 60 (hw_pow w n) = z9 at hk ⊢
            refine b_X10_keep_169 w1.2.1 (by omega) D (hI_at rfl (by omega)) (by omega) rfl ?_
            have w2 := w1.s64 (sf' := upd sf D (hI (z9 : Nat)))
            have F2 := (F63 y).set (a := 64) (c := hc_i32 8 (upd sf D (hI (z9 : Nat)))) (by unfold hP68; omega)
            refine hk_upto (P := fun i => ∀ h' g, hVc h' (upd hf D y) (upd sf D (hI (z9 : Nat))) kf nf uf g → hRf hP68 h h' → (∀ E, E < 8 → E ≠ D → ∀ i, i < 60 → g (60 * E + i) = ef (60 * E + i)) → (∀ k, k < i → g (60 * D + k) = hL (hr_end n m w num (Rs j) k : Nat)) → hk_S G m_X10_keep (d + 4) 0 0 173 [some (.ref 43), some (.int (hI (D : Int))), some (.int y), some (.int (hI (j : Int))), some (.int (hI (i : Int)))] [] h' (fun o h' => ∃ x, o = .inl (some (.int x)) ∧ K x h')) z9 (fun i hi ih h' g W' F' U' g' => ?_) _ _ w2 F2 (fun _ _ _ _ _ => rfl) (fun k hk => by omega)
            have B' := Bf F'
            refine b_X10_keep_173 B'.o rfl W'.2.1 D (hI_at rfl (by omega)) (by omega) (fun c => ?_) (fun c => ?_)
            · rw [upd_eq, hN_le (by omega) (by omega)] at c
              have ei : i = z9 := by omega
              subst ei
              refine b_X10_keep_210 ⟨_, rfl, hk _ (hBv_mk v2 W' (fun E hE8 hE => ⟨upd_ne hE, upd_ne hE, rfl, rfl, rfl, U' E hE8 hE⟩) ?_) F'⟩
              exact ⟨Or.inr (Or.inr (Or.inl rfl)), by rw [upd_eq, y3]; rfl, fun c => absurd (show 3 = 1 from c) (by decide), fun _ => ⟨by show i ≤ 60; omega, upd_eq, g'⟩⟩
            · rw [upd_eq, hN_le (by omega) (by omega)] at c
              have hend := hr_end_lt (num := num) hm.1 (B.ok hj) (r := i) (by omega)
              refine b_X10_keep_184 B'.o rfl (r_ends B' hj (by omega) ?_)
              refine b_X10_keep_202 W'.2.2.2.2.2 (by omega) (60 * D + i) (hI_ji (q := 60) (by omega)) (by omega) rfl ?_
              rw [hI_1]
              refine ih (by omega) _ _ W'.s68 (F'.set (by unfold hP68; omega)) (fun E hE8 hE k hk => ?_) (fun k hk => ?_)
              · unfold vp_updL
                rw [if_neg (by omega)]
                exact U' E hE8 hE k hk
              · unfold vp_updL
                by_cases e : k = i
                · rw [if_pos (by omega), e, hL_I (by omega)]
                · rw [if_neg (by omega)]
                  exact g' k (by omega)
          · rw [hx_none c] at hk0
            exact b_X10_keep_48 (fun _ => b_X10_keep_67 ⟨_, rfl, hk0 V0 hRf.rf⟩) (fun z => absurd rfl z)
        · rw [if_neg y3] at hk hk0
          refine b_X10_keep_18 (fun c => absurd c y3) (fun _ => ?_)
          by_cases y4 : y = 4
          · rw [if_pos y4] at hk hk0
            refine b_X10_keep_23 (fun _ => ?_) (fun c => absurd y4 c)
            refine b_X10_keep_30 (fun c => absurd c y1) (fun _ => ?_)
            refine b_X10_keep_35 (fun _ => ?_) (fun c => absurd c y3)
            refine b_X10_keep_51 (fun c => absurd y4 c) (fun _ => ?_)
            refine b_X10_keep_56 B.o rfl (r_isIn (by omega) (fun j hj hzj => ?_) (fun c => ?_))
            · rw [hzj, hx_some hj (by omega)] at hk
              simp only at hk
              refine b_X10_keep_64 (fun _ => ?_) (fun z => absurd z (by decide))
              rw [hzj]
              refine b_X10_keep_69 B.o rfl v1.1 (by omega) D (hI_at rfl (by omega)) (by omega) rfl (fun _ => ?_) (fun c => absurd c y1)
              have B1 := Bf (F63 y)
              have w1 : hVc (hk_set h 63 (hc_i32 8 (upd hf D y))) _ _ _ _ _ _ := v1.s63 (hf' := upd hf D y)
              refine b_X10_keep_150 (fun _ => ?_) (fun c => absurd c y3)
              refine b_X10_keep_213 (fun c => absurd y4 c) (fun _ => ?_)
              refine b_X10_keep_218 B1.o rfl rfl w1.2.1 (by omega) D (hI_at rfl (by omega)) (by omega) rfl ?_
              have w2 := w1.s64 (sf' := upd sf D (hI (m : Nat)))
              have F2 := (F63 y).set (a := 64) (c := hc_i32 8 (upd sf D (hI (m : Nat)))) (by unfold hP68; omega)
              refine hk_upto (P := fun i => ∀ h' g, hVc h' (upd hf D y) (upd sf D (hI (m : Nat))) kf nf uf g → hRf hP68 h h' → (∀ E, E < 8 → E ≠ D → ∀ i, i < 60 → g (60 * E + i) = ef (60 * E + i)) → (∀ k, k < i → g (60 * D + k) = hL (num (j * 5 + k))) → hk_S G m_X10_keep (d + 4) 0 0 231 [some (.ref 43), some (.int (hI (D : Int))), some (.int y), some (.int (hI (j : Int))), some (.int (hI (i : Int)))] [] h' (fun o h' => ∃ x, o = .inl (some (.int x)) ∧ K x h')) m (fun i hi ih h' g W' F' U' g' => ?_) _ _ w2 F2 (fun _ _ _ _ _ => rfl) (fun k hk => by omega)
              have B' := Bf F'
              refine b_X10_keep_231 B'.o rfl (fun c => ?_) (fun c => ?_)
              · rw [hN_le (by omega) (by omega)] at c
                have ei : i = m := by omega
                subst ei
                refine b_X10_keep_270 ⟨_, rfl, hk _ (hBv_mk v2 W' (fun E hE8 hE => ⟨upd_ne hE, upd_ne hE, rfl, rfl, rfl, U' E hE8 hE⟩) ?_) F'⟩
                exact ⟨Or.inr (Or.inr (Or.inr rfl)), by rw [upd_eq, y4]; rfl, fun c => absurd (show 4 = 1 from c) (by decide), fun _ => ⟨by show i ≤ 60; omega, upd_eq, g'⟩⟩
              · rw [hN_le (by omega) (by omega)] at c
                have hb := hnum (j * 5 + i) (by omega)
                refine b_X10_keep_240 B'.o rfl rfl B'.2.1 (5 * j + i) (hI_ji (q := 5) (by omega)) (by omega) W'.2.2.2.2.2 (by omega) (60 * D + i) (hI_ji (q := 60) (by omega)) (by omega) rfl ?_
                rw [hI_1]
                refine ih (by omega) _ _ W'.s68 (F'.set (by unfold hP68; omega)) (fun E hE8 hE k hk => ?_) (fun k hk => ?_)
                · unfold vp_updL
                  rw [if_neg (by omega)]
                  exact U' E hE8 hE k hk
                · unfold vp_updL
                  by_cases e : k = i
                  · rw [if_pos (by omega), e, show 5 * j + i = j * 5 + i by omega, hL_I (by omega)]
                  · rw [if_neg (by omega)]
                    exact g' k (by omega)
            · rw [hx_none c] at hk0
              exact b_X10_keep_64 (fun z => absurd rfl z) (fun _ => b_X10_keep_67 ⟨_, rfl, hk0 V0 hRf.rf⟩)
          · rw [if_neg y4] at hk0
            exact b_X10_keep_23 (fun c => absurd c y4) (fun _ => b_X10_keep_28 ⟨_, rfl, hk0 V0 hRf.rf⟩)
  · rw [hx_none c] at hk0
    exact b_X10_keep_6 (fun _ => b_X10_keep_28 ⟨_, rfl, hk0 V0 hRf.rf⟩) (fun z => absurd rfl z)
end RV2
