/-! The reference's shelves: make, copy. -/
section RV3
variable {G : hk_G} {h h' : hk_H} {n m w rc th : Nat} {num : Nat → Int} {Rs : Nat → hr_R} {P : Nat → Nat → Nat} {Ss : Nat → hv_S} {S : hv_S} {hf sf kf nf uf hf' sf' kf' nf' uf' : Nat → Int32} {ef ef' : Nat → Int64} {D d : Nat}
theorem hI_le' (x : Int32) (k : Nat) (hk : k < 2147483648) : x ≤ hI (k : Int) ↔ x.toInt ≤ k := by
  rw [Int32.le_iff_toInt_le, hI_toInt (hI_rN hk)]
theorem r_make (A : hBA h n m w rc num Rs th P) (V : hBv h rc Rs Ss) {x y z : Int32} {K : Int32 → hk_H → Prop} (hk : ∀ h', hBA h' n m w rc num Rs th P → hBv h' rc Rs (hq_make Ss x y z).2 → hRf hP63 h h' → K (hI (hq_make Ss x y z).1) h') : hk_Ci G m_X10_make (d + 1) 0 0 [.ref 43, .int x, .int y, .int z] h K := by
  have B := A.1
  have hk : ∀ h', hBv h' rc Rs (hq_make Ss x y z).2 → hRf hP68 h h' → K (hI (hq_make Ss x y z).1) h' := fun h' V' F' => hk h' (A.p68 F') V' (F'.mono fun a => hP68_63)
  have hk0 := hk h
  have V0 := V
  obtain ⟨hf, sf, kf, nf, uf, ef, v1, v2⟩ := V
  have Bf : ∀ {h1 : hk_H}, hRf hP68 h h1 → hB h1 n m w rc num Rs th := fun F => B.fr fun a h1 h2 => F.2 a (by unfold hP68; omega)
  unfold hq_make at hk hk0
  refine ⟨Nat.le_of_ble_eq_true rfl, ?_⟩
  refine b_X10_make_0 (r_isIn8 (fun D hD hxD => ?_) (fun c => ?_))
  · rw [hxD, hx_some hD (by omega)] at hk hk0
    simp only at hk hk0
    refine b_X10_make_6 (fun z => absurd z (by decide)) (fun _ => ?_)
    rw [hxD]
    have rest : (3 ≤ y.toInt ∧ y.toInt ≤ 4) → hk_S G m_X10_make (d + 1) 0 0 19 [some (.ref 43), some (.int (hI (D : Int))), some (.int y), some (.int z), none] [] h (fun o h' => ∃ x, o = .inl (some (.int x)) ∧ K x h') := by
      intro hy
      refine b_X10_make_19 (fun c => ?_) (fun c => ?_)
      · have c := (hI_le' z 60 (by omega)).mp c
        rw [if_pos ⟨hy, c⟩] at hk hk0
        refine b_X10_make_27 (fun c2 => ?_) (fun c2 => ?_)
        · rw [Int32.le_iff_toInt_le, Int32.toInt_zero] at c2
          rw [if_pos c2] at hk
          obtain ⟨s, hs, ez⟩ : ∃ s : Nat, s ≤ 60 ∧ z = hI (s : Int) := ⟨z.toInt.toNat, by omega, by rw [show ((z.toInt.toNat : Nat) : Int) = z.toInt by omega]; exact hI_of z⟩
          have es : z.toInt.toNat = s := by rw [ez, hI_toInt (hI_rN (by omega))]; omega
          rw [es] at hk
          have ey : y = hI ((y.toInt.toNat : Nat) : Int) := by rw [show ((y.toInt.toNat : Nat) : Int) = y.toInt by omega]; exact hI_of y
          have w1 : hVc (hk_set h 63 (hc_i32 8 (upd hf D y))) _ _ _ _ _ _ := v1.s63 (hf' := upd hf D y)
          have F1 : hRf hP68 h (hk_set h 63 (hc_i32 8 (upd hf D y))) := hRf.rf.set (by unfold hP68; omega)
          have w2 := w1.s64 (sf' := upd sf D z)
          have F2 := F1.set (a := 64) (c := hc_i32 8 (upd sf D z)) (by unfold hP68; omega)
          refine b_X10_make_34 B.o rfl v1.1 (by omega) D (hI_at rfl (by omega)) (by omega) rfl (Bf F1).o rfl w1.2.1 (by omega) (by omega) rfl ?_
          refine hk_upto (P := fun i => ∀ h' g, hVc h' (upd hf D y) (upd sf D z) kf nf uf g → hRf hP68 h h' → (∀ E, E < 8 → E ≠ D → ∀ i, i < 60 → g (60 * E + i) = ef (60 * E + i)) → (∀ k, k < i → g (60 * D + k) = hL 0) → hk_S G m_X10_make (d + 1) 0 0 51 [some (.ref 43), some (.int (hI (D : Int))), some (.int y), some (.int z), some (.int (hI (i : Int)))] [] h' (fun o h' => ∃ x, o = .inl (some (.int x)) ∧ K x h')) s (fun i hi ih h' g W' F' U' g' => ?_) _ _ w2 F2 (fun _ _ _ _ _ => rfl) (fun k hk => by omega)
          have B' := Bf F'
          refine b_X10_make_51 (fun c => ?_) (fun c => ?_)
          · rw [ez, hN_le (by omega) (by omega)] at c
            have ei : i = s := by omega
            subst ei
            refine b_X10_make_76 ⟨_, rfl, hk _ (hBv_mk v2 W' (fun E hE8 hE => ⟨upd_ne hE, upd_ne hE, rfl, rfl, rfl, U' E hE8 hE⟩) ?_) F'⟩
            refine ⟨?_, by rw [upd_eq]; exact ey, fun c => ?_, fun _ => ⟨hs, by rw [upd_eq]; exact ez, g'⟩⟩
            · show y.toInt.toNat = 0 ∨ y.toInt.toNat = 1 ∨ y.toInt.toNat = 3 ∨ y.toInt.toNat = 4
              omega
            · have c : y.toInt.toNat = 1 := c
              omega
          · rw [ez, hN_le (by omega) (by omega)] at c
            refine b_X10_make_57 B'.o rfl W'.2.2.2.2.2 (by omega) (60 * D + i) (hI_ji (q := 60) (by omega)) (by omega) rfl ?_
            rw [hI_1]
            refine ih (by omega) _ _ W'.s68 (F'.set (by unfold hP68; omega)) (fun E hE8 hE k hk => ?_) (fun k hk => ?_)
            · unfold vp_updL
              rw [if_neg (by omega)]
              exact U' E hE8 hE k hk
            · unfold vp_updL
              by_cases e : k = i
              · rw [if_pos (by omega)]; rfl
              · rw [if_neg (by omega)]
                exact g' k (by omega)
        · rw [Int32.le_iff_toInt_le, Int32.toInt_zero] at c2
          rw [if_neg c2] at hk0
          exact b_X10_make_31 ⟨_, rfl, hk0 V0 hRf.rf⟩
      · have c := mt (hI_le' z 60 (by omega)).mpr c
        rw [if_neg (fun q => c q.2)] at hk0
        exact b_X10_make_25 ⟨_, rfl, hk0 V0 hRf.rf⟩
    have e3 : (3 : Int32).toInt = 3 := rfl
    have e4 : (4 : Int32).toInt = 4 := rfl
    refine b_X10_make_9 (fun c => rest (by rw [c, e3]; omega)) (fun c => ?_)
    refine b_X10_make_14 (fun c2 => ?_) (fun c2 => rest (by rw [c2, e4]; omega))
    rw [if_neg (fun q => ?_)] at hk0
    · exact b_X10_make_25 ⟨_, rfl, hk0 V0 hRf.rf⟩
    · have q1 : y.toInt ≠ 3 := fun z => c (Int32.toInt_inj.mp (by rw [z, e3]))
      have q2 : y.toInt ≠ 4 := fun z => c2 (Int32.toInt_inj.mp (by rw [z, e4]))
      omega
  · rw [hx_none c] at hk0
    exact b_X10_make_6 (fun _ => b_X10_make_25 ⟨_, rfl, hk0 V0 hRf.rf⟩) (fun z => absurd rfl z)
theorem lg_gt {a b : Int} (ha : -9000000000 ≤ a ∧ a ≤ 9000000000) (hb : -9000000000 ≤ b ∧ b ≤ 9000000000) : (lg_cmp (hL a) (hL b) ≤ 0 ↔ a ≤ b) ∧ (0 < lg_cmp (hL a) (hL b) ↔ b < a) := by
  have e1 : hL a > hL b ↔ b < a := by
    show hL b < hL a ↔ _
    rw [Int64.lt_iff_toInt_lt, hL_toInt (by omega), hL_toInt (by omega)]
  have e2 : hL a = hL b ↔ a = b := hL_inj (by omega) (by omega)
  unfold lg_cmp
  by_cases c : b < a
  · rw [if_pos (e1.mpr c)]
    exact ⟨⟨fun z => absurd z (by decide), fun z => by omega⟩, ⟨fun _ => by omega, fun _ => by decide⟩⟩
  · rw [if_neg (mt e1.mp c)]
    by_cases q : a = b
    · rw [if_pos (e2.mpr q)]
      exact ⟨⟨fun _ => by omega, fun _ => by decide⟩, ⟨fun z => absurd z (by decide), fun z => by omega⟩⟩
    · rw [if_neg (mt e2.mp q)]
      exact ⟨⟨fun _ => by omega, fun _ => by decide⟩, ⟨fun z => absurd z (by decide), fun z => by omega⟩⟩
theorem hI_abk {a b c : Nat} (h : 60 * a + b + c < 2147483648) : (60 * hI (a : Int) + hI (b : Int) + hI (c : Int)).toInt = ((60 * a + b + c : Nat) : Int) := by
  rw [show (60 : Int32) = hI ((60 : Nat) : Int) from rfl, hI_mul, hI_add, hI_add]
  exact hI_at (by push_cast; rfl) h
theorem r_copy (A : hBA h n m w rc num Rs th P) (V : hBv h rc Rs Ss) {x y z u v : Int32} {K : Int32 → hk_H → Prop} (hk : ∀ h', hBA h' n m w rc num Rs th P → hBv h' rc Rs (hq_copy Ss x y z u v).2 → hRf hP63 h h' → K (hI (hq_copy Ss x y z u v).1) h') : hk_Ci G m_X10_copy (d + 1) 0 0 [.ref 43, .int x, .int y, .int z, .int u, .int v] h K := by
  have B := A.1
  obtain ⟨mf0, m0⟩ := A.2.1.2.2.2.2.2.2
  have hk0 := fun V => hk h A V hRf.rf
  have V0 := V
  obtain ⟨hf, sf, kf, nf, uf, ef, v1, v2⟩ := V
  have Bf : ∀ {h1 : hk_H}, hRf hP63 h h1 → hB h1 n m w rc num Rs th := fun F => B.fr fun a h1 h2 => F.2 a (by unfold hP63; omega)
  unfold hq_copy at hk hk0
  refine ⟨Nat.le_of_ble_eq_true rfl, ?_⟩
  refine b_X10_copy_0 (r_isIn8 (fun D hD hxD => ?_) (fun c => ?_))
  · rw [hxD, hx_some hD (by omega)] at hk hk0
    refine b_X10_copy_6 (fun z => absurd z (by decide)) (fun _ => ?_)
    refine b_X10_copy_9 (r_isIn8 (fun E hE hzE => ?_) (fun c => ?_))
    · rw [hzE, hx_some hE (by omega)] at hk hk0
      simp only at hk hk0
      refine b_X10_copy_15 (fun _ => ?_) (fun z => absurd z (by decide))
      rw [hxD, hzE]
      obtain ⟨g1, g2, -, g4⟩ := v2 D hD
      obtain ⟨i1, i2, -, i4⟩ := v2 E hE
      have aD : (hI (D : Int)).toInt = (D : Int) := hI_at rfl (by omega)
      have aE : (hI (E : Int)).toInt = (E : Int) := hI_at rfl (by omega)
      refine b_X10_copy_20 B.o rfl v1.1 D aD (by omega) (fun c => ?_) (fun c => ?_)
      · rw [g2, show (0 : Int32) = hI ((0 : Nat) : Int) from rfl, hN_eq (by omega) (by omega)] at c
        rw [if_pos (Or.inl c)] at hk0
        exact b_X10_copy_38 ⟨_, rfl, hk0 V0⟩
      · rw [g2, show (0 : Int32) = hI ((0 : Nat) : Int) from rfl, hN_eq (by omega) (by omega)] at c
        refine b_X10_copy_29 B.o rfl v1.1 E aE (by omega) (fun c2 => ?_) (fun c2 => ?_)
        · rw [i2, show (0 : Int32) = hI ((0 : Nat) : Int) from rfl, hN_eq (by omega) (by omega)] at c2
          rw [if_neg (by omega)] at hk hk0
          refine b_X10_copy_41 B.o rfl v1.1 D aD (by omega) (fun c3 => ?_) (fun c3 => ?_)
          · rw [g2, show (3 : Int32) = hI ((3 : Nat) : Int) from rfl, hN_lt (by omega) (by omega)] at c3
            rw [if_neg (by omega)] at hk0
            exact b_X10_copy_66 ⟨_, rfl, hk0 V0⟩
          · rw [g2, show (3 : Int32) = hI ((3 : Nat) : Int) from rfl, hN_lt (by omega) (by omega)] at c3
            refine b_X10_copy_51 B.o rfl v1.1 D aD (by omega) E aE (by omega) (fun c4 => ?_) (fun c4 => ?_)
            · rw [g2, i2, hN_eq (by omega) (by omega)] at c4
              rw [if_pos ⟨by omega, c4⟩] at hk hk0
              obtain ⟨p1, p2, p3⟩ := g4 (by omega)
              obtain ⟨q1, q2, q3⟩ := i4 (by omega)
              have ry := hI_range y
              have ru := hI_range u
              have rv := hI_range v
              have bad : ¬ (hv_pl (Ss D).2.2.2.1 y v = true ∧ hv_pl (Ss E).2.2.2.1 u v = true) → ∀ (o0 o1 o2 o3 o4 o5 o6 : Option Value), hk_S G m_X10_copy (d + 1) 0 0 118 [o0, o1, o2, o3, o4, o5, o6] [] h (fun o h' => ∃ x, o = .inl (some (.int x)) ∧ K x h') := fun no o0 o1 o2 o3 o4 o5 o6 => by
                rw [if_neg no] at hk0
                exact b_X10_copy_118 ⟨_, rfl, hk0 V0⟩
              have lt0 : ∀ a : Int32, a < 0 ↔ a.toInt < 0 := fun a => by rw [Int32.lt_iff_toInt_lt, Int32.toInt_zero]
              unfold hv_pl at bad hk
              simp only [decide_eq_true_eq] at bad hk
              refine b_X10_copy_69 (fun c5 => ?_) (fun c5 => ?_)
              · rw [lt0] at c5
                exact bad (by omega) _ _ _ _ _ _ _
              · rw [lt0] at c5
                refine b_X10_copy_74 (fun c6 => ?_) (fun c6 => ?_)
                · rw [lt0] at c6
                  exact bad (by omega) _ _ _ _ _ _ _
                · rw [lt0] at c6
                  refine b_X10_copy_78 (fun c7 => ?_) (fun c7 => ?_)
                  · rw [lt0] at c7
                    exact bad (by omega) _ _ _ _ _ _ _
                  · rw [lt0] at c7
                    have ly : y.toInt64 = hL y.toInt := by have := hL_I ry; rwa [← hI_of y] at this
                    have lu : u.toInt64 = hL u.toInt := by have := hL_I ru; rwa [← hI_of u] at this
                    have lv : v.toInt64 = hL v.toInt := by have := hL_I rv; rwa [← hI_of v] at this
                    refine b_X10_copy_83 B.o rfl v1.2.1 D aD (by omega) (fun c8 => ?_) (fun c8 => ?_)
                    · rw [ly, lv, p2, hL_add, hL_I (by omega), (lg_gt (by omega) (by omega)).2] at c8
                      exact bad (by omega) _ _ _ _ _ _ _
                    · rw [ly, lv, p2, hL_add, hL_I (by omega), (lg_gt (by omega) (by omega)).2] at c8
                      refine b_X10_copy_100 B.o rfl v1.2.1 E aE (by omega) (fun c9 => ?_) (fun c9 => ?_)
                      · rw [lu, lv, q2, hL_add, hL_I (by omega), (lg_gt (by omega) (by omega)).1] at c9
                        rw [if_pos (by omega)] at hk
                        clear bad hk0
                        obtain ⟨Y, hY, eY⟩ : ∃ s : Nat, s ≤ 60 ∧ y = hI (s : Int) := ⟨y.toInt.toNat, by omega, by rw [show ((y.toInt.toNat : Nat) : Int) = y.toInt by omega]; exact hI_of y⟩
                        obtain ⟨U, hU, eU⟩ : ∃ s : Nat, s ≤ 60 ∧ u = hI (s : Int) := ⟨u.toInt.toNat, by omega, by rw [show ((u.toInt.toNat : Nat) : Int) = u.toInt by omega]; exact hI_of u⟩
                        obtain ⟨T, hT, eT⟩ : ∃ s : Nat, s ≤ 60 ∧ v = hI (s : Int) := ⟨v.toInt.toNat, by omega, by rw [show ((v.toInt.toNat : Nat) : Int) = v.toInt by omega]; exact hI_of v⟩
                        have tY : y.toInt = (Y : Int) := by rw [eY, hI_toInt (hI_rN (by omega))]
                        have tU : u.toInt = (U : Int) := by rw [eU, hI_toInt (hI_rN (by omega))]
                        have tT : v.toInt = (T : Int) := by rw [eT, hI_toInt (hI_rN (by omega))]
                        rw [tY, tU, tT] at hk
                        rw [tY, tT] at c8
                        rw [tU, tT] at c9
                        simp only [Int.toNat_natCast] at hk
                        rw [eY, eU, eT]
                        refine b_X10_copy_121 ?_
                        refine hk_upto (P := fun i => ∀ h' g, hVc h' hf sf kf nf uf ef → h'.2 69 = some (hc_i64 60 g) → hRf hP63 h h' → (∀ k, k < i → g k = ef (60 * D + Y + k)) → hk_S G m_X10_copy (d + 1) 0 0 124 [some (.ref 43), some (.int (hI (D : Int))), some (.int (hI (Y : Int))), some (.int (hI (E : Int))), some (.int (hI (U : Int))), some (.int (hI (T : Int))), some (.int (hI (i : Int)))] [] h' (fun o h' => ∃ x, o = .inl (some (.int x)) ∧ K x h')) T (fun i hi ih h' g W' m' F' g' => ?_) h mf0 v1 m0 hRf.rf (fun k hk => by omega)
                        refine b_X10_copy_124 (fun r1 => ?_) (fun r1 => ?_)
                        · rw [hN_le (by omega) (by omega)] at r1
                          have ei : i = T := by omega
                          subst ei
                          refine b_X10_copy_158 ?_
                          clear ih
                          refine hk_upto (P := fun l => ∀ h2 e2, hVc h2 hf sf kf nf uf e2 → h2.2 69 = some (hc_i64 60 g) → hRf hP63 h h2 → (∀ k, e2 k = if 60 * E + U ≤ k ∧ k < 60 * E + U + l then g (k - (60 * E + U)) else ef k) → hk_S G m_X10_copy (d + 1) 0 0 161 [some (.ref 43), some (.int (hI (D : Int))), some (.int (hI (Y : Int))), some (.int (hI (E : Int))), some (.int (hI (U : Int))), some (.int (hI (i : Int))), some (.int (hI (l : Int)))] [] h2 (fun o h' => ∃ x, o = .inl (some (.int x)) ∧ K x h')) i (fun l hl ih2 h2 e2 W2 m2 F2 R2 => ?_) h' ef W' m' F' (fun k => by rw [if_neg (by omega)])
                          refine b_X10_copy_161 (fun r2 => ?_) (fun r2 => ?_)
                          · rw [hN_le (by omega) (by omega)] at r2
                            have el : l = i := by omega
                            subst el
                            refine b_X10_copy_196 ⟨_, rfl, hk h2 (A.p63 F2 ⟨_, m2⟩) (hBv_mk v2 W2 (fun E' hE8 hE' => ⟨rfl, rfl, rfl, rfl, rfl, fun k hk => ?_⟩) ?_) F2⟩
                            · rw [R2, if_neg (by omega)]
                            · refine ⟨i1, i2, (v2 E hE).2.2.1, fun _ => ⟨q1, q2, fun k hk => ?_⟩⟩
                              have hk : k < (Ss E).2.2.2.1 := hk
                              rw [R2]
                              by_cases r3 : U ≤ k ∧ k < U + l
                              · rw [if_pos (by omega)]
                                simp only [if_pos r3]
                                rw [g' _ (by omega), ← p3 _ (by omega)]
                                congr 1
                                omega
                              · rw [if_neg (by omega)]
                                simp only [if_neg r3]
                                exact q3 k hk
                          · rw [hN_le (by omega) (by omega)] at r2
                            refine b_X10_copy_168 (Bf F2).o rfl rfl m2 l (hI_at rfl (by omega)) (by omega) W2.2.2.2.2.2 (by omega) (60 * E + U + l) (hI_abk (by omega)) (by omega) rfl ?_
                            rw [hI_1]
                            refine ih2 (by omega) _ _ W2.s68 ((hk_set_ne (by decide)).trans m2) (F2.set (by unfold hP63; omega)) fun k => ?_
                            unfold vp_updL
                            by_cases r3 : k = 60 * E + U + l
                            · rw [if_pos r3, if_pos (by omega)]
                              congr 1
                              omega
                            · rw [if_neg r3, R2]
                              by_cases r4 : 60 * E + U ≤ k ∧ k < 60 * E + U + l
                              · rw [if_pos r4, if_pos (by omega)]
                              · rw [if_neg r4, if_neg (by omega)]
                        · rw [hN_le (by omega) (by omega)] at r1
                          refine b_X10_copy_131 (Bf F').o rfl rfl W'.2.2.2.2.2 (60 * D + Y + i) (hI_abk (by omega)) (by omega) m' (by omega) i (hI_at rfl (by omega)) (by omega) rfl ?_
                          rw [hI_1]
                          refine ih (by omega) _ _ (W'.fr fun a _ ha => hk_set_ne (by omega)) hk_set_eq (F'.set (by unfold hP63; omega)) fun k hk => ?_
                          unfold vp_updL
                          by_cases r3 : k = i
                          · rw [if_pos r3, r3]
                          · rw [if_neg r3]
                            exact g' k (by omega)
                      · rw [lu, lv, q2, hL_add, hL_I (by omega), (lg_gt (by omega) (by omega)).1] at c9
                        exact bad (by omega) _ _ _ _ _ _ _
            · rw [g2, i2, hN_eq (by omega) (by omega)] at c4
              rw [if_neg (fun q => c4 q.2)] at hk0
              exact b_X10_copy_66 ⟨_, rfl, hk0 V0⟩
        · rw [i2, show (0 : Int32) = hI ((0 : Nat) : Int) from rfl, hN_eq (by omega) (by omega)] at c2
          rw [if_pos (Or.inr c2)] at hk0
          exact b_X10_copy_38 ⟨_, rfl, hk0 V0⟩
    · rw [hx_none c] at hk0
      exact b_X10_copy_15 (fun z => absurd rfl z) (fun _ => b_X10_copy_18 ⟨_, rfl, hk0 V0⟩)
  · rw [hx_none c] at hk0
    exact b_X10_copy_6 (fun _ => b_X10_copy_18 ⟨_, rfl, hk0 V0⟩) (fun z => absurd rfl z)
end RV3
