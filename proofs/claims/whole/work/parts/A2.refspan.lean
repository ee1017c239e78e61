/-! The reference: span, round. -/
def hP5 (a : Nat) : Prop := a = 43 ∨ (54 ≤ a ∧ a ≤ 56)
section RM
variable {G : hk_G} {h h' : hk_H} {n m w rc th : Nat} {num : Nat → Int} {Rs : Nat → hr_R} {d : Nat}
theorem hBs.r43 (S : hBs h) (F : hRf hP43 h h') : hBs h' := S.fr fun a ha => F.2 a (by unfold hP43; unfold hPsc at ha; omega)
theorem hRf.to5 (F : hRf hP43 h h') : hRf hP5 h h' := F.mono fun _ ha => Or.inl ha
theorem hRf.m5 (F : hRf hP55 h h') : hRf hP5 h h' := F.mono fun a ha => by unfold hP55 at ha; unfold hP5; omega
theorem hq_E_ltB (B : hB h n m w rc num Rs th) {j r i : Nat} (hj : j < rc) (hr : r < hw_pow w n) (hi : i < n) : ∀ v, v < w → hq_E n m w num (Rs j) r i v < m := fun v hv => hr_end_lt B.dim.2.1.1 (B.ok hj) (B.say hj hr hi hv)
theorem r_span (B : hB h n m w rc num Rs th) (S : hBs h) {x y z u v : Int32} {K : Int32 → hk_H → Prop} (hk : ∀ h', hB h' n m w rc num Rs (hq_th (hq_span n m w rc num Rs x y z u v)) → hBs h' → hRf hP5 h h' → K (hI (hq_val (hq_span n m w rc num Rs x y z u v))) h') : hk_Ci G m_X10_span (d + 5) 0 0 [.ref 43, .int x, .int y, .int z, .int u, .int v] h K := by
  have hrc := B.rc8
  have hrow := B.rows
  obtain ⟨hn, hm, hw6, hnum⟩ := B.dim
  obtain ⟨h1, e1, B1, F1⟩ := B.t1
  have S1 := S.r43 F1
  unfold hq_span at hk
  refine ⟨Nat.le_of_ble_eq_true rfl, ?_⟩
  have bad : (∀ h', hB h' n m w rc num Rs 1 → hBs h' → hRf hP5 h h' → K 0 h') → ∀ (o1 o2 o3 o4 o5 : Option Value), hk_S G m_X10_span (d + 5) 0 0 49 [some (.ref 43), o1, o2, o3, o4, o5] [] h1 (fun o h' => ∃ x, o = .inl (some (.int x)) ∧ K x h') := fun hk o1 o2 o3 o4 o5 => b_X10_span_49 B1.o (r_rise (t := 1) B1 F1 fun h' B' F' => b_X10_span_54 ⟨_, rfl, hk h' B' (S.r43 F') F'.to5⟩)
  refine b_X10_span_0 B.o (by omega) e1 B1.o (r_isRow B1 (fun j r hj hr hxj hyr => ?_) (fun c => ?_) (fun j hj hxj c => ?_))
  · rw [hxj, hyr, hx_some hj (by omega), hx_some hr (by omega)] at hk
    refine b_X10_span_11 (fun q => absurd q (by decide)) (fun _ => ?_)
    refine b_X10_span_14 B1.o rfl (r_isIn (by omega) (fun i hi hzi => ?_) (fun c => b_X10_span_22 (fun _ => ?_) (fun q => absurd rfl q)))
    · rw [hzi, hx_some hi (by omega)] at hk
      refine b_X10_span_22 (fun q => absurd q (by decide)) (fun _ => ?_)
      refine b_X10_span_25 B1.o rfl (r_isIn (by omega) (fun e he hue => ?_) (fun c => b_X10_span_34 (fun _ => ?_) (fun q => absurd rfl q)))
      · rw [hue, hx_some he (by omega)] at hk
        refine b_X10_span_34 (fun q => absurd q (by decide)) (fun _ => ?_)
        refine b_X10_span_37 B1.o rfl (r_isIn (by omega) (fun f hf hvf => ?_) (fun c => b_X10_span_46 (fun q => absurd rfl q) (fun _ => ?_)))
        · rw [hvf, hx_some hf (by omega)] at hk
          simp only at hk
          refine b_X10_span_46 (fun _ => ?_) (fun q => absurd q (by decide))
          rw [hxj, hyr, hzi]
          refine b_X10_span_55 B1.o (r_measure B1 S1 hj hr hi fun h2 B2 S2 F2 M2 => ?_)
          obtain ⟨cf, lf, m1, m2, m3, m4⟩ := M2
          have F3 : hRf hP5 h h2 := F1.to5.tr F2.m5
          have late : (∀ h', hB h' n m w rc num Rs 2 → hBs h' → hRf hP5 h h' → K 0 h') → ∀ (o1 o2 o3 o4 o5 : Option Value), hk_S G m_X10_span (d + 5) 0 0 82 [some (.ref 43), o1, o2, o3, o4, o5] [] h2 (fun o h' => ∃ x, o = .inl (some (.int x)) ∧ K x h') := fun hk o1 o2 o3 o4 o5 => b_X10_span_82 B2.o (r_rise (t := 2) B2 hRf.rf fun h' B' F' => b_X10_span_87 ⟨_, rfl, hk h' B' (S2.r43 F') (F3.tr F'.to5)⟩)
          refine b_X10_span_62 B2.o rfl m1 e (by rw [hue]; exact hI_at rfl (by omega)) (by omega) (fun q => ?_) (fun q => ?_)
          · rw [m3 e he, hb_0] at q
            rw [if_neg (fun z => by rw [q] at z; cases z.1)] at hk
            exact late hk _ _ _ _ _
          · rw [m3 e he, hb_0] at q
            rw [Bool.not_eq_false] at q
            refine b_X10_span_72 B2.o rfl m1 f (by rw [hvf]; exact hI_at rfl (by omega)) (by omega) (fun q2 => ?_) (fun q2 => ?_)
            · rw [m3 f hf, hb_0] at q2
              rw [Bool.not_eq_false] at q2
              rw [if_pos ⟨q, q2⟩] at hk
              rw [hue, hvf]
              refine b_X10_span_88 B2.o rfl m2 (5 * e + f) (hI_ji (q := 5) (by omega)) (by omega) ⟨_, rfl, ?_⟩
              rw [m4 e f he hf q, show hy_L num (hq_E n m w num (Rs j) r i) w e f = hy_len num (hq_E n m w num (Rs j) r i) w e f by unfold hy_L hy_Lk; rw [if_pos q]]
              exact hk h2 B2 S2 F3
            · rw [m3 f hf, hb_0] at q2
              rw [if_neg (fun z => by rw [q2] at z; cases z.2)] at hk
              exact late hk _ _ _ _ _
        · rw [hx_none c] at hk
          exact bad hk _ _ _ _ _
      · rw [hx_none c] at hk
        exact bad hk _ _ _ _ _
    · rw [hx_none c] at hk
      exact bad hk _ _ _ _ _
  · rw [hx_none c] at hk
    exact b_X10_span_11 (fun _ => bad hk _ _ _ _ _) (fun q => absurd rfl q)
  · rw [hxj, hx_some hj (by omega), hx_none c] at hk
    exact b_X10_span_11 (fun _ => bad hk _ _ _ _ _) (fun q => absurd rfl q)
theorem r_round (B : hB h n m w rc num Rs th) (S : hBs h) {x y : Int32} {K : Int32 → hk_H → Prop} (hk : ∀ h', hB h' n m w rc num Rs th → hBs h' → hRf hP55 h h' → K (hI (hq_round n m w rc num Rs x y)) h') : hk_Ci G m_X10_round (d + 7) 0 0 [.ref 43, .int x, .int y] h K := by
  have hrc := B.rc8
  have hrow := B.rows
  obtain ⟨hn, hm, hw6, hnum⟩ := B.dim
  unfold hq_round at hk
  refine ⟨Nat.le_of_ble_eq_true rfl, ?_⟩
  refine b_X10_round_0 B.o rfl (r_isIn (by omega) (fun j hj hxj => ?_) (fun c => b_X10_round_8 (fun _ => b_X10_round_19 ⟨_, rfl, ?_⟩) (fun z => absurd rfl z)))
  · rw [hxj, hx_some hj (by omega)] at hk
    refine b_X10_round_8 (fun z => absurd z (by decide)) (fun _ => ?_)
    refine b_X10_round_11 (r_isIn (k := 3) (by omega) (fun q hq hyq => ?_) (fun c => b_X10_round_16 (fun z => absurd rfl z) (fun _ => b_X10_round_19 ⟨_, rfl, ?_⟩)))
    · rw [hyq, hx_some hq (by omega)] at hk
      simp only at hk
      unfold hp_round at hk
      have hw := B.w0 hj
      refine b_X10_round_16 (fun _ => ?_) (fun z => absurd z (by decide))
      rw [hxj, hyq]
      refine b_X10_round_21 ?_
      refine hk_upto (P := fun i => ∀ h' (o4 o5 : Option Value), hk_c1 o4 → hB h' n m w rc num Rs th → hBs h' → hRf hP55 h h' → hf_from (fun i => hp_roundP n m w num (Rs j) q i) (n - i) i = hf (fun i => hp_roundP n m w num (Rs j) q i) n → hk_S G m_X10_round (d + 7) 0 0 23 [some (.ref 43), some (.int (hI j)), some (.int (hI q)), some (.int (hI (i : Int))), o4, o5] [] h' (fun o h' => ∃ x, o = .inl (some (.int x)) ∧ K x h')) n (fun i hi ih h' o4 o5 q4 B' S' F' E1 => ?_) h none none hk_c10 B S hRf.rf rfl
      refine b_X10_round_23 B'.o rfl (fun cc => ?_) (fun cc => ?_)
      · rw [hN_le (by omega) (by omega)] at cc
        rw [hf_end (by omega)] at E1
        rw [← E1] at hk
        exact b_X10_round_109 ⟨_, rfl, hk h' B' S' F'⟩
      · rw [hN_le (by omega) (by omega)] at cc
        have hin : i < n := by omega
        refine b_X10_round_31 ?_
        refine hk_upto (P := fun r => ∀ h' (o5 : Option Value), hB h' n m w rc num Rs th → hBs h' → hRf hP55 h h' → hf_from (fun r => hp_roundR n m w num (Rs j) q i r) (hw_pow w n - r) r = hp_roundP n m w num (Rs j) q i → hk_S G m_X10_round (d + 7) 0 0 34 [some (.ref 43), some (.int (hI j)), some (.int (hI q)), some (.int (hI (i : Int))), some (.int (hI (r : Int))), o5] [] h' (fun o h' => ∃ x, o = .inl (some (.int x)) ∧ K x h')) (hw_pow w n) (fun r hr ih2 h' o5 B' S' F' E2 => ?_) h' o5 B' S' F' rfl
        refine b_X10_round_34 B'.o rfl (fun c2 => ?_) (fun c2 => ?_)
        · rw [hN_le (by omega) (by omega)] at c2
          rw [hf_end (by omega)] at E2
          rw [hf_none hin E2.symm] at E1
          refine b_X10_round_103 ?_
          rw [hI_1]
          exact ih hin h' _ _ hk_c1i B' S' F' E1
        · rw [hN_le (by omega) (by omega)] at c2
          have hrl : r < hw_pow w n := by omega
          have hwi := hw_in_lt hw r i
          refine b_X10_round_43 B'.o (r_wishOf B' hw (by omega) hin ?_)
          refine b_X10_round_50 (fun c3 => ?_) (fun c3 => ?_)
          · rw [show (0 : Int32) = hI ((0 : Nat) : Int) from rfl, hN_eq (by omega) (by omega)] at c3
            have hE := hq_E_ltB B hj hrl hin
            have hEl : hp_lst n m w num (Rs j) r i = hy_least m (hy_cm (hq_E n m w num (Rs j) r i) w) (hy_L num (hq_E n m w num (Rs j) r i) w) := rfl
            refine b_X10_round_56 B'.o (r_measure B' S' hj hrl hin fun h2 B2 S2 F2 M2 => ?_)
            refine b_X10_round_64 B2.o (r_least B2 M2 (hy_L_bd hnum hE hm.2 hw6) fun lb ub => ?_)
            rw [← hEl] at lb ub ⊢
            refine b_X10_round_68 (fun c4 => ?_) (fun c4 => ?_)
            · rw [show (0 : Int32) = hI 0 from rfl, hI_le (by omega) (by omega)] at c4
              rw [hf_none hrl (by unfold hp_roundR; rw [if_neg (fun z => by omega)])] at E2
              refine b_X10_round_97 ?_
              rw [hI_1]
              exact ih2 hrl h2 _ B2 S2 (F'.tr F2) E2
            · rw [show (0 : Int32) = hI 0 from rfl, hI_le (by omega) (by omega)] at c4
              rw [hf_some hrl (show hp_roundR n m w num (Rs j) q i r = some (if q = 0 then (i : Int) else if q = 1 then (r : Int) else -hp_lst n m w num (Rs j) r i) by unfold hp_roundR; rw [if_pos ⟨c3, by omega⟩])] at E2
              rw [hf_some hin E2.symm] at E1
              rw [← E1] at hk
              have hk := hk h2 B2 S2 (F'.tr F2)
              refine b_X10_round_75 (fun k0 => ?_) (fun k0 => ?_)
              · rw [show (0 : Int32) = hI ((0 : Nat) : Int) from rfl, hN_eq (by omega) (by omega)] at k0
                rw [if_neg k0] at hk
                refine b_X10_round_83 (fun k1 => ?_) (fun k1 => ?_)
                · rw [show (1 : Int32) = hI ((1 : Nat) : Int) from rfl, hN_eq (by omega) (by omega)] at k1
                  rw [if_neg k1] at hk
                  refine b_X10_round_93 ⟨_, rfl, ?_⟩
                  rw [hI_neg]
                  exact hk
                · rw [show (1 : Int32) = hI ((1 : Nat) : Int) from rfl, hN_eq (by omega) (by omega)] at k1
                  rw [if_pos k1] at hk
                  exact b_X10_round_88 ⟨_, rfl, hk⟩
              · rw [show (0 : Int32) = hI ((0 : Nat) : Int) from rfl, hN_eq (by omega) (by omega)] at k0
                rw [if_pos k0] at hk
                exact b_X10_round_79 ⟨_, rfl, hk⟩
          · rw [show (0 : Int32) = hI ((0 : Nat) : Int) from rfl, hN_eq (by omega) (by omega)] at c3
            rw [hf_none hrl (by unfold hp_roundR; rw [if_neg (fun z => c3 z.1)])] at E2
            refine b_X10_round_53 ?_
            rw [hI_1]
            exact ih2 hrl h' _ B' S' F' E2
    · rw [hx_none c] at hk
      exact hk h B S hRf.rf
  · rw [hx_none c] at hk
    exact hk h B S hRf.rf
end RM
