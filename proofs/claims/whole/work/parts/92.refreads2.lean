/-! The reference: end, pays, said, gain, lie, lies. -/
def hq_th (a : Nat ⊕ Int) : Nat := match a with
  | .inl t => t
  | .inr _ => 0
def hq_val (a : Nat ⊕ Int) : Int := match a with
  | .inl _ => 0
  | .inr v => v
/-- only cells of P differ -/
def hRf (P : Nat → Prop) (h h' : hk_H) : Prop := h'.1 = h.1 ∧ ∀ a, ¬ P a → h'.2 a = h.2 a
def hP43 (a : Nat) : Prop := a = 43
section RD
variable {G : hk_G} {h h' : hk_H} {n m w rc th : Nat} {num : Nat → Int} {Rs : Nat → hr_R} {d : Nat} {P P' : Nat → Prop}
theorem hRf.rf : hRf P h h := ⟨rfl, fun _ _ => rfl⟩
theorem hRf.tr {h'' : hk_H} (H : hRf P h h') (H' : hRf P h' h'') : hRf P h h'' := ⟨H'.1.trans H.1, fun a ha => (H'.2 a ha).trans (H.2 a ha)⟩
theorem hRf.set (H : hRf P h h') {a : Nat} {c : hk_AC} (ha : P a) : hRf P h (hk_set h' a c) := ⟨H.1, fun b hb => (hk_set_ne (fun e => hb (by rw [e]; exact ha))).trans (H.2 b hb)⟩
theorem hRf.mono (H : hRf P h h') (hp : ∀ a, P a → P' a) : hRf P' h h' := ⟨H.1, fun a ha => H.2 a fun c => ha (hp a c)⟩
theorem r_end (B : hB h n m w rc num Rs th) {x y : Int32} {K : Int32 → hk_H → Prop} (hk : K (hI (hq_end n m w rc num Rs x y)) h) : hk_Ci G m_X10_end (d + 4) 0 0 [.ref 43, .int x, .int y] h K := by
  have hrc := B.rc8
  have hrow := B.rows
  unfold hq_end at hk
  refine ⟨Nat.le_of_ble_eq_true rfl, ?_⟩
  refine b_X10_end_0 B.o (r_isRow B (fun j r hj hr hxj hyr => ?_) (fun c => ?_) (fun j hj hxj c => ?_))
  · rw [hxj, hyr, hx_some hj (by omega), hx_some hr (by omega)] at hk
    rw [hxj, hyr]
    exact b_X10_end_6 (fun z => absurd z (by decide)) (fun _ => b_X10_end_9 B.o (r_ends B hj hr (b_X10_end_15 ⟨_, rfl, hk⟩)))
  · rw [hx_none c] at hk
    exact b_X10_end_6 (fun _ => b_X10_end_18 ⟨_, rfl, hk⟩) (fun z => absurd rfl z)
  · rw [hxj, hx_some hj (by omega), hx_none c] at hk
    exact b_X10_end_6 (fun _ => b_X10_end_18 ⟨_, rfl, hk⟩) (fun z => absurd rfl z)
/-- the start of a call that may throw: nothing thrown -/
theorem hB.t0 (B : hB h n m w rc num Rs th) : ∀ {h1 : hk_H}, h1 = hk_set h 43 (.inr (10, [.int (hI n), .int (hI m), .int (hI w), .int (hI rc), .int (hI (hw_pow w n : Nat)), .ref 44, .ref 45, .ref 46, .ref 47, .ref 48, .ref 49, .ref 50, .ref 51, .int 0, .ref 52, .ref 53, .ref 54, .ref 55, .ref 56, .ref 57, .ref 58, .ref 59, .ref 60, .ref 61, .ref 62, .ref 63, .ref 64, .ref 65, .ref 66, .ref 67, .ref 68, .ref 69])) → hB h1 n m w rc num Rs 0 ∧ hRf hP43 h h1 := fun e => by
  subst e
  exact ⟨B.thr 0, hRf.rf.set (by rfl)⟩
theorem r_rise (B : hB h n m w rc num Rs 0) {t : Nat} {K : Int32 → hk_H → Prop} {h0 : hk_H} (F : hRf hP43 h0 h) (hk : ∀ h', hB h' n m w rc num Rs t → hRf hP43 h0 h' → K 0 h') : hk_Ci G m_X10_raises d 0 0 [.ref 43, .int (hI t)] h K :=
  r_raises B fun h' B' e1 f1 => hk h' B' (F.tr ⟨e1, fun a ha => f1 a ha⟩)
theorem r_pays (B : hB h n m w rc num Rs th) {x y z : Int32} {K : Int32 → hk_H → Prop} (hk : ∀ h', hB h' n m w rc num Rs (hq_th (hq_pays n m w rc num Rs x y z)) → hRf hP43 h h' → K (hI (hq_val (hq_pays n m w rc num Rs x y z))) h') : hk_Ci G m_X10_pays (d + 4) 0 0 [.ref 43, .int x, .int y, .int z] h K := by
  have hrc := B.rc8
  have hrow := B.rows
  have hn := B.dim.1
  obtain ⟨B1, F1⟩ := B.t0 rfl
  unfold hq_pays at hk
  refine ⟨Nat.le_of_ble_eq_true rfl, ?_⟩
  have bad : (∀ h', hB h' n m w rc num Rs 1 → hRf hP43 h h' → K 0 h') → ∀ (o1 o2 o3 : Option Value), hk_S G m_X10_pays (d + 4) 0 0 25 [some (.ref 43), o1, o2, o3] [] _ (fun o h' => ∃ x, o = .inl (some (.int x)) ∧ K x h') := fun hk o1 o2 o3 => b_X10_pays_25 B1.o (r_rise (t := 1) B1 F1 fun h' B' F' => b_X10_pays_30 ⟨_, rfl, hk h' B' F'⟩)
  refine b_X10_pays_0 B.o (by omega) rfl B1.o (r_isRow B1 (fun j r hj hr hxj hyr => ?_) (fun c => ?_) (fun j hj hxj c => ?_))
  · rw [hxj, hyr, hx_some hj (by omega), hx_some hr (by omega)] at hk
    refine b_X10_pays_11 (fun z => absurd z (by decide)) (fun _ => ?_)
    refine b_X10_pays_14 B1.o rfl (r_isIn (by omega) (fun i hi hzi => ?_) (fun c => b_X10_pays_22 (fun z => absurd rfl z) (fun _ => ?_)))
    · rw [hzi, hx_some hi (by omega)] at hk
      rw [hxj, hyr, hzi]
      exact b_X10_pays_22 (fun _ => b_X10_pays_31 B1.o (r_paysOf B1 hj hr hi (b_X10_pays_38 ⟨_, rfl, hk _ B1 F1⟩))) (fun z => absurd z (by decide))
    · rw [hx_none c] at hk
      exact bad hk _ _ _
  · rw [hx_none c] at hk
    exact b_X10_pays_11 (fun _ => bad hk _ _ _) (fun z => absurd rfl z)
  · rw [hxj, hx_some hj (by omega), hx_none c] at hk
    exact b_X10_pays_11 (fun _ => bad hk _ _ _) (fun z => absurd rfl z)
theorem r_said (B : hB h n m w rc num Rs th) {x y z : Int32} {K : Int32 → hk_H → Prop} (hk : K (hI (hq_said n w x y z)) h) : hk_Ci G m_X10_said (d + 2) 0 0 [.ref 43, .int x, .int y, .int z] h K := by
  have hrow := B.rows
  obtain ⟨hn, hm, hw6, hnum⟩ := B.dim
  unfold hq_said at hk
  refine ⟨Nat.le_of_ble_eq_true rfl, ?_⟩
  refine b_X10_said_0 B.o rfl (r_isIn (by omega) (fun r hr hxr => ?_) (fun c => b_X10_said_8 (fun _ => b_X10_said_43 ⟨_, rfl, ?_⟩) (fun z => absurd rfl z)))
  · rw [hxr, hx_some hr (by omega)] at hk
    refine b_X10_said_8 (fun z => absurd z (by decide)) (fun _ => ?_)
    refine b_X10_said_11 B.o rfl (r_isIn (by omega) (fun i hi hyi => ?_) (fun c => b_X10_said_19 (fun _ => b_X10_said_43 ⟨_, rfl, ?_⟩) (fun z => absurd rfl z)))
    · rw [hyi, hx_some hi (by omega)] at hk
      refine b_X10_said_19 (fun z => absurd z (by decide)) (fun _ => ?_)
      refine b_X10_said_22 B.o rfl (r_isIn (by omega) (fun v hv hzv => ?_) (fun c => b_X10_said_30 (fun _ => b_X10_said_43 ⟨_, rfl, ?_⟩) (fun z => absurd rfl z)))
      · rw [hzv, hx_some hv (by omega)] at hk
        rw [hxr, hyi, hzv]
        exact b_X10_said_30 (fun z => absurd z (by decide)) (fun _ => b_X10_said_33 B.o (r_saying B (by omega) (by omega) hi (b_X10_said_40 ⟨_, rfl, hk⟩)))
      · rw [hx_none c] at hk
        exact hk
    · rw [hx_none c] at hk
      exact hk
  · rw [hx_none c] at hk
    exact hk
theorem hB.say (B : hB h n m w rc num Rs th) {j r i v : Nat} (hj : j < rc) (hr : r < hw_pow w n) (hi : i < n) (hv : v < w) : hw_say w r i v < hw_pow w n := by
  have hw := B.w0 hj
  rw [hw_pow_1 hw] at hr ⊢
  exact hw_say_lt hr hi hv
theorem r_gain (B : hB h n m w rc num Rs th) {x y z u : Int32} {K : Int32 → hk_H → Prop} (hk : ∀ h', hB h' n m w rc num Rs (hq_th (hq_gain n m w rc num Rs x y z u)) → hRf hP43 h h' → K (hI (hq_val (hq_gain n m w rc num Rs x y z u))) h') : hk_Ci G m_X10_gain (d + 6) 0 0 [.ref 43, .int x, .int y, .int z, .int u] h K := by
  have hrc := B.rc8
  have hrow := B.rows
  obtain ⟨hn, hm, hw6, hnum⟩ := B.dim
  obtain ⟨B1, F1⟩ := B.t0 rfl
  unfold hq_gain at hk
  refine ⟨Nat.le_of_ble_eq_true rfl, ?_⟩
  have bad : (∀ h', hB h' n m w rc num Rs 1 → hRf hP43 h h' → K 0 h') → ∀ (o1 o2 o3 o4 : Option Value), hk_S G m_X10_gain (d + 6) 0 0 37 [some (.ref 43), o1, o2, o3, o4] [] _ (fun o h' => ∃ x, o = .inl (some (.int x)) ∧ K x h') := fun hk o1 o2 o3 o4 => b_X10_gain_37 B1.o (r_rise (t := 1) B1 F1 fun h' B' F' => b_X10_gain_42 ⟨_, rfl, hk h' B' F'⟩)
  refine b_X10_gain_0 B.o (by omega) rfl B1.o (r_isRow B1 (fun j r hj hr hxj hyr => ?_) (fun c => ?_) (fun j hj hxj c => ?_))
  · rw [hxj, hyr, hx_some hj (by omega), hx_some hr (by omega)] at hk
    refine b_X10_gain_11 (fun z => absurd z (by decide)) (fun _ => ?_)
    refine b_X10_gain_14 B1.o rfl (r_isIn (by omega) (fun i hi hzi => ?_) (fun c => b_X10_gain_22 (fun _ => ?_) (fun z => absurd rfl z)))
    · rw [hzi, hx_some hi (by omega)] at hk
      refine b_X10_gain_22 (fun z => absurd z (by decide)) (fun _ => ?_)
      refine b_X10_gain_25 B1.o rfl (r_isIn (by omega) (fun v hv huv => ?_) (fun c => b_X10_gain_34 (fun z => absurd rfl z) (fun _ => ?_)))
      · rw [huv, hx_some hv (by omega)] at hk
        rw [hxj, hyr, hzi, huv]
        refine b_X10_gain_34 (fun _ => ?_) (fun z => absurd z (by decide))
        refine b_X10_gain_43 B1.o (r_saying B1 (by omega) (by omega) hi ?_)
        exact b_X10_gain_55 B1.o (r_gainOf B1 hj hr hi (B1.say hj hr hi hv) (b_X10_gain_58 ⟨_, rfl, hk _ B1 F1⟩))
      · rw [hx_none c] at hk
        exact bad hk _ _ _ _
    · rw [hx_none c] at hk
      exact bad hk _ _ _ _
  · rw [hx_none c] at hk
    exact b_X10_gain_11 (fun _ => bad hk _ _ _ _) (fun z => absurd rfl z)
  · rw [hxj, hx_some hj (by omega), hx_none c] at hk
    exact b_X10_gain_11 (fun _ => bad hk _ _ _ _) (fun z => absurd rfl z)
theorem hB.gb (B : hB h n m w rc num Rs th) {j r i v : Nat} (hj : j < rc) (hr : r < hw_pow w n) (hi : i < n) (hv : v < w) : -20196 ≤ hp_gain n m w num (Rs j) r i v ∧ hp_gain n m w num (Rs j) r i v ≤ 20196 := by
  have hw := B.w0 hj
  have h1 := hr_val_bound B.dim (B.ok hj) hw (B.say hj hr hi hv) hi (hw_in_lt hw r i)
  have h2 := hr_val_bound B.dim (B.ok hj) hw hr hi (hw_in_lt hw r i)
  unfold hp_gain
  omega
theorem r_lie (B : hB h n m w rc num Rs th) {x y : Int32} {K : Int32 → hk_H → Prop} (hk : K (hI (hq_lie n m w rc num Rs x y)) h) : hk_Ci G m_X10_lie (d + 6) 0 0 [.ref 43, .int x, .int y] h K := by
  have hrc := B.rc8
  have hrow := B.rows
  obtain ⟨hn, hm, hw6, hnum⟩ := B.dim
  unfold hq_lie at hk
  refine ⟨Nat.le_of_ble_eq_true rfl, ?_⟩
  refine b_X10_lie_0 B.o rfl (r_isIn (by omega) (fun j hj hxj => ?_) (fun c => b_X10_lie_8 (fun _ => b_X10_lie_19 ⟨_, rfl, ?_⟩) (fun z => absurd rfl z)))
  · rw [hxj, hx_some hj (by omega)] at hk
    refine b_X10_lie_8 (fun z => absurd z (by decide)) (fun _ => ?_)
    refine b_X10_lie_11 (r_isIn (k := 4) (by omega) (fun q hq hyq => ?_) (fun c => b_X10_lie_16 (fun z => absurd rfl z) (fun _ => b_X10_lie_19 ⟨_, rfl, ?_⟩)))
    · rw [hyq, hx_some hq (by omega)] at hk
      simp only at hk
      unfold hp_lie at hk
      have hw := B.w0 hj
      refine b_X10_lie_16 (fun _ => ?_) (fun z => absurd z (by decide))
      rw [hxj, hyq]
      refine b_X10_lie_21 ?_
      refine hk_upto (P := fun r => ∀ o4 o5 o6 : Option Value, hk_c1 o4 → hk_c1 o5 → hf_from (fun r => hp_lieR n m w num (Rs j) q r) (hw_pow w n - r) r = hf (fun r => hp_lieR n m w num (Rs j) q r) (hw_pow w n) → hk_S G m_X10_lie (d + 6) 0 0 23 [some (.ref 43), some (.int (hI j)), some (.int (hI q)), some (.int (hI (r : Int))), o4, o5, o6] [] h (fun o h' => ∃ x, o = .inl (some (.int x)) ∧ K x h')) (hw_pow w n) (fun r hr ih o4 o5 o6 q4 q5 e1 => ?_) none none none hk_c10 hk_c10 rfl
      refine b_X10_lie_23 B.o rfl (fun cc => ?_) (fun cc => ?_)
      · rw [hN_le (by omega) (by omega)] at cc
        rw [hf_end (by omega)] at e1
        rw [← e1] at hk
        exact b_X10_lie_128 ⟨_, rfl, hk⟩
      · rw [hN_le (by omega) (by omega)] at cc
        have hrl : r < hw_pow w n := by omega
        refine b_X10_lie_31 ?_
        refine hk_upto (P := fun i => ∀ o5 o6 : Option Value, hk_c1 o5 → hf_from (fun i => hp_lieP n m w num (Rs j) q r i) (n - i) i = hp_lieR n m w num (Rs j) q r → hk_S G m_X10_lie (d + 6) 0 0 34 [some (.ref 43), some (.int (hI j)), some (.int (hI q)), some (.int (hI (r : Int))), some (.int (hI (i : Int))), o5, o6] [] h (fun o h' => ∃ x, o = .inl (some (.int x)) ∧ K x h')) n (fun i hi ih2 o5 o6 q5 e2 => ?_) o5 o6 q5 rfl
        refine b_X10_lie_34 B.o rfl (fun c2 => ?_) (fun c2 => ?_)
        · rw [hN_le (by omega) (by omega)] at c2
          rw [hf_end (by omega)] at e2
          rw [hf_none hrl e2.symm] at e1
          refine b_X10_lie_122 ?_
          rw [hI_1]
          exact ih hrl _ _ _ hk_c1i q5 e1
        · rw [hN_le (by omega) (by omega)] at c2
          have hin : i < n := by omega
          refine b_X10_lie_43 ?_
          refine hk_upto (P := fun v => ∀ o6 : Option Value, hf_from (fun v => if 0 < hp_gain n m w num (Rs j) r i v then some (hp_part q r i v (hp_gain n m w num (Rs j) r i v)) else none) (w - v) v = hp_lieP n m w num (Rs j) q r i → hk_S G m_X10_lie (d + 6) 0 0 46 [some (.ref 43), some (.int (hI j)), some (.int (hI q)), some (.int (hI (r : Int))), some (.int (hI (i : Int))), some (.int (hI (v : Int))), o6] [] h (fun o h' => ∃ x, o = .inl (some (.int x)) ∧ K x h')) w (fun v hv ih3 o6 e3 => ?_) o6 rfl
          refine b_X10_lie_46 B.o rfl (fun c3 => ?_) (fun c3 => ?_)
          · rw [hN_le (by omega) (by omega)] at c3
            rw [hf_end (by omega)] at e3
            rw [hf_none hin e3.symm] at e2
            refine b_X10_lie_116 ?_
            rw [hI_1]
            exact ih2 hin _ _ hk_c1i e2
          · rw [hN_le (by omega) (by omega)] at c3
            have hvl : v < w := by omega
            have gb := B.gb hj hrl hin hvl
            refine b_X10_lie_55 B.o (r_saying B hw (by omega) hin ?_)
            refine b_X10_lie_69 B.o (r_gainOf B hj hrl hin (B.say hj hrl hin hvl) ?_)
            show hk_S G m_X10_lie (d + 6) 0 0 72 _ [.int (hI (hp_gain n m w num (Rs j) r i v))] h _
            refine b_X10_lie_72 (fun c4 => ?_) (fun c4 => ?_)
            · rw [show (0 : Int32) = hI 0 from rfl, hI_le (by omega) (by omega)] at c4
              rw [hf_none hvl (if_neg (by omega))] at e3
              refine b_X10_lie_110 ?_
              rw [hI_1]
              exact ih3 hvl _ e3
            · rw [show (0 : Int32) = hI 0 from rfl, hI_le (by omega) (by omega)] at c4
              rw [hf_some hvl (if_pos (by omega))] at e3
              rw [hf_some hin e3.symm] at e2
              rw [hf_some hrl e2.symm] at e1
              rw [← e1] at hk
              have hk : K (hI (hp_part q r i v (hp_gain n m w num (Rs j) r i v))) h := hk
              unfold hp_part at hk
              refine b_X10_lie_79 (fun k0 => ?_) (fun k0 => ?_)
              · rw [show (0 : Int32) = hI ((0 : Nat) : Int) from rfl, hN_eq (by omega) (by omega)] at k0
                rw [if_neg k0] at hk
                refine b_X10_lie_87 (fun k1 => ?_) (fun k1 => ?_)
                · rw [show (1 : Int32) = hI ((1 : Nat) : Int) from rfl, hN_eq (by omega) (by omega)] at k1
                  rw [if_neg k1] at hk
                  refine b_X10_lie_97 (fun k2 => ?_) (fun k2 => ?_)
                  · rw [show (2 : Int32) = hI ((2 : Nat) : Int) from rfl, hN_eq (by omega) (by omega)] at k2
                    rw [if_neg k2] at hk
                    exact b_X10_lie_107 ⟨_, rfl, hk⟩
                  · rw [show (2 : Int32) = hI ((2 : Nat) : Int) from rfl, hN_eq (by omega) (by omega)] at k2
                    rw [if_pos k2] at hk
                    exact b_X10_lie_102 ⟨_, rfl, hk⟩
                · rw [show (1 : Int32) = hI ((1 : Nat) : Int) from rfl, hN_eq (by omega) (by omega)] at k1
                  rw [if_pos k1] at hk
                  exact b_X10_lie_92 ⟨_, rfl, hk⟩
              · rw [show (0 : Int32) = hI ((0 : Nat) : Int) from rfl, hN_eq (by omega) (by omega)] at k0
                rw [if_pos k0] at hk
                exact b_X10_lie_83 ⟨_, rfl, hk⟩
    · rw [hx_none c] at hk
      exact hk
  · rw [hx_none c] at hk
    exact hk
theorem r_lies (B : hB h n m w rc num Rs th) {x : Int32} {K : Int32 → hk_H → Prop} (hk : K (hI (hq_lies n m w rc num Rs x)) h) : hk_Ci G m_X10_lies (d + 6) 0 0 [.ref 43, .int x] h K := by
  have hrc := B.rc8
  have hrow := B.rows
  obtain ⟨hn, hm, hw6, hnum⟩ := B.dim
  unfold hq_lies at hk
  refine ⟨Nat.le_of_ble_eq_true rfl, ?_⟩
  refine b_X10_lies_0 B.o rfl (r_isIn (by omega) (fun j hj hxj => ?_) (fun c => b_X10_lies_8 (fun z => absurd rfl z) (fun _ => b_X10_lies_11 ⟨_, rfl, ?_⟩)))
  · rw [hxj, hx_some hj (by omega)] at hk
    simp only at hk
    unfold hp_lies at hk
    have hw := B.w0 hj
    refine b_X10_lies_8 (fun _ => ?_) (fun z => absurd z (by decide))
    rw [hxj]
    refine b_X10_lies_13 ?_
    refine hk_upto (P := fun r => ∀ o4 o5 : Option Value, hk_c1 o4 → hk_S G m_X10_lies (d + 6) 0 0 17 [some (.ref 43), some (.int (hI j)), some (.int (hI (hr_to (fun r => hr_to (fun i => hp_liesAt n m w num (Rs j) r i) n) r))), some (.int (hI (r : Int))), o4, o5] [] h (fun o h' => ∃ x, o = .inl (some (.int x)) ∧ K x h')) (hw_pow w n) (fun r hr ih o4 o5 q4 => ?_) none none hk_c10
    refine b_X10_lies_17 B.o rfl (fun cc => ?_) (fun cc => ?_)
    · rw [hN_le (by omega) (by omega)] at cc
      have e : r = hw_pow w n := by omega
      subst e
      exact b_X10_lies_95 ⟨_, rfl, hk⟩
    · rw [hN_le (by omega) (by omega)] at cc
      have hrl : r < hw_pow w n := by omega
      refine b_X10_lies_25 ?_
      have z := hk_upto (P := fun i => ∀ o5 : Option Value, hk_S G m_X10_lies (d + 6) 0 0 28 [some (.ref 43), some (.int (hI j)), some (.int (hI (hr_to (fun r => hr_to (fun i => hp_liesAt n m w num (Rs j) r i) n) r + hr_to (fun i => hp_liesAt n m w num (Rs j) r i) i))), some (.int (hI (r : Int))), some (.int (hI (i : Int))), o5] [] h (fun o h' => ∃ x, o = .inl (some (.int x)) ∧ K x h')) n (fun i hi ih2 o5 => ?_) o5
      · rw [show ∀ a : Int, a + hr_to (fun i => hp_liesAt n m w num (Rs j) r i) 0 = a from fun a => Int.add_zero a] at z
        exact z
      · refine b_X10_lies_28 B.o rfl (fun c2 => ?_) (fun c2 => ?_)
        · rw [hN_le (by omega) (by omega)] at c2
          have e : i = n := by omega
          subst e
          refine b_X10_lies_89 ?_
          rw [hI_1]
          exact ih hrl _ _ hk_c1i
        · rw [hN_le (by omega) (by omega)] at c2
          have hin : i < n := by omega
          refine b_X10_lies_37 ?_
          have z := hk_upto (P := fun v => hk_S G m_X10_lies (d + 6) 0 0 40 [some (.ref 43), some (.int (hI j)), some (.int (hI (hr_to (fun r => hr_to (fun i => hp_liesAt n m w num (Rs j) r i) n) r + hr_to (fun i => hp_liesAt n m w num (Rs j) r i) i + hr_to (fun v => if 0 < hp_gain n m w num (Rs j) r i v then 1 else 0) v))), some (.int (hI (r : Int))), some (.int (hI (i : Int))), some (.int (hI (v : Int)))] [] h (fun o h' => ∃ x, o = .inl (some (.int x)) ∧ K x h')) w (fun v hv ih3 => ?_)
          · rw [show ∀ a : Int, a + hr_to (fun v => if 0 < hp_gain n m w num (Rs j) r i v then 1 else 0) 0 = a from fun a => Int.add_zero a] at z
            exact z
          · refine b_X10_lies_40 B.o rfl (fun c3 => ?_) (fun c3 => ?_)
            · rw [hN_le (by omega) (by omega)] at c3
              have e : v = w := by omega
              subst e
              refine b_X10_lies_83 ?_
              rw [hI_1]
              have := ih2 hin (some (.int (hI (v : Int))))
              rw [hr_to_s, ← Int.add_assoc] at this
              exact this
            · rw [hN_le (by omega) (by omega)] at c3
              have hvl : v < w := by omega
              have gb := B.gb hj hrl hin hvl
              have ih3 := ih3 hvl
              rw [hr_to_s] at ih3
              refine b_X10_lies_49 B.o (r_saying B hw (by omega) hin ?_)
              refine b_X10_lies_64 B.o (r_gainOf B hj hrl hin (B.say hj hrl hin hvl) ?_)
              show hk_S G m_X10_lies (d + 6) 0 0 67 _ [.int (hI (hp_gain n m w num (Rs j) r i v)), _] h _
              refine b_X10_lies_67 (fun c4 => ?_) (fun c4 => ?_)
              · rw [show (0 : Int32) = hI 0 from rfl, hI_le (by omega) (by omega)] at c4
                rw [if_neg (by omega), Int.add_zero] at ih3
                refine b_X10_lies_74 ?_
                rw [hI_1, hI_0]
                exact ih3
              · rw [show (0 : Int32) = hI 0 from rfl, hI_le (by omega) (by omega)] at c4
                rw [if_pos (by omega), ← Int.add_assoc] at ih3
                refine b_X10_lies_70 ?_
                rw [hI_1, show (1 : Int32) = hI 1 from rfl, hI_add]
                exact ih3
  · rw [hx_none c] at hk
    exact hk
end RD
