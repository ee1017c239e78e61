/-! honest. -/
section SHn
variable {G : hk_G} {h h' : hk_H} {n m w rc : Nat} {num : Nat → Int} {Rs : Nat → hr_R} {R R' : hr_R} {rq : Nat → Nat} {q k d : Nat} {ef pf : Nat → Int32}
theorem s_pricedRule (C : hC h n m w rc num Rs rq) (Y : hWy h) {j : Nat} (hj : j < rc) (hs : ∀ r, r < hw_pow w n → hSt h (rq j) r) (hpos : ∀ i r, i < n → r < hw_pow w n → hw_in w r i = 0 → ¬ hp_lst n m w num (Rs j) r i < 0) {K : Option Nat → hk_H → Prop} (hk : ∀ h' ef pf, h'.1 = h.1 + 3 → hRu h' h.1 rc n m w num (hp_priced n m w num (Rs j)) ef pf → (∀ a, a < h.1 → ¬ (14 ≤ a ∧ a ≤ 17) → h'.2 a = h.2 a) → hWy h' → K (some h.1) h') : hk_Cr G m_X9_pricedRule (d + 4) 6 6501 [.ref 4, .ref (rq j)] h K := by
  obtain ⟨hn, hm, hw6, hnum⟩ := C.dim
  have hrow := C.rows
  have hw := C.w0 hj
  have h71 := C.2.2.2.2.2.2
  have hle : hw_pow w n * n ≤ 1296 * 4 := Nat.mul_le_mul hrow (by omega)
  obtain ⟨c1, ⟨pw, c2⟩, -⟩ := id C
  have hW' : ∀ c, hW (hk_new h c) n m w num pw := fun c => c2.fr fun a ha hb => by rw [hk_new_ne (by omega)]
  have hok := hr_new_ok (n := n) (w := w) (kd := 1) (by omega) hm.1
  refine ⟨Nat.le_of_ble_eq_true rfl, ?_⟩
  refine hs_more (Nat.le_refl _) (cb := (((0 + 1) + (0 + 1)) + 0) + 1) (sb := (((0 + hw_pow w n) + (0 + hw_pow w n * n)) + 0) + 4) (by omega) (by omega) ?_
  refine b_X9_pricedRule_0 (cb := 0) (sb := 0) rfl (by rw [hk_new_ne (by omega)]; exact c1) rfl rfl (s_init3_3 (hW' _) ⟨by omega, by show h.1 < h.1 + 1; omega⟩ hk_new_eq fun h1 e1 o1 a1 p1 f1 => ?_)
  have f1' : ∀ a, a < h.1 → h1.2 a = h.2 a := fun a ha => by
    rw [f1 a (by omega) (by show a ≠ h.1 + 1; omega) (by show a ≠ h.1 + 1 + 1; omega), hk_new_ne (by omega)]
  have P1 : hPr h h1 h.1 rc n m w num (hr_new 1) (fun _ => 0) (fun _ => 0) := ⟨e1, fun a ha _ => f1' a ha, Y.fr fun a _ _ => f1' a (by omega), ⟨hok, by omega, o1, a1, fun _ => p1, fun c => absurd c (by decide), fun c => absurd c (by decide), fun r hr => Or.inr ⟨rfl, fun _ i _ => rfl⟩⟩, rfl, rfl⟩
  refine b_X9_pricedRule_15 ?_
  refine hk_upto (P := fun r => ∀ h' R ef pf (o4 : Option Value), hk_c1 o4 → hPr h h' h.1 rc n m w num R ef pf → (∀ r', r' < r → R.2.1 r' = hr_end n m w num (Rs j) r') → hk_S G m_X9_pricedRule (d + 4) 0 0 18 [some (.ref 4), some (.ref (rq j)), some (.ref h.1), some (.int (hI (r : Int))), o4] [] h' (fun o h' => ∃ r, o = .inl (some (hk_rf r)) ∧ K r h')) (hw_pow w n) (fun r hr ih h' R ef pf o4 q4 P' E' => ?_) h1 _ _ _ none hk_c10 P1 (fun r' hr' => by omega)
  have C' := P'.c C
  refine b_X9_pricedRule_18 C'.1 rfl C'.w1 rfl (fun cc => ?_) (fun cc => ?_)
  · rw [hN_le (by omega) (by omega)] at cc
    refine b_X9_pricedRule_46 ?_
    refine hk_upto (P := fun i => ∀ h' R ef pf (o4 : Option Value), hk_c1 o4 → hPr h h' h.1 rc n m w num R ef pf → (∀ r', r' < hw_pow w n → R.2.1 r' = hr_end n m w num (Rs j) r') → (∀ i' r', i' < i → r' < hw_pow w n → R.2.2.1 r' i' = hp_pr n m w num (Rs j) r' i') → hk_S G m_X9_pricedRule (d + 4) 0 0 48 [some (.ref 4), some (.ref (rq j)), some (.ref h.1), some (.int (hI (i : Int))), o4] [] h' (fun o h' => ∃ r, o = .inl (some (hk_rf r)) ∧ K r h')) n (fun i hi ih2 h' R ef pf o4 q4 P' E' V' => ?_) h' R ef pf o4 q4 P' (fun r' hr' => E' r' (by omega)) (fun i' r' hi' => by omega)
    have C' := P'.c C
    refine b_X9_pricedRule_48 C'.1 rfl (fun c2 => ?_) (fun c2 => ?_)
    · rw [hN_le (by omega) (by omega)] at c2
      refine b_X9_pricedRule_104 ⟨some h.1, rfl, hk h' ef pf P'.1 (P'.2.2.2.1.to1 P'.2.2.2.2.1 rfl (fun r hr => (E' r hr).symm) (fun r i hr hi => (V' i r (by omega) hr).symm) P'.2.2.2.2.2.symm) P'.2.1 P'.2.2.1⟩
    · rw [hN_le (by omega) (by omega)] at c2
      have hin : i < n := by omega
      refine b_X9_pricedRule_56 ?_
      refine hk_upto (P := fun r => ∀ h' R ef pf, hPr h h' h.1 rc n m w num R ef pf → (∀ r', r' < hw_pow w n → R.2.1 r' = hr_end n m w num (Rs j) r') → (∀ i' r', i' < i → r' < hw_pow w n → R.2.2.1 r' i' = hp_pr n m w num (Rs j) r' i') → (∀ r', r' < hw_pow w n → hw_say w r' i 0 < r → R.2.2.1 r' i = hp_pr n m w num (Rs j) r' i) → hk_S G m_X9_pricedRule (d + 4) 0 0 59 [some (.ref 4), some (.ref (rq j)), some (.ref h.1), some (.int (hI (i : Int))), some (.int (hI (r : Int)))] [] h' (fun o h' => ∃ r, o = .inl (some (hk_rf r)) ∧ K r h')) (hw_pow w n) (fun r hr ih3 h' R ef pf P' E' V' U' => ?_) h' R ef pf P' E' V' (fun r' _ hr' => by omega)
      have C' := P'.c C
      refine b_X9_pricedRule_59 C'.1 rfl C'.w1 rfl (fun c3 => ?_) (fun c3 => ?_)
      · rw [hN_le (by omega) (by omega)] at c3
        refine b_X9_pricedRule_98 ?_
        rw [hI_1]
        refine ih2 hin h' R ef pf _ hk_c1i P' E' fun i' r' hi' hr' => ?_
        by_cases qq : i' = i
        · subst qq
          refine U' r' hr' ?_
          have : hw_say w r' i' 0 < hw_pow w n := by
            rw [hw_pow_1 hw] at hr' ⊢
            exact hw_say_lt hr' hin (by omega)
          omega
        · exact V' i' r' (by omega) hr'
      · rw [hN_le (by omega) (by omega)] at c3
        have hrl : r < hw_pow w n := by omega
        have hwi := hw_in_lt hw r i
        refine b_X9_pricedRule_71 C'.1 rfl C'.w1 (c_wishIn C' hj hrl hin ?_)
        refine b_X9_pricedRule_81 (fun c4 => ?_) (fun c4 => ?_)
        · rw [show (0 : Int32) = hI ((0 : Nat) : Int) from rfl, hN_eq (by omega) (by omega)] at c4
          refine b_X9_pricedRule_92 ?_
          rw [hI_1]
          refine ih3 hrl h' R ef pf P' E' V' fun r' hr' hlt => ?_
          by_cases qq : hw_say w r' i 0 = r
          · exfalso
            apply c4
            rw [← qq]
            exact hw_in_say hw (by omega) i r'
          · exact U' r' hr' (by omega)
        · rw [show (0 : Int32) = hI ((0 : Nat) : Int) from rfl, hN_eq (by omega) (by omega)] at c4
          refine b_X9_pricedRule_84 C'.1 (s_payPrices C hw P' E' hrl hin (hpos i r hin hrl c4) fun h2 R2 ef2 pf2 P2 E2 V2 => ?_)
          refine b_X9_pricedRule_92 ?_
          rw [hI_1]
          refine ih3 hrl h2 R2 ef2 pf2 P2 (fun r' hr' => by rw [E2 r' hr']; exact E' r' hr') (fun i' r' hi' hr' => ?_) (fun r' hr' hlt => ?_)
          · rw [V2, if_neg (fun z => by omega)]
            exact V' i' r' hi' hr'
          · rw [V2]
            by_cases qq : i = i ∧ ∃ v, v < w ∧ r' = hw_say w r i v
            · rw [if_pos qq]
            · rw [if_neg qq]
              refine U' r' hr' ?_
              by_cases q2 : hw_say w r' i 0 = r
              · exfalso
                apply qq
                refine ⟨rfl, hw_in w r' i, hw_in_lt hw r' i, ?_⟩
                rw [← q2, hw_say_say hw (by omega), hw_say_in]
              · omega
  · rw [hN_le (by omega) (by omega)] at cc
    have hrl : r < hw_pow w n := by omega
    have hel := hr_end_lt (num := num) (r := r) hm.1 (C'.ok hj) hrl
    refine b_X9_pricedRule_29 (hr_dEnd (C'.ok hj).1) (C'.obj hj) (c_endAt C' hj hrl (hSt.pr C P' hj (hs r hrl)) ?_)
    obtain ⟨pw3, d3⟩ := C'.2.1
    have ob : h'.2 h.1 = some (.inr (3, hr_fs 1 h.1 rc)) := by
      have := P'.2.2.2.1.2.2.1
      rw [P'.2.2.2.2.1] at this
      exact this
    have ob1 : hr_mCE R.1 = m_X5_changeEnd := by rw [P'.2.2.2.2.1]; rfl
    refine b_X9_pricedRule_36 di_X3_changeEnd_3 ob ?_
    rw [← ob1]
    refine s_changeEnd d3 P'.2.2.2.1 (by rw [P'.2.2.2.2.1]; omega) hrl hel fun h4 F4 H4 => ?_
    refine b_X9_pricedRule_39 ?_
    rw [hI_1]
    refine ih hrl h4 _ _ _ _ q4 (P'.on h71 F4 H4 P'.2.2.2.2.1 rfl) fun r' hr' => ?_
    show (if r' = r then _ else R.2.1 r') = _
    by_cases c : r' = r
    · rw [if_pos c, c]
    · rw [if_neg c]; exact E' r' (by omega)
def hq_honest (n m w rc : Nat) (num : Nat → Int) (Rs : Nat → hr_R) (x : Int32) : Int × Nat × (Nat → hr_R) := match hx x rc with
  | none => (-1, rc, Rs)
  | some j => if rc < 8 then (if hp_round n m w num (Rs j) 0 = -2 then (rc, rc + 1, hr_up Rs rc (hp_priced n m w num (Rs j))) else (-3, rc, Rs)) else (-2, rc, Rs)
def hPhon (a : Nat) : Prop := hP48 a ∨ hP17 a
theorem hp_round_none {R : hr_R} (h : hp_round n m w num R 0 = -2) : ∀ i r, i < n → r < hw_pow w n → hw_in w r i = 0 → ¬ hp_lst n m w num R r i < 0 := by
  intro i r hi hr h0 hneg
  unfold hp_round at h
  cases e : hf (fun i => hp_roundP n m w num R 0 i) n with
  | none =>
    have h1 := hf_no.mp e i hi
    unfold hp_roundP at h1
    have h2 := hf_no.mp h1 r hr
    unfold hp_roundR at h2
    rw [if_pos ⟨h0, hneg⟩] at h2
    cases h2
  | some v =>
    rw [e] at h
    have h : v = -2 := h
    obtain ⟨i', h1, h2, -⟩ := hf_is.mp e
    unfold hp_roundP at h2
    obtain ⟨r', h3, h4, -⟩ := hf_is.mp h2
    unfold hp_roundR at h4
    split at h4
    · rw [if_pos rfl] at h4
      have := Option.some.inj h4
      omega
    · cases h4
theorem hp_round_0 {R : hr_R} : hp_round n m w num R 0 = -2 ∨ (0 ≤ hp_round n m w num R 0 ∧ hp_round n m w num R 0 < n) := by
  unfold hp_round
  cases e : hf (fun i => hp_roundP n m w num R 0 i) n with
  | none => exact Or.inl rfl
  | some v =>
    right
    show 0 ≤ v ∧ v < n
    obtain ⟨i', h1, h2, -⟩ := hf_is.mp e
    unfold hp_roundP at h2
    obtain ⟨r', h3, h4, -⟩ := hf_is.mp h2
    unfold hp_roundR at h4
    split at h4
    · rw [if_pos rfl] at h4
      have := Option.some.inj h4
      omega
    · cases h4
theorem s_honest (C : hC h n m w rc num Rs rq) (Y : hWy h) {x : Int32} {K : Int32 → hk_H → Prop} (hk : ∀ h' rq', hC h' n m w (hq_honest n m w rc num Rs x).2.1 num (hq_honest n m w rc num Rs x).2.2 rq' → (∀ j, j < rc → rq' j = rq j) → hWy h' → hFm hPhon h h' → K (hI (hq_honest n m w rc num Rs x).1) h') : hk_Ci G m_X9_honest (d + 6) 6 6501 [.ref 4, .int x] h K := by
  obtain ⟨hn, hm, hw6, hnum⟩ := C.dim
  have hrc := C.rc8
  unfold hq_honest at hk
  refine ⟨Nat.le_of_ble_eq_true rfl, ?_⟩
  refine b_X9_honest_0 C.1 (s_settledRule C (fun j h' hj hxj C' hl hs _ => ?_) (fun hx => b_X9_honest_5N0 ⟨_, rfl, ?_⟩))
  · have Y' := Y.lo hl
    have hw := C.w0 hj
    rw [hxj, hx_some hj (by omega)] at hk
    simp only at hk
    refine b_X9_honest_5 C'.1 rfl (fun cc => ?_) (fun cc => ?_)
    · rw [show (8 : Int32) = hI ((8 : Nat) : Int) from rfl, hN_lt (by omega) (by omega)] at cc
      rw [if_pos cc] at hk
      refine b_X9_honest_24 C'.1 (s_firstRound (what := 0) C' Y' hj (by omega) hs fun h2 C2 Y2 F2 => ?_)
      have F3 : hFm hPhon h h2 := (hFm.lo hl).tr (F2.fm.mono fun a ha => Or.inr ha)
      have hr0 := hp_round_0 (n := n) (m := m) (w := w) (num := num) (R := Rs j)
      refine b_X9_honest_30 (fun c2 => ?_) (fun c2 => ?_)
      · rw [show (-2 : Int32) = hI (-2) from rfl, hI_eq (by omega) (by omega)] at c2
        rw [if_neg c2] at hk
        exact b_X9_honest_47 ⟨_, rfl, hk h2 rq C2 (fun _ _ => rfl) Y2 F3⟩
      · rw [show (-2 : Int32) = hI (-2) from rfl, hI_eq (by omega) (by omega)] at c2
        rw [if_pos c2] at hk
        have hq := (C'.2.2.2.2.1 j hj).1
        refine b_X9_honest_35 (cq := 6) (sq := 6501) (cb := 0) (sb := 0) C2.1 (s_pricedRule C2 Y2 hj (fun r hr => F2.st hq (hs r hr)) (hp_round_none c2) fun h4 ef pf e4 H4 f4 Y4 => ?_)
        have h71 := C2.2.2.2.2.2.2
        have C4 : hC h4 n m w rc num Rs rq := C2.fr (by omega) fun a ha => f4 a (by omega) (by omega)
        refine b_X9_honest_41 C4.1 (s_add C4 cc hw (q := h2.1) (fun j hj => (C2.2.2.2.2.1 j hj).2.1) h71 (by show h2.1 + 2 < h4.1; omega) H4 fun h6 C6 F6 => ?_)
        refine b_X9_honest_44 ⟨_, rfl, hk h6 _ C6 (fun j hj => if_neg (by omega)) (Y4.fr fun a ha hb => F6.2 a (by omega) (by unfold hP48; omega)) (F3.tr ⟨?_, fun a ha hp => ?_⟩)⟩
        · have := F6.1; omega
        · rw [F6.2 a ha fun c => hp (Or.inl c)]
          exact f4 a (by omega) fun c => hp (Or.inr c)
    · rw [show (8 : Int32) = hI ((8 : Nat) : Int) from rfl, hN_lt (by omega) (by omega)] at cc
      rw [if_neg cc] at hk
      exact b_X9_honest_21 ⟨_, rfl, hk h' rq C' (fun _ _ => rfl) Y' (hFm.lo hl)⟩
  · rw [hx_none hx] at hk
    exact hk h rq C (fun _ _ => rfl) Y hFm.rf
end SHn
