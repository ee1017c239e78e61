/-! span, price, round. -/
def hWy (h : hk_H) : Prop := ∃ cf lf sf tf, hYs h cf lf sf tf
def hP17 (a : Nat) : Prop := 14 ≤ a ∧ a ≤ 17
def hq_E (n m w : Nat) (num : Nat → Int) (R : hr_R) (r i : Nat) : Nat → Nat := fun v => hr_end n m w num R (hw_say w r i v)
section SSp
variable {G : hk_G} {h h' : hk_H} {n m w rc : Nat} {num : Nat → Int} {Rs : Nat → hr_R} {R : hr_R} {rq : Nat → Nat} {d : Nat}
theorem hWy.fr (H : hWy h) (e : ∀ a, 13 ≤ a → a ≤ 17 → h'.2 a = h.2 a) : hWy h' := by
  obtain ⟨cf, lf, sf, tf, y1, y2, y3, y4, y5⟩ := H
  exact ⟨cf, lf, sf, tf, (e 13 (by omega) (by omega)).trans y1, (e 14 (by omega) (by omega)).trans y2, (e 15 (by omega) (by omega)).trans y3, (e 16 (by omega) (by omega)).trans y4, (e 17 (by omega) (by omega)).trans y5⟩
theorem hWy.lo (H : hWy h) (l : hLo h h') : hWy h' := H.fr fun a _ _ => l.2 a (by omega)
theorem hYf.c (F : hYf h h') (C : hC h n m w rc num Rs rq) : hC h' n m w rc num Rs rq := C.fr (by rw [F.1]; exact Nat.le_refl _) fun a ha => F.2 a (by omega)
theorem hYf.fm (F : hYf h h') : hFm hP17 h h' := ⟨by rw [F.1]; exact Nat.le_refl _, fun a _ hp => F.2 a hp⟩
theorem hYf.st (F : hYf h h') {q r : Nat} (hq : 71 ≤ q) (H : hSt h q r) : hSt h' q r := H.fr (F.2 _ (by omega))
theorem hq_E_lt (C : hC h n m w rc num Rs rq) {j r i : Nat} (hj : j < rc) (hr : r < hw_pow w n) (hi : i < n) : ∀ v, v < w → hq_E n m w num (Rs j) r i v < m := fun v hv => by
  have hw := C.w0 hj
  refine hr_end_lt C.dim.2.1.1 (C.ok hj) ?_
  rw [hw_pow_1 hw] at hr ⊢
  exact hw_say_lt hr hi hv
theorem c_look (C : hC h n m w rc num Rs rq) (Y : hWy h) {j r i : Nat} (hj : j < rc) (hr : r < hw_pow w n) (hi : i < n) (hs : ∀ v, v < w → hSt h (rq j) (hw_say w r i v)) {K : hk_H → Prop} (hk : ∀ h' cf lf sf tf, hYs h' cf lf sf tf → hYf h h' → hC h' n m w rc num Rs rq → hYc cf (hy_cm (hq_E n m w num (Rs j) r i) w) → hYm lf (hy_L num (hq_E n m w num (Rs j) r i) w) → K h') : hk_Cv G m_X6_look (d + 2) 0 0 [.ref 13, .ref (rq j), .int (hI r), .int (hI i)] h K := by
  obtain ⟨cf, lf, sf, tf, Y⟩ := Y
  have hw := C.w0 hj
  obtain ⟨c1, ⟨pw, c2⟩, c3, c4, c5, c6, c7⟩ := id C
  obtain ⟨g1, g2, ef, pf, H⟩ := c5 j hj
  exact s_look c2 H (by omega) hw Y hr hi (fun v hv => (hSt.of H).mp (hs v hv)) fun h' cf' lf' Y' F' C' M' => hk h' cf' lf' sf tf Y' F' (F'.c C) C' M'
def hq_span (n m w rc : Nat) (num : Nat → Int) (Rs : Nat → hr_R) (x y z u v : Int32) : Nat ⊕ Int := match hx x rc, hx y (hw_pow w n), hx z n, hx u m, hx v m with
  | some j, some r, some i, some e, some f => if hy_cm (hq_E n m w num (Rs j) r i) w e = true ∧ hy_cm (hq_E n m w num (Rs j) r i) w f = true then .inr (hy_len num (hq_E n m w num (Rs j) r i) w e f) else .inl 2
  | _, _, _, _, _ => .inl 1
theorem s_span (C : hC h n m w rc num Rs rq) (Y : hWy h) {x y z u v : Int32} {Q : hk_O → hk_H → Prop} (hk : ∀ h', hC h' n m w rc num Rs rq → hWy h' → hFm hP17 h h' → Q (hq_outI (hq_span n m w rc num Rs x y z u v)) h') : hk_E G m_X9_span (d + 5) 1 6 [.ref 4, .int x, .int y, .int z, .int u, .int v] h Q := by
  obtain ⟨hn, hm, hw6, hnum⟩ := C.dim
  have hrc := C.rc8
  have hrow := C.rows
  obtain ⟨c1, ⟨pw, c2⟩, c3, c4, c5, c6, c7⟩ := id C
  unfold hq_span at hk
  have thr : ∀ {h1 : hk_H}, hC h1 n m w rc num Rs rq → hWy h1 → hFm hP17 h h1 → hC (h1.1 + 1, h1.2) n m w rc num Rs rq ∧ hWy (h1.1 + 1, h1.2) ∧ hFm hP17 h (h1.1 + 1, h1.2) := fun C1 Y1 F1 => ⟨C1.fr (Nat.le_succ _) fun _ _ => rfl, Y1, ⟨by have := F1.1; show _ ≤ _ + 1; omega, F1.2⟩⟩
  have bad : (∀ h', hC h' n m w rc num Rs rq → hWy h' → hFm hP17 h h' → Q (hq_outI (.inl 1)) h') → Q (.inr "java/lang/IllegalArgumentException") (h.1 + 1, h.2) := fun hk => by
    obtain ⟨a, b, c⟩ := thr C Y hFm.rf
    exact hk _ a b c
  refine ⟨Nat.le_of_ble_eq_true rfl, ?_⟩
  refine b_X9_span_0 c1 (s_ruleAt c1 c4 (fun j hj hxj => ?_) (fun c => b_X9_span_5N0 (cb := 0) (sb := 0) (bad ?_)))
  · rw [hxj, hx_some hj (by omega)] at hk
    refine b_X9_span_5 c1 (s_isRow c1 c2 (fun r hr hyr => ?_) (fun c => b_X9_span_17 (fun _ => b_X9_span_46 (cb := 0) (sb := 0) (bad ?_)) (fun c2 => absurd rfl c2)))
    · rw [hyr, hx_some hr (by omega)] at hk
      refine b_X9_span_17 (fun c2 => absurd c2 (by decide)) (fun _ => ?_)
      refine b_X9_span_20 c1 (s_isPerson c1 hn.2 (fun i hi hzi => ?_) (fun c => b_X9_span_25 (fun _ => b_X9_span_46 (cb := 0) (sb := 0) (bad ?_)) (fun c2 => absurd rfl c2)))
      · rw [hzi, hx_some hi (by omega)] at hk
        refine b_X9_span_25 (fun c2 => absurd c2 (by decide)) (fun _ => ?_)
        refine b_X9_span_28 c1 (s_isEnd c1 hm.2 (fun e he hue => ?_) (fun c => b_X9_span_34 (fun _ => b_X9_span_46 (cb := 0) (sb := 0) (bad ?_)) (fun c2 => absurd rfl c2)))
        · rw [hue, hx_some he (by omega)] at hk
          refine b_X9_span_34 (fun c2 => absurd c2 (by decide)) (fun _ => ?_)
          refine b_X9_span_37 c1 (s_isEnd c1 hm.2 (fun f hf hvf => ?_) (fun c => b_X9_span_43 (fun c2 => absurd rfl c2) (fun _ => b_X9_span_46 (cb := 0) (sb := 0) (bad ?_))))
          · rw [hvf, hx_some hf (by omega)] at hk
            simp only at hk
            refine b_X9_span_43 (fun _ => ?_) (fun c2 => absurd c2 (by decide))
            rw [hyr, hzi]
            refine b_X9_span_56 c1 (s_settleFor C hj hr hi fun h1 C1 l1 S1 => ?_)
            have Y1 := Y.lo l1
            have y1 := Y1
            obtain ⟨_, _, _, _, y1, -⟩ := y1
            refine b_X9_span_64 C1.1 rfl y1 (c_look C1 Y1 hj hr hi S1 fun h2 cf lf sf tf Y2 F2 C2 cc2 M2 => ?_)
            have F3 : hFm hP17 h h2 := (hFm.lo l1).tr F2.fm
            have Y3 : hWy h2 := ⟨_, _, _, _, Y2⟩
            refine b_X9_span_75 C2.1 rfl Y2.1 rfl Y2.2.1 e (by rw [hue]; exact hI_at rfl (by omega)) (by omega) (fun q => ?_) (fun q => ?_)
            · have q := (cc2.not0 (by omega)).mp q
              rw [if_neg (fun z => by rw [q] at z; cases z.1)] at hk
              obtain ⟨a, b, c⟩ := thr C2 Y3 F3
              exact b_X9_span_101 (cb := 0) (sb := 0) (hk _ a b c)
            · have q := mt (cc2.not0 (by omega)).mpr q
              rw [Bool.not_eq_false] at q
              refine b_X9_span_88 C2.1 rfl Y2.1 rfl Y2.2.1 f (by rw [hvf]; exact hI_at rfl (by omega)) (by omega) (fun q2 => ?_) (fun q2 => ?_)
              · have q2 := mt (cc2.not0 (by omega)).mpr q2
                rw [Bool.not_eq_false] at q2
                rw [if_pos ⟨q, q2⟩] at hk
                rw [hue, hvf]
                refine b_X9_span_111 C2.1 rfl Y2.1 (s_lengthOf Y2 (by omega) (by omega) ?_)
                rw [M2 e f (by omega) (by omega)]
                have el : hy_L num (hq_E n m w num (Rs j) r i) w e f = hy_len num (hq_E n m w num (Rs j) r i) w e f := by unfold hy_L hy_Lk; rw [if_pos q]
                rw [el]
                exact b_X9_span_122 (hk h2 C2 Y3 F3)
              · have q2 := (cc2.not0 (by omega)).mp q2
                rw [if_neg (fun z => by rw [q2] at z; cases z.2)] at hk
                obtain ⟨a, b, c⟩ := thr C2 Y3 F3
                exact b_X9_span_101 (cb := 0) (sb := 0) (hk _ a b c)
          · rw [hx_none c] at hk
            exact hk
        · rw [hx_none c] at hk
          exact hk
      · rw [hx_none c] at hk
        exact hk
    · rw [hx_none c] at hk
      exact hk
  · rw [hx_none c] at hk
    exact hk
def hq_price (n m w rc : Nat) (num : Nat → Int) (Rs : Nat → hr_R) (x y z u : Int32) : Nat ⊕ Int := match hx x rc, hx y (hw_pow w n), hx z n, hx u m with
  | some j, some r, some i, some e => if hy_cm (hq_E n m w num (Rs j) r i) w e = true ∧ ¬ hy_least m (hy_cm (hq_E n m w num (Rs j) r i) w) (hy_L num (hq_E n m w num (Rs j) r i) w) < 0 then .inr (hy_fl m (hy_cm (hq_E n m w num (Rs j) r i) w) (hy_L num (hq_E n m w num (Rs j) r i) w) m (hy_fst (hy_cm (hq_E n m w num (Rs j) r i) w) m 0) e) else .inl 2
  | _, _, _, _ => .inl 1
theorem s_price (C : hC h n m w rc num Rs rq) (Y : hWy h) {x y z u : Int32} {Q : hk_O → hk_H → Prop} (hk : ∀ h', hC h' n m w rc num Rs rq → hWy h' → hFm hP17 h h' → Q (hq_outI (hq_price n m w rc num Rs x y z u)) h') : hk_E G m_X9_price (d + 5) 1 6 [.ref 4, .int x, .int y, .int z, .int u] h Q := by
  obtain ⟨hn, hm, hw6, hnum⟩ := C.dim
  have hrc := C.rc8
  have hrow := C.rows
  obtain ⟨c1, ⟨pw, c2⟩, c3, c4, c5, c6, c7⟩ := id C
  unfold hq_price at hk
  have thr : ∀ {h1 : hk_H}, hC h1 n m w rc num Rs rq → hWy h1 → hFm hP17 h h1 → hC (h1.1 + 1, h1.2) n m w rc num Rs rq ∧ hWy (h1.1 + 1, h1.2) ∧ hFm hP17 h (h1.1 + 1, h1.2) := fun C1 Y1 F1 => ⟨C1.fr (Nat.le_succ _) fun _ _ => rfl, Y1, ⟨by have := F1.1; show _ ≤ _ + 1; omega, F1.2⟩⟩
  have bad : (∀ h', hC h' n m w rc num Rs rq → hWy h' → hFm hP17 h h' → Q (hq_outI (.inl 1)) h') → Q (.inr "java/lang/IllegalArgumentException") (h.1 + 1, h.2) := fun hk => by
    obtain ⟨a, b, c⟩ := thr C Y hFm.rf
    exact hk _ a b c
  refine ⟨Nat.le_of_ble_eq_true rfl, ?_⟩
  refine b_X9_price_0 c1 (s_ruleAt c1 c4 (fun j hj hxj => ?_) (fun c => b_X9_price_5N0 (cb := 0) (sb := 0) (bad ?_)))
  · rw [hxj, hx_some hj (by omega)] at hk
    refine b_X9_price_5 c1 (s_isRow c1 c2 (fun r hr hyr => ?_) (fun c => b_X9_price_17 (fun _ => b_X9_price_37 (cb := 0) (sb := 0) (bad ?_)) (fun c2 => absurd rfl c2)))
    · rw [hyr, hx_some hr (by omega)] at hk
      refine b_X9_price_17 (fun c2 => absurd c2 (by decide)) (fun _ => ?_)
      refine b_X9_price_20 c1 (s_isPerson c1 hn.2 (fun i hi hzi => ?_) (fun c => b_X9_price_25 (fun _ => b_X9_price_37 (cb := 0) (sb := 0) (bad ?_)) (fun c2 => absurd rfl c2)))
      · rw [hzi, hx_some hi (by omega)] at hk
        refine b_X9_price_25 (fun c2 => absurd c2 (by decide)) (fun _ => ?_)
        refine b_X9_price_28 c1 (s_isEnd c1 hm.2 (fun e he hue => ?_) (fun c => b_X9_price_34 (fun c2 => absurd rfl c2) (fun _ => b_X9_price_37 (cb := 0) (sb := 0) (bad ?_))))
        · rw [hue, hx_some he (by omega)] at hk
          simp only at hk
          refine b_X9_price_34 (fun _ => ?_) (fun c2 => absurd c2 (by decide))
          have hE := hq_E_lt C hj hr hi
          rw [hyr, hzi]
          refine b_X9_price_47 c1 (s_settleFor C hj hr hi fun h1 C1 l1 S1 => ?_)
          have Y1 := Y.lo l1
          have y1 := Y1
          obtain ⟨_, _, _, _, y1, -⟩ := y1
          refine b_X9_price_55 C1.1 rfl y1 (c_look C1 Y1 hj hr hi S1 fun h2 cf lf sf tf Y2 F2 C2 cc2 M2 => ?_)
          have F3 : hFm hP17 h h2 := (hFm.lo l1).tr F2.fm
          have Y3 : hWy h2 := ⟨_, _, _, _, Y2⟩
          generalize hq_E n m w num (Rs j) r i = E at hk hE cc2 M2
          have L0 : ∀ e, e < m → hy_cm E w e = true → hy_L num E w e e = 0 := fun e _ ce => hy_L_0 ce
          refine b_X9_price_66 C2.1 rfl Y2.1 rfl Y2.2.1 e (by rw [hue]; exact hI_at rfl (by omega)) (by omega) (fun q => ?_) (fun q => ?_)
          · have q := (cc2.not0 (by omega)).mp q
            rw [if_neg (fun z => by rw [q] at z; cases z.1)] at hk
            obtain ⟨a, b, c⟩ := thr C2 Y3 F3
            exact b_X9_price_89 (cb := 0) (sb := 0) (hk _ a b c)
          · have q := mt (cc2.not0 (by omega)).mpr q
            rw [Bool.not_eq_false] at q
            obtain ⟨pw2, W2⟩ := C2.2.1
            refine b_X9_price_79 C2.1 rfl Y2.1 (s_hasRound W2 Y2 cc2 M2 (fun e ce => hy_cm_lt hE ce) (hy_L_bd hnum hE hm.2 hw6) (fun i j hij => hy_L_far hnum hE hm.2 hw6 hij) (fun h4 sf4 Y4 F4 M4 ng => ?_) (fun h4 sf4 Y4 F4 M4 ng => ?_))
            · rw [← hy_least_fl hm.2 L0] at ng
              rw [if_neg (fun z => z.2 ng)] at hk
              obtain ⟨a, b, c⟩ := thr (F4.c C2) ⟨_, _, _, _, Y4⟩ (F3.tr F4.fm)
              exact b_X9_price_86 (fun c => absurd c (by decide)) (fun _ => b_X9_price_89 (cb := 0) (sb := 0) (hk _ a b c))
            · rw [← hy_least_fl hm.2 L0] at ng
              rw [if_pos ⟨q, ng⟩] at hk
              refine b_X9_price_86 (fun _ => ?_) (fun c => absurd rfl c)
              obtain ⟨pw4, W4⟩ := (F4.c C2).2.1
              rw [hue]
              exact b_X9_price_99 (F4.c C2).1 rfl Y4.1 (s_priceOf W4 Y4 cc2 M4 ⟨e, he, q⟩ he (b_X9_price_108 (hk h4 (F4.c C2) ⟨_, _, _, _, Y4⟩ (F3.tr F4.fm))))
        · rw [hx_none c] at hk
          exact hk
      · rw [hx_none c] at hk
        exact hk
    · rw [hx_none c] at hk
      exact hk
  · rw [hx_none c] at hk
    exact hk
end SSp
