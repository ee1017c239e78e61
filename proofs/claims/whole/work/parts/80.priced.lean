/-! honest: the rule with prices. -/
theorem hw_in_say {w : Nat} (hw : 1 ≤ w) {v : Nat} (hv : v < w) : ∀ i r, hw_in w (hw_say w r i v) i = v := by
  intro i
  induction i with
  | zero =>
    intro r
    have hm : r % w < w := Nat.mod_lt _ hw
    rw [← hh_d3 (w := w) r, hh_say_0 hm, hh_in_0 hv]
  | succ i ih =>
    intro r
    have hm : r % w < w := Nat.mod_lt _ hw
    rw [← hh_d3 (w := w) r, hh_say_s hm, hh_in_s hm, ih]
theorem hw_say_say {w : Nat} (hw : 1 ≤ w) {u : Nat} (hu : u < w) (v : Nat) : ∀ i r, hw_say w (hw_say w r i u) i v = hw_say w r i v := by
  intro i
  induction i with
  | zero =>
    intro r
    have hm : r % w < w := Nat.mod_lt _ hw
    rw [← hh_d3 (w := w) r, hh_say_0 hm, hh_say_0 hu, hh_say_0 hm]
  | succ i ih =>
    intro r
    have hm : r % w < w := Nat.mod_lt _ hw
    rw [← hh_d3 (w := w) r, hh_say_s hm, hh_say_s hm, hh_say_s hm, ih]
theorem hw_say_in (w r i : Nat) : hw_say w r i (hw_in w r i) = r := by
  unfold hw_say; omega
theorem hy_cm_congr {E E' : Nat → Nat} : ∀ k, (∀ v, v < k → E v = E' v) → hy_cm E k = hy_cm E' k := by
  intro k
  induction k with
  | zero => intro _; rfl
  | succ k ih =>
    intro h
    funext e
    unfold hy_cm
    rw [ih (fun v hv => h v (by omega)), h k (by omega)]
theorem hy_len_congr {num : Nat → Int} {E E' : Nat → Nat} : ∀ k, (∀ v, v < k → E v = E' v) → hy_len num E k = hy_len num E' k := by
  intro k
  induction k with
  | zero => intro _; rfl
  | succ k ih =>
    intro h
    funext e f
    unfold hy_len
    rw [ih (fun v hv => h v (by omega)), h k (by omega)]
theorem hy_L_congr {num : Nat → Int} {E E' : Nat → Nat} {w : Nat} (h : ∀ v, v < w → E v = E' v) : hy_L num E w = hy_L num E' w := by
  funext e f
  unfold hy_L hy_Lk
  rw [hy_cm_congr w h, hy_len_congr w h]
/-- the price of what comes about at a row, for a person -/
def hp_pr (n m w : Nat) (num : Nat → Int) (R : hr_R) (r i : Nat) : Int := hy_fl m (hy_cm (hq_E n m w num R r i) w) (hy_L num (hq_E n m w num R r i) w) m (hy_fst (hy_cm (hq_E n m w num R r i) w) m 0) (hr_end n m w num R r)
def hp_priced (n m w : Nat) (num : Nat → Int) (R : hr_R) : hr_R := (1, fun r => hr_end n m w num R r, fun r i => hp_pr n m w num R r i, fun _ => 0, fun i => if i < 4 then 1 else 0, fun _ => 0)
theorem hy_fl_198 {L : Nat → Nat → Int} {m : Nat} {cm : Nat → Bool} (hL : hy_bd m cm L 198) (h0 : ∀ e, e < m → cm e = true → L e e = 0) (hd : ∀ e, e < m → cm e = true → 0 ≤ hy_fl m cm L m e e) {s f : Nat} (hs : s < m) (cs : cm s = true) (hf : f < m) (cf : cm f = true) : -198 ≤ hy_fl m cm L m s f ∧ hy_fl m cm L m s f ≤ 198 := by
  have t := hy_fl_tri L hd m (Nat.le_refl _) f s s hf cf hs cs hs cs
  have h1 := hd s hs cs
  have h2 := hy_fl_le (m := m) (cm := cm) L (Nat.zero_le m) s f
  have h3 := hy_fl_le (m := m) (cm := cm) L (Nat.zero_le m) f s
  have e1 : hy_fl m cm L 0 s f = L s f := rfl
  have e2 : hy_fl m cm L 0 f s = L f s := rfl
  have b1 := hL s f hs cs hf cf
  have b2 := hL f s hf cf hs cs
  omega
section SPr
variable {G : hk_G} {h h' : hk_H} {n m w rc : Nat} {num : Nat → Int} {Rs : Nat → hr_R} {R R' : hr_R} {rq : Nat → Nat} {q k d : Nat} {ef pf : Nat → Int32}
/-- a rule with payments, told by its rows alone -/
theorem hRu.to1 (H : hRu h q k n m w num R ef pf) (e1 : R.1 = 1) (e1' : R'.1 = 1) (hE : ∀ r, r < hw_pow w n → R'.2.1 r = R.2.1 r) (hP : ∀ r i, r < hw_pow w n → i < n → R'.2.2.1 r i = R.2.2.1 r i) (hr : R'.2.2.2 = R.2.2.2) : hRu h q k n m w num R' ef pf := by
  obtain ⟨⟨o1, o2, o3, o4, o5, o6⟩, h2, h3, h4, h5, h6, h7, h8⟩ := H
  refine ⟨⟨by omega, fun r hr => by rw [hE r hr]; exact o2 r hr, fun r i hr hi => by rw [hP r i hr hi]; exact o3 r i hr hi, by rw [hr]; exact o4, by rw [hr]; exact o5, by rw [hr]; exact o6⟩, h2, by rw [e1']; rw [e1] at h3; exact h3, h4, fun _ => h5 (Or.inl e1), fun c => by omega, fun c => by omega, fun r hr => ?_⟩
  rcases h8 r hr with c | ⟨c1, c2⟩
  · omega
  · right
    have ee : hr_end n m w num R' r = hr_end n m w num R r := by
      unfold hr_end
      rw [if_neg (by omega), if_neg (by omega), if_neg (by omega), if_neg (by omega)]
      exact hE r hr
    refine ⟨by rw [ee]; exact c1, fun _ i hi => ?_⟩
    rw [c2 (Or.inl e1) i hi]
    unfold hr_pay
    rw [if_pos e1, if_pos e1', hP r i hr hi]
theorem hRu.st1 (H : hRu h q k n m w num R ef pf) (hm : 2 ≤ m ∧ m ≤ 5) (e1 : R.1 = 1) {r : Nat} (hr : r < hw_pow w n) : hr_st ef r := by
  have hl := hr_end_lt (num := num) hm.1 H.1 hr
  obtain ⟨h1, h2, h3, h4, h5, h6, h7, h8⟩ := H
  rcases h8 r hr with c | ⟨c1, c2⟩
  · omega
  · unfold hr_st
    rw [c1, show (-1 : Int32) = hI (-1) from rfl, Ne, hI_eq (by omega) (by omega)]
    omega
/-- while the priced rule is made: at q, behind all others -/
def hPr (h0 h : hk_H) (q rc n m w : Nat) (num : Nat → Int) (R : hr_R) (ef pf : Nat → Int32) : Prop := h.1 = q + 3 ∧ (∀ a, a < q → ¬ (14 ≤ a ∧ a ≤ 17) → h.2 a = h0.2 a) ∧ hWy h ∧ hRu h q rc n m w num R ef pf ∧ R.1 = 1 ∧ R.2.2.2 = (hr_new 1).2.2.2
theorem hPr.c {h0 : hk_H} (C : hC h0 n m w rc num Rs rq) (P : hPr h0 h h0.1 k n m w num R ef pf) : hC h n m w rc num Rs rq := C.fr (by rw [P.1]; omega) fun a ha => P.2.1 a (by have := C.2.2.2.2.2.2; omega) (by omega)
theorem hPr.yf {h0 : hk_H} {q : Nat} (hq : 71 ≤ q) (P : hPr h0 h q k n m w num R ef pf) (Y : hWy h') (F : hYf h h') : hPr h0 h' q k n m w num R ef pf := by
  obtain ⟨p1, p2, p3, p4, p5, p6⟩ := P
  exact ⟨by rw [F.1]; exact p1, fun a ha hb => by rw [F.2 a hb]; exact p2 a ha hb, Y, F.r (by omega) p4, p5, p6⟩
theorem hPr.on {h0 : hk_H} {q : Nat} (hq : 71 ≤ q) (P : hPr h0 h q k n m w num R ef pf) {R2 : hr_R} {ef2 pf2 : Nat → Int32} (F : hk_onz h h' q (hr_sz R.1)) (H : hRu h' q k n m w num R2 ef2 pf2) (e1 : R2.1 = 1) (e2 : R2.2.2.2 = R.2.2.2) : hPr h0 h' q k n m w num R2 ef2 pf2 := by
  obtain ⟨p1, p2, p3, p4, p5, p6⟩ := P
  exact ⟨by rw [F.1]; exact p1, fun a ha hb => by rw [F.2 a (by omega)]; exact p2 a ha hb, p3.fr fun a _ _ => F.2 a (by omega), H, e1, by rw [e2]; exact p6⟩
theorem hSt.pr {h0 : hk_H} (C : hC h0 n m w rc num Rs rq) (P : hPr h0 h h0.1 k n m w num R ef pf) {j r : Nat} (hj : j < rc) (H : hSt h0 (rq j) r) : hSt h (rq j) r := by
  obtain ⟨g1, g2, _⟩ := C.2.2.2.2.1 j hj
  have := hr_sz1 (Rs j).1
  exact H.fr (P.2.1 _ (by omega) (by omega))
/-- one look serves all wishes -/
theorem s_payPrices {h0 : hk_H} (C : hC h0 n m w rc num Rs rq) (hw : 1 ≤ w) (P : hPr h0 h h0.1 k n m w num R ef pf) {R0 : hr_R} (hE : ∀ r, r < hw_pow w n → R.2.1 r = hr_end n m w num R0 r) {r i : Nat} (hr : r < hw_pow w n) (hi : i < n) (hpos : ¬ hp_lst n m w num R0 r i < 0) {K : hk_H → Prop} (hk : ∀ h' R' ef' pf', hPr h0 h' h0.1 k n m w num R' ef' pf' → (∀ r', r' < hw_pow w n → R'.2.1 r' = R.2.1 r') → (∀ r' i', R'.2.2.1 r' i' = if i' = i ∧ ∃ v, v < w ∧ r' = hw_say w r i v then hp_pr n m w num R0 r' i else R.2.2.1 r' i') → K h') : hk_Cv G m_X9_payPrices (d + 3) 0 0 [.ref 4, .ref h0.1, .int (hI r), .int (hI i)] h K := by
  obtain ⟨hn, hm, hw6, hnum⟩ := C.dim
  have hrow := C.rows
  have h71 := C.2.2.2.2.2.2
  have hsl : ∀ v, v < w → hw_say w r i v < hw_pow w n := fun v hv => by
    rw [hw_pow_1 hw] at hr ⊢
    exact hw_say_lt hr hi hv
  have endR : ∀ {R : hr_R}, R.1 = 1 → ∀ r', hr_end n m w num R r' = R.2.1 r' := fun e r' => by
    unfold hr_end; rw [if_neg (by omega), if_neg (by omega)]
  have E1 : ∀ v, v < w → hq_E n m w num R r i v = hq_E n m w num R0 r i v := fun v hv => by
    show hr_end n m w num R _ = hr_end n m w num R0 _
    rw [endR P.2.2.2.2.1, hE _ (hsl v hv)]
  have e1 := hy_cm_congr w E1
  have e2 := hy_L_congr (num := num) E1
  have hEl : ∀ v, v < w → hq_E n m w num R0 r i v < m := fun v hv => by
    rw [← E1 v hv]
    exact hr_end_lt hm.1 P.2.2.2.1.1 (hsl v hv)
  have L0 : ∀ e, e < m → hy_cm (hq_E n m w num R0 r i) w e = true → hy_L num (hq_E n m w num R0 r i) w e e = 0 := fun e _ ce => hy_L_0 ce
  have Lb := hy_L_bd hnum hEl hm.2 hw6
  have hcm : ∀ e, hy_cm (hq_E n m w num R0 r i) w e = true → e < m := fun e ce => hy_cm_lt hEl ce
  have hd : ∀ e, e < m → hy_cm (hq_E n m w num R0 r i) w e = true → 0 ≤ hy_fl m (hy_cm (hq_E n m w num R0 r i) w) (hy_L num (hq_E n m w num R0 r i) w) m e e := fun e he ce => by
    by_cases c : 0 ≤ hy_fl m (hy_cm (hq_E n m w num R0 r i) w) (hy_L num (hq_E n m w num R0 r i) w) m e e
    · exact c
    · exact absurd ((hy_least_fl hm.2 L0).mpr ⟨e, he, ce, by omega⟩) hpos
  have comes : ∀ v, v < w → hy_cm (hq_E n m w num R0 r i) w (hq_E n m w num R0 r i v) = true := fun v hv => (hy_cm_is w).mpr ⟨v, hv, rfl⟩
  have hex : ∃ x, x < m ∧ hy_cm (hq_E n m w num R0 r i) w x = true := ⟨_, hEl 0 (by omega), comes 0 (by omega)⟩
  have hfst := hy_fst_is (cm := hy_cm (hq_E n m w num R0 r i) w) m 0 (by obtain ⟨x, a, b⟩ := hex; exact ⟨x, Nat.zero_le _, by omega, b⟩)
  rw [Nat.zero_add] at hfst
  have C1 := P.c C
  obtain ⟨c1, ⟨pw, c2⟩, -⟩ := id C1
  obtain ⟨cf, lf, sf, tf, Y⟩ := P.2.2.1
  refine ⟨Nat.le_of_ble_eq_true rfl, ?_⟩
  refine b_X9_payPrices_0 c1 rfl Y.1 (s_look c2 P.2.2.2.1 (by omega) hw Y hr hi (fun v hv => P.2.2.2.1.st1 hm P.2.2.2.2.1 (hsl v hv)) fun h1 cf1 lf1 Y1 F1 cc1 M1 => ?_)
  have cc1 : hYc cf1 (hy_cm (hq_E n m w num R0 r i) w) := by rw [← e1]; exact cc1
  have M1 : hYm lf1 (hy_L num (hq_E n m w num R0 r i) w) := by rw [← e2]; exact M1
  have P1 := P.yf h71 ⟨_, _, _, _, Y1⟩ F1
  have C2 := P1.c C
  obtain ⟨d1, ⟨pw2, d2⟩, -⟩ := id C2
  refine b_X9_payPrices_10 d1 rfl Y1.1 (s_shorten d2 Y1 cc1 M1 hcm Lb (fun i j hij => hy_L_far hnum hEl hm.2 hw6 hij) fun h2 sf2 Y2 F2 M2 => ?_)
  have P2 := P1.yf h71 ⟨_, _, _, _, Y2⟩ F2
  refine b_X9_payPrices_17 ?_
  refine hk_upto (P := fun v => ∀ h' R' ef' pf' (o5 : Option Value), hPr h0 h' h0.1 k n m w num R' ef' pf' → hYs h' cf1 lf1 sf2 tf → (∀ r', r' < hw_pow w n → R'.2.1 r' = R.2.1 r') → (∀ r' i', R'.2.2.1 r' i' = if i' = i ∧ ∃ u, u < v ∧ r' = hw_say w r i u then hp_pr n m w num R0 r' i else R.2.2.1 r' i') → hk_S G m_X9_payPrices (d + 3) 0 0 20 [some (.ref 4), some (.ref h0.1), some (.int (hI (r : Int))), some (.int (hI (i : Int))), some (.int (hI (v : Int))), o5] [] h' (fun o h' => o = .inl none ∧ K h')) w (fun v hv ih h' R' ef' pf' o5 P' Y' E' V' => ?_) h2 R ef pf none P2 Y2 (fun _ _ => rfl) (fun r' i' => by rw [if_neg]; rintro ⟨_, u, hu, _⟩; omega)
  have C3 := P'.c C
  refine b_X9_payPrices_20 C3.1 rfl C3.w1 rfl (fun cc => ?_) (fun cc => ?_)
  · rw [hN_le (by omega) (by omega)] at cc
    have ev : v = w := by omega
    subst ev
    exact b_X9_payPrices_72 ⟨rfl, hk h' R' ef' pf' P' E' V'⟩
  · rw [hN_le (by omega) (by omega)] at cc
    have hvw : v < w := by omega
    obtain ⟨pw3, d3⟩ := C3.2.1
    have hsv := hsl v hvw
    refine b_X9_payPrices_32 C3.1 rfl C3.w1 (s_rowSaying d3 hw (by omega) hi ?_)
    have ob : h'.2 h0.1 = some (.inr (3, hr_fs 1 h0.1 k)) := by
      have := P'.2.2.2.1.2.2.1
      rw [P'.2.2.2.2.1] at this
      exact this
    have eend : hr_end n m w num R' (hw_say w r i v) = hq_E n m w num R0 r i v := by
      rw [endR P'.2.2.2.2.1, E' _ hsv, hE _ hsv]; rfl
    refine b_X9_payPrices_43 C3.1 rfl di_X3_endAt_3 ob (s_endAt P'.2.2.2.1 hrow hsv (P'.2.2.2.1.st1 hm P'.2.2.2.2.1 hsv) ?_)
    rw [eend]
    refine b_X9_payPrices_59 Y'.1 (s_priceOf d3 Y' cc1 M2 hex (hEl v hvw) ?_)
    have hb := hy_fl_198 Lb L0 hd hfst.2 hfst.1 (hEl v hvw) (comes v hvw)
    have hpr : hy_fl m (hy_cm (hq_E n m w num R0 r i) w) (hy_L num (hq_E n m w num R0 r i) w) m (hy_fst (hy_cm (hq_E n m w num R0 r i) w) m 0) (hq_E n m w num R0 r i v) = hp_pr n m w num R0 (hw_say w r i v) i := by
      unfold hp_pr
      rw [show hq_E n m w num R0 (hw_say w r i v) i = hq_E n m w num R0 r i from funext fun u => by
        unfold hq_E
        rw [hw_say_say hw hvw]]
      rfl
    rw [hpr] at hb ⊢
    have ob1 : hr_mCP R'.1 = m_X3_changePayment := by rw [P'.2.2.2.2.1]; rfl
    refine b_X9_payPrices_62 di_X3_changePayment_3 ob ?_
    rw [← ob1]
    refine s_changePayment d3 P'.2.2.2.1 P'.2.2.2.2.1 hsv hi ⟨by omega, by omega⟩ fun h4 F4 H4 => ?_
    refine b_X9_payPrices_65 ?_
    rw [hI_1]
    have zz := hr_sz1 R'.1
    refine ih hvw h4 _ _ _ _ (P'.on h71 F4 H4 P'.2.2.2.2.1 rfl) ?_ E' (fun r' i' => ?_)
    · obtain ⟨y1, y2, y3, y4, y5⟩ := Y'
      exact ⟨(F4.2 _ (by omega)).trans y1, (F4.2 _ (by omega)).trans y2, (F4.2 _ (by omega)).trans y3, (F4.2 _ (by omega)).trans y4, (F4.2 _ (by omega)).trans y5⟩
    · show (if r' = hw_say w r i v ∧ i' = i then _ else R'.2.2.1 r' i') = _
      by_cases c : r' = hw_say w r i v ∧ i' = i
      · rw [if_pos c, if_pos ⟨c.2, v, by omega, c.1⟩, c.1]
      · rw [if_neg c, V']
        by_cases c2 : i' = i ∧ ∃ u, u < v ∧ r' = hw_say w r i u
        · obtain ⟨a, u, b1, b2⟩ := c2
          rw [if_pos ⟨a, u, b1, b2⟩, if_pos ⟨a, u, by omega, b2⟩]
        · rw [if_neg c2, if_neg]
          rintro ⟨a, u, b1, b2⟩
          by_cases c3 : u = v
          · subst c3; exact c ⟨b2, a⟩
          · exact c2 ⟨a, u, by omega, b2⟩
end SPr
