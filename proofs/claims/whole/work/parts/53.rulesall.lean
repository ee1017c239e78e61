/-! All rules of the class together, and what leaves them as they are. -/
theorem hN_le {a b : Nat} (ha : a < 2147483648) (hb : b < 2147483648) : hI (a : Int) ≤ hI (b : Int) ↔ a ≤ b := by
  rw [hI_le (hI_rN ha) (hI_rN hb)]; omega
theorem hN_lt {a b : Nat} (ha : a < 2147483648) (hb : b < 2147483648) : hI (a : Int) < hI (b : Int) ↔ a < b := by
  rw [hI_lt (hI_rN ha) (hI_rN hb)]; omega
theorem hN_eq {a b : Nat} (ha : a < 2147483648) (hb : b < 2147483648) : hI (a : Int) = hI (b : Int) ↔ a = b := by
  rw [hI_eq (hI_rN ha) (hI_rN hb)]; omega
/-- a counted loop: at each place, if the next place is done, this one is -/
theorem hk_upto {P : Nat → Prop} (n : Nat) (h : ∀ i, i ≤ n → (i < n → P (i + 1)) → P i) : P 0 := by
  have key : ∀ c i, n - i = c → i ≤ n → P i := by
    intro c
    induction c with
    | zero => intro i hc hi; exact h i hi (fun hlt => by omega)
    | succ c ih => intro i hc hi; exact h i hi (fun hlt => ih (i + 1) (by omega) (by omega))
  exact key n 0 (by omega) (by omega)
theorem hk_uptoF {P : Nat → Prop} (s n : Nat) (hsn : s ≤ n) (h : ∀ i, s ≤ i → i ≤ n → (i < n → P (i + 1)) → P i) : P s := by
  have key : ∀ c i, n - i = c → s ≤ i → i ≤ n → P i := by
    intro c
    induction c with
    | zero => intro i hc hs hi; exact h i hs hi (fun hlt => by omega)
    | succ c ih => intro i hc hs hi; exact h i hs hi (fun hlt => ih (i + 1) (by omega) (by omega) (by omega))
  exact key (n - s) s rfl (Nat.le_refl _) hsn
/-- only cells from 71 on have changed -/
def hLo (h h' : hk_H) : Prop := h.1 ≤ h'.1 ∧ ∀ a, a < 71 → h'.2 a = h.2 a
theorem hLo.rf {h : hk_H} : hLo h h := ⟨Nat.le_refl _, fun _ _ => rfl⟩
theorem hLo.tr {h h' h'' : hk_H} (H : hLo h h') (H' : hLo h' h'') : hLo h h'' := ⟨Nat.le_trans H.1 H'.1, fun a ha => (H'.2 a ha).trans (H.2 a ha)⟩
theorem hO.fr {h h' : hk_H} {n m rc : Nat} (H : hO h n m rc) (e : h'.2 4 = h.2 4) : hO h' n m rc := e.trans H
theorem hW.fr {h h' : hk_H} {n m w : Nat} {num : Nat → Int} {pf : Nat → Int32} (H : hW h n m w num pf) (e : ∀ a, 5 ≤ a → a ≤ 7 → h'.2 a = h.2 a) : hW h' n m w num pf := by
  obtain ⟨h1, h2, h3, h4, h5⟩ := H
  exact ⟨(e 5 (by omega) (by omega)).trans h1, (e 6 (by omega) (by omega)).trans h2, (e 7 (by omega) (by omega)).trans h3, h4, h5⟩
theorem hRs.fr {h h' : hk_H} {rc : Nat} {rq : Nat → Nat} (H : hRs h rc rq) (e : h'.2 8 = h.2 8) : hRs h' rc rq := by
  obtain ⟨f, h1, h2, h3⟩ := H
  exact ⟨f, e.trans h1, h2, h3⟩
theorem hr_sz1 (kd : Nat) : 1 ≤ hr_sz kd ∧ hr_sz kd ≤ 5 := by unfold hr_sz; split <;> (try split) <;> (try split) <;> omega
theorem hRu.fr {h h' : hk_H} {q k n m w : Nat} {num : Nat → Int} {R : hr_R} {ef pf : Nat → Int32} (H : hRu h q k n m w num R ef pf) (e : ∀ a, q ≤ a → a ≤ q + hr_sz R.1 → h'.2 a = h.2 a) : hRu h' q k n m w num R ef pf := by
  obtain ⟨h1, h2, h3, h4, h5, h6, h7, h8⟩ := H
  have hz := hr_sz1 R.1
  refine ⟨h1, h2, ?_, ?_, fun c => ?_, fun c => ?_, fun c => ?_, h8⟩
  · rw [e q (by omega) (by omega)]; exact h3
  · rw [e (q + 1) (by omega) (by omega)]; exact h4
  · have hz2 : 2 ≤ hr_sz R.1 := by rcases c with c | c <;> rw [c] <;> decide
    rw [e (q + 2) (by omega) (by omega)]; exact h5 c
  · have hz2 : hr_sz R.1 = 5 := by rw [c]; rfl
    obtain ⟨g1, g2, sf, g3⟩ := h6 c
    exact ⟨by rw [e _ (by omega) (by omega)]; exact g1, by rw [e _ (by omega) (by omega)]; exact g2, sf, by rw [e _ (by omega) (by omega)]; exact g3⟩
  · have hz2 : hr_sz R.1 = 3 := by rw [c]; rfl
    obtain ⟨g1, sf, g2⟩ := h7 c
    exact ⟨by rw [e _ (by omega) (by omega)]; exact g1, sf, by rw [e _ (by omega) (by omega)]; exact g2⟩
def hC (h : hk_H) (n m w rc : Nat) (num : Nat → Int) (Rs : Nat → hr_R) (rq : Nat → Nat) : Prop :=
  hO h n m rc ∧ (∃ pw, hW h n m w num pw) ∧ (0 < rc → 1 ≤ w) ∧ hRs h rc rq ∧ (∀ j, j < rc → 71 ≤ rq j ∧ rq j + hr_sz (Rs j).1 < h.1 ∧ ∃ ef pf, hRu h (rq j) j n m w num (Rs j) ef pf) ∧ (∀ j j', j < j' → j' < rc → rq j + hr_sz (Rs j).1 < rq j') ∧ 71 ≤ h.1
/-- a row that is worked out, told by the heap alone -/
def hSt (h : hk_H) (q r : Nat) : Prop := ∀ N f, h.2 (q + 1) = some (hc_i32 N f) → f r ≠ -1
section RA
variable {G : hk_G} {h h' : hk_H} {n m w rc : Nat} {num : Nat → Int} {Rs : Nat → hr_R} {rq : Nat → Nat} {d : Nat}
theorem hC.dim (C : hC h n m w rc num Rs rq) : hw_dim n m w num := by
  obtain ⟨-, ⟨pw, hw⟩, -⟩ := C
  exact hw.2.2.2.2
theorem hC.rows (C : hC h n m w rc num Rs rq) : hw_pow w n ≤ 1296 := hw_pow_lt C.dim.2.2.1 C.dim.1.2
theorem hC.ok (C : hC h n m w rc num Rs rq) {j : Nat} (hj : j < rc) : hr_ok n m w (Rs j) := by
  obtain ⟨-, -, -, -, h5, -⟩ := C
  obtain ⟨-, -, ef, pf, H⟩ := h5 j hj
  exact H.1
theorem hC.obj (C : hC h n m w rc num Rs rq) {j : Nat} (hj : j < rc) : h.2 (rq j) = some (.inr (hr_ci (Rs j).1, hr_fs (Rs j).1 (rq j) j)) := by
  obtain ⟨-, -, -, -, h5, -⟩ := C
  obtain ⟨-, -, ef, pf, H⟩ := h5 j hj
  exact H.2.2.1
theorem hC.w1 (C : hC h n m w rc num Rs rq) : h.2 5 = some (.inr (8, [.int (hI n), .int (hI m), .ref 6, .ref 7, .int (hI w), .int (hI (hw_pow w n))])) := by
  obtain ⟨-, ⟨pw, hw⟩, -⟩ := C
  exact hw.1
theorem hC.fr (C : hC h n m w rc num Rs rq) (h1 : h.1 ≤ h'.1) (e : ∀ a, (4 ≤ a ∧ a ≤ 8) ∨ (71 ≤ a ∧ a < h.1) → h'.2 a = h.2 a) : hC h' n m w rc num Rs rq := by
  obtain ⟨c1, ⟨pw, c2⟩, c3, c4, c5, c6, c7⟩ := C
  refine ⟨c1.fr (e 4 (by omega)), ⟨pw, c2.fr fun a ha hb => e a (by omega)⟩, c3, c4.fr (e 8 (by omega)), fun j hj => ?_, c6, by omega⟩
  obtain ⟨g1, g2, ef, pf, H⟩ := c5 j hj
  exact ⟨g1, by omega, ef, pf, H.fr fun a ha hb => e a (by omega)⟩
/-- one rule is another now -/
theorem hC.one (C : hC h n m w rc num Rs rq) {j : Nat} (hj : j < rc) (ho : hk_onz h h' (rq j) (hr_sz (Rs j).1)) {R' : hr_R} {ef' pf' : Nat → Int32} (hR : hRu h' (rq j) j n m w num R' ef' pf') (hk : R'.1 = (Rs j).1) : hC h' n m w rc num (fun x => if x = j then R' else Rs x) rq := by
  obtain ⟨c1, ⟨pw, c2⟩, c3, c4, c5, c6, c7⟩ := C
  have hq := (c5 j hj).1
  have hz : ∀ x, hr_sz ((fun x => if x = j then R' else Rs x) x).1 = hr_sz (Rs x).1 := fun x => by
    by_cases e : x = j
    · simp only [e, if_true]; rw [hk]
    · simp only [e, if_false]
  refine ⟨c1.fr (ho.2 4 (by omega)), ⟨pw, c2.fr fun a ha hb => ho.2 a (by omega)⟩, c3, c4.fr (ho.2 8 (by omega)), fun x hx => ?_, fun x x' hl hx => ?_, by rw [ho.1]; exact c7⟩
  · obtain ⟨g1, g2, ef, pf, H⟩ := c5 x hx
    rw [hz]
    refine ⟨g1, by rw [ho.1]; exact g2, ?_⟩
    by_cases e : x = j
    · subst e
      simp only [if_true]
      exact ⟨ef', pf', hR⟩
    · simp only [e, if_false]
      refine ⟨ef, pf, H.fr fun a ha hb => ho.2 a fun c => ?_⟩
      rcases Nat.lt_or_gt_of_ne e with l | l
      · have := c6 x j l hj; omega
      · have := c6 j x l hx; omega
  · rw [hz]; exact c6 x x' hl hx
theorem hSt.of {q k : Nat} {R : hr_R} {ef pf : Nat → Int32} (H : hRu h q k n m w num R ef pf) {r : Nat} : hSt h q r ↔ hr_st ef r := by
  constructor
  · intro hs; exact hs _ _ H.2.2.2.1
  · intro hs N f hf
    rw [H.2.2.2.1] at hf
    cases hf
    exact hs
theorem hSt.fr {q r : Nat} (H : hSt h q r) (e : h'.2 (q + 1) = h.2 (q + 1)) : hSt h' q r := fun N f hf => H N f (by rw [← e]; exact hf)
theorem s_settleC (C : hC h n m w rc num Rs rq) {j r : Nat} (hj : j < rc) (hr : r < hw_pow w n) {K : hk_H → Prop} (hk : ∀ h', hC h' n m w rc num Rs rq → hLo h h' → hSt h' (rq j) r → (∀ j' r', j' < rc → hSt h (rq j') r' → hSt h' (rq j') r') → K h') : hk_Cv G (hr_mSettle (Rs j).1) (d + 3) 0 0 [.ref (rq j), .int (hI r)] h K := by
  obtain ⟨c1, ⟨pw, c2⟩, c3, c4, c5, c6, c7⟩ := id C
  obtain ⟨g1, g2, ef, pf, H⟩ := c5 j hj
  refine s_settle c2 H (c3 (by omega)) hr fun h' ef' pf' ho hR hs hm => ?_
  have C' := C.one hj ho hR rfl
  have e : (fun x => if x = j then Rs j else Rs x) = Rs := by
    funext x
    by_cases e : x = j <;> simp [e]
  rw [e] at C'
  refine hk h' C' ⟨by rw [ho.1]; exact Nat.le_refl _, fun a ha => ho.2 a (by omega)⟩ ((hSt.of hR).mpr hs) fun j' r' hj' hs' => ?_
  by_cases e : j' = j
  · subst e
    exact (hSt.of hR).mpr (hm r' ((hSt.of H).mp hs'))
  · refine hs'.fr (ho.2 _ fun c => ?_)
    have hz := hr_sz1 (Rs j').1
    have hz' := hr_sz1 (Rs j).1
    rcases Nat.lt_or_gt_of_ne e with l | l
    · have := c6 j' j l hj; omega
    · have := c6 j j' l hj'; omega
theorem c_endAt (C : hC h n m w rc num Rs rq) {j r : Nat} (hj : j < rc) (hr : r < hw_pow w n) (hs : hSt h (rq j) r) {K : Int32 → hk_H → Prop} (hk : K (hI (hr_end n m w num (Rs j) r)) h) : hk_Ci G m_X5_endAt d 0 0 [.ref (rq j), .int (hI r)] h K := by
  obtain ⟨-, ⟨pw, c2⟩, c3, c4, c5, c6, c7⟩ := id C
  obtain ⟨g1, g2, ef, pf, H⟩ := c5 j hj
  exact s_endAt H C.rows hr ((hSt.of H).mp hs) hk
theorem c_paymentAt (C : hC h n m w rc num Rs rq) {j r i : Nat} (hj : j < rc) (hr : r < hw_pow w n) (hi : i < n) (hs : hSt h (rq j) r) {K : Int32 → hk_H → Prop} (hk : K (hI (hr_pay n m w num (Rs j) r i)) h) : hk_Ci G (hr_mPay (Rs j).1) d 0 0 [.ref (rq j), .int (hI r), .int (hI i)] h K := by
  obtain ⟨-, ⟨pw, c2⟩, c3, c4, c5, c6, c7⟩ := id C
  obtain ⟨g1, g2, ef, pf, H⟩ := c5 j hj
  exact s_paymentAt c2 H hr hi ((hSt.of H).mp hs) hk
theorem c_profit (C : hC h n m w rc num Rs rq) {j r i a : Nat} (hj : j < rc) (hr : r < hw_pow w n) (hi : i < n) (ha : a < w) (hs : hSt h (rq j) r) {K : Int32 → hk_H → Prop} (hk : K (hI (hr_val n m w num (Rs j) r i a)) h) : hk_Ci G m_X5_profit (d + 1) 0 0 [.ref (rq j), .int (hI r), .int (hI i), .int (hI a)] h K := by
  have := C.dim.2.2.1
  obtain ⟨-, ⟨pw, c2⟩, c3, c4, c5, c6, c7⟩ := id C
  obtain ⟨g1, g2, ef, pf, H⟩ := c5 j hj
  exact s_profit c2 H hr hi (by omega) ((hSt.of H).mp hs) hk
theorem c_wishIn (C : hC h n m w rc num Rs rq) {j r i : Nat} (hj : j < rc) (hr : r < hw_pow w n) (hi : i < n) {K : Int32 → hk_H → Prop} (hk : K (hI (hw_in w r i)) h) : hk_Ci G m_X8_wishIn d 0 0 [.ref 5, .int (hI r), .int (hI i)] h K := by
  have := C.rows
  obtain ⟨-, ⟨pw, c2⟩, c3, c4, c5, c6, c7⟩ := id C
  exact s_wishIn c2 (c3 (by omega)) (by omega) hi hk
theorem c_rowSaying (C : hC h n m w rc num Rs rq) {j r i v : Nat} (hj : j < rc) (hr : r < hw_pow w n) (hi : i < n) (hv : v < w) {K : Int32 → hk_H → Prop} (hk : hw_say w r i v < hw_pow w n → K (hI (hw_say w r i v)) h) : hk_Ci G m_X8_rowSaying (d + 1) 0 0 [.ref 5, .int (hI r), .int (hI i), .int (hI v)] h K := by
  have := C.rows
  obtain ⟨-, ⟨pw, c2⟩, c3, c4, c5, c6, c7⟩ := id C
  have hw := c3 (by omega)
  refine s_rowSaying c2 hw (r := r) (by omega) hi (hk ?_)
  rw [hw_pow_1 hw] at hr ⊢
  exact hw_say_lt hr hi hv
/-- settle all rows of a rule -/
theorem s_settledRule (C : hC h n m w rc num Rs rq) {x : Int32} {K : Option Nat → hk_H → Prop} (hk1 : ∀ j h', j < rc → x = hI (j : Int) → hC h' n m w rc num Rs rq → hLo h h' → (∀ r, r < hw_pow w n → hSt h' (rq j) r) → (∀ j' r', j' < rc → hSt h (rq j') r' → hSt h' (rq j') r') → K (some (rq j)) h') (hk0 : ¬ hIn x rc → K none h) : hk_Cr G m_X9_settledRule (d + 4) 0 0 [.ref 4, .int x] h K := by
  obtain ⟨c1, ⟨pw, c2⟩, c3, c4, c5, c6, c7⟩ := id C
  have hrow := C.rows
  refine ⟨Nat.le_of_ble_eq_true rfl, ?_⟩
  refine b_X9_settledRule_0 c1 (s_ruleAt c1 c4 (fun j hj hx => ?_) (fun hx => b_X9_settledRule_5N0 ⟨none, rfl, hk0 hx⟩))
  refine b_X9_settledRule_5 ?_
  refine hk_upto (P := fun i => ∀ h', hC h' n m w rc num Rs rq → hLo h h' → (∀ r, r < i → hSt h' (rq j) r) → (∀ j' r', j' < rc → hSt h (rq j') r' → hSt h' (rq j') r') → hk_S G m_X9_settledRule (d + 4) 0 0 12 [some (.ref 4), some (.int x), some (.ref (rq j)), some (.int (hI (i : Int)))] [] h' (fun o h' => ∃ r, o = .inl (some (hk_rf r)) ∧ K r h')) (hw_pow w n) (fun i hi ih h' C' hl hs hm => ?_) h C hLo.rf (fun r hr => by omega) (fun _ _ _ hs => hs)
  refine b_X9_settledRule_12 C'.1 rfl C'.w1 rfl (fun c => ?_) (fun c => ?_)
  · rw [hN_le (by omega) (by omega)] at c
    exact b_X9_settledRule_34 ⟨some (rq j), rfl, hk1 j h' hj hx C' hl (fun r hr => hs r (by omega)) hm⟩
  · rw [hN_le (by omega) (by omega)] at c
    refine b_X9_settledRule_23 (hr_dSettle (C'.ok hj).1) (C'.obj hj) (s_settleC C' hj (by omega) fun h2 C2 l2 s2 m2 => ?_)
    refine b_X9_settledRule_28 ?_
    rw [hI_1]
    refine ih (by omega) h2 C2 (hl.tr l2) (fun r hr => ?_) (fun j' r' hj' hs' => m2 j' r' hj' (hm j' r' hj' hs'))
    by_cases e : r = i
    · rw [e]; exact s2
    · exact m2 j r hj (hs r (by omega))
theorem s_settleFor (C : hC h n m w rc num Rs rq) {j r i : Nat} (hj : j < rc) (hr : r < hw_pow w n) (hi : i < n) {K : hk_H → Prop} (hk : ∀ h', hC h' n m w rc num Rs rq → hLo h h' → (∀ v, v < w → hSt h' (rq j) (hw_say w r i v)) → K h') : hk_Cv G m_X9_settleFor (d + 4) 0 0 [.ref 4, .ref (rq j), .int (hI r), .int (hI i)] h K := by
  obtain ⟨hn, hm, hw6, hnum⟩ := C.dim
  refine ⟨Nat.le_of_ble_eq_true rfl, ?_⟩
  refine b_X9_settleFor_0 ?_
  refine hk_upto (P := fun v => ∀ h', hC h' n m w rc num Rs rq → hLo h h' → (∀ u, u < v → hSt h' (rq j) (hw_say w r i u)) → hk_S G m_X9_settleFor (d + 4) 0 0 3 [some (.ref 4), some (.ref (rq j)), some (.int (hI (r : Int))), some (.int (hI (i : Int))), some (.int (hI (v : Int)))] [] h' (fun o h' => o = .inl none ∧ K h')) w (fun v hv ih h' C' hl hs => ?_) h C hLo.rf (fun r hr => by omega)
  refine b_X9_settleFor_3 C'.1 rfl C'.w1 rfl (fun c => ?_) (fun c => ?_)
  · rw [hN_le (by omega) (by omega)] at c
    exact b_X9_settleFor_36 ⟨rfl, hk h' C' hl (fun u hu => hs u (by omega))⟩
  · rw [hN_le (by omega) (by omega)] at c
    refine b_X9_settleFor_15 C'.1 rfl C'.w1 (c_rowSaying C' hj hr hi (by omega) fun hlt => ?_)
    refine b_X9_settleFor_27 (hr_dSettle (C'.ok hj).1) (C'.obj hj) (s_settleC C' hj hlt fun h2 C2 l2 s2 m2 => ?_)
    refine b_X9_settleFor_30 ?_
    rw [hI_1]
    refine ih (by omega) h2 C2 (hl.tr l2) (fun u hu => ?_)
    by_cases e : u = v
    · rw [e]; exact s2
    · exact m2 j _ hj (hs u (by omega))
end RA
