/-! The class's Heap: its searches. -/
theorem hI_ij {e i : Nat} {q : Nat} (hq : q < 1000) (he : e < 1000) (hi : i < 1000) : (hI (e : Int) * hI (q : Int) + hI (i : Int)).toInt = ((e * q + i : Nat) : Int) := by
  rw [hI_mul, hI_add]
  have : e * q < 1000 * 1000 := by
    have h1 : e * q ≤ 1000 * q := Nat.mul_le_mul_right _ (by omega)
    omega
  exact hI_at (by push_cast; rfl) (by omega)
theorem hw_pos {w n : Nat} (hw : 1 ≤ w) : 1 ≤ hw_pow w n := by rw [hw_pow_1 hw]; exact Nat.pow_pos hw
section SHq
variable {G : hk_G} {h h' : hk_H} {n m w rc : Nat} {num : Nat → Int} {Rs : Nat → hr_R} {rq : Nat → Nat} {j H W d : Nat} {c o z c' : Nat → Int32}
/-- the least payments, as numbers -/
def hh_cv (c : Nat → Int32) (cv : Nat → Int) : Prop := ∀ p, p < 20 → c p = hI (cv p) ∧ -9999 ≤ cv p ∧ cv p ≤ 1000000
theorem hh_cv_up {c : Nat → Int32} {cv : Nat → Int} (h : hh_cv c cv) {p : Nat} {v : Int} (hv : -9999 ≤ v ∧ v ≤ 9999) : hh_cv (upd c p (hI (min (cv p) v))) (fun x => if x = p then min (cv p) v else cv x) := by
  intro x hx
  have h1 := h x hx
  unfold upd
  show (if x = p then _ else _) = hI (if x = p then _ else _) ∧ -9999 ≤ (if x = p then _ else _) ∧ (if x = p then _ else _) ≤ (1000000 : Int)
  by_cases e : x = p
  · subst e
    simp only [if_pos rfl]
    exact ⟨by first | rfl | trivial, by omega, by omega⟩
  · simp only [if_neg e]; exact h1
theorem hh_up_le {cv : Nat → Int} {p : Nat} {v : Int} (y : Nat) : (if y = p then min (cv p) v else cv y) ≤ cv y := by
  by_cases e : y = p
  · rw [if_pos e, e]; exact Int.min_le_left _ _
  · rw [if_neg e]; exact Int.le_refl _
theorem hh_up_at {cv : Nat → Int} {p : Nat} {v : Int} : (if p = p then min (cv p) v else cv p) ≤ v := by
  rw [if_pos rfl]; exact Int.min_le_right _ _
theorem s_findCheapest (X : hHC h n m w rc num Rs rq j H W c o z) (hj : j < rc) (hH : H < 16) (hW : W = hh_words w n H) (hWb : W ≤ 1296) {s : Nat} (hs : s < hw_pow w n) (hst : hh_start w n H s = s) {K : hk_H → Prop} (hk : ∀ h' c' cv, hHC h' n m w rc num Rs rq j H W c' o z → hFm hP12 h h' → hh_cv c' cv → (∀ k, k < W → ∀ i, i < n → cv (hr_end n m w num (Rs j) (hh_row w n H s k) * 4 + i) ≤ hr_pay n m w num (Rs j) (hh_row w n H s k) i) → K h') : hk_Cv G m_X0_findCheapest (d + 3) 0 0 [.ref 9, .ref (rq j), .int (hI s)] h K := by
  obtain ⟨hn, hm, hw6, hnum⟩ := X.1.dim
  have hw := X.1.w0 hj
  have hrow := X.1.rows
  refine ⟨Nat.le_of_ble_eq_true rfl, ?_⟩
  refine b_X0_findCheapest_0 X.2.2.1 rfl (s_fill X.2.2.2.1 (by omega) (by omega) fun g hg => ?_)
  have X1 := X.set10 hj (c' := g)
  have F1 : hFm hP12 h (hk_set h 10 (hc_i32 20 g)) := hFm.rf.set (by unfold hP12; omega)
  refine b_X0_findCheapest_9 ?_
  refine hk_upto (P := fun k => ∀ h' c' cv (r : Nat) (o5 o6 o7 : Option Value), hk_c1 o5 → hk_c1 o6 → hHC h' n m w rc num Rs rq j H W c' o z → hFm hP12 h h' → hh_cv c' cv → (∀ k', k' < k → ∀ i, i < n → cv (hr_end n m w num (Rs j) (hh_row w n H s k') * 4 + i) ≤ hr_pay n m w num (Rs j) (hh_row w n H s k') i) → (k < W → r = hh_row w n H s k) → hk_S G m_X0_findCheapest (d + 3) 0 0 14 [some (.ref 9), some (.ref (rq j)), some (.int (hI s)), some (.int (hI (r : Int))), some (.int (hI (k : Int))), o5, o6, o7] [] h' (fun o h' => o = .inl none ∧ K h')) W (fun k hk1 ih h' c' cv r o5 o6 o7 q5 q6 X' F' V' L' hr => ?_) _ g (fun _ => 1000000) s none none none hk_c10 hk_c10 X1 F1 (fun p hp => ⟨hg p hp, by show (-9999 : Int) ≤ 1000000; omega, by show (1000000 : Int) ≤ 1000000; omega⟩) (fun k' hk' => by omega) (fun _ => by rw [hh_row_0, hst])
  refine b_X0_findCheapest_14 X'.2.2.1 rfl (fun cc => ?_) (fun cc => ?_)
  · rw [hN_le (by omega) (by omega)] at cc
    exact b_X0_findCheapest_96 ⟨rfl, hk h' c' cv X' F' V' fun k' hk' => L' k' (by omega)⟩
  · rw [hN_le (by omega) (by omega)] at cc
    have hrr := hr (by omega)
    have hrl : r < hw_pow w n := by rw [hrr, hw_pow_1 hw]; exact hh_row_lt hw _ _ _ _
    have hel := hr_end_lt (num := num) (r := r) hm.1 (X'.1.ok hj) hrl
    refine b_X0_findCheapest_23 (hr_dEnd (X'.1.ok hj).1) (X'.1.obj hj) (c_endAt X'.1 hj hrl (X'.2.1 r hrl) ?_)
    refine b_X0_findCheapest_28 ?_
    refine hk_upto (P := fun i => ∀ h' c' cv (o7 : Option Value), hHC h' n m w rc num Rs rq j H W c' o z → hFm hP12 h h' → hh_cv c' cv → (∀ k', k' < k → ∀ i, i < n → cv (hr_end n m w num (Rs j) (hh_row w n H s k') * 4 + i) ≤ hr_pay n m w num (Rs j) (hh_row w n H s k') i) → (∀ i', i' < i → cv (hr_end n m w num (Rs j) r * 4 + i') ≤ hr_pay n m w num (Rs j) r i') → hk_S G m_X0_findCheapest (d + 3) 0 0 33 [some (.ref 9), some (.ref (rq j)), some (.int (hI s)), some (.int (hI (r : Int))), some (.int (hI (k : Int))), some (.int (hI (hr_end n m w num (Rs j) r : Nat))), some (.int (hI (i : Int))), o7] [] h' (fun o h' => o = .inl none ∧ K h')) n (fun i hi ih2 h' c' cv o7 X' F' V' L' M' => ?_) h' c' cv o7 X' F' V' L' (fun i' hi' => by omega)
    refine b_X0_findCheapest_33 X'.2.2.1 rfl X'.1.w1 rfl (fun c2 => ?_) (fun c2 => ?_)
    · rw [hN_le (by omega) (by omega)] at c2
      refine b_X0_findCheapest_84 X'.2.2.1 (s_nextRow X'.1 hj X'.2.2.1 hH hrl ?_)
      refine b_X0_findCheapest_89 ?_
      rw [hI_1]
      refine ih (by omega) h' c' cv _ _ _ _ hk_c1i hk_c1i X' F' V' (fun k' hk' i' hi' => ?_) (fun hk' => ?_)
      · by_cases e : k' = k
        · subst e
          rw [← hrr]
          exact M' i' (by omega)
        · exact L' k' (by omega) i' hi'
      · rw [hh_nx_eq hw, hrr, hh_next_row hw _ _ _ _ (by omega)]
    · rw [hN_le (by omega) (by omega)] at c2
      have hij := hI_ij (q := 4) (by omega) (show hr_end n m w num (Rs j) r < 1000 by omega) (show i < 1000 by omega)
      have hpb := hr_pay_bound X'.1.dim (X'.1.ok hj) hw hrl (i := i) (by omega)
      refine b_X0_findCheapest_45 X'.2.2.1 rfl X'.2.2.2.1 _ hij (by omega) (hr_dPay (X'.1.ok hj).1) (X'.1.obj hj) (c_paymentAt X'.1 hj hrl (by omega) (X'.2.1 r hrl) ?_)
      have V1 := V' (hr_end n m w num (Rs j) r * 4 + i) (by omega)
      rw [V1.1]
      refine b_X0_findCheapest_74 (s_min (by omega) (by omega) ?_)
      refine b_X0_findCheapest_77 X'.2.2.2.1 (by omega) _ hij (by omega) rfl ?_
      rw [hI_1]
      refine ih2 (by omega) _ _ _ _ (X'.set10 hj) (F'.set (by unfold hP12; omega)) (hh_cv_up V' hpb) (fun k' hk' i' hi' => ?_) (fun i' hi' => ?_)
      · exact Int.le_trans (hh_up_le _) (L' k' hk' i' hi')
      · by_cases e : i' = i
        · subst e
          exact hh_up_at
        · exact Int.le_trans (hh_up_le _) (M' i' (by omega))
/-- what each person wishes, and what the row is worth to them -/
def hh_sd (n m w : Nat) (num : Nat → Int) (R : hr_R) (r : Nat) (o z : Nat → Int32) (k : Nat) : Prop := ∀ i, i < k → o i = hI (hw_in w r i : Nat) ∧ z i = hI (hr_val n m w num R r i (hw_in w r i))
theorem s_stand (X : hHC h n m w rc num Rs rq j H W c o z) (hj : j < rc) {r : Nat} (hr : r < hw_pow w n) {K : hk_H → Prop} (hk : ∀ h' o' z', hHC h' n m w rc num Rs rq j H W c o' z' → hFm hP12 h h' → hh_sd n m w num (Rs j) r o' z' n → K h') : hk_Cv G m_X0_stand (d + 2) 0 0 [.ref 9, .ref (rq j), .int (hI r)] h K := by
  obtain ⟨hn, hm, hw6, hnum⟩ := X.1.dim
  have hw := X.1.w0 hj
  refine ⟨Nat.le_of_ble_eq_true rfl, ?_⟩
  refine b_X0_stand_0 ?_
  refine hk_upto (P := fun i => ∀ h' o' z', hHC h' n m w rc num Rs rq j H W c o' z' → hFm hP12 h h' → hh_sd n m w num (Rs j) r o' z' i → hk_S G m_X0_stand (d + 2) 0 0 2 [some (.ref 9), some (.ref (rq j)), some (.int (hI r)), some (.int (hI (i : Int)))] [] h' (fun o h' => o = .inl none ∧ K h')) n (fun i hi ih h' o' z' X' F' S' => ?_) h o z X hFm.rf (fun i hi => by omega)
  refine b_X0_stand_2 X'.2.2.1 rfl X'.1.w1 rfl (fun cc => ?_) (fun cc => ?_)
  · rw [hN_le (by omega) (by omega)] at cc
    exact b_X0_stand_52 ⟨rfl, hk h' o' z' X' F' fun i' hi' => S' i' (by omega)⟩
  · rw [hN_le (by omega) (by omega)] at cc
    have hin := hw_in_lt hw r i
    refine b_X0_stand_13 X'.2.2.1 rfl rfl X'.1.w1 (c_wishIn X'.1 hj hr (by omega) ?_)
    have X2 := X'.set11 hj (c' := upd o' i (hI (hw_in w r i : Nat)))
    refine b_X0_stand_27 X'.2.2.2.2.1 (by omega) i (hI_at rfl (by omega)) (by omega) rfl X2.2.2.1 rfl rfl X2.2.2.2.2.1 i (hI_at rfl (by omega)) (by omega) (hr_dProfit (X2.1.ok hj).1) (X2.1.obj hj) ?_
    have ev : upd o' i (hI (hw_in w r i : Nat)) i = hI (hw_in w r i : Nat) := by unfold upd; simp
    rw [ev]
    refine c_profit X2.1 hj hr (by omega) hin (X2.2.1 r hr) ?_
    refine b_X0_stand_45 X2.2.2.2.2.2 (by omega) i (hI_at rfl (by omega)) (by omega) rfl ?_
    rw [hI_1]
    refine ih (by omega) _ _ _ (X2.set12 hj) ((F'.set (by unfold hP12; omega)).set (by unfold hP12; omega)) (fun i' hi' => ?_)
    unfold upd
    by_cases e : i' = i
    · subst e; simp
    · simp only [e, if_false]
      exact S' i' (by omega)
theorem s_mayLieFor (X : hHC h n m w rc num Rs rq j H W c o z) (hj : j < rc) (hH : H < 16) {cv : Nat → Int} (V : hh_cv c cv) {r : Nat} (hr : r < hw_pow w n) (S : hh_sd n m w num (Rs j) r o z n) {e : Nat} (he : e < m) {K : Int32 → hk_H → Prop} (hk1 : K 1 h) (hk0 : (∃ i, i < n ∧ hh_mem H i = true ∧ num (hw_in w r i * 5 + e) - cv (e * 4 + i) ≤ hr_val n m w num (Rs j) r i (hw_in w r i)) → K 0 h) : hk_Ci G m_X0_mayLieFor (d + 1) 0 0 [.ref 9, .int (hI e)] h K := by
  obtain ⟨hn, hm, hw6, hnum⟩ := X.1.dim
  obtain ⟨pw, HW⟩ := X.1.2.1
  have hw := X.1.w0 hj
  refine ⟨Nat.le_of_ble_eq_true rfl, ?_⟩
  refine b_X0_mayLieFor_0 ?_
  refine hk_upto (P := fun i => ∀ o3 : Option Value, hk_S G m_X0_mayLieFor (d + 1) 0 0 2 [some (.ref 9), some (.int (hI e)), some (.int (hI (i : Int))), o3] [] h (fun o h' => ∃ x, o = .inl (some (.int x)) ∧ K x h')) n (fun i hi ih o3 => ?_) none
  refine b_X0_mayLieFor_2 X.2.2.1 rfl X.1.w1 rfl (fun cc => ?_) (fun cc => ?_)
  · exact b_X0_mayLieFor_65 ⟨_, rfl, hk1⟩
  · rw [hN_le (by omega) (by omega)] at cc
    have hin := hw_in_lt hw r i
    have hij := hI_ij (q := 4) (by omega) (show e < 1000 by omega) (show i < 1000 by omega)
    have Si := S i (by omega)
    have V1 := V (e * 4 + i) (by omega)
    have hvb := X.1.vb hj hr (i := i) (by omega) hin
    have hnb := hnum (hw_in w r i * 5 + e) (by omega)
    refine b_X0_mayLieFor_13 X.2.2.1 rfl rfl X.2.2.2.2.1 i (hI_at rfl (by omega)) (by omega) X.1.w1 ?_
    rw [Si.1]
    refine s_number HW (by omega) (by omega) ?_
    refine b_X0_mayLieFor_27 X.2.2.1 rfl X.2.2.2.1 _ hij (by omega) (s_isMember X.2.2.1 hH (by omega) ?_)
    rw [V1.1, hI_sub]
    by_cases em : hh_mem H i = true
    · rw [em]
      refine b_X0_mayLieFor_44 (fun c => absurd c (by decide)) (fun _ => ?_)
      refine b_X0_mayLieFor_47 X.2.2.1 rfl X.2.2.2.2.2 i (hI_at rfl (by omega)) (by omega) (fun c2 => ?_) (fun c2 => ?_)
      · refine b_X0_mayLieFor_59 ?_
        rw [hI_1]
        exact ih (by omega) _
      · rw [Si.2, hI_lt (by omega) (by omega)] at c2
        exact b_X0_mayLieFor_57 ⟨_, rfl, hk0 ⟨i, by omega, em, by omega⟩⟩
    · rw [Bool.not_eq_true] at em
      rw [em]
      refine b_X0_mayLieFor_44 (fun _ => ?_) (fun c => absurd rfl c)
      refine b_X0_mayLieFor_59 ?_
      rw [hI_1]
      exact ih (by omega) _
theorem s_mayLie (X : hHC h n m w rc num Rs rq j H W c o z) (hj : j < rc) (hH : H < 16) {cv : Nat → Int} (V : hh_cv c cv) {r : Nat} (hr : r < hw_pow w n) (S : hh_sd n m w num (Rs j) r o z n) {K : Int32 → hk_H → Prop} (hk1 : K 1 h) (hk0 : (∀ e, e < m → ∃ i, i < n ∧ hh_mem H i = true ∧ num (hw_in w r i * 5 + e) - cv (e * 4 + i) ≤ hr_val n m w num (Rs j) r i (hw_in w r i)) → K 0 h) : hk_Ci G m_X0_mayLie (d + 2) 0 0 [.ref 9] h K := by
  obtain ⟨hn, hm, hw6, hnum⟩ := X.1.dim
  refine ⟨Nat.le_of_ble_eq_true rfl, ?_⟩
  refine b_X0_mayLie_0 ?_
  refine hk_upto (P := fun e9 => (∀ e, e < e9 → ∃ i, i < n ∧ hh_mem H i = true ∧ num (hw_in w r i * 5 + e) - cv (e * 4 + i) ≤ hr_val n m w num (Rs j) r i (hw_in w r i)) → hk_S G m_X0_mayLie (d + 2) 0 0 2 [some (.ref 9), some (.int (hI (e9 : Int)))] [] h (fun o h' => ∃ x, o = .inl (some (.int x)) ∧ K x h')) m (fun e he ih L => ?_) (fun e he => by omega)
  refine b_X0_mayLie_2 X.2.2.1 rfl X.1.w1 rfl (fun cc => ?_) (fun cc => ?_)
  · rw [hN_le (by omega) (by omega)] at cc
    exact b_X0_mayLie_29 ⟨_, rfl, hk0 fun e' he' => L e' (by omega)⟩
  · rw [hN_le (by omega) (by omega)] at cc
    refine b_X0_mayLie_13 X.2.2.1 (s_mayLieFor X hj hH V hr S (by omega) ?_ (fun L1 => ?_))
    · exact b_X0_mayLie_18 (fun c => absurd c (by decide)) (fun _ => b_X0_mayLie_21 ⟨_, rfl, hk1⟩)
    · refine b_X0_mayLie_18 (fun _ => ?_) (fun c => absurd rfl c)
      refine b_X0_mayLie_23 ?_
      rw [hI_1]
      refine ih (by omega) fun e' he' => ?_
      by_cases q : e' = e
      · subst q; exact L1
      · exact L e' (by omega)
/-- all of the heap gain at row a from what is said in row b -/
def hh_ag (n m w : Nat) (num : Nat → Int) (R : hr_R) (H r a : Nat) : Prop := ∀ i, i < n → hh_mem H i = true → hr_val n m w num R r i (hw_in w r i) < hr_val n m w num R a i (hw_in w r i)
theorem s_allGain (X : hHC h n m w rc num Rs rq j H W c o z) (hj : j < rc) (hH : H < 16) {r a : Nat} (hr : r < hw_pow w n) (ha : a < hw_pow w n) (S : hh_sd n m w num (Rs j) r o z n) {K : Int32 → hk_H → Prop} (hk1 : hh_ag n m w num (Rs j) H r a → K 1 h) (hk0 : ¬ hh_ag n m w num (Rs j) H r a → K 0 h) : hk_Ci G m_X0_allGain (d + 2) 0 0 [.ref 9, .ref (rq j), .int (hI a)] h K := by
  obtain ⟨hn, hm, hw6, hnum⟩ := X.1.dim
  have hw := X.1.w0 hj
  refine ⟨Nat.le_of_ble_eq_true rfl, ?_⟩
  refine b_X0_allGain_0 ?_
  refine hk_upto (P := fun i9 => (∀ i, i < i9 → hh_mem H i = true → hr_val n m w num (Rs j) r i (hw_in w r i) < hr_val n m w num (Rs j) a i (hw_in w r i)) → hk_S G m_X0_allGain (d + 2) 0 0 2 [some (.ref 9), some (.ref (rq j)), some (.int (hI a)), some (.int (hI (i9 : Int)))] [] h (fun o h' => ∃ x, o = .inl (some (.int x)) ∧ K x h')) n (fun i hi ih L => ?_) (fun i hi => by omega)
  refine b_X0_allGain_2 X.2.2.1 rfl X.1.w1 rfl (fun cc => ?_) (fun cc => ?_)
  · rw [hN_le (by omega) (by omega)] at cc
    exact b_X0_allGain_50 ⟨_, rfl, hk1 fun i' hi' => L i' (by omega)⟩
  · rw [hN_le (by omega) (by omega)] at cc
    have hin := hw_in_lt hw r i
    have Si := S i (by omega)
    have v1 := X.1.vb hj hr (i := i) (by omega) hin
    have v2 := X.1.vb hj ha (i := i) (by omega) hin
    refine b_X0_allGain_13 X.2.2.1 (s_isMember X.2.2.1 hH (by omega) ?_)
    by_cases em : hh_mem H i = true
    · rw [em]
      refine b_X0_allGain_18 (fun c => absurd c (by decide)) (fun _ => ?_)
      refine b_X0_allGain_21 X.2.2.1 rfl X.2.2.2.2.1 i (hI_at rfl (by omega)) (by omega) (hr_dProfit (X.1.ok hj).1) (X.1.obj hj) ?_
      rw [Si.1]
      refine c_profit X.1 hj ha (by omega) hin (X.2.1 a ha) ?_
      refine b_X0_allGain_33 X.2.2.1 rfl X.2.2.2.2.2 i (hI_at rfl (by omega)) (by omega) (fun c2 => ?_) (fun c2 => ?_)
      · rw [Si.2, hI_lt (by omega) (by omega)] at c2
        refine b_X0_allGain_44 ?_
        rw [hI_1]
        refine ih (by omega) fun i' hi' em' => ?_
        by_cases q : i' = i
        · subst q; exact c2
        · exact L i' (by omega) em'
      · rw [Si.2, hI_lt (by omega) (by omega)] at c2
        exact b_X0_allGain_42 ⟨_, rfl, hk0 fun z => c2 (z i (by omega) em)⟩
    · have em' := em
      rw [Bool.not_eq_true] at em
      rw [em]
      refine b_X0_allGain_18 (fun _ => ?_) (fun c => absurd rfl c)
      refine b_X0_allGain_44 ?_
      rw [hI_1]
      refine ih (by omega) fun i' hi' em2 => ?_
      by_cases q : i' = i
      · subst q; exact absurd em2 em'
      · exact L i' (by omega) em2
end SHq
