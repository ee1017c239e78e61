/-! The class's Market (cells 18 to 25). -/
def hMo (h : hk_H) (n : Nat) : Prop := h.2 18 = some (.inr (1, [.int (hI n), .ref (n - 1), .ref 19, .ref 20, .ref 21, .ref 22, .ref 23, .ref 24, .ref 25]))
def hMg (h : hk_H) (n : Nat) : Prop := h.2 (n - 1) = some (hc_i32 (hm_len n) (fun j => hI (hm_at n j : Nat)))
def hM (h : hk_H) (n : Nat) (P : Nat → Nat → Nat) (c : Nat → Nat → Int32) : Prop :=
  hMo h n ∧ hMg h n ∧ (∃ tf, h.2 19 = some (hc_i32 16 tf) ∧ ∀ i k, i < n → k < n → tf (i * 4 + k) = hI (P i k : Nat)) ∧ (∃ pf, h.2 20 = some (hc_i32 16 pf) ∧ ∀ i k, i < n → k < n → pf (i * 4 + P i k) = hI (k : Nat)) ∧ (∀ x, x < 5 → h.2 (21 + x) = some (hc_i32 4 (c x))) ∧ hm_ok n P ∧ (2 ≤ n ∧ n ≤ 4)
def hMf (h h' : hk_H) : Prop := h'.1 = h.1 ∧ ∀ a, ¬ (19 ≤ a ∧ a ≤ 25) → h'.2 a = h.2 a
def hm_c (c : Nat → Nat → Int32) (x : Nat) (f : Nat → Int32) : Nat → Nat → Int32 := fun y => if y = x then f else c y
def hm_of (n : Nat) (x : Int32) : Option Nat := if 0 ≤ x.toInt ∧ x.toInt.toNat ∈ hm_list n then some x.toInt.toNat else none
theorem hm_of_some {n j : Nat} (hn : 2 ≤ n ∧ n ≤ 4) (hj : j < hm_len n) : hm_of n (hI (hm_at n j : Nat)) = some (hm_at n j) := by
  have hb := (hm_at_ok hn hj).2.1
  unfold hm_of
  rw [hI_toInt (hI_rN (by omega))]
  have hin : hm_at n j ∈ hm_list n := by
    unfold hm_at
    rw [List.getD_eq_getElem?_getD, List.getElem?_eq_getElem hj]
    exact List.getElem_mem hj
  rw [if_pos ⟨by omega, hin⟩]
  rfl
theorem hm_of_none {n : Nat} {x : Int32} (h : ∀ j, j < hm_len n → x ≠ hI (hm_at n j : Nat)) : hm_of n x = none := by
  unfold hm_of
  rw [if_neg]
  rintro ⟨h1, h2⟩
  obtain ⟨j, hj, e⟩ := List.mem_iff_getElem.mp h2
  refine h j hj ?_
  unfold hm_at
  rw [List.getD_eq_getElem?_getD, List.getElem?_eq_getElem hj]
  show x = hI (((hm_list n)[j] : Nat) : Int)
  rw [e, show ((x.toInt.toNat : Nat) : Int) = x.toInt by omega]
  exact hI_of x
theorem hm_and : ∀ g : Fin 16, ∀ i : Fin 4, hh_mem g i = true → (hI (g : Nat) &&& ((1 <<< (hI (i : Nat) &&& 31)) ^^^ (-1))) = hI ((g.val - 2 ^ i.val : Nat) : Int) := by decide +kernel
theorem hm_and' {g i : Nat} (hg : g < 16) (hi : i < 4) (h : hh_mem g i = true) : (hI (g : Int) &&& ((1 <<< (hI (i : Int) &&& 31)) ^^^ (-1))) = hI ((g - 2 ^ i : Nat) : Int) := hm_and ⟨g, hg⟩ ⟨i, hi⟩ h
section SMk
variable {G : hk_G} {h h' : hk_H} {n : Nat} {P : Nat → Nat → Nat} {c : Nat → Nat → Int32} {d : Nat}
theorem hMf.rf : hMf h h := ⟨rfl, fun _ _ => rfl⟩
theorem hMf.tr {h'' : hk_H} (H : hMf h h') (H' : hMf h' h'') : hMf h h'' := ⟨H'.1.trans H.1, fun a ha => (H'.2 a ha).trans (H.2 a ha)⟩
theorem hMf.set (H : hMf h h') {a : Nat} {c : hk_AC} (ha : 19 ≤ a ∧ a ≤ 25) : hMf h (hk_set h' a c) := ⟨H.1, fun b hb => (hk_set_ne (by omega)).trans (H.2 b hb)⟩
theorem hM.set (M : hM h n P c) {x : Nat} (hx : x < 5) {f : Nat → Int32} : hM (hk_set h (21 + x) (hc_i32 4 f)) n P (hm_c c x f) := by
  obtain ⟨m1, m2, ⟨tf, m3, m3'⟩, ⟨pf, m4, m4'⟩, m5, m6, m7⟩ := M
  refine ⟨(hk_set_ne (by omega)).trans m1, (hk_set_ne (by omega)).trans m2, ⟨tf, (hk_set_ne (by omega)).trans m3, m3'⟩, ⟨pf, (hk_set_ne (by omega)).trans m4, m4'⟩, fun y hy => ?_, m6, m7⟩
  unfold hm_c
  by_cases e : y = x
  · subst e; rw [if_pos rfl]; exact hk_set_eq
  · rw [if_neg e, hk_set_ne (by omega)]; exact m5 y hy
theorem hM.at (M : hM h n P c) {x : Nat} (hx : x < 5) : h.2 (21 + x) = some (hc_i32 4 (c x)) := M.2.2.2.2.1 x hx
theorem hm_c_eq {x : Nat} {f : Nat → Int32} : hm_c c x f x = f := if_pos rfl
theorem s_isOrder (M : hM h n P c) {x : Int32} {K : Int32 → hk_H → Prop} (hk1 : ∀ j, j < hm_len n → x = hI (hm_at n j : Nat) → K 1 h) (hk0 : (∀ j, j < hm_len n → x ≠ hI (hm_at n j : Nat)) → K 0 h) : hk_Ci G m_X1_isOrder d 0 0 [.ref 18, .int x] h K := by
  have hn := M.2.2.2.2.2.2
  have hl := (hm_b2 ⟨n, by omega⟩ hn.1).2
  simp only at hl
  refine ⟨Nat.le_of_ble_eq_true rfl, ?_⟩
  refine b_X1_isOrder_0 M.1 rfl M.2.1 (by omega) ?_
  refine hk_upto (P := fun j => ∀ o5 : Option Value, (∀ j', j' < j → x ≠ hI (hm_at n j' : Nat)) → hk_S G m_X1_isOrder d 0 0 11 [some (.ref 18), some (.int x), some (.ref (n - 1)), some (.int (Int32.ofNat (hm_len n))), some (.int (hI (j : Int))), o5] [] h (fun o h' => ∃ x, o = .inl (some (.int x)) ∧ K x h')) (hm_len n) (fun j hj ih o5 N => ?_) none (fun j' hj' => by omega)
  have el : Int32.ofNat (hm_len n) = hI ((hm_len n : Nat) : Int) := rfl
  refine b_X1_isOrder_11 (fun cc => ?_) (fun cc => ?_)
  · rw [el, hN_le (by omega) (by omega)] at cc
    exact b_X1_isOrder_37 ⟨_, rfl, hk0 fun j' hj' => N j' (by omega)⟩
  · rw [el, hN_le (by omega) (by omega)] at cc
    refine b_X1_isOrder_17 M.2.1 j (hI_at rfl (by omega)) (by omega) (fun c2 => ?_) (fun c2 => ?_)
    · refine b_X1_isOrder_31 ?_
      rw [hI_1]
      refine ih (by omega) _ fun j' hj' => ?_
      by_cases e : j' = j
      · subst e; exact fun z => c2 z.symm
      · exact N j' (by omega)
    · exact b_X1_isOrder_29 ⟨_, rfl, hk1 j (by omega) c2.symm⟩
theorem s_read (M : hM h n P c) {v : Nat} (hv : v < 100000) {x : Nat} (hx : x < 5) {K : hk_H → Prop} (hk : ∀ h' f, hM h' n P (hm_c c x f) → hMf h h' → (∀ k, k < n → f k = hI (hm_dg n v k : Nat)) → K h') : hk_Cv G m_X1_read d 0 0 [.ref 18, .int (hI v), .ref (21 + x)] h K := by
  have hn := M.2.2.2.2.2.2
  refine ⟨Nat.le_of_ble_eq_true rfl, ?_⟩
  refine b_X1_read_0 M.1 rfl ?_
  have e0 : hI (n : Int) - 1 = hI ((n : Int) - 1 - (0 : Nat)) := by
    rw [show (1 : Int32) = hI 1 from rfl, hI_sub]
    congr 1
    omega
  rw [e0]
  have e1 : hI (v : Int) = hI ((v / 10 ^ 0 : Nat) : Int) := by rw [Nat.pow_zero, Nat.div_one]
  refine hk_upto (P := fun q => ∀ h' f, hM h' n P (hm_c c x f) → hMf h h' → (∀ k, k < n → n - q ≤ k → f k = hI (hm_dg n v k : Nat)) → hk_S G m_X1_read d 0 0 10 [some (.ref 18), some (.int (hI v)), some (.ref (21 + x)), some (.int (hI ((v / 10 ^ q : Nat) : Int))), some (.int (hI ((n : Int) - 1 - (q : Nat))))] [] h' (fun o h' => o = .inl none ∧ K h')) n (fun q hq ih h' f M' F' D' => ?_) h (c x) ?_ hMf.rf (fun k h1 h2 => by omega) |> (fun z => by rw [← e1] at z; exact z)
  · refine b_X1_read_10 (fun cc => ?_) (fun cc => ?_)
    · rw [hI_lt0 (by omega)] at cc
      exact b_X1_read_34 ⟨rfl, hk h' f M' F' fun k hk => D' k hk (by omega)⟩
    · rw [hI_lt0 (by omega)] at cc
      have a1 := M'.at hx
      rw [hm_c_eq] at a1
      have hle : v / 10 ^ q ≤ v := Nat.div_le_self _ _
      refine b_X1_read_15 a1 (by omega) (n - 1 - q) (hI_at (by omega) (by omega)) (by omega) rfl ?_
      have e2 : hI ((v / 10 ^ q : Nat) : Int) / 10 = hI ((v / 10 ^ (q + 1) : Nat) : Int) := by
        rw [show (10 : Int32) = hI ((10 : Nat) : Int) from rfl, hI_divN (by omega) (by omega) (by omega), Nat.div_div_eq_div_mul, ← Nat.pow_succ]
      have e3 : hI ((v / 10 ^ q : Nat) : Int) - hI ((v / 10 ^ q : Nat) : Int) / 10 * 10 = hI ((v / 10 ^ q % 10 : Nat) : Int) := by
        rw [show (10 : Int32) = hI ((10 : Nat) : Int) from rfl, hI_divN (by omega) (by omega) (by omega), hI_mul, hI_sub]
        congr 1
        omega
      have e4 : hI ((n : Int) - 1 - (q : Nat)) + (-1) = hI ((n : Int) - 1 - ((q + 1 : Nat) : Nat)) := by
        rw [show (-1 : Int32) = hI (-1) from rfl, hI_add]
        congr 1
        omega
      rw [e3, e2, e4]
      refine ih (by omega) (hk_set h' (21 + x) (hc_i32 4 (upd f (n - 1 - q) (hI ((v / 10 ^ q % 10 : Nat) : Int))))) (upd f (n - 1 - q) (hI ((v / 10 ^ q % 10 : Nat) : Int))) ?_ (F'.set (by omega)) (fun k h1 h2 => ?_)
      · have := M'.set hx (f := upd f (n - 1 - q) (hI ((v / 10 ^ q % 10 : Nat) : Int)))
        rw [show hm_c (hm_c c x f) x (upd f (n - 1 - q) (hI ((v / 10 ^ q % 10 : Nat) : Int))) = hm_c c x (upd f (n - 1 - q) (hI ((v / 10 ^ q % 10 : Nat) : Int))) from funext fun y => by
          unfold hm_c
          split <;> rfl] at this
        exact this
      · unfold upd
        by_cases e : k = n - 1 - q
        · rw [if_pos e]
          unfold hm_dg
          rw [show n - 1 - k = q by omega]
        · rw [if_neg e]; exact D' k h1 (by omega)
  · rw [show hm_c c x (c x) = c from funext fun y => by
      unfold hm_c
      by_cases e : y = x
      · rw [if_pos e, e]
      · rw [if_neg e]]
    exact M
theorem s_told (M : hM h n P c) {x : Nat} (hx : x < 5) {t : Nat → Nat} (ht : ∀ k, k < n → c x k = hI (t k : Nat)) {K : Int32 → hk_H → Prop} (hk : K (hI (hm_cd t n : Nat)) h) : hk_Ci G m_X1_told d 0 0 [.ref 18, .ref (21 + x)] h K := by
  have hn := M.2.2.2.2.2.2
  refine ⟨Nat.le_of_ble_eq_true rfl, ?_⟩
  refine b_X1_told_0 ?_
  refine hk_upto (P := fun k => hk_S G m_X1_told d 0 0 4 [some (.ref 18), some (.ref (21 + x)), some (.int (hI (hm_cd t k : Nat))), some (.int (hI (k : Int)))] [] h (fun o h' => ∃ x, o = .inl (some (.int x)) ∧ K x h')) n (fun k hk1 ih => ?_)
  refine b_X1_told_4 M.1 rfl (fun cc => ?_) (fun cc => ?_)
  · rw [hN_le (by omega) (by omega)] at cc
    have e : k = n := by omega
    subst e
    exact b_X1_told_27 ⟨_, rfl, hk⟩
  · rw [hN_le (by omega) (by omega)] at cc
    refine b_X1_told_12 (M.at hx) k (hI_at rfl (by omega)) (by omega) ?_
    rw [ht k (by omega), hI_1, show (10 : Int32) = hI 10 from rfl, hI_mul, hI_add]
    have := ih (by omega)
    unfold hm_cd at this
    push_cast at this
    exact this
theorem s_placeFor (M : hM h n P c) {i x : Nat} (hi : i < n) (hx : x < n) {K : Int32 → hk_H → Prop} (hk : K (hI (hm_pl n P i x : Nat)) h) : hk_Ci G m_X1_placeFor d 0 0 [.ref 18, .int (hI i), .int (hI x)] h K := by
  have hn := M.2.2.2.2.2.2
  obtain ⟨h1, h2⟩ := hm_pl_lt hn.2 (M.2.2.2.2.2.1 i hi) hx
  obtain ⟨pf, p1, p2⟩ := M.2.2.2.1
  have := p2 i _ hi h1
  rw [h2] at this
  refine ⟨Nat.le_of_ble_eq_true rfl, ?_⟩
  refine b_X1_placeFor_0 M.1 rfl p1 (i * 4 + x) (hI_ij (q := 4) (by omega) (by omega) (by omega)) (by omega) ⟨_, rfl, ?_⟩
  rw [this]
  exact hk
theorem hm_bf_step {i g a : Nat} (h : a < n) : hm_bf P i g (n - a) a = if hh_mem g (P i a) = true then P i a else hm_bf P i g (n - (a + 1)) (a + 1) := by
  rw [show n - a = (n - (a + 1)) + 1 by omega]; rfl
theorem s_bestOf (M : hM h n P c) {i g : Nat} (hi : i < n) (hg : g < 16) {K : Int32 → hk_H → Prop} (hk : K (hI (hm_best n P i g : Nat)) h) : hk_Ci G m_X1_bestOf d 0 0 [.ref 18, .int (hI i), .int (hI g)] h K := by
  have hn := M.2.2.2.2.2.2
  have hp := M.2.2.2.2.2.1 i hi
  obtain ⟨tf, t1, t2⟩ := M.2.2.1
  refine ⟨Nat.le_of_ble_eq_true rfl, ?_⟩
  refine b_X1_bestOf_0 ?_
  refine hk_upto (P := fun a => ∀ o4 : Option Value, hm_bf P i g (n - a) a = hm_best n P i g → hk_S G m_X1_bestOf d 0 0 2 [some (.ref 18), some (.int (hI i)), some (.int (hI g)), some (.int (hI (a : Int))), o4] [] h (fun o h' => ∃ x, o = .inl (some (.int x)) ∧ K x h')) n (fun a ha ih o4 e => ?_) none rfl
  refine b_X1_bestOf_2 M.1 rfl (fun cc => ?_) (fun cc => ?_)
  · rw [hN_le (by omega) (by omega)] at cc
    rw [show n - a = 0 by omega] at e
    rw [← e] at hk
    exact b_X1_bestOf_41 ⟨_, rfl, hk⟩
  · rw [hN_le (by omega) (by omega)] at cc
    rw [hm_bf_step (by omega)] at e
    have hpa := hp.1 a (by omega)
    refine b_X1_bestOf_10 M.1 rfl t1 (i * 4 + a) (hI_ij (q := 4) (by omega) (by omega) (by omega)) (by omega) (fun c2 => ?_) (fun c2 => ?_)
    · rw [t2 i a hi (by omega)] at c2
      rw [if_neg (mt (hh_bit' hg (by omega)).mpr c2)] at e
      refine b_X1_bestOf_35 ?_
      rw [hI_1]
      exact ih (by omega) _ e
    · rw [t2 i a hi (by omega)] at c2 ⊢
      rw [if_pos ((hh_bit' hg (by omega)).mp c2)] at e
      rw [← e] at hk
      exact b_X1_bestOf_32 ⟨_, rfl, hk⟩
def hm_up (P : Nat → Nat → Nat) (i : Nat) (d : Nat → Nat) : Nat → Nat → Nat := fun i' k => if i' = i then d k else P i' k
theorem hm_up_ok (hP : hm_ok n P) {i : Nat} {t : Nat → Nat} (ht : hm_perm n t) : hm_ok n (hm_up P i t) := by
  intro i' hi'
  unfold hm_up
  by_cases e : i' = i
  · simp only [e, if_true]; exact ht
  · simp only [e, if_false]; exact hP i' hi'
theorem s_learn (M : hM h n P c) {i v : Nat} (hi : i < n) (hv : v < 100000) (hp : hm_perm n (hm_dg n v)) {K : hk_H → Prop} (hk : ∀ h' f, hM h' n (hm_up P i (hm_dg n v)) (hm_c c 4 f) → hMf h h' → K h') : hk_Cv G m_X1_learn (d + 1) 0 0 [.ref 18, .int (hI i), .int (hI v)] h K := by
  have hn := M.2.2.2.2.2.2
  refine ⟨Nat.le_of_ble_eq_true rfl, ?_⟩
  refine b_X1_learn_0 M.1 rfl (s_read M hv (x := 4) (by omega) fun h1 f M1 F1 D1 => ?_)
  refine b_X1_learn_9 ?_
  obtain ⟨m1, m2, ⟨tf, m3, m3'⟩, ⟨pf, m4, m4'⟩, m5, m6, m7⟩ := id M1
  have a5 : h1.2 25 = some (hc_i32 4 f) := by have := m5 4 (by omega); rw [hm_c_eq] at this; exact this
  refine hk_upto (P := fun q => ∀ h' tf' pf', hMf h h' → h'.1 = h1.1 → (∀ a, a ≠ 19 → a ≠ 20 → h'.2 a = h1.2 a) → h'.2 19 = some (hc_i32 16 tf') → h'.2 20 = some (hc_i32 16 pf') → (∀ i' k, i' < n → k < n → tf' (i' * 4 + k) = hI ((if i' = i ∧ k < q then hm_dg n v k else P i' k : Nat) : Int)) → (∀ i' k, i' < n → i' ≠ i → k < n → pf' (i' * 4 + P i' k) = hI (k : Nat)) → (∀ k, k < q → pf' (i * 4 + hm_dg n v k) = hI (k : Nat)) → hk_S G m_X1_learn (d + 1) 0 0 11 [some (.ref 18), some (.int (hI i)), some (.int (hI v)), some (.int (hI (q : Int)))] [] h' (fun o h' => o = .inl none ∧ K h')) n (fun q hq ih h' tf' pf' F' e' f' t1 p1 T' P1 P2 => ?_) h1 tf pf F1 rfl (fun _ _ _ => rfl) m3 m4 (fun i' k h1 h2 => by rw [if_neg (fun z => by omega)]; exact m3' i' k h1 h2) (fun i' k h1 _ h2 => m4' i' k h1 h2) (fun k hk => by omega)
  have o1 : h'.2 18 = some (.inr (1, [.int (hI n), .ref (n - 1), .ref 19, .ref 20, .ref 21, .ref 22, .ref 23, .ref 24, .ref 25])) := (f' 18 (by decide) (by decide)).trans m1
  refine b_X1_learn_11 o1 rfl (fun cc => ?_) (fun cc => ?_)
  · rw [hN_le (by omega) (by omega)] at cc
    have eq : q = n := by omega
    subst eq
    refine b_X1_learn_57 ⟨rfl, hk h' f ⟨o1, (f' _ (by omega) (by omega)).trans m2, ⟨tf', t1, fun i' k h1 h2 => ?_⟩, ⟨pf', p1, fun i' k h1 h2 => ?_⟩, fun x hx => (f' _ (by omega) (by omega)).trans (m5 x hx), hm_up_ok m6 hp, m7⟩ F'⟩
    · rw [T' i' k h1 h2]
      unfold hm_up
      by_cases e : i' = i
      · rw [if_pos ⟨e, h2⟩, if_pos e]
      · rw [if_neg (fun z => e z.1), if_neg e]
    · unfold hm_up
      by_cases e : i' = i
      · subst e
        rw [if_pos rfl]
        exact P2 k h2
      · rw [if_neg e]
        exact P1 i' k h1 e h2
  · rw [hN_le (by omega) (by omega)] at cc
    have hqn : q < n := by omega
    have hdq := hp.1 q hqn
    have b5 : h'.2 25 = some (hc_i32 4 f) := (f' 25 (by decide) (by decide)).trans a5
    have i1 : (hI (i : Int) * 4 + hI (q : Int)).toInt = ((i * 4 + q : Nat) : Int) := hI_ij (q := 4) (by omega) (by omega) (by omega)
    refine b_X1_learn_19 o1 rfl rfl b5 q (hI_at rfl (by omega)) (by omega) t1 (by omega) (i * 4 + q) i1 (by omega) rfl (by rw [hk_set_ne (by decide)]; exact o1) rfl rfl (by rw [hk_set_ne (by decide)]; exact b5) (by omega) (by rw [hk_set_ne (by decide)]; exact p1) (by omega) (i * 4 + hm_dg n v q) (by rw [D1 q hqn]; exact hI_ij (q := 4) (by omega) (by omega) (by omega)) (by omega) rfl ?_
    rw [hI_1, D1 q hqn]
    refine ih hqn _ _ _ ((F'.set (by omega)).set (by omega)) (by show h'.1 = h1.1; exact e') (fun a ha hb => by rw [hk_set_ne hb, hk_set_ne ha]; exact f' a ha hb) (by rw [hk_set_ne (by decide)]; exact hk_set_eq) hk_set_eq (fun i' k h1 h2 => ?_) (fun i' k h1 h2 h3 => ?_) (fun k hk1 => ?_)
    · unfold upd
      by_cases e : i' * 4 + k = i * 4 + q
      · have e1 : i' = i := by omega
        have e2 : k = q := by omega
        subst e1 e2
        rw [if_pos rfl, if_pos ⟨rfl, by omega⟩]
      · rw [if_neg e, T' i' k h1 h2]
        by_cases z : i' = i ∧ k < q
        · rw [if_pos z, if_pos ⟨z.1, by omega⟩]
        · rw [if_neg z, if_neg]
          rintro ⟨z1, z2⟩
          exact z ⟨z1, by omega⟩
    · have := (m6 i' h1).1 k h3
      unfold upd
      rw [if_neg (by omega)]
      exact P1 i' k h1 h2 h3
    · have h5 := hp.1 k (by omega)
      unfold upd
      by_cases e : k = q
      · subst e; rw [if_pos rfl]
      · rw [if_neg (fun z => e (hp.2 k q (by omega) hqn (by omega)))]
        exact P2 k (by omega)
theorem s_orderOf (M : hM h n P c) {i : Nat} (hi : i < n) {K : Int32 → hk_H → Prop} (hk : ∀ h' f, hM h' n P (hm_c c 4 f) → hMf h h' → K (hI (hm_cd (P i) n : Nat)) h') : hk_Ci G m_X1_orderOf (d + 1) 0 0 [.ref 18, .int (hI i)] h K := by
  have hn := M.2.2.2.2.2.2
  have cc0 : hm_c c 4 (c 4) = c := funext fun y => by
    unfold hm_c
    by_cases e : y = 4
    · rw [if_pos e, e]
    · rw [if_neg e]
  refine ⟨Nat.le_of_ble_eq_true rfl, ?_⟩
  refine b_X1_orderOf_0 ?_
  refine hk_upto (P := fun q => ∀ h' f, hM h' n P (hm_c c 4 f) → hMf h h' → (∀ k, k < q → f k = hI (P i k : Nat)) → hk_S G m_X1_orderOf (d + 1) 0 0 2 [some (.ref 18), some (.int (hI i)), some (.int (hI (q : Int)))] [] h' (fun o h' => ∃ x, o = .inl (some (.int x)) ∧ K x h')) n (fun q hq ih h' f M' F' D' => ?_) h (c 4) (by rw [cc0]; exact M) hMf.rf (fun k hk => by omega)
  refine b_X1_orderOf_2 M'.1 rfl (fun cc => ?_) (fun cc => ?_)
  · rw [hN_le (by omega) (by omega)] at cc
    refine b_X1_orderOf_32 M'.1 rfl (s_told M' (x := 4) (by omega) (t := P i) (fun k hk => by rw [hm_c_eq]; exact D' k (by omega)) ?_)
    exact b_X1_orderOf_40 ⟨_, rfl, hk h' f M' F'⟩
  · rw [hN_le (by omega) (by omega)] at cc
    obtain ⟨tf, t1, t2⟩ := M'.2.2.1
    have a1 : h'.2 25 = some (hc_i32 4 f) := by have := M'.at (x := 4) (by omega); rw [hm_c_eq] at this; exact this
    refine b_X1_orderOf_10 M'.1 rfl rfl t1 (i * 4 + q) (hI_ij (q := 4) (by omega) (by omega) (by omega)) (by omega) a1 (by omega) q (hI_at rfl (by omega)) (by omega) rfl ?_
    rw [hI_1, t2 i q hi (by omega)]
    refine ih (by omega) _ (upd f q (hI (P i q : Nat))) ?_ (F'.set (a := 25) (by omega)) (fun k hk => ?_)
    · have := M'.set (x := 4) (by omega) (f := upd f q (hI (P i q : Nat)))
      rw [show hm_c (hm_c c 4 f) 4 (upd f q (hI (P i q : Nat))) = hm_c c 4 (upd f q (hI (P i q : Nat))) from funext fun y => by
        unfold hm_c
        split <;> rfl] at this
      exact this
    · unfold upd
      by_cases e : k = q
      · subst e; rw [if_pos rfl]
      · rw [if_neg e]; exact D' k (by omega)
end SMk
