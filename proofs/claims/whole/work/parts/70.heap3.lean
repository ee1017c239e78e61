/-! heap: the first row at which a heap lies, and what it says there. -/
def hh_g (n m w : Nat) (num : Nat → Int) (R : hr_R) (H r a : Nat) : Bool := ha (fun i => if hh_mem H i = true then decide (hr_val n m w num R r i (hw_in w r i) < hr_val n m w num R a i (hw_in w r i)) else hw_in w r i == hw_in w a i) n
def hh_said (n m w : Nat) (num : Nat → Int) (R : hr_R) (H r : Nat) : Option Int := hf (fun a => if hh_g n m w num R H r a = true then some (a : Int) else none) (hw_pow w n)
def hp_heap (n m w : Nat) (num : Nat → Int) (R : hr_R) (H : Nat) (told : Bool) : Int := (hf (fun r => (hh_said n m w num R H r).map (fun a => if told then a else (r : Int))) (hw_pow w n)).getD (-2)
def hh_cnt : Nat → Nat → Nat
  | 0, _ => 0
  | n + 1, H => H % 2 + hh_cnt n (H / 2)
theorem hh_words_cnt {w : Nat} : ∀ n H, hh_words w n H = w ^ hh_cnt n H := by
  intro n
  induction n with
  | zero => intro H; rfl
  | succ n ih =>
    intro H
    unfold hh_words hh_cnt
    by_cases e : H % 2 = 1
    · rw [if_pos e, e, ih, Nat.add_comm, Nat.pow_succ, Nat.mul_comm]
    · rw [if_neg e, show H % 2 = 0 by omega, ih, Nat.zero_add]
theorem hh_cnt_pop : ∀ n : Fin 5, ∀ H : Fin 16, H.val < 2 ^ n.val → hh_cnt n H = hp_pop H ∧ hp_pop H ≤ n := by decide +kernel
section SHr
variable {G : hk_G} {h h' : hk_H} {n m w rc : Nat} {num : Nat → Int} {Rs : Nat → hr_R} {R : hr_R} {rq : Nat → Nat} {j H W d : Nat} {c o z c' : Nat → Int32}
theorem hh_g_is (hw : 1 ≤ w) {r a : Nat} (hr : r < w ^ n) (ha1 : a < w ^ n) : hh_g n m w num R H r a = true ↔ hh_ag n m w num R H r a ∧ hh_start w n H r = hh_start w n H a := by
  unfold hh_g
  rw [ha_is, ← hh_same hw n H r a hr ha1]
  constructor
  · intro h
    refine ⟨fun i hi hm => ?_, fun i hi hm => ?_⟩
    · have := h i hi
      rw [if_pos hm] at this
      exact of_decide_eq_true this
    · have := h i hi
      rw [if_neg (by rw [hm]; decide)] at this
      exact eq_of_beq this
  · rintro ⟨h1, h2⟩ i hi
    by_cases hm : hh_mem H i = true
    · rw [if_pos hm]; exact decide_eq_true (h1 i hi hm)
    · rw [if_neg hm]
      rw [Bool.not_eq_true] at hm
      rw [h2 i hi hm]
      exact beq_self_eq_true _
theorem hh_said_of (hw : 1 ≤ w) {r k : Nat} (hr : r < w ^ n) (hk : k < hh_words w n H) (h1 : hh_ag n m w num R H r (hh_row w n H (hh_start w n H r) k)) (h0 : ∀ k', k' < k → ¬ hh_ag n m w num R H r (hh_row w n H (hh_start w n H r) k')) : hh_said n m w num R H r = some ((hh_row w n H (hh_start w n H r) k : Nat) : Int) := by
  unfold hh_said
  have hl := hh_row_lt hw n H (hh_start w n H r) k
  rw [hf_is]
  refine ⟨_, by rw [hw_pow_1 hw]; exact hl, ?_, fun a hlt => ?_⟩
  · rw [if_pos]
    rw [hh_g_is hw hr hl]
    refine ⟨h1, ?_⟩
    have e := hh_row_of hw n H r hr
    have e2 := hh_start_row hw n H (hh_start w n H r) (hh_rank w n H r)
    rw [e] at e2
    rw [hh_start_row hw]
    exact e2
  · rw [if_neg]
    intro hg
    have hal : a < w ^ n := by omega
    rw [hh_g_is hw hr hal] at hg
    have e := hh_row_of hw n H a hal
    have hrk := hh_rank_lt hw n H a
    rw [← hg.2] at e
    by_cases q : hh_rank w n H a < k
    · exact h0 _ q (by rw [e]; exact hg.1)
    · by_cases q2 : hh_rank w n H a = k
      · rw [q2] at e; omega
      · have := hh_row_mono hw n H (hh_start w n H r) k _ (show k < hh_rank w n H a by omega) hrk
        omega
theorem hh_said_ex (hw : 1 ≤ w) {r : Nat} (hr : r < w ^ n) (h1 : hh_said n m w num R H r ≠ none) : ∃ k, k < hh_words w n H ∧ hh_ag n m w num R H r (hh_row w n H (hh_start w n H r) k) := by
  cases e : hh_said n m w num R H r with
  | none => exact absurd e h1
  | some v =>
    unfold hh_said at e
    rw [hf_is] at e
    obtain ⟨a, hal, e1, -⟩ := e
    by_cases q : hh_g n m w num R H r a = true
    · rw [hw_pow_1 hw] at hal
      rw [hh_g_is hw hr hal] at q
      refine ⟨hh_rank w n H a, hh_rank_lt hw n H a, ?_⟩
      rw [q.2, hh_row_of hw n H a hal]
      exact q.1
    · rw [if_neg q] at e1; cases e1
theorem s_leastSaidFrom (X : hHC h n m w rc num Rs rq j H W c o z) (hj : j < rc) (hH : H < 16) (hW : W = hh_words w n H) (hWb : W ≤ 1296) {r : Nat} (hr : r < hw_pow w n) (S : hh_sd n m w num (Rs j) r o z n) {K : Int32 → hk_H → Prop} (hk : K (hI ((hh_said n m w num (Rs j) H r).getD (-2))) h) : hk_Ci G m_X0_leastSaidFrom (d + 3) 0 0 [.ref 9, .ref (rq j), .int (hI (hh_start w n H r : Nat))] h K := by
  have hw := X.1.w0 hj
  have hr' : r < w ^ n := by rw [← hw_pow_1 hw]; exact hr
  refine ⟨Nat.le_of_ble_eq_true rfl, ?_⟩
  refine b_X0_leastSaidFrom_0 ?_
  refine hk_upto (P := fun k => ∀ a : Nat, (k < W → a = hh_row w n H (hh_start w n H r) k) → (∀ k', k' < k → ¬ hh_ag n m w num (Rs j) H r (hh_row w n H (hh_start w n H r) k')) → hk_S G m_X0_leastSaidFrom (d + 3) 0 0 5 [some (.ref 9), some (.ref (rq j)), some (.int (hI (hh_start w n H r : Nat))), some (.int (hI (a : Int))), some (.int (hI (k : Int)))] [] h (fun o h' => ∃ x, o = .inl (some (.int x)) ∧ K x h')) W (fun k hk1 ih a ea L => ?_) (hh_start w n H r) (fun _ => ?_) (fun k' hk' => by omega)
  · refine b_X0_leastSaidFrom_5 X.2.2.1 rfl (fun cc => ?_) (fun cc => ?_)
    · rw [hN_le (by omega) (by omega)] at cc
      refine b_X0_leastSaidFrom_37 ⟨_, rfl, ?_⟩
      have e : hh_said n m w num (Rs j) H r = none := by
        by_cases q : hh_said n m w num (Rs j) H r = none
        · exact q
        · obtain ⟨k', h1, h2⟩ := hh_said_ex hw hr' q
          exact absurd h2 (L k' (by omega))
      rw [e] at hk
      exact hk
    · rw [hN_le (by omega) (by omega)] at cc
      have ea := ea (by omega)
      have hal : a < w ^ n := by rw [ea]; exact hh_row_lt hw _ _ _ _
      have hal' : a < hw_pow w n := by rw [hw_pow_1 hw]; exact hal
      refine b_X0_leastSaidFrom_14 X.2.2.1 (s_allGain X hj hH hr hal' S (fun g => ?_) (fun g => ?_))
      · refine b_X0_leastSaidFrom_20 (fun c => absurd c (by decide)) (fun _ => b_X0_leastSaidFrom_23 ⟨_, rfl, ?_⟩)
        rw [hh_said_of hw hr' (k := k) (by omega) (by rw [← ea]; exact g) L, ← ea] at hk
        exact hk
      · refine b_X0_leastSaidFrom_20 (fun _ => ?_) (fun c => absurd rfl c)
        refine b_X0_leastSaidFrom_25 X.2.2.1 (s_nextRow X.1 hj X.2.2.1 hH hal' ?_)
        refine b_X0_leastSaidFrom_30 ?_
        rw [hI_1]
        refine ih (by omega) _ (fun hk' => ?_) (fun k' hk' => ?_)
        · rw [hh_nx_eq hw, ea, hh_next_row hw _ _ _ _ (by omega)]
        · by_cases q : k' = k
          · subst q; rw [← ea]; exact g
          · exact L k' (by omega)
  · rw [hh_row_0]
    have e := hh_start_row hw n H (hh_start w n H r) (hh_rank w n H r)
    rw [hh_row_of hw n H r hr'] at e
    exact e
theorem hh_start_idem (hw : 1 ≤ w) {r : Nat} (hr : r < w ^ n) : hh_start w n H (hh_start w n H r) = hh_start w n H r := by
  have e := hh_start_row hw n H (hh_start w n H r) (hh_rank w n H r)
  rw [hh_row_of hw n H r hr] at e
  exact e.symm
theorem s_leastSaid (X : hHC h n m w rc num Rs rq j H W c o z) (hj : j < rc) (hH : H < 16) (hW : W = hh_words w n H) (hWb : W ≤ 1296) {r : Nat} (hr : r < hw_pow w n) {K : Int32 → hk_H → Prop} (hk : ∀ h' o' z', hHC h' n m w rc num Rs rq j H W c o' z' → hFm hP12 h h' → K (hI ((hh_said n m w num (Rs j) H r).getD (-2))) h') : hk_Ci G m_X0_leastSaid (d + 4) 0 0 [.ref 9, .ref (rq j), .int (hI r)] h K := by
  have hw := X.1.w0 hj
  have hr' : r < w ^ n := by rw [← hw_pow_1 hw]; exact hr
  refine ⟨Nat.le_of_ble_eq_true rfl, ?_⟩
  refine b_X0_leastSaid_0 X.2.2.1 (s_stand X hj hr fun h' o' z' X' F' S' => ?_)
  refine b_X0_leastSaid_6 X'.2.2.1 (s_startOf X'.1 hj X'.2.2.1 hH hr ?_)
  rw [hh_so_eq hw n H r hr']
  exact b_X0_leastSaid_13 X'.2.2.1 (s_leastSaidFrom X' hj hH hW hWb hr S' (b_X0_leastSaid_16 ⟨_, rfl, hk h' o' z' X' F'⟩))
theorem hh_may (hm : 2 ≤ m) (hok : hr_ok n m w R) (hw : 1 ≤ w) {r : Nat} (hr : r < w ^ n) {cv : Nat → Int} (L : ∀ k, k < hh_words w n H → ∀ i, i < n → cv (hr_end n m w num R (hh_row w n H (hh_start w n H r) k) * 4 + i) ≤ hr_pay n m w num R (hh_row w n H (hh_start w n H r) k) i) (M : ∀ e, e < m → ∃ i, i < n ∧ hh_mem H i = true ∧ num (hw_in w r i * 5 + e) - cv (e * 4 + i) ≤ hr_val n m w num R r i (hw_in w r i)) : hh_said n m w num R H r = none := by
  by_cases q : hh_said n m w num R H r = none
  · exact q
  · obtain ⟨k, h1, h2⟩ := hh_said_ex hw hr q
    have hl := hh_row_lt hw n H (hh_start w n H r) k
    have he := hr_end_lt (num := num) (r := hh_row w n H (hh_start w n H r) k) hm hok (by rw [hw_pow_1 hw]; exact hl)
    obtain ⟨i, hi, hmm, hle⟩ := M _ he
    have h3 := h2 i hi hmm
    have h4 := L k h1 i hi
    rw [show hr_val n m w num R (hh_row w n H (hh_start w n H r) k) i (hw_in w r i) = num (hw_in w r i * 5 + hr_end n m w num R (hh_row w n H (hh_start w n H r) k)) - hr_pay n m w num R (hh_row w n H (hh_start w n H r) k) i from rfl] at h3
    omega
theorem s_firstRowFrom (X : hHC h n m w rc num Rs rq j H W c o z) (hj : j < rc) (hH : H < 16) (hW : W = hh_words w n H) (hWb : W ≤ 1296) {s b : Nat} (hs : s < hw_pow w n) (hst : hh_start w n H s = s) (hb : b ≤ hw_pow w n) {K : Int32 → hk_H → Prop} (hk : ∀ h' c' o' z' b', hHC h' n m w rc num Rs rq j H W c' o' z' → hFm hP12 h h' → (b' = b ∨ (b' < b ∧ hh_said n m w num (Rs j) H b' ≠ none)) → (∀ r, r < b' → hh_start w n H r = s → hh_said n m w num (Rs j) H r = none) → K (hI (b' : Nat)) h') : hk_Ci G m_X0_firstRowFrom (d + 4) 0 0 [.ref 9, .ref (rq j), .int (hI s), .int (hI b)] h K := by
  obtain ⟨hn, hm, hw6, hnum⟩ := X.1.dim
  have hw := X.1.w0 hj
  have hrow := X.1.rows
  refine ⟨Nat.le_of_ble_eq_true rfl, ?_⟩
  refine b_X0_firstRowFrom_0 X.2.2.1 (s_findCheapest X hj hH hW hWb hs hst fun h1 c1 cv X1 F1 V1 L1 => ?_)
  refine b_X0_firstRowFrom_6 ?_
  refine hk_upto (P := fun k => ∀ h' o' z' (r : Nat), hHC h' n m w rc num Rs rq j H W c1 o' z' → hFm hP12 h h' → r < w ^ n → (k < W → r = hh_row w n H s k) → (∀ k', k' < k → hh_said n m w num (Rs j) H (hh_row w n H s k') = none) → hk_S G m_X0_firstRowFrom (d + 4) 0 0 12 [some (.ref 9), some (.ref (rq j)), some (.int (hI s)), some (.int (hI b)), some (.int (hI (r : Int))), some (.int (hI (k : Int)))] [] h' (fun o h' => ∃ x, o = .inl (some (.int x)) ∧ K x h')) W (fun k hk1 ih h' o' z' r X' F' hrl er L => ?_) h1 o z s X1 F1 (by rw [← hw_pow_1 hw]; exact hs) (fun _ => by rw [hh_row_0, hst]) (fun k' hk' => by omega)
  have before : ∀ b', (∀ a, a < b' → a < w ^ n → hh_start w n H a = s → hh_rank w n H a < k) → b' ≤ w ^ n → ∀ a, a < b' → hh_start w n H a = s → hh_said n m w num (Rs j) H a = none := by
    intro b' hb1 hb2 a ha hsa
    have e := hh_row_of hw n H a (by omega)
    have := L _ (hb1 a ha (by omega) hsa)
    rw [hsa] at e
    rw [e] at this
    exact this
  have hb2 : b ≤ w ^ n := by rw [← hw_pow_1 hw]; exact hb
  have hrows : hw_pow w n = w ^ n := hw_pow_1 hw
  have after : k < W → ∀ a, a < w ^ n → hh_start w n H a = s → a < r → hh_rank w n H a < k := by
    intro hkW a ha hsa har
    have e := hh_row_of hw n H a ha
    rw [hsa] at e
    have hrk := hh_rank_lt hw n H a
    rw [er hkW] at har
    by_cases q : hh_rank w n H a < k
    · exact q
    · by_cases q2 : hh_rank w n H a = k
      · rw [q2] at e; omega
      · have := hh_row_mono hw n H s k _ (show k < hh_rank w n H a by omega) hrk
        omega
  refine b_X0_firstRowFrom_12 X'.2.2.1 rfl (fun cc => ?_) (fun cc => ?_)
  · rw [hN_le (by omega) (by omega)] at cc
    refine b_X0_firstRowFrom_67 ⟨_, rfl, hk h' _ o' z' b X' F' (Or.inl rfl) (before b (fun a _ ha _ => ?_) hb2)⟩
    have := hh_rank_lt hw n H a
    omega
  · rw [hN_le (by omega) (by omega)] at cc
    refine b_X0_firstRowFrom_21 (fun c2 => ?_) (fun c2 => ?_)
    · rw [hN_le (by omega) (by omega)] at c2
      refine b_X0_firstRowFrom_67 ⟨_, rfl, hk h' _ o' z' b X' F' (Or.inl rfl) (before b (fun a hab ha hsa => ?_) hb2)⟩
      exact after (by omega) a ha hsa (by omega)
    · rw [hN_le (by omega) (by omega)] at c2
      have er := er (by omega)
      have hrp : r < hw_pow w n := by omega
      have hsr : hh_start w n H r = s := by rw [er, hh_start_row hw, hst]
      refine b_X0_firstRowFrom_27 X'.2.2.1 (s_stand X' hj hrp fun h2 o2 z2 X2 F2 S2 => ?_)
      have step : ∀ h3 o3 z3, hHC h3 n m w rc num Rs rq j H W c1 o3 z3 → hFm hP12 h h3 → hh_said n m w num (Rs j) H r = none → hk_S G m_X0_firstRowFrom (d + 4) 0 0 53 [some (.ref 9), some (.ref (rq j)), some (.int (hI s)), some (.int (hI b)), some (.int (hI (r : Int))), some (.int (hI (k : Int)))] [] h3 (fun o h' => ∃ x, o = .inl (some (.int x)) ∧ K x h') := by
        intro h3 o3 z3 X3 F3 hno
        refine b_X0_firstRowFrom_53 X3.2.2.1 (s_nextRow X3.1 hj X3.2.2.1 hH hrp ?_)
        refine b_X0_firstRowFrom_59 ?_
        rw [hI_1]
        by_cases q : k + 1 < W
        · refine ih (by omega) h3 o3 z3 _ X3 F3 ?_ (fun hk' => ?_) (fun k' hk' => ?_)
          · rw [hh_nx_eq hw, er, hh_next_row hw _ _ _ _ (by omega)]
            exact hh_row_lt hw _ _ _ _
          · rw [hh_nx_eq hw, er, hh_next_row hw _ _ _ _ (by omega)]
          · by_cases q : k' = k
            · subst q; rw [← er]; exact hno
            · exact L k' (by omega)
        · refine b_X0_firstRowFrom_12 X3.2.2.1 rfl (fun cc => ?_) (fun cc => ?_)
          · refine b_X0_firstRowFrom_67 ⟨_, rfl, hk h3 _ o3 z3 b X3 F3 (Or.inl rfl) (fun a hab hsa => ?_)⟩
            have hal : a < w ^ n := by omega
            have e := hh_row_of hw n H a hal
            rw [hsa] at e
            have hrk := hh_rank_lt hw n H a
            by_cases q3 : hh_rank w n H a = k
            · rw [q3, ← er] at e; rw [← e]; exact hno
            · have := L (hh_rank w n H a) (by omega)
              rw [e] at this
              exact this
          · rw [hN_le (by omega) (by omega)] at cc
            omega
      refine b_X0_firstRowFrom_34 X2.2.2.1 (s_mayLie X2 hj hH V1 hrp S2 ?_ (fun M => ?_))
      · refine b_X0_firstRowFrom_38 (fun c => absurd c (by decide)) (fun _ => ?_)
        have z := s_leastSaidFrom (G := G) (d := d) (K := fun x h' => hk_S G m_X0_firstRowFrom (d + 4) 0 0 47 [some (.ref 9), some (.ref (rq j)), some (.int (hI s)), some (.int (hI b)), some (.int (hI (r : Int))), some (.int (hI (k : Int)))] [.int x] h' (fun o h' => ∃ x, o = .inl (some (.int x)) ∧ K x h')) X2 hj hH hW hWb hrp S2 ?_
        · rw [hsr] at z
          exact b_X0_firstRowFrom_41 X2.2.2.1 z
        · cases e : hh_said n m w num (Rs j) H r with
          | none => exact b_X0_firstRowFrom_47 (fun _ => step h2 o2 z2 X2 (F'.tr F2) e) (fun c => absurd (by decide) c)
          | some v =>
            refine b_X0_firstRowFrom_47 (fun c => ?_) (fun c => b_X0_firstRowFrom_50 ⟨_, rfl, ?_⟩)
            · exfalso
              have e' := e
              unfold hh_said at e'
              rw [hf_is] at e'
              obtain ⟨a, ha1, ha2, -⟩ := e'
              split at ha2
              · have ha2 : (a : Int) = v := Option.some.inj ha2
                have c : hI v < 0 := c
                rw [← ha2, hI_lt0 (hI_rN (by omega))] at c
                omega
              · cases ha2
            · refine hk h2 _ o2 z2 r X2 (F'.tr F2) (Or.inr ⟨by omega, by rw [e]; exact fun q => by cases q⟩) (before r (fun a har ha hsa => after (by omega) a ha hsa har) (by omega))
      · refine b_X0_firstRowFrom_38 (fun _ => ?_) (fun c => absurd rfl c)
        refine step h2 o2 z2 X2 (F'.tr F2) ?_
        refine hh_may hm.1 (X2.1.ok hj) hw hrl (cv := cv) (fun k' hk' i hi => ?_) M
        rw [hsr]
        exact L1 k' (by omega) i hi
end SHr
