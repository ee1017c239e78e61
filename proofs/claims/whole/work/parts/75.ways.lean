/-! The class's Ways (cells 13 to 17): what a person can bring about, and the lengths. -/
def hy_cm (E : Nat → Nat) : Nat → Nat → Bool
  | 0, _ => false
  | k + 1, e => hy_cm E k e || (E k == e)
def hy_len (num : Nat → Int) (E : Nat → Nat) : Nat → Nat → Nat → Int
  | 0, _, _ => 1000000
  | k + 1, e, f => if E k = f then min (hy_len num E k e f) (num (k * 5 + f) - num (k * 5 + e)) else hy_len num E k e f
/-- as the class has them: only from ends that come about -/
def hy_Lk (num : Nat → Int) (E : Nat → Nat) (w k : Nat) (e f : Nat) : Int := if hy_cm E w e = true then hy_len num E k e f else 1000000
def hy_L (num : Nat → Int) (E : Nat → Nat) (w : Nat) : Nat → Nat → Int := hy_Lk num E w w
theorem hy_cm_is {E : Nat → Nat} {e : Nat} : ∀ k, hy_cm E k e = true ↔ ∃ v, v < k ∧ E v = e := by
  intro k
  induction k with
  | zero => exact ⟨(fun h => by cases h), fun ⟨v, hv, _⟩ => by omega⟩
  | succ k ih =>
    unfold hy_cm
    rw [Bool.or_eq_true, ih, beq_iff_eq]
    constructor
    · rintro (⟨v, h1, h2⟩ | h)
      · exact ⟨v, by omega, h2⟩
      · exact ⟨k, by omega, h⟩
    · rintro ⟨v, h1, h2⟩
      by_cases q : v = k
      · subst q; exact Or.inr h2
      · exact Or.inl ⟨v, by omega, h2⟩
section WL
variable {num : Nat → Int} {E : Nat → Nat} {m w : Nat}
theorem hy_len_b (hnum : ∀ k, k < 30 → -99 ≤ num k ∧ num k ≤ 99) (hE : ∀ v, v < w → E v < m) (hm : m ≤ 5) (hw : w ≤ 6) {e f : Nat} (he : e < 5) : ∀ k, k ≤ w → -198 ≤ hy_len num E k e f ∧ hy_len num E k e f ≤ 1000000 ∧ (hy_cm E k f = true → hy_len num E k e f ≤ 198) ∧ (hy_cm E k f = false → hy_len num E k e f = 1000000) := by
  intro k
  induction k with
  | zero => intro _; exact ⟨by show (-198 : Int) ≤ 1000000; omega, by show (1000000 : Int) ≤ 1000000; omega, (fun h => by cases h), fun _ => rfl⟩
  | succ k ih =>
    intro hk
    obtain ⟨h1, h2, h3, h4⟩ := ih (by omega)
    have hEk := hE k (by omega)
    unfold hy_len hy_cm
    by_cases q : E k = f
    · rw [if_pos q]
      have a1 := hnum (k * 5 + f) (by omega)
      have a2 := hnum (k * 5 + e) (by omega)
      refine ⟨by omega, by omega, fun _ => by omega, fun h => ?_⟩
      rw [q, Bool.or_eq_false_iff] at h
      have := h.2
      simp at this
    · rw [if_neg q]
      have e1 : (E k == f) = false := by rw [beq_eq_false_iff_ne]; exact q
      rw [e1, Bool.or_false]
      exact ⟨h1, h2, h3, h4⟩
theorem hy_len_0 {e : Nat} : ∀ k, hy_cm E k e = true → hy_len num E k e e = 0 := by
  intro k
  induction k with
  | zero => intro h; cases h
  | succ k ih =>
    intro h
    have key : hy_len num E k e e = 0 ∨ hy_len num E k e e = 1000000 := by
      clear h ih
      induction k with
      | zero => exact Or.inr rfl
      | succ k ih =>
        unfold hy_len
        split
        · omega
        · exact ih
    unfold hy_cm at h
    rw [Bool.or_eq_true, beq_iff_eq] at h
    unfold hy_len
    split
    · omega
    · rename_i q
      rcases h with h | h
      · exact ih h
      · exact absurd h q
theorem hy_cm_lt (hE : ∀ v, v < w → E v < m) {e : Nat} (h : hy_cm E w e = true) : e < m := by
  obtain ⟨v, h1, h2⟩ := (hy_cm_is w).mp h
  rw [← h2]; exact hE v h1
theorem hy_L_bd (hnum : ∀ k, k < 30 → -99 ≤ num k ∧ num k ≤ 99) (hE : ∀ v, v < w → E v < m) (hm : m ≤ 5) (hw : w ≤ 6) : hy_bd m (hy_cm E w) (hy_L num E w) 198 := by
  intro i j hi ci hj cj
  unfold hy_L hy_Lk
  rw [if_pos ci]
  obtain ⟨h1, h2, h3, h4⟩ := hy_len_b (f := j) hnum hE hm hw (show i < 5 by omega) w (Nat.le_refl _)
  exact ⟨h1, h3 cj⟩
theorem hy_L_far (hnum : ∀ k, k < 30 → -99 ≤ num k ∧ num k ≤ 99) (hE : ∀ v, v < w → E v < m) (hm : m ≤ 5) (hw : w ≤ 6) {i j : Nat} (h : hy_cm E w i = false ∨ hy_cm E w j = false) : hy_L num E w i j = 1000000 := by
  unfold hy_L hy_Lk
  by_cases q : hy_cm E w i = true
  · rw [if_pos q]
    have hi := hy_cm_lt hE q
    obtain ⟨h1, h2, h3, h4⟩ := hy_len_b (f := j) hnum hE hm hw (show i < 5 by omega) w (Nat.le_refl _)
    rcases h with h | h
    · rw [q] at h; cases h
    · exact h4 h
  · rw [if_neg q]
theorem hy_L_0 {e : Nat} (h : hy_cm E w e = true) : hy_L num E w e e = 0 := by
  unfold hy_L hy_Lk
  rw [if_pos h]
  exact hy_len_0 w h
end WL
def hYo (h : hk_H) : Prop := h.2 13 = some (.inr (6, [.ref 5, .ref 14, .ref 15, .ref 16, .ref 17]))
def hYs (h : hk_H) (cf lf sf tf : Nat → Int32) : Prop := hYo h ∧ h.2 14 = some (.inl (2, 5, .inl cf)) ∧ h.2 15 = some (hc_i32 25 lf) ∧ h.2 16 = some (hc_i32 25 sf) ∧ h.2 17 = some (hc_i32 160 tf)
def hYc (cf : Nat → Int32) (cm : Nat → Bool) : Prop := ∀ e, e < 5 → cf e = hI (hb (cm e))
def hYm (f : Nat → Int32) (D : Nat → Nat → Int) : Prop := ∀ i j, i < 5 → j < 5 → f (i * 5 + j) = hI (D i j)
theorem hYm.up {f : Nat → Int32} {D : Nat → Nat → Int} (H : hYm f D) {a b : Nat} (hb : b < 5) {v : Int} : hYm (upd f (a * 5 + b) (hI v)) (fun i j => if i = a ∧ j = b then v else D i j) := by
  intro i j hi hj
  unfold upd
  show (if i * 5 + j = a * 5 + b then _ else _) = hI (if i = a ∧ j = b then _ else _)
  by_cases q : i = a ∧ j = b
  · rw [if_pos q, if_pos (by omega)]
  · rw [if_neg q, if_neg (by omega)]; exact H i j hi hj
theorem hYm.to {f : Nat → Int32} {D D' : Nat → Nat → Int} (H : hYm f D) (e : ∀ i j, i < 5 → j < 5 → D i j = D' i j) : hYm f D' := fun i j hi hj => by rw [← e i j hi hj]; exact H i j hi hj
theorem hYc.not0 {cf : Nat → Int32} {cm : Nat → Bool} (H : hYc cf cm) {e : Nat} (he : e < 5) : cf e = 0 ↔ cm e = false := by
  rw [H e he]
  cases cm e
  · exact ⟨fun _ => rfl, fun _ => rfl⟩
  · exact ⟨fun c => absurd c (by decide), fun c => by cases c⟩
section SWy
variable {G : hk_G} {h h' : hk_H} {n m w : Nat} {num : Nat → Int} {R : hr_R} {q k d : Nat} {ef pf pw : Nat → Int32} {cf lf sf tf : Nat → Int32}
theorem hYs.set14 (Y : hYs h cf lf sf tf) {c' : Nat → Int32} : hYs (hk_set h 14 (.inl (2, 5, .inl c'))) c' lf sf tf := by
  obtain ⟨y1, y2, y3, y4, y5⟩ := Y
  exact ⟨(hk_set_ne (by decide)).trans y1, hk_set_eq, (hk_set_ne (by decide)).trans y3, (hk_set_ne (by decide)).trans y4, (hk_set_ne (by decide)).trans y5⟩
theorem hYs.set15 (Y : hYs h cf lf sf tf) {c' : Nat → Int32} : hYs (hk_set h 15 (hc_i32 25 c')) cf c' sf tf := by
  obtain ⟨y1, y2, y3, y4, y5⟩ := Y
  exact ⟨(hk_set_ne (by decide)).trans y1, (hk_set_ne (by decide)).trans y2, hk_set_eq, (hk_set_ne (by decide)).trans y4, (hk_set_ne (by decide)).trans y5⟩
theorem hYs.set16 (Y : hYs h cf lf sf tf) {c' : Nat → Int32} : hYs (hk_set h 16 (hc_i32 25 c')) cf lf c' tf := by
  obtain ⟨y1, y2, y3, y4, y5⟩ := Y
  exact ⟨(hk_set_ne (by decide)).trans y1, (hk_set_ne (by decide)).trans y2, (hk_set_ne (by decide)).trans y3, hk_set_eq, (hk_set_ne (by decide)).trans y5⟩
theorem hYs.set17 (Y : hYs h cf lf sf tf) {c' : Nat → Int32} : hYs (hk_set h 17 (hc_i32 160 c')) cf lf sf c' := by
  obtain ⟨y1, y2, y3, y4, y5⟩ := Y
  exact ⟨(hk_set_ne (by decide)).trans y1, (hk_set_ne (by decide)).trans y2, (hk_set_ne (by decide)).trans y3, (hk_set_ne (by decide)).trans y4, hk_set_eq⟩
/-- only cells 14 to 17 differ -/
def hYf (h h' : hk_H) : Prop := h'.1 = h.1 ∧ ∀ a, ¬ (14 ≤ a ∧ a ≤ 17) → h'.2 a = h.2 a
theorem hYf.rf : hYf h h := ⟨rfl, fun _ _ => rfl⟩
theorem hYf.tr {h'' : hk_H} (H : hYf h h') (H' : hYf h' h'') : hYf h h'' := ⟨H'.1.trans H.1, fun a ha => (H'.2 a ha).trans (H.2 a ha)⟩
theorem hYf.set (H : hYf h h') {a : Nat} {c : hk_AC} (ha : 14 ≤ a ∧ a ≤ 17) : hYf h (hk_set h' a c) := ⟨H.1, fun b hb => (hk_set_ne (by omega)).trans (H.2 b hb)⟩
theorem hYf.wl (H : hYf h h') (HW : hW h n m w num pw) : hW h' n m w num pw := HW.fr fun a _ _ => H.2 a (by omega)
theorem hYf.r (H : hYf h h') (hq : 43 ≤ q) (HR : hRu h q k n m w num R ef pf) : hRu h' q k n m w num R ef pf := HR.fr fun a _ _ => H.2 a (by omega)
theorem s_lengthOf (Y : hYs h cf lf sf tf) {a b : Nat} (ha : a < 5) (hb : b < 5) {K : Int32 → hk_H → Prop} (hk : K (lf (a * 5 + b)) h) : hk_Ci G m_X6_lengthOf d 0 0 [.ref 13, .int (hI a), .int (hI b)] h K := by
  refine ⟨Nat.le_of_ble_eq_true rfl, ?_⟩
  exact b_X6_lengthOf_0 Y.1 rfl Y.2.2.1 (a * 5 + b) (hI_ij (q := 5) (by omega) (by omega) (by omega)) (by omega) ⟨_, rfl, hk⟩
theorem s_measure (HW : hW h n m w num pw) (Y : hYs h cf lf sf tf) {E : Nat → Nat} (hE : ∀ v, v < w → E v < m) (hc : hYc cf (hy_cm E w)) {v : Nat} (hv : v < w) (hl : hYm lf (hy_Lk num E w v)) {K : hk_H → Prop} (hk : ∀ h' lf', hYs h' cf lf' sf tf → hYf h h' → hYm lf' (hy_Lk num E w (v + 1)) → K h') : hk_Cv G m_X6_measure (d + 1) 0 0 [.ref 13, .int (hI v), .int (hI (E v : Nat))] h K := by
  obtain ⟨w1, w2, w3, w4, hn, hm, hw6, hnum⟩ := id HW
  have hto := hE v hv
  refine ⟨Nat.le_of_ble_eq_true rfl, ?_⟩
  refine b_X6_measure_0 ?_
  refine hk_upto (P := fun e9 => ∀ h' lf' (o4 : Option Value), hYs h' cf lf' sf tf → hYf h h' → hYm lf' (fun e f => if e < e9 then hy_Lk num E w (v + 1) e f else hy_Lk num E w v e f) → hk_S G m_X6_measure (d + 1) 0 0 2 [some (.ref 13), some (.int (hI v)), some (.int (hI (E v : Nat))), some (.int (hI (e9 : Int))), o4] [] h' (fun o h' => o = .inl none ∧ K h')) m (fun e9 he9 ih h' lf' o4 Y' F' M' => ?_) h lf none Y hYf.rf (hl.to fun i j _ _ => by rw [if_neg (by omega)])
  refine b_X6_measure_2 Y'.1 rfl (F'.wl HW).1 rfl (fun cc => ?_) (fun cc => ?_)
  · rw [hN_le (by omega) (by omega)] at cc
    refine b_X6_measure_72 ⟨rfl, hk h' lf' Y' F' (M'.to fun i j hi hj => ?_)⟩
    by_cases q : i < e9
    · rw [if_pos q]
    · rw [if_neg q]
      have hci : hy_cm E w i = false := by
        rw [← Bool.not_eq_true]
        intro c
        have := hy_cm_lt hE c
        omega
      unfold hy_Lk
      rw [hci]
      rfl
  · rw [hN_le (by omega) (by omega)] at cc
    have hem : e9 < m := by omega
    have a1 := hnum (v * 5 + E v) (by omega)
    have a2 := hnum (v * 5 + e9) (by omega)
    have same : ∀ (j : Nat), ¬ (hy_cm E w e9 = true ∧ j = E v) → hy_Lk num E w (v + 1) e9 j = hy_Lk num E w v e9 j := by
      intro j hq
      unfold hy_Lk
      by_cases c : hy_cm E w e9 = true
      · rw [if_pos c, if_pos c]
        show (if E v = j then _ else _) = _
        rw [if_neg (fun z => hq ⟨c, z.symm⟩)]
      · rw [if_neg c, if_neg c]
    have more : hy_cm E w e9 = true → hy_Lk num E w (v + 1) e9 (E v) = min (hy_Lk num E w v e9 (E v)) (num (v * 5 + E v) - num (v * 5 + e9)) := by
      intro c
      unfold hy_Lk
      rw [if_pos c, if_pos c]
      show (if E v = E v then _ else _) = _
      rw [if_pos rfl]
    have step0 : (∀ j, j < 5 → hy_Lk num E w (v + 1) e9 j = hy_Lk num E w v e9 j) → hYm lf' (fun e f => if e < e9 + 1 then hy_Lk num E w (v + 1) e f else hy_Lk num E w v e f) := by
      intro hs
      refine M'.to fun i j hi hj => ?_
      by_cases q1 : i < e9
      · rw [if_pos q1, if_pos (by omega)]
      · rw [if_neg q1]
        by_cases q2 : i = e9
        · subst q2; rw [if_pos (by omega), hs j hj]
        · rw [if_neg (by omega)]
    refine b_X6_measure_13 Y'.1 rfl (F'.wl HW).1 (s_number (F'.wl HW) (by omega) (by omega) ?_)
    refine b_X6_measure_22 Y'.1 rfl (F'.wl HW).1 (s_number (F'.wl HW) (by omega) (by omega) ?_)
    refine b_X6_measure_31 Y'.1 rfl Y'.2.1 e9 (hI_at rfl (by omega)) (by omega) (fun c2 => ?_) (fun c2 => ?_)
    · have c2 := (hc.not0 (by omega)).mp c2
      refine b_X6_measure_66 ?_
      rw [hI_1]
      exact ih (by omega) h' lf' _ Y' F' (step0 fun j _ => same j fun z => by rw [c2] at z; cases z.1)
    · have c2 := mt (hc.not0 (by omega)).mpr c2
      rw [Bool.not_eq_false] at c2
      rw [hI_sub]
      refine b_X6_measure_43 Y'.1 (s_lengthOf Y' (by omega) (by omega) ?_)
      have ev := M' e9 (E v) (by omega) (by omega)
      simp only [Nat.lt_irrefl, if_false] at ev
      obtain ⟨b1, b2, -, -⟩ := hy_len_b (f := E v) hnum hE hm.2 hw6 (show e9 < 5 by omega) v (by omega)
      have bb : hy_Lk num E w v e9 (E v) = hy_len num E v e9 (E v) := by unfold hy_Lk; rw [if_pos c2]
      rw [ev]
      refine b_X6_measure_51 (fun c3 => ?_) (fun c3 => ?_)
      · rw [hI_le (by omega) (by omega)] at c3
        refine b_X6_measure_66 ?_
        rw [hI_1]
        refine ih (by omega) h' lf' _ Y' F' (step0 fun j _ => ?_)
        by_cases qj : j = E v
        · rw [qj, more c2]; omega
        · exact same j fun z => qj z.2
      · rw [hI_le (by omega) (by omega)] at c3
        refine b_X6_measure_54 Y'.1 rfl Y'.2.2.1 (by omega) (e9 * 5 + E v) (hI_ij (q := 5) (by omega) (by omega) (by omega)) (by omega) rfl ?_
        rw [hI_1]
        refine ih (by omega) _ _ _ Y'.set15 (F'.set (by omega)) ((M'.up (a := e9) (show E v < 5 by omega)).to fun i j hi hj => ?_)
        by_cases q0 : i = e9 ∧ j = E v
        · obtain ⟨q1, q2⟩ := q0
          subst q1 q2
          rw [if_pos ⟨rfl, rfl⟩, if_pos (by omega), more c2]
          omega
        · rw [if_neg q0]
          by_cases q1 : i < e9
          · rw [if_pos q1, if_pos (by omega)]
          · rw [if_neg q1]
            by_cases q2 : i = e9
            · subst q2
              rw [if_pos (by omega), same j fun z => q0 ⟨rfl, z.2⟩]
            · rw [if_neg (by omega)]
theorem s_look (HW : hW h n m w num pw) (H : hRu h q k n m w num R ef pf) (hq : 43 ≤ q) (hw : 1 ≤ w) (Y : hYs h cf lf sf tf) {r i : Nat} (hr : r < hw_pow w n) (hi : i < n) (hs : ∀ v, v < w → hr_st ef (hw_say w r i v)) {K : hk_H → Prop} (hk : ∀ h' cf' lf', hYs h' cf' lf' sf tf → hYf h h' → hYc cf' (hy_cm (fun v => hr_end n m w num R (hw_say w r i v)) w) → hYm lf' (hy_L num (fun v => hr_end n m w num R (hw_say w r i v)) w) → K h') : hk_Cv G m_X6_look (d + 2) 0 0 [.ref 13, .ref q, .int (hI r), .int (hI i)] h K := by
  obtain ⟨w1, w2, w3, w4, hn, hm, hw6, hnum⟩ := id HW
  have hrow := hw_pow_lt (i := n) hw6 (by omega)
  have hsl : ∀ v, v < w → hw_say w r i v < hw_pow w n := fun v hv => by
    rw [hw_pow_1 hw] at hr ⊢
    exact hw_say_lt hr hi hv
  have hE : ∀ v, v < w → hr_end n m w num R (hw_say w r i v) < m := fun v hv => hr_end_lt hm.1 H.1 (hsl v hv)
  have hd := hr_dEnd H.1.1
  generalize hEE : (fun v => hr_end n m w num R (hw_say w r i v)) = E at hk
  have hEv : ∀ v, hr_end n m w num R (hw_say w r i v) = E v := fun v => by rw [← hEE]
  have hE' : ∀ v, v < w → E v < m := fun v hv => by rw [← hEv]; exact hE v hv
  refine ⟨Nat.le_of_ble_eq_true rfl, ?_⟩
  refine b_X6_look_0 ?_
  refine hk_upto (P := fun e => ∀ h' cf', hYs h' cf' lf sf tf → hYf h h' → (∀ x, x < e → cf' x = 0) → hk_S G m_X6_look (d + 2) 0 0 3 [some (.ref 13), some (.ref q), some (.int (hI r)), some (.int (hI i)), some (.int (hI (e : Int)))] [] h' (fun o h' => o = .inl none ∧ K h')) 5 (fun e he ih h' cf' Y' F' C' => ?_) h cf Y hYf.rf (fun x hx => by omega)
  refine b_X6_look_3 (fun cc => ?_) (fun cc => ?_)
  · rw [show (5 : Int32) = hI ((5 : Nat) : Int) from rfl, hN_le (by omega) (by omega)] at cc
    refine b_X6_look_23 ?_
    refine hk_upto (P := fun v => ∀ h' cf', hYs h' cf' lf sf tf → hYf h h' → hYc cf' (hy_cm E v) → hk_S G m_X6_look (d + 2) 0 0 26 [some (.ref 13), some (.ref q), some (.int (hI r)), some (.int (hI i)), some (.int (hI (v : Int)))] [] h' (fun o h' => o = .inl none ∧ K h')) w (fun v hv ih2 h' cf' Y' F' C' => ?_) h' cf' Y' F' (fun x hx => C' x (by omega))
    refine b_X6_look_26 Y'.1 rfl (F'.wl HW).1 rfl (fun c2 => ?_) (fun c2 => ?_)
    · rw [hN_le (by omega) (by omega)] at c2
      have e : v = w := by omega
      subst e
      refine b_X6_look_65 Y'.1 rfl (s_fill Y'.2.2.1 (by omega) (by omega) fun g hg => ?_)
      refine b_X6_look_74 ?_
      refine hk_upto (P := fun u => ∀ h' lf', hYs h' cf' lf' sf tf → hYf h h' → hYm lf' (hy_Lk num E v u) → hk_S G m_X6_look (d + 2) 0 0 77 [some (.ref 13), some (.ref q), some (.int (hI r)), some (.int (hI i)), some (.int (hI (u : Int)))] [] h' (fun o h' => o = .inl none ∧ K h')) v (fun u hu ih3 h' lf' Y' F' M' => ?_) _ g Y'.set15 (F'.set (by omega)) (fun a b ha hb => by
        rw [hg _ (by omega)]
        unfold hy_Lk
        split <;> rfl)
      refine b_X6_look_77 Y'.1 rfl (F'.wl HW).1 rfl (fun c3 => ?_) (fun c3 => ?_)
      · rw [hN_le (by omega) (by omega)] at c3
        have e : u = v := by omega
        subst e
        exact b_X6_look_116 ⟨rfl, hk h' cf' lf' Y' F' C' M'⟩
      · rw [hN_le (by omega) (by omega)] at c3
        refine b_X6_look_89 Y'.1 rfl (F'.wl HW).1 (s_rowSaying (F'.wl HW) hw (by omega) hi ?_)
        have H' := F'.r hq H
        refine b_X6_look_104 hd H'.2.2.1 (s_endAt H' hrow (hsl u (by omega)) (hs u (by omega)) ?_)
        rw [hEv]
        refine b_X6_look_107 Y'.1 (s_measure (F'.wl HW) Y' hE' C' (show u < v by omega) M' fun h4 lf4 Y4 F4 M4 => ?_)
        refine b_X6_look_110 ?_
        rw [hI_1]
        exact ih3 (by omega) h4 lf4 Y4 (F'.tr F4) M4
    · rw [hN_le (by omega) (by omega)] at c2
      refine b_X6_look_38 Y'.1 rfl rfl (F'.wl HW).1 (s_rowSaying (F'.wl HW) hw (by omega) hi ?_)
      have H' := F'.r hq H
      refine b_X6_look_54 hd H'.2.2.1 (s_endAt H' hrow (hsl v (by omega)) (hs v (by omega)) ?_)
      have hev := hE v (by omega)
      refine b_X6_look_57 Y'.2.1 (by omega) _ (hI_at rfl (by omega)) (by omega) rfl ?_
      rw [hI_1]
      refine ih2 (by omega) _ _ Y'.set14 (F'.set (by omega)) fun x hx => ?_
      unfold upd hy_cm
      rw [← hEv]
      by_cases c : x = hr_end n m w num R (hw_say w r i v)
      · rw [if_pos c, c, beq_self_eq_true, Bool.or_true]; rfl
      · rw [if_neg c, show (hr_end n m w num R (hw_say w r i v) == x) = false by rw [beq_eq_false_iff_ne]; exact fun z => c z.symm, Bool.or_false]
        exact C' x hx
  · rw [show (5 : Int32) = hI ((5 : Nat) : Int) from rfl, hN_le (by omega) (by omega)] at cc
    refine b_X6_look_9 Y'.1 rfl Y'.2.1 (by omega) e (hI_at rfl (by omega)) (by omega) rfl ?_
    rw [hI_1]
    refine ih (by omega) _ _ Y'.set14 (F'.set (by omega)) fun x hx => ?_
    unfold upd
    by_cases c : x = e
    · rw [if_pos c]
    · rw [if_neg c]; exact C' x (by omega)
end SWy
