/-! keep, make, element, copy, weight, toss. -/
theorem hL_upd {f : Nat → Int64} {g : Nat → Int} {j : Nat} {v : Int32} {e : Int} (hv : v = hI e) (he : -2147483648 ≤ e ∧ e < 2147483648) (hge : g j = e) (hf : ∀ i, i < j → f i = hL (g i)) : ∀ i, i < j + 1 → vp_updL f j v.toInt64 i = hL (g i) := by
  intro i hi
  unfold vp_updL
  by_cases c : i = j
  · rw [if_pos c, hv, hL_I he, c, hge]
  · rw [if_neg c]; exact hf i (by omega)
section SV2
variable {G : hk_G} {h h' : hk_H} {n m w rc rc' : Nat} {num : Nat → Int} {Rs : Nat → hr_R} {rq rq' : Nat → Nat} {Ss : Nat → hv_S} {S : hv_S} {D d : Nat}
def hq_keep (n m w rc : Nat) (num : Nat → Int) (Rs : Nat → hr_R) (Ss : Nat → hv_S) (x y z : Int32) : Int × (Nat → hv_S) := match hx x 8 with
  | none => (-1, Ss)
  | some D => if y = 0 then (0, hv_up Ss D hv_0) else if y = 1 then (match hx z rc with
      | none => (-1, Ss)
      | some j => (0, hv_up Ss D (1, j, hr_heft n j (Rs j), 0, fun _ => 0))) else if y = 3 then (match hx z rc with
      | none => (-1, Ss)
      | some j => (0, hv_up Ss D (3, 0, 0, min 60 (hw_pow w n), fun r => (hr_end n m w num (Rs j) r : Nat)))) else if y = 4 then (match hx z w with
      | none => (-1, Ss)
      | some a => (0, hv_up Ss D (4, 0, 0, m, fun e => num (a * 5 + e)))) else (-1, Ss)
theorem s_keepRule (C : hC h n m w rc num Rs rq) (HS : hSh h rc rq Ss) (hD : D < 8) {z : Int32} {K : Int32 → hk_H → Prop} (hk1 : ∀ j h', j < rc → z = hI (j : Int) → hC h' n m w rc num Rs rq → hSh h' rc rq (hv_up Ss D (1, j, hr_heft n j (Rs j), 0, fun _ => 0)) → hFm hP42 h h' → K 0 h') (hk0 : ¬ hIn z rc → K (-1) h) : hk_Ci G m_X9_keepRule (d + 4) 0 0 [.ref 4, .ref (27 + 2 * D), .int z] h K := by
  obtain ⟨c1, ⟨pw, c2⟩, c3, c4, c5, c6, c7⟩ := id C
  obtain ⟨h1, h2, h3, ru, hf, sz, f, h4, h5, h6, h7⟩ := HS.2 D hD
  refine ⟨Nat.le_of_ble_eq_true rfl, ?_⟩
  refine b_X9_keepRule_0 c1 (s_ruleAt c1 c4 (fun j hj hx => ?_) (fun hx => b_X9_keepRule_5N0 ⟨_, rfl, hk0 hx⟩))
  refine b_X9_keepRule_5 h4 (s_holdRule C hD (HS.2 D hD) hj fun h' H' e' f' => b_X9_keepRule_17 ⟨_, rfl, ?_⟩)
  refine hk1 j h' hj hx (C.fr (by omega) fun a ha => f' a (by omega)) (HS.one hD (fun a _ _ ha _ => f' a ha) H') ⟨by omega, fun a ha hp => f' a fun e => hp (by unfold hP42; omega)⟩
theorem s_keepEnds (C : hC h n m w rc num Rs rq) (HS : hSh h rc rq Ss) (hD : D < 8) {z : Int32} {K : Int32 → hk_H → Prop} (hk1 : ∀ j h', j < rc → z = hI (j : Int) → hC h' n m w rc num Rs rq → hSh h' rc rq (hv_up Ss D (3, 0, 0, min 60 (hw_pow w n), fun r => (hr_end n m w num (Rs j) r : Nat))) → hFm hP42 h h' → K 0 h') (hk0 : ¬ hIn z rc → K (-1) h) : hk_Ci G m_X9_keepEnds (d + 4) 0 0 [.ref 4, .ref (27 + 2 * D), .int z] h K := by
  obtain ⟨hn, hm, hw6, hnum⟩ := C.dim
  have hrow := C.rows
  obtain ⟨c1, ⟨pw, c2⟩, c3, c4, c5, c6, c7⟩ := id C
  obtain ⟨h1, h2, h3, ru, hf, sz, f, h4, h5, h6, h7⟩ := HS.2 D hD
  refine ⟨Nat.le_of_ble_eq_true rfl, ?_⟩
  refine b_X9_keepEnds_0 c1 (s_ruleAt c1 c4 (fun j hj hx => ?_) (fun hx => b_X9_keepEnds_5N0 ⟨_, rfl, hk0 hx⟩))
  refine b_X9_keepEnds_5 c1 rfl C.w1 rfl (s_min (a := 60) (by omega) (by omega) ?_)
  rw [show min (60 : Int) ((hw_pow w n : Nat) : Int) = ((min 60 (hw_pow w n) : Nat) : Int) by omega]
  generalize hz : min 60 (hw_pow w n) = z9 at hk1 ⊢
  refine b_X9_keepEnds_26 h4 (s_holdRow (HS.2 D hD) fun h' hf' g e1 f1 o1 a1 g1 => ?_)
  have C1 : hC h' n m w rc num Rs rq := C.fr (by omega) fun a ha => f1 a (by omega) (by omega)
  refine b_X9_keepEnds_29 ?_
  refine hk_upto (P := fun i => ∀ h' g, hC h' n m w rc num Rs rq → h.1 ≤ h'.1 → (∀ a, a < 71 → a ≠ 27 + 2 * D → a ≠ 28 + 2 * D → h'.2 a = h.2 a) → h'.2 (27 + 2 * D) = some (.inr (4, [.int 3, .null, .int hf', .int (hI z9), .ref (28 + 2 * D)])) → h'.2 (28 + 2 * D) = some (hc_i64 60 g) → (∀ k, k < i → g k = hL (hr_end n m w num (Rs j) k : Nat)) → hk_S G m_X9_keepEnds (d + 4) 0 0 32 [some (.ref 4), some (.ref (27 + 2 * D)), some (.int z), some (.ref (rq j)), some (.int (hI (i : Int)))] [] h' (fun o h' => ∃ x, o = .inl (some (.int x)) ∧ K x h')) z9 (fun i hi ih h' g C' e' f' o' a' g' => ?_) h' g C1 (by omega) (fun a _ => f1 a) o1 a1 (fun k hk => by omega)
  refine b_X9_keepEnds_32 o' rfl (fun c => ?_) (fun c => ?_)
  · rw [hN_le (by omega) (by omega)] at c
    refine b_X9_keepEnds_67 ⟨_, rfl, hk1 j h' hj hx C' (HS.one hD (fun a _ hb => f' a (by omega)) ?_) ⟨e', fun a ha hp => f' a ha (fun e => hp (by unfold hP42; omega)) (fun e => hp (by unfold hP42; omega))⟩⟩
    exact ⟨Or.inr (Or.inr (Or.inl rfl)), fun c => absurd (show 3 = 1 from c) (by decide), fun _ => by show z9 ≤ 60; omega, .null, hf', _, g, o', a', fun c => absurd (show 3 = 1 from c) (by decide), fun _ => ⟨rfl, fun k hk => g' k (by have : k < z9 := hk; omega)⟩⟩
  · rw [hN_le (by omega) (by omega)] at c
    refine b_X9_keepEnds_41 (hr_dSettle (C'.ok hj).1) (C'.obj hj) (s_settleC C' hj (by omega) fun h2 C2 l2 s2 m2 => ?_)
    refine b_X9_keepEnds_47 (by rw [l2.2 _ (by omega)]; exact o') rfl (hr_dEnd (C2.ok hj).1) (C2.obj hj) (c_endAt C2 hj (by omega) s2 ?_)
    have a2 : h2.2 (28 + 2 * D) = some (hc_i64 60 g) := by rw [l2.2 _ (by omega)]; exact a'
    have hend := hr_end_lt (num := num) hm.1 (C2.ok hj) (r := i) (by omega)
    refine b_X9_keepEnds_59 a2 (by omega) i (hI_at rfl (by omega)) (by omega) rfl ?_
    rw [hI_1]
    refine ih (by omega) _ _ (C2.fr (Nat.le_refl _) fun a ha => hk_set_ne (by omega)) (by have := l2.1; show h.1 ≤ h2.1; omega) (fun a h1 h2' h3 => ?_) ?_ hk_set_eq (hL_upd rfl (by omega) rfl g')
    · rw [hk_set_ne h3, l2.2 a h1]; exact f' a h1 h2' h3
    · rw [hk_set_ne (by omega), l2.2 _ (by omega)]; exact o'
theorem s_keepNumbers (C : hC h n m w rc num Rs rq) (HS : hSh h rc rq Ss) (hD : D < 8) {z : Int32} {K : Int32 → hk_H → Prop} (hk1 : ∀ j h', j < w → z = hI (j : Int) → hC h' n m w rc num Rs rq → hSh h' rc rq (hv_up Ss D (4, 0, 0, m, fun e => num (j * 5 + e))) → hFm hP42 h h' → K 0 h') (hk0 : ¬ hIn z w → K (-1) h) : hk_Ci G m_X9_keepNumbers (d + 2) 0 0 [.ref 4, .ref (27 + 2 * D), .int z] h K := by
  obtain ⟨hn, hm, hw6, hnum⟩ := C.dim
  obtain ⟨c1, ⟨pw, c2⟩, c3, c4, c5, c6, c7⟩ := id C
  obtain ⟨h1, h2, h3, ru, hf, sz, f, h4, h5, h6, h7⟩ := HS.2 D hD
  refine ⟨Nat.le_of_ble_eq_true rfl, ?_⟩
  refine b_X9_keepNumbers_0 c1 (s_isWish c1 c2 (fun j hj hx => ?_) (fun c => b_X9_keepNumbers_5 (fun c2 => absurd rfl c2) (fun _ => b_X9_keepNumbers_8 ⟨_, rfl, hk0 c⟩)))
  refine b_X9_keepNumbers_5 (fun _ => ?_) (fun c2 => absurd c2 (by decide))
  refine b_X9_keepNumbers_10 c1 rfl h4 (s_holdRow (HS.2 D hD) fun h' hf' g e1 f1 o1 a1 g1 => ?_)
  have C1 : hC h' n m w rc num Rs rq := C.fr (by omega) fun a ha => f1 a (by omega) (by omega)
  refine b_X9_keepNumbers_19 ?_
  refine hk_upto (P := fun i => ∀ h' g, hC h' n m w rc num Rs rq → h'.1 = h.1 → (∀ a, a ≠ 27 + 2 * D → a ≠ 28 + 2 * D → h'.2 a = h.2 a) → h'.2 (27 + 2 * D) = some (.inr (4, [.int 4, .null, .int hf', .int (hI m), .ref (28 + 2 * D)])) → h'.2 (28 + 2 * D) = some (hc_i64 60 g) → (∀ k, k < i → g k = hL (num (j * 5 + k))) → hk_S G m_X9_keepNumbers (d + 2) 0 0 21 [some (.ref 4), some (.ref (27 + 2 * D)), some (.int z), some (.int (hI (i : Int)))] [] h' (fun o h' => ∃ x, o = .inl (some (.int x)) ∧ K x h')) m (fun i hi ih h' g C' e' f' o' a' g' => ?_) h' g C1 (by omega) f1 o1 a1 (fun k hk => by omega)
  refine b_X9_keepNumbers_21 C'.1 rfl (fun c => ?_) (fun c => ?_)
  · rw [hN_le (by omega) (by omega)] at c
    refine b_X9_keepNumbers_51 ⟨_, rfl, hk1 j h' hj hx C' (HS.one hD (fun a _ _ => f' a) ?_) ⟨by omega, fun a ha hp => f' a (fun e => hp (by unfold hP42; omega)) (fun e => hp (by unfold hP42; omega))⟩⟩
    exact ⟨Or.inr (Or.inr (Or.inr rfl)), fun c => absurd (show 4 = 1 from c) (by decide), fun _ => by show m ≤ 60; omega, .null, hf', _, g, o', a', fun c => absurd (show 4 = 1 from c) (by decide), fun _ => ⟨rfl, fun k hk => g' k (by have : k < m := hk; omega)⟩⟩
  · rw [hN_le (by omega) (by omega)] at c
    obtain ⟨-, ⟨pw', c2'⟩, -⟩ := id C'
    rw [hx]
    refine b_X9_keepNumbers_29 o' rfl C'.1 rfl C'.w1 (s_number c2' (by omega) (by omega) ?_)
    have hb := hnum (j * 5 + i) (by omega)
    refine b_X9_keepNumbers_43 a' (by omega) i (hI_at rfl (by omega)) (by omega) rfl ?_
    rw [hI_1, ← hx]
    refine ih (by omega) _ _ (C'.fr (Nat.le_refl _) fun a ha => hk_set_ne (by omega)) (by show h'.1 = h.1; omega) (fun a h2' h3 => ?_) ?_ hk_set_eq (hL_upd rfl (by omega) rfl g')
    · rw [hk_set_ne h3]; exact f' a h2' h3
    · rw [hk_set_ne (by omega)]; exact o'
theorem s_keep (C : hC h n m w rc num Rs rq) (HS : hSh h rc rq Ss) {x y z : Int32} {K : Int32 → hk_H → Prop} (hk : ∀ h', hC h' n m w rc num Rs rq → hSh h' rc rq (hq_keep n m w rc num Rs Ss x y z).2 → hFm hP42 h h' → K (hI (hq_keep n m w rc num Rs Ss x y z).1) h') : hk_Ci G m_X9_keep (d + 5) 0 0 [.ref 4, .int x, .int y, .int z] h K := by
  have hrc := C.rc8
  have hw6 := C.dim.2.2.1
  unfold hq_keep at hk
  refine ⟨Nat.le_of_ble_eq_true rfl, ?_⟩
  refine b_X9_keep_0 C.1 (s_shelfAt C.1 HS (fun D hD hxD => ?_) (fun c => b_X9_keep_5N0 ⟨_, rfl, ?_⟩))
  · rw [hxD, hx_some hD (by omega)] at hk
    simp only at hk
    obtain ⟨h1, h2, h3, ru, hf, sz, f, h4, h5, h6, h7⟩ := HS.2 D hD
    refine b_X9_keep_5 (fun c => ?_) (fun c => ?_) (fun c => ?_) (fun c => ?_) (fun c => ?_) (fun c0 c1 c2 c3 c4 => ?_)
    · rw [if_pos c] at hk
      refine b_X9_keep_48 h4 (s_holdNothing (HS.2 D hD) fun h' H' e' f' => b_X9_keep_53 ⟨_, rfl, ?_⟩)
      exact hk h' (C.fr (by omega) fun a ha => f' a (by omega)) (HS.one hD (fun a _ _ ha _ => f' a ha) H') ⟨by omega, fun a ha hp => f' a fun e => hp (by unfold hP42; omega)⟩
    · rw [if_neg (by rw [c]; decide), if_pos c] at hk
      refine b_X9_keep_55 C.1 (s_keepRule C HS hD (fun j h' hj hz C' S' F' => ?_) (fun hz => ?_))
      · rw [hz, hx_some hj (by omega)] at hk
        exact b_X9_keep_62 ⟨_, rfl, hk h' C' S' F'⟩
      · rw [hx_none hz] at hk
        exact b_X9_keep_62 ⟨_, rfl, hk h C HS hFm.rf⟩
    · rw [if_neg (by rw [c]; decide), if_neg (by rw [c]; decide), if_neg (by rw [c]; decide), if_neg (by rw [c]; decide)] at hk
      exact b_X9_keep_79 ⟨_, rfl, hk h C HS hFm.rf⟩
    · rw [if_neg (by rw [c]; decide), if_neg (by rw [c]; decide), if_pos c] at hk
      refine b_X9_keep_63 C.1 (s_keepEnds C HS hD (fun j h' hj hz C' S' F' => ?_) (fun hz => ?_))
      · rw [hz, hx_some hj (by omega)] at hk
        exact b_X9_keep_70 ⟨_, rfl, hk h' C' S' F'⟩
      · rw [hx_none hz] at hk
        exact b_X9_keep_70 ⟨_, rfl, hk h C HS hFm.rf⟩
    · rw [if_neg (by rw [c]; decide), if_neg (by rw [c]; decide), if_neg (by rw [c]; decide), if_pos c] at hk
      refine b_X9_keep_71 C.1 (s_keepNumbers C HS hD (fun j h' hj hz C' S' F' => ?_) (fun hz => ?_))
      · rw [hz, hx_some hj (by omega)] at hk
        exact b_X9_keep_78 ⟨_, rfl, hk h' C' S' F'⟩
      · rw [hx_none hz] at hk
        exact b_X9_keep_78 ⟨_, rfl, hk h C HS hFm.rf⟩
    · rw [if_neg c0, if_neg c1, if_neg c3, if_neg c4] at hk
      exact b_X9_keep_79 ⟨_, rfl, hk h C HS hFm.rf⟩
  · rw [hx_none c] at hk
    exact hk h C HS hFm.rf
def hq_make (Ss : Nat → hv_S) (x y z : Int32) : Int × (Nat → hv_S) := match hx x 8 with
  | none => (-1, Ss)
  | some D => if (3 ≤ y.toInt ∧ y.toInt ≤ 4) ∧ z.toInt ≤ 60 then (if 0 ≤ z.toInt then (0, hv_up Ss D (y.toInt.toNat, 0, 0, z.toInt.toNat, fun _ => 0)) else (-14, Ss)) else (-1, Ss)
theorem s_make (C : hC h n m w rc num Rs rq) (HS : hSh h rc rq Ss) {x y z : Int32} {K : Int32 → hk_H → Prop} (hk : ∀ h', hC h' n m w rc num Rs rq → hSh h' rc rq (hq_make Ss x y z).2 → hFm hP42 h h' → K (hI (hq_make Ss x y z).1) h') : hk_Ci G m_X9_make (d + 2) 0 0 [.ref 4, .int x, .int y, .int z] h K := by
  unfold hq_make at hk
  refine ⟨Nat.le_of_ble_eq_true rfl, ?_⟩
  refine b_X9_make_0 C.1 (s_shelfAt C.1 HS (fun D hD hxD => ?_) (fun c => b_X9_make_5N0 ⟨_, rfl, ?_⟩))
  · rw [hxD, hx_some hD (by omega)] at hk
    simp only at hk
    obtain ⟨h1, h2, h3, ru, hf, sz, f, h4, h5, h6, h7⟩ := HS.2 D hD
    refine b_X9_make_5 (s_isWithin (a := 3) (b := 4) ⟨by omega, by omega⟩ ⟨by omega, by omega⟩ (fun c => ?_) (fun c => b_X9_make_18 (fun _ => b_X9_make_27 ⟨_, rfl, ?_⟩) (fun c2 => absurd rfl c2)))
    · refine b_X9_make_18 (fun c2 => absurd c2 (by decide)) (fun _ => ?_)
      refine b_X9_make_21 (fun c2 => ?_) (fun c2 => b_X9_make_27 ⟨_, rfl, ?_⟩)
      · rw [show (60 : Int32) = hI 60 from rfl, Int32.le_iff_toInt_le, hI_toInt (by omega)] at c2
        rw [if_pos ⟨c, c2⟩] at hk
        refine b_X9_make_29 (fun c3 => ?_) (fun c3 => b_X9_make_33 ⟨_, rfl, ?_⟩)
        · rw [Int32.le_iff_toInt_le, Int32.toInt_zero] at c3
          rw [if_pos c3] at hk
          refine b_X9_make_36 h4 (s_holdRow (HS.2 D hD) fun h' hf' g e1 f1 o1 a1 g1 => b_X9_make_43 ⟨_, rfl, ?_⟩)
          refine hk h' (C.fr (by omega) fun a ha => f1 a (by omega) (by omega)) (HS.one hD (fun a _ _ => f1 a) ?_) ⟨by omega, fun a ha hp => f1 a (fun e => hp (by unfold hP42; omega)) (fun e => hp (by unfold hP42; omega))⟩
          have ey : y = hI ((y.toInt.toNat : Nat) : Int) := by rw [show ((y.toInt.toNat : Nat) : Int) = y.toInt by omega]; exact hI_of y
          have ez : z = hI ((z.toInt.toNat : Nat) : Int) := by rw [show ((z.toInt.toNat : Nat) : Int) = z.toInt by omega]; exact hI_of z
          refine ⟨?_, fun e => ?_, fun _ => ?_, .null, hf', z, g, ?_, a1, fun e => ?_, fun _ => ⟨ez, fun i hi => ?_⟩⟩
          · show y.toInt.toNat = 0 ∨ y.toInt.toNat = 1 ∨ y.toInt.toNat = 3 ∨ y.toInt.toNat = 4; omega
          · have e : y.toInt.toNat = 1 := e; omega
          · show z.toInt.toNat ≤ 60; omega
          · rw [o1]; congr; 
          · have e : y.toInt.toNat = 1 := e; omega
          · have hi : i < z.toInt.toNat := hi
            rw [g1 i (by omega)]; rfl
        · rw [Int32.le_iff_toInt_le, Int32.toInt_zero] at c3
          rw [if_neg c3] at hk
          exact hk h C HS hFm.rf
      · rw [show (60 : Int32) = hI 60 from rfl, Int32.le_iff_toInt_le, hI_toInt (by omega)] at c2
        rw [if_neg (fun z => c2 z.2)] at hk
        exact hk h C HS hFm.rf
    · rw [if_neg (fun z => c z.1)] at hk
      exact hk h C HS hFm.rf
  · rw [hx_none c] at hk
    exact hk h C HS hFm.rf
def hq_element (Ss : Nat → hv_S) (x y : Int32) : Nat ⊕ Int := match hx x 8 with
  | none => .inl 1
  | some D => if 3 ≤ (Ss D).1 then (match hx y (Ss D).2.2.2.1 with
      | none => .inl 2
      | some i => .inr ((Ss D).2.2.2.2 i)) else .inl 2
theorem s_element (C : hC h n m w rc num Rs rq) (HS : hSh h rc rq Ss) {x y : Int32} {Q : hk_O → hk_H → Prop} (hk : ∀ h', hC h' n m w rc num Rs rq → hLo h h' → Q (hq_outL (hq_element Ss x y)) h') : hk_E G m_X9_element (d + 1) 1 6 [.ref 4, .int x, .int y] h Q := by
  unfold hq_element at hk
  have Ct : hC (h.1 + 1, h.2) n m w rc num Rs rq := C.fr (Nat.le_succ _) fun _ _ => rfl
  refine ⟨Nat.le_of_ble_eq_true rfl, ?_⟩
  refine b_X9_element_0 C.1 (s_shelfAt C.1 HS (fun D hD hxD => ?_) (fun c => b_X9_element_5N0 (cb := 0) (sb := 0) ?_))
  · rw [hxD, hx_some hD (by omega)] at hk
    simp only at hk
    have H1 := HS.2 D hD
    obtain ⟨h1, h2, h3, ru, hf, sz, f, h4, h5, h6, h7⟩ := HS.2 D hD
    refine b_X9_element_5 h4 (s_holdsRow H1 ?_)
    by_cases e3 : 3 ≤ (Ss D).1
    · rw [decide_eq_true e3]
      rw [if_pos e3] at hk
      obtain ⟨h8, h9⟩ := h7 e3
      have h3 := h3 e3
      refine b_X9_element_25 (fun c2 => absurd c2 (by decide)) (fun _ => ?_)
      refine b_X9_element_28 h4 rfl ?_
      rw [h8, show (1 : Int32) = hI 1 from rfl, hI_sub]
      refine s_isWithin (a := 0) ⟨by omega, by omega⟩ ⟨by omega, by omega⟩ (fun c => ?_) (fun c => b_X9_element_39 (fun c2 => absurd rfl c2) (fun _ => b_X9_element_42 (cb := 0) (sb := 0) ?_))
      · obtain ⟨i, hi, hyi⟩ : ∃ i : Nat, i < (Ss D).2.2.2.1 ∧ y = hI (i : Int) := ⟨y.toInt.toNat, by omega, by rw [show ((y.toInt.toNat : Nat) : Int) = y.toInt by omega]; exact hI_of y⟩
        rw [hyi, hx_some hi (by omega)] at hk
        simp only at hk
        refine b_X9_element_39 (fun _ => ?_) (fun c2 => absurd c2 (by decide))
        refine b_X9_element_53 h4 rfl h5 i (by rw [hyi]; exact hI_at rfl (by omega)) (by omega) ?_
        rw [h9 i hi]
        exact hk h C hLo.rf
      · rw [hx_none (by unfold hIn; omega)] at hk
        exact hk _ Ct hLo.thr
    · rw [decide_eq_false e3]
      rw [if_neg e3] at hk
      refine b_X9_element_25 (fun _ => b_X9_element_42 (cb := 0) (sb := 0) (hk _ Ct hLo.thr)) (fun c2 => absurd rfl c2)
  · rw [hx_none c] at hk
    exact hk _ Ct hLo.thr
end SV2
