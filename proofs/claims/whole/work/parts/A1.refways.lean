/-! The reference: measure, the least round, span, round. -/
def hP55 (a : Nat) : Prop := a = 54 ∨ a = 55
/-- what it has measured -/
def hBm (h : hk_H) (m : Nat) (cm : Nat → Bool) (L : Nat → Nat → Int) : Prop := ∃ cf lf : Nat → Int32, h.2 54 = some (.inl (2, 5, .inl cf)) ∧ h.2 55 = some (hc_i32 25 lf) ∧ (∀ e, e < m → cf e = hI (hb (cm e))) ∧ ∀ e f, e < m → f < m → cm e = true → lf (5 * e + f) = hI (L e f)
theorem hb_0 {b : Bool} : hI (hb b) = 0 ↔ b = false := by
  cases b
  · exact ⟨fun _ => rfl, fun _ => rfl⟩
  · exact ⟨fun c => absurd c (by decide), fun c => by cases c⟩
section RL
variable {G : hk_G} {h h' : hk_H} {n m w rc th : Nat} {num : Nat → Int} {Rs : Nat → hr_R} {d : Nat}
theorem hBs.set54 (S : hBs h) {f : Nat → Int32} : hBs (hk_set h 54 (.inl (2, 5, .inl f))) := by
  obtain ⟨⟨f1, s1⟩, ⟨f2, s2⟩, ⟨f3, s3⟩, ⟨f4, s4⟩, ⟨f5, s5⟩, s6, ⟨f7, s7⟩⟩ := S
  refine ⟨⟨f1, (hk_set_ne (by decide)).trans s1⟩, ⟨f2, (hk_set_ne (by decide)).trans s2⟩, ⟨f, hk_set_eq⟩, ⟨f4, (hk_set_ne (by decide)).trans s4⟩, ⟨f5, (hk_set_ne (by decide)).trans s5⟩, fun x hx => ?_, ⟨f7, (hk_set_ne (by decide)).trans s7⟩⟩
  obtain ⟨g, s⟩ := s6 x hx
  exact ⟨g, (hk_set_ne (by omega)).trans s⟩
theorem hBs.set55 (S : hBs h) {f : Nat → Int32} : hBs (hk_set h 55 (hc_i32 25 f)) := by
  obtain ⟨⟨f1, s1⟩, ⟨f2, s2⟩, ⟨f3, s3⟩, ⟨f4, s4⟩, ⟨f5, s5⟩, s6, ⟨f7, s7⟩⟩ := S
  refine ⟨⟨f1, (hk_set_ne (by decide)).trans s1⟩, ⟨f2, (hk_set_ne (by decide)).trans s2⟩, ⟨f3, (hk_set_ne (by decide)).trans s3⟩, ⟨f, hk_set_eq⟩, ⟨f5, (hk_set_ne (by decide)).trans s5⟩, fun x hx => ?_, ⟨f7, (hk_set_ne (by decide)).trans s7⟩⟩
  obtain ⟨g, s⟩ := s6 x hx
  exact ⟨g, (hk_set_ne (by omega)).trans s⟩
theorem hBs.set56 (S : hBs h) {f : Nat → Int32} : hBs (hk_set h 56 (hc_i32 5 f)) := by
  obtain ⟨⟨f1, s1⟩, ⟨f2, s2⟩, ⟨f3, s3⟩, ⟨f4, s4⟩, ⟨f5, s5⟩, s6, ⟨f7, s7⟩⟩ := S
  refine ⟨⟨f1, (hk_set_ne (by decide)).trans s1⟩, ⟨f2, (hk_set_ne (by decide)).trans s2⟩, ⟨f3, (hk_set_ne (by decide)).trans s3⟩, ⟨f4, (hk_set_ne (by decide)).trans s4⟩, ⟨f, hk_set_eq⟩, fun x hx => ?_, ⟨f7, (hk_set_ne (by decide)).trans s7⟩⟩
  obtain ⟨g, s⟩ := s6 x hx
  exact ⟨g, (hk_set_ne (by omega)).trans s⟩
theorem hB.s5 (B : hB h n m w rc num Rs th) {a : Nat} {c : hk_AC} (ha : 52 ≤ a) : hB (hk_set h a c) n m w rc num Rs th := B.fr fun b _ _ => hk_set_ne (by omega)
theorem r_measure (B : hB h n m w rc num Rs th) (S : hBs h) {j r i : Nat} (hj : j < rc) (hr : r < hw_pow w n) (hi : i < n) {K : hk_H → Prop} (hk : ∀ h', hB h' n m w rc num Rs th → hBs h' → hRf hP55 h h' → hBm h' m (hy_cm (hq_E n m w num (Rs j) r i) w) (hy_L num (hq_E n m w num (Rs j) r i) w) → K h') : hk_Cv G m_X10_measure (d + 4) 0 0 [.ref 43, .int (hI j), .int (hI r), .int (hI i)] h K := by
  have hrow := B.rows
  have hw := B.w0 hj
  obtain ⟨hn, hm, hw6, hnum⟩ := B.dim
  have hE : ∀ v, v < w → hq_E n m w num (Rs j) r i v < m := fun v hv => hr_end_lt hm.1 (B.ok hj) (B.say hj hr hi hv)
  refine ⟨Nat.le_of_ble_eq_true rfl, ?_⟩
  refine b_X10_measure_0 ?_
  obtain ⟨cf0, t0⟩ := S.2.2.1
  refine hk_upto (P := fun e => ∀ h' cf (o5 o6 : Option Value), hk_c1 o5 → hB h' n m w rc num Rs th → hBs h' → hRf hP55 h h' → h'.2 54 = some (.inl (2, 5, .inl cf)) → (∀ x, x < e → cf x = 0) → hk_S G m_X10_measure (d + 4) 0 0 3 [some (.ref 43), some (.int (hI j)), some (.int (hI r)), some (.int (hI i)), some (.int (hI (e : Int))), o5, o6] [] h' (fun o h' => o = .inl none ∧ K h')) m (fun e he ih h' cf o5 o6 q5 B' S' F' c1 Z => ?_) h cf0 none none hk_c10 B S hRf.rf t0 (fun x hx => by omega)
  refine b_X10_measure_3 B'.o rfl (fun cc => ?_) (fun cc => ?_)
  · rw [hN_le (by omega) (by omega)] at cc
    refine b_X10_measure_26 ?_
    obtain ⟨lf0, l0⟩ := S'.2.2.2.1
    refine hk_upto (P := fun k => ∀ h' lf (o5 o6 : Option Value), hk_c1 o5 → hB h' n m w rc num Rs th → hBs h' → hRf hP55 h h' → h'.2 54 = some (.inl (2, 5, .inl cf)) → h'.2 55 = some (hc_i32 25 lf) → (∀ x, x < k → lf x = hI 1000000) → hk_S G m_X10_measure (d + 4) 0 0 29 [some (.ref 43), some (.int (hI j)), some (.int (hI r)), some (.int (hI i)), some (.int (hI (k : Int))), o5, o6] [] h' (fun o h' => o = .inl none ∧ K h')) 25 (fun k hk1 ih2 h' lf o5 o6 q5 B' S' F' c1 l1 Z2 => ?_) h' lf0 o5 o6 q5 B' S' F' c1 l0 (fun x hx => by omega)
    refine b_X10_measure_29 (fun c2 => ?_) (fun c2 => ?_)
    · rw [show (25 : Int32) = hI ((25 : Nat) : Int) from rfl, hN_le (by omega) (by omega)] at c2
      refine b_X10_measure_51 ?_
      refine hk_upto (P := fun v => ∀ h' cf lf (o5 o6 : Option Value), hk_c1 o5 → hB h' n m w rc num Rs th → hBs h' → hRf hP55 h h' → h'.2 54 = some (.inl (2, 5, .inl cf)) → h'.2 55 = some (hc_i32 25 lf) → (∀ x, x < m → cf x = hI (hb (hy_cm (hq_E n m w num (Rs j) r i) v x))) → (∀ x y, x < m → y < 5 → lf (5 * x + y) = hI (hy_len num (hq_E n m w num (Rs j) r i) v x y)) → hk_S G m_X10_measure (d + 4) 0 0 54 [some (.ref 43), some (.int (hI j)), some (.int (hI r)), some (.int (hI i)), some (.int (hI (v : Int))), o5, o6] [] h' (fun o h' => o = .inl none ∧ K h')) w (fun v hv ih3 h' cf lf o5 o6 q5 B' S' F' c1 l1 C1 L1 => ?_) h' cf lf _ _ q5 B' S' F' c1 l1 (fun x hx => Z x (by omega)) (fun x y hx hy => Z2 _ (by omega))
      refine b_X10_measure_54 B'.o rfl (fun c3 => ?_) (fun c3 => ?_)
      · rw [hN_le (by omega) (by omega)] at c3
        have ev : v = w := by omega
        subst ev
        refine b_X10_measure_162 ⟨rfl, hk h' B' S' F' ⟨cf, lf, c1, l1, C1, fun e f he hf ce => ?_⟩⟩
        rw [L1 e f he (by omega)]
        unfold hy_L hy_Lk
        rw [if_pos ce]
      · rw [hN_le (by omega) (by omega)] at c3
        have hvl : v < w := by omega
        have hev := hE v hvl
        refine b_X10_measure_63 B'.o (r_saying B' hw (by omega) hi ?_)
        refine b_X10_measure_73 B'.o (r_ends B' hj (B'.say hj hr hi hvl) ?_)
        show hk_S G m_X10_measure (d + 4) 0 0 76 _ [.int (hI (hq_E n m w num (Rs j) r i v : Nat))] h' _
        refine b_X10_measure_76 B'.o rfl c1 (by omega) (hq_E n m w num (Rs j) r i v) (hI_at rfl (by omega)) (by omega) rfl ?_
        refine hk_upto (P := fun e => ∀ h' lf, hB h' n m w rc num Rs th → hBs h' → hRf hP55 h h' → h'.2 54 = some (.inl (2, 5, .inl (upd cf (hq_E n m w num (Rs j) r i v) 1))) → h'.2 55 = some (hc_i32 25 lf) → (∀ x y, x < m → y < 5 → lf (5 * x + y) = hI (if x < e then hy_len num (hq_E n m w num (Rs j) r i) (v + 1) x y else hy_len num (hq_E n m w num (Rs j) r i) v x y)) → hk_S G m_X10_measure (d + 4) 0 0 89 [some (.ref 43), some (.int (hI j)), some (.int (hI r)), some (.int (hI i)), some (.int (hI (v : Int))), some (.int (hI (hq_E n m w num (Rs j) r i v : Nat))), some (.int (hI (e : Int)))] [] h' (fun o h' => o = .inl none ∧ K h')) m (fun e he ih4 h' lf B' S' F' c1 l1 L1 => ?_) _ lf (B'.s5 (by omega)) S'.set54 (F'.set (Or.inl rfl)) hk_set_eq ((hk_set_ne (by decide)).trans l1) (fun x y hx hy => by rw [if_neg (by omega)]; exact L1 x y hx hy)
        refine b_X10_measure_89 B'.o rfl (fun c4 => ?_) (fun c4 => ?_)
        · rw [hN_le (by omega) (by omega)] at c4
          refine b_X10_measure_156 ?_
          rw [hI_1]
          refine ih3 hvl h' _ lf _ _ hk_c1i B' S' F' c1 l1 (fun x hx => ?_) (fun x y hx hy => ?_)
          · unfold upd hy_cm
            by_cases q : x = hq_E n m w num (Rs j) r i v
            · rw [if_pos q, q, beq_self_eq_true, Bool.or_true]; rfl
            · rw [if_neg q, show (hq_E n m w num (Rs j) r i v == x) = false by rw [beq_eq_false_iff_ne]; exact fun z => q z.symm, Bool.or_false]
              exact C1 x hx
          · rw [L1 x y hx hy, if_pos (by omega)]
        · rw [hN_le (by omega) (by omega)] at c4
          have hem : e < m := by omega
          have a1 := hnum (v * 5 + hq_E n m w num (Rs j) r i v) (by omega)
          have a2 := hnum (v * 5 + e) (by omega)
          obtain ⟨b1, b2, -, -⟩ := hy_len_b (f := hq_E n m w num (Rs j) r i v) hnum hE hm.2 hw6 (show e < 5 by omega) v (by omega)
          have le := L1 e (hq_E n m w num (Rs j) r i v) hem (by omega)
          rw [if_neg (by omega)] at le
          refine b_X10_measure_98 B'.o rfl l1 (5 * e + hq_E n m w num (Rs j) r i v) (hI_ji (q := 5) (by omega)) (by omega) rfl B'.2.1 (5 * v + hq_E n m w num (Rs j) r i v) (hI_ji (q := 5) (by omega)) (by omega) (5 * v + e) (hI_ji (q := 5) (by omega)) (by omega) ?_
          rw [le, show 5 * v + hq_E n m w num (Rs j) r i v = v * 5 + hq_E n m w num (Rs j) r i v by omega, show 5 * v + e = v * 5 + e by omega, hI_sub]
          refine s_min (by omega) (by omega) ?_
          refine b_X10_measure_149 l1 (by omega) (5 * e + hq_E n m w num (Rs j) r i v) (hI_ji (q := 5) (by omega)) (by omega) rfl ?_
          rw [hI_1]
          refine ih4 hem _ _ (B'.s5 (by omega)) S'.set55 (F'.set (Or.inr rfl)) ((hk_set_ne (by decide)).trans c1) hk_set_eq (fun x y hx hy => ?_)
          have ls : ∀ x y, hy_len num (hq_E n m w num (Rs j) r i) (v + 1) x y = if hq_E n m w num (Rs j) r i v = y then min (hy_len num (hq_E n m w num (Rs j) r i) v x y) (num (v * 5 + y) - num (v * 5 + x)) else hy_len num (hq_E n m w num (Rs j) r i) v x y := fun _ _ => rfl
          unfold upd
          by_cases q : x = e ∧ y = hq_E n m w num (Rs j) r i v
          · obtain ⟨q1, q2⟩ := q
            rw [if_pos (by omega), if_pos (by omega), ls, if_pos q2.symm, q1, q2]
          · rw [if_neg (by omega), L1 x y hx hy]
            by_cases q1 : x < e
            · rw [if_pos q1, if_pos (by omega)]
            · rw [if_neg q1]
              by_cases q2 : x = e
              · rw [if_pos (by omega), ls, if_neg (fun z => q ⟨q2, z.symm⟩)]
              · rw [if_neg (by omega)]
    · rw [show (25 : Int32) = hI ((25 : Nat) : Int) from rfl, hN_le (by omega) (by omega)] at c2
      refine b_X10_measure_36 B'.o rfl l1 (by omega) k (hI_at rfl (by omega)) (by omega) rfl ?_
      rw [hI_1]
      refine ih2 (by omega) _ _ _ _ q5 (B'.s5 (by omega)) S'.set55 (F'.set (Or.inr rfl)) ((hk_set_ne (by decide)).trans c1) hk_set_eq (fun x hx => ?_)
      unfold upd
      by_cases q : x = k
      · rw [if_pos q]; rfl
      · rw [if_neg q]; exact Z2 x (by omega)
  · rw [hN_le (by omega) (by omega)] at cc
    refine b_X10_measure_12 B'.o rfl c1 (by omega) e (hI_at rfl (by omega)) (by omega) rfl ?_
    rw [hI_1]
    refine ih (by omega) _ _ _ _ q5 (B'.s5 (by omega)) S'.set54 (F'.set (Or.inl rfl)) hk_set_eq (fun x hx => ?_)
    unfold upd
    by_cases q : x = e
    · rw [if_pos q]
    · rw [if_neg q]; exact Z x (by omega)
variable {cm : Nat → Bool} {L : Nat → Nat → Int}
theorem hy_lr_b (hL : hy_bd m cm L 198) (hm : m ≤ 5) {f : Nat} (hf : f < m) (cf : cm f = true) : ∀ (k a g : Nat) (s : Int), k ≤ 4 → a < m → cm a = true → -(198 * (5 - (k : Int))) ≤ s → s ≤ 198 * (5 - (k : Int)) → -1188 ≤ hy_lr m cm L f k a g s ∧ hy_lr m cm L f k a g s ≤ 1000000 := by
  intro k
  induction k with
  | zero =>
    intro a g s _ ha ca s1 s2
    have hq : hy_lr m cm L f 0 a g s = 1000000 ∨ ∃ e, f ≤ e ∧ e < f + (m - f) ∧ (if cm e = true then (if e = f then (if a ≠ f then some (s + L a f) else none) else none) else none) = some (hy_lr m cm L f 0 a g s) := hy_fold_is _ _ _ _
    have hle : hy_lr m cm L f 0 a g s ≤ 1000000 := hy_fold_le _ _ _ _
    have lb := hL a f ha ca hf cf
    refine ⟨?_, hle⟩
    generalize hy_lr m cm L f 0 a g s = v at hq hle ⊢
    rcases hq with e | ⟨e, h1, h2, h3⟩
    · omega
    · split at h3
      · split at h3
        · split at h3
          · have := Option.some.inj h3
            omega
          · cases h3
        · cases h3
      · cases h3
  | succ k ih =>
    intro a g s hk ha ca s1 s2
    have hq : hy_lr m cm L f (k + 1) a g s = 1000000 ∨ ∃ e, f ≤ e ∧ e < f + (m - f) ∧ (if cm e = true then (if e = f then (if a ≠ f then some (s + L a f) else none) else if hh_mem g e = false then some (hy_lr m cm L f k e (g + 2 ^ e) (s + L a e)) else none) else none) = some (hy_lr m cm L f (k + 1) a g s) := hy_fold_is _ _ _ _
    have hle : hy_lr m cm L f (k + 1) a g s ≤ 1000000 := hy_fold_le _ _ _ _
    have lb := hL a f ha ca hf cf
    refine ⟨?_, hle⟩
    generalize hy_lr m cm L f (k + 1) a g s = v at hq hle ⊢
    rcases hq with e | ⟨e, h1, h2, h3⟩
    · omega
    · split at h3
      · rename_i ce
        have le := hL a e ha ca (by omega) ce
        split at h3
        · split at h3
          · have := Option.some.inj h3
            omega
          · cases h3
        · split at h3
          · have := Option.some.inj h3
            rw [← this]
            exact (ih e (g + 2 ^ e) (s + L a e) (by omega) (by omega) ce (by omega) (by omega)).1
          · cases h3
      · cases h3
theorem hy_fold_v {g : Nat → Option Int} {m e : Nat} {b v : Int} (h : e < m) (hv : g e = some v) : hy_fold g (m - e) e b = hy_fold g (m - (e + 1)) (e + 1) (min b v) := by
  rw [show m - e = (m - (e + 1)) + 1 by omega]
  show hy_fold g (m - (e + 1)) (e + 1) (match g e with
    | some v => min b v
    | none => b) = _
  rw [hv]
theorem hy_fold_n {g : Nat → Option Int} {m e : Nat} {b : Int} (h : e < m) (hv : g e = none) : hy_fold g (m - e) e b = hy_fold g (m - (e + 1)) (e + 1) b := by
  rw [show m - e = (m - (e + 1)) + 1 by omega]
  show hy_fold g (m - (e + 1)) (e + 1) (match g e with
    | some v => min b v
    | none => b) = _
  rw [hv]
theorem r_leastRound (B : hB h n m w rc num Rs th) (M : hBm h m cm L) (hL : hy_bd m cm L 198) {f : Nat} (hf : f < m) (cf1 : cm f = true) : ∀ (k : Nat) (a g : Nat) (s : Int), k ≤ 4 → a < m → cm a = true → g < 32 → hy_free f g m ≤ k → -(198 * (5 - (k : Int))) ≤ s → s ≤ 198 * (5 - (k : Int)) → ∀ {K : Int32 → hk_H → Prop}, K (hI (hy_lr m cm L f k a g s)) h → hk_Ci G m_X10_leastRound (d + (k + 1)) 0 0 [.ref 43, .int (hI f), .int (hI a), .int (hI g), .int (hI s)] h K := by
  obtain ⟨hn, hm, hw6, hnum⟩ := B.dim
  obtain ⟨cf, lf, m1, m2, m3, m4⟩ := M
  intro k
  induction k with
  | zero =>
    intro a g s _ ha ca hg hfr s1 s2 K hk
    refine ⟨Nat.le_of_ble_eq_true rfl, ?_⟩
    refine b_X10_leastRound_0 ?_
    refine hk_uptoF (P := fun e => ∀ b : Int, -1188 ≤ b → b ≤ 1000000 → hy_fold (fun e => if cm e = true then (if e = f then (if a ≠ f then some (s + L a f) else none) else none) else none) (m - e) e b = hy_lr m cm L f 0 a g s → hk_S G m_X10_leastRound (d + (0 + 1)) 0 0 7 [some (.ref 43), some (.int (hI f)), some (.int (hI a)), some (.int (hI g)), some (.int (hI s)), some (.int (hI b)), some (.int (hI (e : Int)))] [] h (fun o h' => ∃ x, o = .inl (some (.int x)) ∧ K x h')) f m (by omega) (fun e he0 he ih b hb1 hb2 E => ?_) 1000000 (by omega) (by omega) rfl
    refine b_X10_leastRound_7 B.o rfl (fun cc => ?_) (fun cc => ?_)
    · rw [hN_le (by omega) (by omega)] at cc
      rw [show m - e = 0 by omega] at E
      rw [← E] at hk
      exact b_X10_leastRound_112 ⟨_, rfl, hk⟩
    · rw [hN_le (by omega) (by omega)] at cc
      have hem : e < m := by omega
      refine b_X10_leastRound_16 B.o rfl m1 e (hI_at rfl (by omega)) (by omega) (fun c2 => ?_) (fun c2 => ?_)
      · rw [m3 e hem, hb_0] at c2
        rw [Bool.not_eq_false] at c2
        refine b_X10_leastRound_29 (fun c3 => ?_) (fun c3 => ?_)
        · rw [hN_eq (by omega) (by omega)] at c3
          have hbit := hd_bit ⟨g, hg⟩ ⟨e, by omega⟩
          simp only at hbit
          refine b_X10_leastRound_63 (fun c4 => ?_) (fun c4 => ?_)
          · rw [hy_fold_n hem (by rw [if_pos c2, if_neg c3])] at E
            refine b_X10_leastRound_106 ?_
            rw [hI_1]
            exact ih hem b hb1 hb2 E
          · have c4 := hbit.mp c4
            have := hy_b2 ⟨m, by omega⟩ ⟨f, by omega⟩ ⟨g, hg⟩ ⟨e, by omega⟩ (show f < e by omega) hem c4
            simp only at this
            omega
        · rw [hN_eq (by omega) (by omega)] at c3
          refine b_X10_leastRound_35 (fun c4 => ?_) (fun c4 => ?_)
          · rw [hN_eq (by omega) (by omega)] at c4
            rw [hy_fold_n hem (by rw [if_pos c2, if_pos c3, if_neg (show ¬ a ≠ f from fun z => z c4)])] at E
            refine b_X10_leastRound_106 ?_
            rw [hI_1]
            exact ih hem b hb1 hb2 E
          · rw [hN_eq (by omega) (by omega)] at c4
            rw [hy_fold_v hem (by rw [if_pos c2, if_pos c3, if_pos c4])] at E
            have lb := hL a f ha ca hf cf1
            refine b_X10_leastRound_40 B.o rfl m2 (5 * a + f) (hI_ji (q := 5) (by omega)) (by omega) ?_
            rw [m4 a f ha hf ca, hI_add]
            refine s_min (by omega) (by omega) ?_
            refine b_X10_leastRound_58 ?_
            rw [hI_1]
            exact ih hem _ (by omega) (by omega) E
      · rw [m3 e hem, hb_0] at c2
        rw [hy_fold_n hem (if_neg (show ¬ cm e = true by rw [c2]; decide))] at E
        refine b_X10_leastRound_26 ?_
        rw [hI_1]
        exact ih hem b hb1 hb2 E
  | succ k ihk =>
    intro a g s hk4 ha ca hg hfr s1 s2 K hk
    refine ⟨Nat.le_of_ble_eq_true rfl, ?_⟩
    refine b_X10_leastRound_0 ?_
    refine hk_uptoF (P := fun e => ∀ b : Int, -1188 ≤ b → b ≤ 1000000 → hy_fold (fun e => if cm e = true then (if e = f then (if a ≠ f then some (s + L a f) else none) else if hh_mem g e = false then some (hy_lr m cm L f k e (g + 2 ^ e) (s + L a e)) else none) else none) (m - e) e b = hy_lr m cm L f (k + 1) a g s → hk_S G m_X10_leastRound (d + (k + 1 + 1)) 0 0 7 [some (.ref 43), some (.int (hI f)), some (.int (hI a)), some (.int (hI g)), some (.int (hI s)), some (.int (hI b)), some (.int (hI (e : Int)))] [] h (fun o h' => ∃ x, o = .inl (some (.int x)) ∧ K x h')) f m (by omega) (fun e he0 he ih b hb1 hb2 E => ?_) 1000000 (by omega) (by omega) rfl
    refine b_X10_leastRound_7 B.o rfl (fun cc => ?_) (fun cc => ?_)
    · rw [hN_le (by omega) (by omega)] at cc
      rw [show m - e = 0 by omega] at E
      rw [← E] at hk
      exact b_X10_leastRound_112 ⟨_, rfl, hk⟩
    · rw [hN_le (by omega) (by omega)] at cc
      have hem : e < m := by omega
      refine b_X10_leastRound_16 B.o rfl m1 e (hI_at rfl (by omega)) (by omega) (fun c2 => ?_) (fun c2 => ?_)
      · rw [m3 e hem, hb_0] at c2
        rw [Bool.not_eq_false] at c2
        refine b_X10_leastRound_29 (fun c3 => ?_) (fun c3 => ?_)
        · rw [hN_eq (by omega) (by omega)] at c3
          have hbit := hd_bit ⟨g, hg⟩ ⟨e, by omega⟩
          simp only at hbit
          refine b_X10_leastRound_63 (fun c4 => ?_) (fun c4 => ?_)
          · have c4 := mt hbit.mpr c4
            rw [hy_fold_n hem (by rw [if_pos c2, if_neg c3, if_neg c4])] at E
            refine b_X10_leastRound_106 ?_
            rw [hI_1]
            exact ih hem b hb1 hb2 E
          · have c4 := hbit.mp c4
            rw [hy_fold_v hem (by rw [if_pos c2, if_neg c3, if_pos c4])] at E
            have b2 := hy_b2 ⟨m, by omega⟩ ⟨f, by omega⟩ ⟨g, hg⟩ ⟨e, by omega⟩ (show f < e by omega) hem c4
            obtain ⟨g32, -⟩ := hy_b1 ⟨g, hg⟩ ⟨e, by omega⟩ c4
            have hor := hd_or ⟨g, hg⟩ ⟨e, by omega⟩ c4
            simp only at b2 g32 hor
            have lb := hL a e ha ca hem c2
            have vb := hy_lr_b hL hm.2 hf cf1 k e (g + 2 ^ e) (s + L a e) (by omega) hem c2 (by omega) (by omega)
            refine b_X10_leastRound_72 B.o rfl m2 (5 * a + e) (hI_ji (q := 5) (by omega)) (by omega) ?_
            rw [m4 a e ha hem ca, hI_add, hor]
            refine ihk e (g + 2 ^ e) (s + L a e) (by omega) hem c2 g32 (by omega) (by omega) (by omega) ?_
            refine b_X10_leastRound_101 (s_min (by omega) (by omega) ?_)
            refine b_X10_leastRound_104 ?_
            rw [hI_1]
            exact ih hem _ (by omega) (by omega) E
        · rw [hN_eq (by omega) (by omega)] at c3
          refine b_X10_leastRound_35 (fun c4 => ?_) (fun c4 => ?_)
          · rw [hN_eq (by omega) (by omega)] at c4
            rw [hy_fold_n hem (by rw [if_pos c2, if_pos c3, if_neg (show ¬ a ≠ f from fun z => z c4)])] at E
            refine b_X10_leastRound_106 ?_
            rw [hI_1]
            exact ih hem b hb1 hb2 E
          · rw [hN_eq (by omega) (by omega)] at c4
            rw [hy_fold_v hem (by rw [if_pos c2, if_pos c3, if_pos c4])] at E
            have lb := hL a f ha ca hf cf1
            refine b_X10_leastRound_40 B.o rfl m2 (5 * a + f) (hI_ji (q := 5) (by omega)) (by omega) ?_
            rw [m4 a f ha hf ca, hI_add]
            refine s_min (by omega) (by omega) ?_
            refine b_X10_leastRound_58 ?_
            rw [hI_1]
            exact ih hem _ (by omega) (by omega) E
      · rw [m3 e hem, hb_0] at c2
        rw [hy_fold_n hem (if_neg (show ¬ cm e = true by rw [c2]; decide))] at E
        refine b_X10_leastRound_26 ?_
        rw [hI_1]
        exact ih hem b hb1 hb2 E
theorem r_least (B : hB h n m w rc num Rs th) (M : hBm h m cm L) (hL : hy_bd m cm L 198) {K : Int32 → hk_H → Prop} (hk : -1188 ≤ hy_least m cm L → hy_least m cm L ≤ 1000000 → K (hI (hy_least m cm L)) h) : hk_Ci G m_X10_least (d + 6) 0 0 [.ref 43] h K := by
  obtain ⟨hn, hm, hw6, hnum⟩ := B.dim
  obtain ⟨cf, lf, m1, m2, m3, m4⟩ := id M
  refine ⟨Nat.le_of_ble_eq_true rfl, ?_⟩
  refine b_X10_least_0 ?_
  refine hk_upto (P := fun e => ∀ b : Int, -1188 ≤ b → b ≤ 1000000 → hy_fold (fun e => if cm e = true then some (hy_lr m cm L e 4 e (2 ^ e) 0) else none) (m - e) e b = hy_least m cm L → hk_S G m_X10_least (d + 6) 0 0 5 [some (.ref 43), some (.int (hI b)), some (.int (hI (e : Int)))] [] h (fun o h' => ∃ x, o = .inl (some (.int x)) ∧ K x h')) m (fun e he ih b hb1 hb2 E => ?_) 1000000 (by omega) (by omega) rfl
  refine b_X10_least_5 B.o rfl (fun cc => ?_) (fun cc => ?_)
  · rw [hN_le (by omega) (by omega)] at cc
    rw [show m - e = 0 by omega] at E
    have E : b = hy_least m cm L := E
    rw [← E] at hk
    exact b_X10_least_43 ⟨_, rfl, hk hb1 hb2⟩
  · rw [hN_le (by omega) (by omega)] at cc
    have hem : e < m := by omega
    refine b_X10_least_13 B.o rfl m1 e (hI_at rfl (by omega)) (by omega) (fun c2 => ?_) (fun c2 => ?_)
    · rw [m3 e hem, hb_0] at c2
      rw [hy_fold_n hem (if_neg (show ¬ cm e = true by rw [c2]; decide))] at E
      refine b_X10_least_37 ?_
      rw [hI_1]
      exact ih hem b hb1 hb2 E
    · rw [m3 e hem, hb_0] at c2
      rw [Bool.not_eq_false] at c2
      rw [hy_fold_v hem (if_pos c2)] at E
      have hsh := hd_sh ⟨e, by omega⟩
      have b3 := hy_b3 ⟨m, by omega⟩ ⟨e, by omega⟩
      simp only at hsh b3
      have vb := hy_lr_b hL hm.2 hem c2 4 e (2 ^ e) 0 (by omega) hem c2 (by omega) (by omega)
      refine b_X10_least_22 B.o ?_
      rw [hsh]
      refine r_leastRound B M hL hem c2 4 e (2 ^ e) 0 (by omega) hem c2 (hy_p32 (by omega)) b3 (by omega) (by omega) ?_
      refine b_X10_least_33 (s_min (by omega) (by omega) ?_)
      refine b_X10_least_36 ?_
      rw [hI_1]
      exact ih hem _ (by omega) (by omega) E
end RL
