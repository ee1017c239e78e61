def hq_at (rq : Nat → Nat) (j q : Nat) : Nat → Nat := fun i => if i = j then q else rq i
theorem hI_s1 (a : Nat) : hI ((a + 1 : Nat) : Int) - 1 = hI (a : Int) := by
  rw [show (1 : Int32) = hI 1 from rfl, hI_sub]
  congr 1
  push_cast
  omega
/-- what rules and the list stand in -/
def hP48 (a : Nat) : Prop := 4 ≤ a ∧ a ≤ 8
section RW
variable {G : hk_G} {h : hk_H} {n m w rc : Nat} {num : Nat → Int} {Rs : Nat → hr_R} {rq : Nat → Nat} {d : Nat}
theorem s_add (C : hC h n m w rc num Rs rq) (hrc : rc < 8) (hw : 1 ≤ w) {q : Nat} {R : hr_R} {ef pf : Nat → Int32} (hq : ∀ j, j < rc → rq j + hr_sz (Rs j).1 < q) (hq71 : 71 ≤ q) (hqs : q + hr_sz R.1 < h.1) (H : hRu h q rc n m w num R ef pf) {K : Int32 → hk_H → Prop} (hk : ∀ h', hC h' n m w (rc + 1) num (hr_up Rs rc R) (hq_at rq rc q) → hFm hP48 h h' → K (hI rc) h') : hk_Ci G m_X9_add d 0 0 [.ref 4, .ref q] h K := by
  obtain ⟨c1, ⟨pw, c2⟩, c3, ⟨f, r1, r2, r3⟩, c5, c6, c7⟩ := id C
  have hcl : ∃ r, hk_cl[hr_ci R.1]? = some r ∧ (r.1 = RX5 ∨ (r.1, RX5) ∈ hk_cast) := by
    rcases hr_kd H.1.1 with e | e | e | e <;> rw [e]
    · exact ⟨_, rfl, Or.inl rfl⟩
    · exact ⟨_, rfl, Or.inr (by decide)⟩
    · exact ⟨_, rfl, Or.inr (by decide)⟩
    · exact ⟨_, rfl, Or.inr (by decide)⟩
  obtain ⟨rr, hcl1, hcl2⟩ := hcl
  refine ⟨Nat.le_of_ble_eq_true rfl, ?_⟩
  refine b_X9_add_0 c1 rfl rfl r1 (by decide) rfl H.2.2.1 hcl1 hcl2 rc (hI_at rfl (by omega)) hrc rfl (by rw [hk_set_ne (by decide)]; exact c1) rfl (by decide) rfl hk_set_eq rfl ⟨_, rfl, ?_⟩
  rw [hI_1, hI_s1]
  refine hk _ ?_ ((hFm.rf.set (show hP48 8 by unfold hP48; omega)).set (show hP48 4 by unfold hP48; omega))
  have hk8 : ∀ a, a ≠ 4 → a ≠ 8 → ∀ c c', (hk_set (hk_set h 8 c) 4 c').2 a = h.2 a := fun a h4 h8 c c' => by rw [hk_set_ne h4, hk_set_ne h8]
  refine ⟨hk_set_eq, ⟨pw, c2.fr fun a ha hb => hk8 a (by omega) (by omega) _ _⟩, fun _ => hw, ⟨_, by rw [hk_set_ne (by decide)]; exact hk_set_eq, by omega, fun j hj => ?_⟩, fun j hj => ?_, fun j j' hl hj' => ?_, c7⟩
  · unfold hq_at va_up
    by_cases e : j = rc
    · simp [e]
    · simp only [e, if_false]
      exact r3 j (by omega)
  · unfold hr_up hq_at
    by_cases e : j = rc
    · subst e
      simp only [if_true]
      exact ⟨hq71, hqs, ef, pf, H.fr fun a ha hb => hk8 a (by omega) (by omega) _ _⟩
    · simp only [e, if_false]
      obtain ⟨g1, g2, ef', pf', H'⟩ := c5 j (by omega)
      exact ⟨g1, g2, ef', pf', H'.fr fun a ha hb => hk8 a (by omega) (by omega) _ _⟩
  · unfold hr_up hq_at
    have e : ¬ j = rc := by omega
    simp only [e, if_false]
    by_cases e' : j' = rc
    · simp only [e', if_true]
      exact hq j (by omega)
    · simp only [e', if_false]
      exact c6 j j' hl (by omega)
def hq_rule (w rc : Nat) (Rs : Nat → hr_R) (x : Int32) : Int × Nat × (Nat → hr_R) := match hx x 4 with
  | none => (-1, rc, Rs)
  | some kd => if w = 0 then (-1, rc, Rs) else if rc < 8 then (rc, rc + 1, hr_up Rs rc (hr_new kd)) else (-2, rc, Rs)
theorem s_rule (C : hC h n m w rc num Rs rq) {x : Int32} {K : Int32 → hk_H → Prop} (hk : ∀ h' rq', hC h' n m w (hq_rule w rc Rs x).2.1 num (hq_rule w rc Rs x).2.2 rq' → (∀ j, j < rc → rq' j = rq j) → hFm hP48 h h' → K (hI (hq_rule w rc Rs x).1) h') : hk_Ci G m_X9_rule (d + 4) 6 6501 [.ref 4, .int x] h K := by
  obtain ⟨hn, hm, hw6, hnum⟩ := C.dim
  have hrc := C.rc8
  obtain ⟨c1, ⟨pw, c2⟩, c3, c4, c5, c6, c7⟩ := id C
  unfold hq_rule at hk
  refine ⟨Nat.le_of_ble_eq_true rfl, ?_⟩
  refine b_X9_rule_0 (s_isWithin (a := 0) (b := 3) ⟨by omega, by omega⟩ ⟨by omega, by omega⟩ (fun c => ?_) (fun c => b_X9_rule_6 (fun _ => b_X9_rule_20 ⟨_, rfl, ?_⟩) (fun c2 => absurd rfl c2)))
  · obtain ⟨kd, hkd, hxk⟩ : ∃ kd : Nat, kd < 4 ∧ x = hI (kd : Int) := ⟨x.toInt.toNat, by omega, by rw [show ((x.toInt.toNat : Nat) : Int) = x.toInt by omega]; exact hI_of x⟩
    rw [hxk, hx_some hkd (by omega)] at hk
    simp only at hk
    refine b_X9_rule_6 (fun c2 => absurd c2 (by decide)) (fun _ => ?_)
    refine b_X9_rule_9 c1 rfl C.w1 rfl (fun cw => ?_) (fun cw => b_X9_rule_20 ⟨_, rfl, ?_⟩)
    · rw [show (1 : Int32) = hI ((1 : Nat) : Int) from rfl, hN_le (by omega) (by omega)] at cw
      rw [if_neg (by omega)] at hk
      refine b_X9_rule_22 c1 rfl (fun cr => ?_) (fun cr => b_X9_rule_31 ⟨_, rfl, ?_⟩)
      · rw [show (8 : Int32) = hI ((8 : Nat) : Int) from rfl, hN_lt (by omega) (by omega)] at cr
        rw [if_pos cr] at hk
        rw [hxk]
        refine b_X9_rule_36 (cq := 6) (sq := 6501) (cb := 0) (sb := 0) c1 rfl rfl (s_newRule c2 c7 (by omega) fun h1 ef pf e1 H f1 => ?_)
        have C1 : hC h1 n m w rc num Rs rq := C.fr (by omega) fun a ha => f1 a (by omega)
        refine b_X9_rule_49 C1.1 (s_add C1 cr cw (q := h.1) (fun j hj => (c5 j hj).2.1) c7 (by show h.1 + hr_sz kd < h1.1; omega) H fun h2 C2 F2 => ?_)
        refine b_X9_rule_52 ⟨_, rfl, hk h2 _ C2 (fun j hj => if_neg (by omega)) ?_⟩
        exact ⟨by have := F2.1; omega, fun a ha hp => by rw [F2.2 a ha hp]; exact f1 a (by omega)⟩
      · rw [show (8 : Int32) = hI ((8 : Nat) : Int) from rfl, hN_lt (by omega) (by omega)] at cr
        rw [if_neg cr] at hk
        exact hk h rq C (fun _ _ => rfl) hFm.rf
    · rw [show (1 : Int32) = hI ((1 : Nat) : Int) from rfl, hN_le (by omega) (by omega)] at cw
      rw [if_pos (by omega)] at hk
      exact hk h rq C (fun _ _ => rfl) hFm.rf
  · rw [hx_none (by unfold hIn; omega)] at hk
    exact hk h rq C (fun _ _ => rfl) hFm.rf
theorem s_come {pw : Nat → Int32} (HW : hW h n m w num pw) (hw : w < 6) {K : Int32 → hk_H → Prop} (hk : ∀ h' pw', hW h' n m (w + 1) num pw' → h'.1 = h.1 → (∀ a, a ≠ 5 → a ≠ 7 → h'.2 a = h.2 a) → K (hI w) h') : hk_Ci G m_X8_come d 0 0 [.ref 5] h K := by
  obtain ⟨w1, w2, w3, w4, w5, w6, w7, w8⟩ := id HW
  refine ⟨Nat.le_of_ble_eq_true rfl, ?_⟩
  refine b_X8_come_0 w1 rfl (by decide) rfl ?_
  rw [hI_1]
  generalize hh1 : hk_set h 5 _ = h1
  have o1 : h1.2 5 = some (.inr (8, [.int (hI n), .int (hI m), .ref 6, .ref 7, .int (hI ((w + 1 : Nat) : Int)), .int (hI (hw_pow w n))])) := by rw [← hh1]; exact hk_set_eq
  have a7 : h1.2 7 = some (hc_i32 5 pw) := by rw [← hh1, hk_set_ne (by decide)]; exact w3
  have f1 : ∀ a, a ≠ 5 → h1.2 a = h.2 a := fun a ha => by rw [← hh1, hk_set_ne ha]
  have e1 : h1.1 = h.1 := by rw [← hh1]; rfl
  refine hk_upto (P := fun i => ∀ pf : Nat → Int32, (∀ k, k < i → pf k = hI (((w + 1) ^ k : Nat) : Int)) → hk_S G m_X8_come d 0 0 14 [some (.ref 5), some (.int (hI (((w + 1) ^ i : Nat) : Int))), some (.int (hI (i : Int)))] [] (hk_set h1 7 (hc_i32 5 pf)) (fun o h' => ∃ x, o = .inl (some (.int x)) ∧ K x h')) (n + 1) (fun i hi ih pf hpf => ?_) pw (fun k hk => by omega) |> (fun z => by rw [hk_set_self a7] at z; exact z)
  have o1' : (hk_set h1 7 (hc_i32 5 pf)).2 5 = some (.inr (8, [.int (hI n), .int (hI m), .ref 6, .ref 7, .int (hI ((w + 1 : Nat) : Int)), .int (hI (hw_pow w n))])) := by rw [hk_set_ne (by decide)]; exact o1
  refine b_X8_come_14 o1' rfl (fun c => ?_) (fun c => ?_)
  · rw [hN_lt (by omega) (by omega)] at c
    refine b_X8_come_42 o1' rfl rfl hk_set_eq n (hI_at rfl (by omega)) (by omega) (by decide) rfl hk_set_eq rfl ⟨_, rfl, ?_⟩
    rw [hI_s1]
    refine hk _ pf ⟨?_, ?_, ?_, fun k hk => ?_, w5, w6, by omega, w8⟩ e1 (fun a ha hb => ?_)
    · rw [hk_set_eq, hpf n (by omega), hw_pow_1 (w := w + 1) (by omega)]
      rfl
    · rw [hk_set_ne (by decide), hk_set_ne (by decide), f1 6 (by decide)]; exact w2
    · rw [hk_set_ne (by decide)]; exact hk_set_eq
    · rw [hpf k (by omega), hw_pow_1 (w := w + 1) (by omega)]
    · rw [hk_set_ne ha, hk_set_ne hb, f1 a ha]
  · rw [hN_lt (by omega) (by omega)] at c
    refine b_X8_come_22 o1' rfl hk_set_eq (by decide) i (hI_at rfl (by omega)) (by omega) hk_set_set (by rw [hk_set_ne (by decide)]; exact o1) rfl ?_
    rw [hI_1, hI_mul]
    have z := ih (by omega) (upd pf i (hI (((w + 1) ^ i : Nat) : Int))) (fun k hk => by
      unfold upd
      by_cases e : k = i
      · simp [e]
      · simp only [e, if_false]
        exact hpf k (by omega))
    rw [Nat.pow_succ, Int.natCast_mul] at z
    exact z
def hq_wish (w rc : Nat) : Int × Nat := if w < 6 then (if rc = 0 then (w, w + 1) else (-3, w)) else (-2, w)
theorem s_wish (C : hC h n m w rc num Rs rq) {K : Int32 → hk_H → Prop} (hk : ∀ h', hC h' n m (hq_wish w rc).2 rc num Rs rq → hFm hP48 h h' → K (hI (hq_wish w rc).1) h') : hk_Ci G m_X9_wish (d + 1) 0 0 [.ref 4] h K := by
  obtain ⟨hn, hm, hw6, hnum⟩ := C.dim
  have hrc := C.rc8
  obtain ⟨c1, ⟨pw, c2⟩, c3, c4, c5, c6, c7⟩ := id C
  unfold hq_wish at hk
  refine ⟨Nat.le_of_ble_eq_true rfl, ?_⟩
  refine b_X9_wish_0 c1 rfl C.w1 rfl (fun c => ?_) (fun c => b_X9_wish_12 ⟨_, rfl, ?_⟩)
  · rw [show (6 : Int32) = hI ((6 : Nat) : Int) from rfl, hN_lt (by omega) (by omega)] at c
    rw [if_pos c] at hk
    refine b_X9_wish_15 c1 rfl (fun cr => ?_) (fun cr => b_X9_wish_22 ⟨_, rfl, ?_⟩)
    · rw [show (0 : Int32) = hI ((0 : Nat) : Int) from rfl, hN_le (by omega) (by omega)] at cr
      rw [if_pos (by omega)] at hk
      refine b_X9_wish_27 c1 rfl C.w1 (s_come c2 c fun h' pw' HW e1 f1 => b_X9_wish_34 ⟨_, rfl, ?_⟩)
      refine hk h' ⟨c1.fr (f1 4 (by decide) (by decide)), ⟨pw', HW⟩, fun _ => by show 1 ≤ w + 1; omega, c4.fr (f1 8 (by decide) (by decide)), fun j hj => by omega, fun j j' _ hj => by omega, by omega⟩ ⟨by omega, fun a ha hp => f1 a (fun e => hp ?_) (fun e => hp ?_)⟩
      · rw [e]; unfold hP48; omega
      · rw [e]; unfold hP48; omega
    · rw [show (0 : Int32) = hI ((0 : Nat) : Int) from rfl, hN_le (by omega) (by omega)] at cr
      rw [if_neg (by omega)] at hk
      exact hk h C hFm.rf
  · rw [show (6 : Int32) = hI ((6 : Nat) : Int) from rfl, hN_lt (by omega) (by omega)] at c
    rw [if_neg c] at hk
    exact hk h C hFm.rf
def hq_worth (m w rc : Nat) (num : Nat → Int) (x y z : Int32) : Int × (Nat → Int) := match hx x w, hx y m with
  | some a, some e => if -99 ≤ z.toInt ∧ z.toInt ≤ 99 then (if rc = 0 then (if num (a * 5 + e) = z.toInt then 0 else 1, fun k => if k = a * 5 + e then z.toInt else num k) else (-3, num)) else (-1, num)
  | _, _ => (-1, num)
theorem s_worth (C : hC h n m w rc num Rs rq) {x y z : Int32} {K : Int32 → hk_H → Prop} (hk : ∀ h', hC h' n m w rc (hq_worth m w rc num x y z).2 Rs rq → hFm hP48 h h' → K (hI (hq_worth m w rc num x y z).1) h') : hk_Ci G m_X9_worth (d + 2) 0 0 [.ref 4, .int x, .int y, .int z] h K := by
  obtain ⟨hn, hm, hw6, hnum⟩ := C.dim
  have hrc := C.rc8
  obtain ⟨c1, ⟨pw, c2⟩, c3, c4, c5, c6, c7⟩ := id C
  unfold hq_worth at hk
  refine ⟨Nat.le_of_ble_eq_true rfl, ?_⟩
  refine b_X9_worth_0 c1 (s_isWish c1 c2 (fun a ha hxa => ?_) (fun c => b_X9_worth_5 (fun _ => b_X9_worth_27 ⟨_, rfl, ?_⟩) (fun c2 => absurd rfl c2)))
  · rw [hxa, hx_some ha (by omega)] at hk
    refine b_X9_worth_5 (fun c2 => absurd c2 (by decide)) (fun _ => ?_)
    refine b_X9_worth_8 c1 (s_isEnd c1 hm.2 (fun e he hye => ?_) (fun c => b_X9_worth_13 (fun _ => b_X9_worth_27 ⟨_, rfl, ?_⟩) (fun c2 => absurd rfl c2)))
    · rw [hye, hx_some he (by omega)] at hk
      simp only at hk
      refine b_X9_worth_13 (fun c2 => absurd c2 (by decide)) (fun _ => ?_)
      refine b_X9_worth_16 (s_isWithin (a := -99) (b := 99) ⟨by omega, by omega⟩ ⟨by omega, by omega⟩ (fun hv => ?_) (fun hv => ?_))
      · rw [if_pos hv] at hk
        refine b_X9_worth_24 (fun _ => ?_) (fun c2 => absurd c2 (by decide))
        refine b_X9_worth_29 c1 rfl (fun cr => ?_) (fun cr => b_X9_worth_36 ⟨_, rfl, ?_⟩)
        · rw [show (0 : Int32) = hI ((0 : Nat) : Int) from rfl, hN_le (by omega) (by omega)] at cr
          rw [if_pos (by omega)] at hk
          obtain ⟨v, hvu⟩ : ∃ v : Int, v = z.toInt := ⟨_, rfl⟩
          rw [← hvu] at hk hv
          rw [hxa, hye, hI_of z, ← hvu]
          refine b_X9_worth_41 c1 rfl C.w1 (s_changeNumber c2 (by omega) (by omega) hv fun HW => b_X9_worth_51 ⟨_, rfl, ?_⟩)
          rw [hI_ite]
          refine hk _ ⟨c1.fr (hk_set_ne (by decide)), ⟨pw, HW⟩, c3, c4.fr (hk_set_ne (by decide)), fun j hj => by omega, fun j j' _ hj => by omega, c7⟩ (hFm.rf.set (by unfold hP48; omega))
        · rw [show (0 : Int32) = hI ((0 : Nat) : Int) from rfl, hN_le (by omega) (by omega)] at cr
          rw [if_neg (by omega)] at hk
          exact hk h C hFm.rf
      · rw [if_neg hv] at hk
        exact b_X9_worth_24 (fun c2 => absurd rfl c2) (fun _ => b_X9_worth_27 ⟨_, rfl, hk h C hFm.rf⟩)
    · rw [hx_none c] at hk
      exact hk h C hFm.rf
  · rw [hx_none c] at hk
    exact hk h C hFm.rf
end RW
