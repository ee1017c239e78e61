/-! The reference: heap. -/
def hBs (h : hk_H) : Prop := (∃ f, h.2 52 = some (hc_i32 1296 f)) ∧ (∃ f, h.2 53 = some (hc_i32 5184 f)) ∧ (∃ f : Nat → Int32, h.2 54 = some (.inl (2, 5, .inl f))) ∧ (∃ f, h.2 55 = some (hc_i32 25 f)) ∧ (∃ f, h.2 56 = some (hc_i32 5 f)) ∧ (∀ x, x < 5 → ∃ f, h.2 (58 + x) = some (hc_i32 4 f)) ∧ (∃ f, h.2 69 = some (hc_i64 60 f))
def hPsc (a : Nat) : Prop := (52 ≤ a ∧ a ≤ 56) ∨ (58 ≤ a ∧ a ≤ 62) ∨ a = 69
theorem hBs.fr {h h' : hk_H} (S : hBs h) (e : ∀ a, hPsc a → h'.2 a = h.2 a) : hBs h' := by
  obtain ⟨⟨f1, s1⟩, ⟨f2, s2⟩, ⟨f3, s3⟩, ⟨f4, s4⟩, ⟨f5, s5⟩, s6, ⟨f7, s7⟩⟩ := S
  refine ⟨⟨f1, (e 52 (by unfold hPsc; omega)).trans s1⟩, ⟨f2, (e 53 (by unfold hPsc; omega)).trans s2⟩, ⟨f3, (e 54 (by unfold hPsc; omega)).trans s3⟩, ⟨f4, (e 55 (by unfold hPsc; omega)).trans s4⟩, ⟨f5, (e 56 (by unfold hPsc; omega)).trans s5⟩, fun x hx => ?_, ⟨f7, (e 69 (by unfold hPsc; omega)).trans s7⟩⟩
  obtain ⟨f, s⟩ := s6 x hx
  exact ⟨f, (e _ (by unfold hPsc; omega)).trans s⟩
def hP53 (a : Nat) : Prop := a = 52 ∨ a = 53
section RK
variable {G : hk_G} {h h' : hk_H} {n m w rc th : Nat} {num : Nat → Int} {Rs : Nat → hr_R} {d : Nat}
theorem hB.sc (B : hB h n m w rc num Rs th) (F : hRf hPsc h h') : hB h' n m w rc num Rs th := B.fr fun a _ _ => F.2 a (by unfold hPsc; omega)
theorem r_reckon (B : hB h n m w rc num Rs th) {j : Nat} (hj : j < rc) {f1 f2 : Nat → Int32} (a1 : h.2 52 = some (hc_i32 1296 f1)) (a2 : h.2 53 = some (hc_i32 5184 f2)) {K : hk_H → Prop} (hk : ∀ h' g1 g2, hRf hP53 h h' → h'.2 52 = some (hc_i32 1296 g1) → h'.2 53 = some (hc_i32 5184 g2) → (∀ r, r < hw_pow w n → g1 r = hI (hr_end n m w num (Rs j) r : Nat) ∧ ∀ i, i < n → g2 (4 * r + i) = hI (hr_pay n m w num (Rs j) r i)) → K h') : hk_Cv G m_X10_reckon (d + 4) 0 0 [.ref 43, .int (hI j)] h K := by
  have hrc := B.rc8
  have hrow := B.rows
  obtain ⟨hn, hm, hw6, hnum⟩ := B.dim
  have Bf : ∀ {h1 : hk_H}, hRf hP53 h h1 → hB h1 n m w rc num Rs th := fun F => B.fr fun a _ _ => F.2 a (by unfold hP53; omega)
  refine ⟨Nat.le_of_ble_eq_true rfl, ?_⟩
  refine b_X10_reckon_0 ?_
  refine hk_upto (P := fun r => ∀ h' g1 g2 (o3 : Option Value), hk_c1 o3 → hRf hP53 h h' → h'.2 52 = some (hc_i32 1296 g1) → h'.2 53 = some (hc_i32 5184 g2) → (∀ r', r' < r → g1 r' = hI (hr_end n m w num (Rs j) r' : Nat) ∧ ∀ i, i < n → g2 (4 * r' + i) = hI (hr_pay n m w num (Rs j) r' i)) → hk_S G m_X10_reckon (d + 4) 0 0 2 [some (.ref 43), some (.int (hI j)), some (.int (hI (r : Int))), o3] [] h' (fun o h' => o = .inl none ∧ K h')) (hw_pow w n) (fun r hr ih h' g1 g2 o3 q3 F' c1 c2 D => ?_) h f1 f2 none hk_c10 hRf.rf a1 a2 (fun r' hr' => by omega)
  have B' := Bf F'
  refine b_X10_reckon_2 B'.o rfl (fun cc => ?_) (fun cc => ?_)
  · rw [hN_le (by omega) (by omega)] at cc
    exact b_X10_reckon_61 ⟨rfl, hk h' g1 g2 F' c1 c2 fun r' hr' => D r' (by omega)⟩
  · rw [hN_le (by omega) (by omega)] at cc
    have hrl : r < hw_pow w n := by omega
    refine b_X10_reckon_10 B'.o rfl (r_ends B' hj hrl ?_)
    refine b_X10_reckon_21 c1 (by omega) r (hI_at rfl (by omega)) (by omega) rfl ?_
    refine hk_upto (P := fun i => ∀ h' g2, hRf hP53 h h' → h'.2 52 = some (hc_i32 1296 (upd g1 r (hI (hr_end n m w num (Rs j) r : Nat)))) → h'.2 53 = some (hc_i32 5184 g2) → (∀ r', r' < r → ∀ i, i < n → g2 (4 * r' + i) = hI (hr_pay n m w num (Rs j) r' i)) → (∀ i', i' < i → g2 (4 * r + i') = hI (hr_pay n m w num (Rs j) r i')) → hk_S G m_X10_reckon (d + 4) 0 0 24 [some (.ref 43), some (.int (hI j)), some (.int (hI (r : Int))), some (.int (hI (i : Int)))] [] h' (fun o h' => o = .inl none ∧ K h')) n (fun i hi ih2 h' g2 F' c1 c2 D1 D2 => ?_) _ g2 (F'.set (Or.inl rfl)) hk_set_eq ((hk_set_ne (by decide)).trans c2) (fun r' hr' => (D r' hr').2) (fun i' hi' => by omega)
    have B' := Bf F'
    refine b_X10_reckon_24 B'.o rfl (fun c3 => ?_) (fun c3 => ?_)
    · rw [hN_le (by omega) (by omega)] at c3
      refine b_X10_reckon_55 ?_
      rw [hI_1]
      refine ih hrl h' _ g2 _ hk_c1i F' c1 c2 fun r' hr' => ?_
      unfold upd
      by_cases e : r' = r
      · subst e; rw [if_pos rfl]; exact ⟨rfl, fun i' hi' => D2 i' (by omega)⟩
      · rw [if_neg e]; exact ⟨(D r' (by omega)).1, D1 r' (by omega)⟩
    · rw [hN_le (by omega) (by omega)] at c3
      have hin : i < n := by omega
      refine b_X10_reckon_32 B'.o rfl (r_paysOf B' hj hrl hin ?_)
      refine b_X10_reckon_48 c2 (by omega) (4 * r + i) (hI_ji (q := 4) (by omega)) (by omega) rfl ?_
      rw [hI_1]
      refine ih2 hin _ _ (F'.set (Or.inr rfl)) ((hk_set_ne (by decide)).trans c1) hk_set_eq (fun r' hr' i' hi' => ?_) (fun i' hi' => ?_)
      · unfold upd
        rw [if_neg (by omega)]
        exact D1 r' hr' i' hi'
      · unfold upd
        by_cases e : i' = i
        · rw [if_pos (by omega), e]
        · rw [if_neg (by omega)]; exact D2 i' (by omega)
theorem r_gains (B : hB h n m w rc num Rs th) {j H r o : Nat} (hj : j < rc) (hH : H < 16) (hr : r < hw_pow w n) (ho : o < hw_pow w n) {g1 g2 : Nat → Int32} (c1 : h.2 52 = some (hc_i32 1296 g1)) (c2 : h.2 53 = some (hc_i32 5184 g2)) (D : ∀ r, r < hw_pow w n → g1 r = hI (hr_end n m w num (Rs j) r : Nat) ∧ ∀ i, i < n → g2 (4 * r + i) = hI (hr_pay n m w num (Rs j) r i)) {K : Int32 → hk_H → Prop} (hk : K (hI (hb (hh_g n m w num (Rs j) H r o))) h) : hk_Ci G m_X10_gains (d + 1) 0 0 [.ref 43, .int (hI H), .int (hI r), .int (hI o)] h K := by
  have hrow := B.rows
  have hw := B.w0 hj
  obtain ⟨hn, hm, hw6, hnum⟩ := B.dim
  have fin : ∀ (b : Bool) (o5 o6 : Option Value), hh_g n m w num (Rs j) H r o = b → hk_S G m_X10_gains (d + 1) 0 0 135 [some (.ref 43), some (.int (hI H)), some (.int (hI r)), some (.int (hI o)), some (.int (hI (hb b))), o5, o6] [] h (fun o h' => ∃ x, o = .inl (some (.int x)) ∧ K x h') := by
    intro b o5 o6 eb
    rw [eb] at hk
    refine b_X10_gains_135 ⟨_, rfl, hk⟩ ?_
    cases b
    · exact Or.inl rfl
    · exact Or.inr rfl
  refine ⟨Nat.le_of_ble_eq_true rfl, ?_⟩
  refine b_X10_gains_0 ?_
  refine hk_upto (P := fun i => ∀ (b : Bool) (o6 : Option Value), (b = true → ha_from (fun i => if hh_mem H i = true then decide (hr_val n m w num (Rs j) r i (hw_in w r i) < hr_val n m w num (Rs j) o i (hw_in w r i)) else hw_in w r i == hw_in w o i) (n - i) i = hh_g n m w num (Rs j) H r o) → (b = false → hh_g n m w num (Rs j) H r o = false) → hk_S G m_X10_gains (d + 1) 0 0 6 [some (.ref 43), some (.int (hI H)), some (.int (hI r)), some (.int (hI o)), some (.int (hI (hb b))), some (.int (hI (i : Int))), o6] [] h (fun o h' => ∃ x, o = .inl (some (.int x)) ∧ K x h')) n (fun i hi ih b o6 A1 A2 => ?_) true none (fun _ => rfl) (fun z => by cases z)
  refine b_X10_gains_6 B.o rfl (fun cc => ?_) (fun cc => ?_)
  · rw [hN_le (by omega) (by omega)] at cc
    refine fin b _ _ ?_
    cases b with
    | true =>
      have := A1 rfl
      rw [ha_end (by omega)] at this
      exact this.symm
    | false => exact A2 rfl
  · rw [hN_le (by omega) (by omega)] at cc
    have hin : i < n := by omega
    cases b with
    | false => exact b_X10_gains_15 (fun _ => fin false _ _ (A2 rfl)) (fun z => absurd rfl z)
    | true =>
      have A1 := A1 rfl
      rw [ha_step hin] at A1
      have w1 := hw_in_lt hw r i
      have w2 := hw_in_lt hw o i
      have hbit := hd_bit ⟨H, by omega⟩ ⟨i, by omega⟩
      simp only at hbit
      refine b_X10_gains_15 (fun z => absurd z (by decide)) (fun _ => ?_)
      refine b_X10_gains_20 (fun c3 => ?_) (fun c3 => ?_)
      · have c3 := mt hbit.mpr c3
        rw [Bool.not_eq_false] at c3
        simp only [if_pos c3] at A1
        have el1 := hr_end_lt (num := num) hm.1 (B.ok hj) hr
        have el2 := hr_end_lt (num := num) hm.1 (B.ok hj) ho
        have v1 := hr_val_bound B.dim (B.ok hj) hw hr hin w1
        have v2 := hr_val_bound B.dim (B.ok hj) hw ho hin w1
        refine b_X10_gains_56 B.o (r_wishOf B hw (by omega) hin ?_)
        have e1 : (fun k => hI (num k)) (5 * hw_in w r i + hr_end n m w num (Rs j) o) - g2 (4 * o + i) = hI (hr_val n m w num (Rs j) o i (hw_in w r i)) := by
          rw [(D o ho).2 i hin, show 5 * hw_in w r i + hr_end n m w num (Rs j) o = hw_in w r i * 5 + hr_end n m w num (Rs j) o by omega]
          exact hI_sub _ _
        have e2 : (fun k => hI (num k)) (5 * hw_in w r i + hr_end n m w num (Rs j) r) - g2 (4 * r + i) = hI (hr_val n m w num (Rs j) r i (hw_in w r i)) := by
          rw [(D r hr).2 i hin, show 5 * hw_in w r i + hr_end n m w num (Rs j) r = hw_in w r i * 5 + hr_end n m w num (Rs j) r by omega]
          exact hI_sub _ _
        refine b_X10_gains_64 B.o rfl rfl c1 o (hI_at rfl (by omega)) (by omega) B.2.1 (5 * hw_in w r i + hr_end n m w num (Rs j) o) (by rw [(D o ho).1]; exact hI_ji (q := 5) (by omega)) (by omega) rfl c2 (4 * o + i) (hI_ji (q := 4) (by omega)) (by omega) r (hI_at rfl (by omega)) (by omega) (5 * hw_in w r i + hr_end n m w num (Rs j) r) (by rw [(D r hr).1]; exact hI_ji (q := 5) (by omega)) (by omega) (4 * r + i) (hI_ji (q := 4) (by omega)) (by omega) (fun c4 => ?_) (fun c4 => ?_)
        · rw [e1, e2, hI_le (by omega) (by omega)] at c4
          rw [decide_eq_false (by omega), Bool.false_and] at A1
          refine b_X10_gains_126 ?_
          rw [hI_1]
          exact ih hin false _ (fun z => by cases z) (fun _ => A1.symm)
        · rw [e1, e2, hI_le (by omega) (by omega)] at c4
          rw [decide_eq_true (by omega), Bool.true_and] at A1
          refine b_X10_gains_122 ?_
          rw [hI_1]
          exact ih hin true _ (fun _ => A1) (fun z => by cases z)
      · have c3 := hbit.mp c3
        simp only [if_neg (show ¬ hh_mem H i = true by rw [c3]; decide)] at A1
        refine b_X10_gains_29 B.o (r_wishOf B hw (by omega) hin ?_)
        refine b_X10_gains_36 B.o (r_wishOf B hw (by omega) hin ?_)
        refine b_X10_gains_43 (fun c4 => ?_) (fun c4 => ?_)
        · rw [hN_eq (by omega) (by omega)] at c4
          rw [show (hw_in w r i == hw_in w o i) = false by rw [beq_eq_false_iff_ne]; exact c4, Bool.false_and] at A1
          refine b_X10_gains_50 ?_
          rw [hI_1]
          exact ih hin false _ (fun z => by cases z) (fun _ => A1.symm)
        · rw [hN_eq (by omega) (by omega)] at c4
          rw [show (hw_in w r i == hw_in w o i) = true by rw [c4]; exact beq_self_eq_true _, Bool.true_and] at A1
          refine b_X10_gains_46 ?_
          rw [hI_1]
          exact ih hin true _ (fun _ => A1) (fun z => by cases z)
theorem r_heap (B : hB h n m w rc num Rs th) (S : hBs h) {x y u : Int32} {K : Int32 → hk_H → Prop} (hk : ∀ h', hB h' n m w rc num Rs th → hBs h' → hRf hPsc h h' → K (hI (hq_heap n m w rc num Rs x y (!decide (u = 0)))) h') : hk_Ci G m_X10_heap (d + 5) 0 0 [.ref 43, .int x, .int y, .int u] h K := by
  have hrc := B.rc8
  have hrow := B.rows
  obtain ⟨hn, hm, hw6, hnum⟩ := B.dim
  have h216 : 2 ^ n ≤ 16 := Nat.pow_le_pow_right (n := 2) (by omega) hn.2
  have h217 : 1 ≤ 2 ^ n := Nat.pow_pos (by omega)
  have hsh := hd_sh ⟨n, by omega⟩
  simp only at hsh
  unfold hq_heap at hk
  refine ⟨Nat.le_of_ble_eq_true rfl, ?_⟩
  refine b_X10_heap_0 B.o rfl (r_isIn (by omega) (fun j hj hxj => ?_) (fun c => b_X10_heap_8 (fun _ => b_X10_heap_26 ⟨_, rfl, ?_⟩) (fun z => absurd rfl z)))
  · rw [hxj, hx_some hj (by omega)] at hk
    simp only at hk
    refine b_X10_heap_8 (fun z => absurd z (by decide)) (fun _ => ?_)
    refine b_X10_heap_11 (fun c => ?_) (fun c => ?_)
    · rw [show (1 : Int32) = hI 1 from rfl, Int32.lt_iff_toInt_lt, hI_toInt (by omega)] at c
      rw [if_neg (by omega)] at hk
      exact b_X10_heap_26 ⟨_, rfl, hk h B S hRf.rf⟩
    · rw [show (1 : Int32) = hI 1 from rfl, Int32.lt_iff_toInt_lt, hI_toInt (by omega)] at c
      refine b_X10_heap_16 B.o rfl (fun c2 => ?_) (fun c2 => ?_)
      · rw [hsh, Int32.lt_iff_toInt_lt, hI_toInt (hI_rN (by omega))] at c2
        rw [if_pos ⟨by omega, by omega⟩] at hk
        obtain ⟨H, hH, ey⟩ : ∃ H : Nat, (1 ≤ H ∧ H < 2 ^ n) ∧ y = hI (H : Int) := ⟨y.toInt.toNat, by omega, by rw [show ((y.toInt.toNat : Nat) : Int) = y.toInt by omega]; exact hI_of y⟩
        have eH : y.toInt.toNat = H := by rw [ey, hI_toInt (hI_rN (by omega))]; omega
        rw [eH] at hk
        rw [hxj, ey]
        obtain ⟨⟨f1, s1⟩, ⟨f2, s2⟩, -⟩ := id S
        refine b_X10_heap_28 B.o (r_reckon B hj s1 s2 fun h1 g1 g2 F1 c1 c2 D => ?_)
        have F2 : hRf hPsc h h1 := F1.mono fun a ha => by unfold hP53 at ha; unfold hPsc; omega
        have B1 := B.sc F2
        have S1 : hBs h1 := by
          obtain ⟨-, -, t3, t4, t5, t6, t7⟩ := id S
          have e : ∀ a, a ≠ 52 → a ≠ 53 → h1.2 a = h.2 a := fun a q1 q2 => F1.2 a (by unfold hP53; omega)
          obtain ⟨f3, s3⟩ := t3
          obtain ⟨f4, s4⟩ := t4
          obtain ⟨f5, s5⟩ := t5
          obtain ⟨f7, s7⟩ := t7
          refine ⟨⟨g1, c1⟩, ⟨g2, c2⟩, ⟨f3, (e 54 (by decide) (by decide)).trans s3⟩, ⟨f4, (e 55 (by decide) (by decide)).trans s4⟩, ⟨f5, (e 56 (by decide) (by decide)).trans s5⟩, fun x hx => ?_, ⟨f7, (e 69 (by decide) (by decide)).trans s7⟩⟩
          obtain ⟨f, s⟩ := t6 x hx
          exact ⟨f, (e _ (by omega) (by omega)).trans s⟩
        have hk := hk h1 B1 S1 F2
        unfold hp_heap at hk
        refine b_X10_heap_33 ?_
        refine hk_upto (P := fun r => ∀ o5 : Option Value, hk_c1 o5 → hf_from (fun r => (hh_said n m w num (Rs j) H r).map (fun a => if (!decide (u = 0)) = true then a else (r : Int))) (hw_pow w n - r) r = hf (fun r => (hh_said n m w num (Rs j) H r).map (fun a => if (!decide (u = 0)) = true then a else (r : Int))) (hw_pow w n) → hk_S G m_X10_heap (d + 5) 0 0 36 [some (.ref 43), some (.int (hI j)), some (.int (hI H)), some (.int u), some (.int (hI (r : Int))), o5] [] h1 (fun o h' => ∃ x, o = .inl (some (.int x)) ∧ K x h')) (hw_pow w n) (fun r hr ih o5 q5 E1 => ?_) none hk_c10 rfl
        refine b_X10_heap_36 B1.o rfl (fun cc => ?_) (fun cc => ?_)
        · rw [hN_le (by omega) (by omega)] at cc
          rw [hf_end (by omega)] at E1
          rw [← E1] at hk
          exact b_X10_heap_93 ⟨_, rfl, hk⟩
        · rw [hN_le (by omega) (by omega)] at cc
          have hrl : r < hw_pow w n := by omega
          refine b_X10_heap_45 ?_
          refine hk_upto (P := fun o => hf_from (fun a => if hh_g n m w num (Rs j) H r a = true then some (a : Int) else none) (hw_pow w n - o) o = hh_said n m w num (Rs j) H r → hk_S G m_X10_heap (d + 5) 0 0 48 [some (.ref 43), some (.int (hI j)), some (.int (hI H)), some (.int u), some (.int (hI (r : Int))), some (.int (hI (o : Int)))] [] h1 (fun o h' => ∃ x, o = .inl (some (.int x)) ∧ K x h')) (hw_pow w n) (fun o ho ih2 E2 => ?_) rfl
          refine b_X10_heap_48 B1.o rfl (fun cc => ?_) (fun cc => ?_)
          · rw [hN_le (by omega) (by omega)] at cc
            rw [hf_end (by omega)] at E2
            rw [hf_none hrl (by rw [← E2]; rfl)] at E1
            refine b_X10_heap_87 ?_
            rw [hI_1]
            exact ih hrl _ hk_c1i E1
          · rw [hN_le (by omega) (by omega)] at cc
            have hol : o < hw_pow w n := by omega
            refine b_X10_heap_57 B1.o (r_gains B1 hj (by omega) hrl hol c1 c2 D ?_)
            by_cases g : hh_g n m w num (Rs j) H r o = true
            · rw [g]
              rw [hf_some hol (if_pos g)] at E2
              rw [hf_some hrl (by rw [← E2]; rfl)] at E1
              rw [← E1] at hk
              refine b_X10_heap_66 (fun z => absurd z (by decide)) (fun _ => ?_)
              refine b_X10_heap_69 (fun q => ?_) (fun q => ?_)
              · rw [decide_eq_true q] at hk
                exact b_X10_heap_78 ⟨_, rfl, hk⟩
              · rw [decide_eq_false q] at hk
                exact b_X10_heap_73 ⟨_, rfl, hk⟩
            · rw [hf_none hol (if_neg g)] at E2
              rw [Bool.not_eq_true] at g
              rw [g]
              refine b_X10_heap_66 (fun _ => ?_) (fun z => absurd rfl z)
              refine b_X10_heap_81 ?_
              rw [hI_1]
              exact ih2 hol E2
      · rw [hsh, Int32.lt_iff_toInt_lt, hI_toInt (hI_rN (by omega))] at c2
        rw [if_neg (by omega)] at hk
        exact b_X10_heap_26 ⟨_, rfl, hk h B S hRf.rf⟩
  · rw [hx_none c] at hk
    exact hk h B S hRf.rf
end RK
