/-! firstRow and heap. -/
/-- the class's Heap, whatever it holds -/
def hHp (h : hk_H) : Prop := ∃ (a b : Int32) (c o z : Nat → Int32), h.2 9 = some (.inr (0, [.ref 5, .ref 10, .ref 11, .ref 12, .int a, .int b])) ∧ h.2 10 = some (hc_i32 20 c) ∧ h.2 11 = some (hc_i32 4 o) ∧ h.2 12 = some (hc_i32 4 z)
theorem hHp.fr {h h' : hk_H} (H : hHp h) (e : ∀ a, 9 ≤ a → a ≤ 12 → h'.2 a = h.2 a) : hHp h' := by
  obtain ⟨a, b, c, o, z, h1, h2, h3, h4⟩ := H
  exact ⟨a, b, c, o, z, by rw [e 9 (by omega) (by omega)]; exact h1, by rw [e 10 (by omega) (by omega)]; exact h2, by rw [e 11 (by omega) (by omega)]; exact h3, by rw [e 12 (by omega) (by omega)]; exact h4⟩
theorem hh_full {n : Nat} (hn : 2 ≤ n ∧ n ≤ 4) : (1 <<< (hI (n : Int) &&& 31)) - 1 = hI (((2 ^ n : Nat) : Int) - 1) := by
  obtain ⟨h1, h2⟩ := hn
  have : n = 2 ∨ n = 3 ∨ n = 4 := by omega
  rcases this with e | e | e <;> subst e <;> decide
section SHs
variable {G : hk_G} {h h' : hk_H} {n m w rc : Nat} {num : Nat → Int} {Rs : Nat → hr_R} {R : hr_R} {rq : Nat → Nat} {j H W d : Nat} {c o z c' : Nat → Int32}
theorem s_firstRow (C : hC h n m w rc num Rs rq) (hj : j < rc) (hs : ∀ r, r < hw_pow w n → hSt h (rq j) r) (Hp : hHp h) (hH : H < 2 ^ n) {K : Int32 → hk_H → Prop} (hk : ∀ h' W c' o' z' b', W = hh_words w n H → W ≤ 1296 → hHC h' n m w rc num Rs rq j H W c' o' z' → hFm hP12 h h' → b' ≤ hw_pow w n → (b' = hw_pow w n ∨ hh_said n m w num (Rs j) H b' ≠ none) → (∀ r, r < b' → hh_said n m w num (Rs j) H r = none) → K (hI (b' : Nat)) h') : hk_Ci G m_X0_firstRow (d + 5) 0 0 [.ref 9, .ref (rq j), .int (hI H)] h K := by
  obtain ⟨hn, hm, hw6, hnum⟩ := C.dim
  have hw := C.w0 hj
  have hrow := C.rows
  have hq := (C.2.2.2.2.1 j hj).1
  have h16 : H < 16 := Nat.lt_of_lt_of_le hH (Nat.pow_le_pow_right (n := 2) (by omega) hn.2)
  obtain ⟨hc1, hc2⟩ := hh_cnt_pop ⟨n, by omega⟩ ⟨H, h16⟩ hH
  simp only at hc1 hc2
  obtain ⟨pw, HW⟩ := C.2.1
  have hpw := HW.2.2.2.1 (hp_pop H) hc2
  have hWe : hh_words w n H = hw_pow w (hp_pop H) := by rw [hh_words_cnt, hc1, hw_pow_1 hw]
  have hWb : hw_pow w (hp_pop H) ≤ 1296 := hw_pow_lt hw6 (by omega)
  obtain ⟨a, b, c, o, z, o9, o10, o11, o12⟩ := Hp
  refine ⟨Nat.le_of_ble_eq_true rfl, ?_⟩
  generalize hh1 : hk_set h 9 (.inr (0, [.ref 5, .ref 10, .ref 11, .ref 12, .int (hI H), .int b])) = h1
  have p9 : h1.2 9 = some (.inr (0, [.ref 5, .ref 10, .ref 11, .ref 12, .int (hI H), .int b])) := by rw [← hh1]; exact hk_set_eq
  have f1 : ∀ a, a ≠ 9 → h1.2 a = h.2 a := fun a ha => by rw [← hh1, hk_set_ne ha]
  have C1 : hC h1 n m w rc num Rs rq := C.fr (by rw [← hh1]; exact Nat.le_refl _) fun a ha => f1 a (by omega)
  refine b_X0_firstRow_0 o9 (by omega) hh1 p9 rfl C1.w1 rfl (s_bitCount (by omega) ?_)
  refine b_X0_firstRow_17 p9 rfl C1.w1 rfl (s_min (hI_rN (by omega)) (hI_rN (by omega)) ?_)
  rw [show min ((hp_pop H : Nat) : Int) (n : Int) = ((hp_pop H : Nat) : Int) by omega]
  generalize hh2 : hk_set h1 9 (.inr (0, [.ref 5, .ref 10, .ref 11, .ref 12, .int (hI H), .int (hI (hw_pow w (hp_pop H)))])) = h2
  have f2 : ∀ a, a ≠ 9 → h2.2 a = h.2 a := fun a ha => by rw [← hh2, hk_set_ne ha]; exact f1 a ha
  have p9' : h2.2 9 = some (.inr (0, [.ref 5, .ref 10, .ref 11, .ref 12, .int (hI H), .int (hI (hw_pow w (hp_pop H)))])) := by rw [← hh2]; exact hk_set_eq
  have e21 : h2.1 = h.1 := by rw [← hh2, ← hh1]; rfl
  have C2 : hC h2 n m w rc num Rs rq := C.fr (by omega) fun a ha => f2 a (by omega)
  have X2 : hHC h2 n m w rc num Rs rq j H (hw_pow w (hp_pop H)) c o z := ⟨C2, fun r hr => (hs r hr).fr (f2 _ (by omega)), p9', by rw [f2 10 (by decide)]; exact o10, by rw [f2 11 (by decide)]; exact o11, by rw [f2 12 (by decide)]; exact o12⟩
  refine b_X0_firstRow_27 (f2 := pw) (n1 := 5) (by rw [f1 7 (by decide)]; exact HW.2.2.1) (hp_pop H) (hI_at rfl (by omega)) (by omega) p9 (by omega) (by rw [hpw]; exact hh2) p9' rfl C2.w1 rfl ?_
  refine hk_upto (P := fun s => ∀ h' c' o' z' (b' : Nat), hHC h' n m w rc num Rs rq j H (hw_pow w (hp_pop H)) c' o' z' → hFm hP12 h h' → b' ≤ hw_pow w n → (b' = hw_pow w n ∨ hh_said n m w num (Rs j) H b' ≠ none) → (∀ r, r < b' → hh_start w n H r < s → hh_said n m w num (Rs j) H r = none) → hk_S G m_X0_firstRow (d + 5) 0 0 42 [some (.ref 9), some (.ref (rq j)), some (.int (hI H)), some (.int (hI (b' : Int))), some (.int (hI (s : Int)))] [] h' (fun o h' => ∃ x, o = .inl (some (.int x)) ∧ K x h')) (hw_pow w n) (fun s hs1 ih h' c' o' z' b' X' F' hb1 hb2 L => ?_) h2 c o z (hw_pow w n) X2 ⟨by omega, fun a ha hp => f2 a fun e => hp (by unfold hP12; omega)⟩ (Nat.le_refl _) (Or.inl rfl) (fun r _ hr => by omega)
  refine b_X0_firstRow_42 X'.2.2.1 rfl X'.1.w1 rfl (fun cc => ?_) (fun cc => ?_)
  · rw [hN_le (by omega) (by omega)] at cc
    refine b_X0_firstRow_80 ⟨_, rfl, hk h' _ c' o' z' b' hWe.symm hWb X' F' hb1 hb2 fun r hr => L r hr ?_⟩
    have := hh_start_le (w := w) n H r
    omega
  · rw [hN_le (by omega) (by omega)] at cc
    have hsl : s < hw_pow w n := by omega
    have hsl' : s < w ^ n := by rw [← hw_pow_1 hw]; exact hsl
    have hst := hh_start_le (w := w) n H s
    refine b_X0_firstRow_54 X'.2.2.1 (s_startOf X'.1 hj X'.2.2.1 h16 hsl ?_)
    rw [hh_so_eq hw n H s hsl']
    refine b_X0_firstRow_60 (fun c2 => ?_) (fun c2 => ?_)
    · rw [hN_eq (by omega) (by omega)] at c2
      refine b_X0_firstRow_74 ?_
      rw [hI_1]
      refine ih (by omega) h' c' o' z' b' X' F' hb1 hb2 fun r hr hrs => ?_
      by_cases q : hh_start w n H r = s
      · exfalso
        apply c2
        rw [← q]
        exact hh_start_idem hw (by rw [← hw_pow_1 hw]; omega)
      · exact L r hr (by omega)
    · rw [hN_eq (by omega) (by omega)] at c2
      refine b_X0_firstRow_65 X'.2.2.1 (s_firstRowFrom X' hj h16 hWe.symm hWb hsl c2 hb1 fun h3 c3 o3 z3 b3 X3 F3 B3 L3 => ?_)
      refine b_X0_firstRow_73 ?_
      rw [hI_1]
      refine ih (by omega) h3 c3 o3 z3 b3 X3 (F'.tr F3) (by omega) ?_ (fun r hr hrs => ?_)
      · rcases B3 with e | ⟨e, e2⟩
        · rw [e]; exact hb2
        · exact Or.inr e2
      · by_cases q : hh_start w n H r = s
        · exact L3 r hr q
        · exact L r (by omega) (by omega)
def hq_heap (n m w rc : Nat) (num : Nat → Int) (Rs : Nat → hr_R) (x y : Int32) (told : Bool) : Int := match hx x rc with
  | none => -1
  | some j => if 1 ≤ y.toInt ∧ y.toInt ≤ ((2 ^ n : Nat) : Int) - 1 then hp_heap n m w num (Rs j) y.toInt.toNat told else -1
theorem s_heap (C : hC h n m w rc num Rs rq) (Hp : hHp h) {x y u : Int32} {K : Int32 → hk_H → Prop} (hk : ∀ h', hC h' n m w rc num Rs rq → hHp h' → hFm hP12 h h' → K (hI (hq_heap n m w rc num Rs x y (!decide (u = 0)))) h') : hk_Ci G m_X9_heap (d + 6) 0 0 [.ref 4, .int x, .int y, .int u] h K := by
  obtain ⟨hn, hm, hw6, hnum⟩ := C.dim
  have hrc := C.rc8
  have hrow := C.rows
  have h216 : 2 ^ n ≤ 16 := Nat.pow_le_pow_right (n := 2) (by omega) hn.2
  have h217 : 1 ≤ 2 ^ n := Nat.pow_pos (by omega)
  generalize h2n : 2 ^ n = N2 at h216 h217
  unfold hq_heap at hk
  refine ⟨Nat.le_of_ble_eq_true rfl, ?_⟩
  refine b_X9_heap_0 C.1 (s_settledRule C (fun j h' hj hxj C' hl hs _ => ?_) (fun hx => b_X9_heap_5N0 ⟨_, rfl, ?_⟩))
  · have Hp' : hHp h' := Hp.fr fun a _ hb => hl.2 a (by omega)
    rw [hxj, hx_some hj (by omega)] at hk
    simp only at hk
    refine b_X9_heap_5 C'.1 rfl ?_
    rw [hh_full hn]
    refine s_isWithin (a := 1) ⟨by omega, by omega⟩ ⟨by omega, by omega⟩ (fun c => ?_) (fun c => b_X9_heap_25 (fun c2 => absurd rfl c2) (fun _ => b_X9_heap_28 ⟨_, rfl, ?_⟩))
    · rw [if_pos c] at hk
      refine b_X9_heap_25 (fun _ => ?_) (fun c2 => absurd c2 (by decide))
      obtain ⟨H, hH, ey⟩ : ∃ H : Nat, (1 ≤ H ∧ H < 2 ^ n) ∧ y = hI (H : Int) := ⟨y.toInt.toNat, by omega, by rw [show ((y.toInt.toNat : Nat) : Int) = y.toInt by omega]; exact hI_of y⟩
      have eH : y.toInt.toNat = H := by rw [ey, hI_toInt (hI_rN (by omega))]; omega
      rw [eH] at hk
      rw [ey]
      have o9 := Hp'
      obtain ⟨a9, b9, c9, q9, z9, o9, -⟩ := o9
      refine b_X9_heap_30 C'.1 rfl o9 (s_firstRow C' hj hs Hp' hH.2 fun h2 W c2 o2 z2 b2 hW hWb X2 F2 B1 B2 B3 => ?_)
      have F3 : hFm hP12 h h2 := (hFm.lo hl).tr F2
      have Hp2 : ∀ {h o z}, hHC h n m w rc num Rs rq j H W c2 o z → hHp h := fun X => ⟨_, _, _, _, _, X.2.2.1, X.2.2.2.1, X.2.2.2.2.1, X.2.2.2.2.2⟩
      refine b_X9_heap_40 X2.1.1 rfl X2.1.w1 rfl (fun cc => ?_) (fun cc => ?_)
      · rw [hN_lt (by omega) (by omega)] at cc
        have B2 := B2.resolve_left (by omega)
        cases e : hh_said n m w num (Rs j) H b2 with
        | none => exact absurd e B2
        | some v =>
          have hp : ∀ told, hp_heap n m w num (Rs j) H told = if told then v else (b2 : Int) := by
            intro told
            unfold hp_heap
            rw [hf_is.mpr ⟨b2, cc, by rw [e]; rfl, fun r hr => by rw [B3 r hr]; rfl⟩]
            rfl
          rw [hp] at hk
          refine b_X9_heap_57 (fun c3 => ?_) (fun c3 => ?_)
          · rw [decide_eq_true c3] at hk
            exact b_X9_heap_75 ⟨_, rfl, hk h2 X2.1 (Hp2 X2) F3⟩
          · rw [decide_eq_false c3] at hk
            refine b_X9_heap_61 X2.1.1 rfl X2.2.2.1 (s_leastSaid X2 hj (by omega) hW hWb cc fun h4 o4 z4 X4 F4 => ?_)
            rw [e]
            exact b_X9_heap_72 ⟨_, rfl, hk h4 X4.1 (Hp2 X4) (F3.tr F4)⟩
      · rw [hN_lt (by omega) (by omega)] at cc
        have hp : hp_heap n m w num (Rs j) H (!decide (u = 0)) = -2 := by
          unfold hp_heap
          rw [hf_no.mpr fun r hr => by rw [B3 r (by omega)]; rfl]
          rfl
        rw [hp] at hk
        exact b_X9_heap_54 ⟨_, rfl, hk h2 X2.1 (Hp2 X2) F3⟩
    · rw [if_neg c] at hk
      exact hk h' C' Hp' (hFm.lo hl)
  · rw [hx_none hx] at hk
    exact hk h C Hp hFm.rf
end SHs
