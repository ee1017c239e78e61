theorem b_X9_gift_63N {G : hk_G} {d cb sb : Nat} {h : hk_H} {Q : hk_O → hk_H → Prop} {x6 : Int32} {o0 o1 o2 o3 o4 o7 : Option Value} (hq : Q (.inl (some (.int (-1)))) h) : hk_S G m_X9_gift (d + 1) cb sb 63 [o0, o1, o2, o3, o4, some .null, some (.int x6), o7] [] h Q := by
  refine hs_iconst (v := 1) dX9_gift_63 (by decide) ?_
  refine hs_goto dX9_gift_64 (tgt := 68) (by decide) ?_
  refine hs_istK dX9_gift_68 (by decide) (hk_nk1 rfl hk_c1i) rfl ?_
  refine hs_aloadN dX9_gift_70 rfl ?_
  refine hs_ifnullN dX9_gift_72 (tgt := 85) (by decide) ?_
  exact b_X9_gift_85 hq
theorem b_X9_gift_67N {G : hk_G} {d cb sb : Nat} {h : hk_H} {Q : hk_O → hk_H → Prop} {x6 : Int32} {o0 o1 o2 o3 o4 o7 : Option Value} (hq : Q (.inl (some (.int (-1)))) h) : hk_S G m_X9_gift (d + 1) cb sb 67 [o0, o1, o2, o3, o4, some .null, some (.int x6), o7] [] h Q := by
  refine hs_iconst (v := 0) dX9_gift_67 (by decide) ?_
  refine hs_istK dX9_gift_68 (by decide) (hk_nk1 rfl hk_c1i) rfl ?_
  refine hs_aloadN dX9_gift_70 rfl ?_
  refine hs_ifnullN dX9_gift_72 (tgt := 85) (by decide) ?_
  exact b_X9_gift_85 hq
def hg_E (m : Nat) (y z u : Int32) : Option Nat := if z = -1 ∧ -99 ≤ u.toInt ∧ u.toInt ≤ 99 then hx y m else none
def hg_P (n : Nat) (y z u : Int32) : Option Nat := if y = -1 ∧ 0 ≤ u.toInt ∧ u.toInt ≤ 9 then hx z n else none
def hq_gift (n m rc : Nat) (Rs : Nat → hr_R) (x y z u : Int32) : Int × (Nat → hr_R) := match hx x rc with
  | none => (-1, Rs)
  | some j => match hg_E m y z u with
    | some e => if (Rs j).1 = 2 then (if (Rs j).2.2.2.1 e = u.toInt then 0 else 1, hr_up Rs j (hr_setG (Rs j) e u.toInt)) else (-4, Rs)
    | none => match hg_P n y z u with
      | some i => if (Rs j).1 = 2 then (if (Rs j).2.2.2.2.1 i = u.toInt then 0 else 1, hr_up Rs j (hr_setW (Rs j) i u.toInt)) else (-4, Rs)
      | none => (-1, Rs)
section RI
variable {G : hk_G} {h : hk_H} {n m w rc : Nat} {num : Nat → Int} {Rs : Nat → hr_R} {rq : Nat → Nat} {d : Nat}
theorem s_giftA (C : hC h n m w rc num Rs rq) {x y z u : Int32} {Q : hk_O → hk_H → Prop} {o5 o6 o7 : Option Value} (ho5 : hk_c1 o5) (hz : z = -1) (k1 : ∀ e, hg_E m y z u = some e → hk_S G m_X9_gift (d + 2) 0 0 32 [some (.ref 4), some (.int x), some (.int y), some (.int z), some (.int u), o5, o6, o7] [] h Q) (k0 : hg_E m y z u = none → hk_S G m_X9_gift (d + 2) 0 0 36 [some (.ref 4), some (.int x), some (.int y), some (.int z), some (.int u), o5, o6, o7] [] h Q) : hk_S G m_X9_gift (d + 2) 0 0 12 [some (.ref 4), some (.int x), some (.int y), some (.int z), some (.int u), o5, o6, o7] [] h Q := by
  obtain ⟨hn, hm, hw6, hnum⟩ := C.dim
  unfold hg_E at k1 k0
  refine b_X9_gift_12 C.1 (s_isEnd C.1 hm.2 (fun e he hye => ?_) (fun c => b_X9_gift_17 (fun _ => k0 ?_) (fun c2 => absurd rfl c2)))
  · refine b_X9_gift_17 (fun c2 => absurd c2 (by decide)) (fun _ => ?_)
    refine b_X9_gift_20 (s_isWithin (a := -99) (b := 99) ⟨by omega, by omega⟩ ⟨by omega, by omega⟩ (fun hv => ?_) (fun hv => ?_))
    · exact b_X9_gift_29 (fun c2 => absurd c2 (by decide)) (fun _ => k1 e (by rw [if_pos ⟨hz, hv⟩, hye, hx_some he (by omega)]))
    · exact b_X9_gift_29 (fun _ => k0 (if_neg fun c2 => hv c2.2)) (fun c2 => absurd rfl c2)
  · rw [hx_none c]
    split <;> rfl
theorem s_giftB (C : hC h n m w rc num Rs rq) {x y z u : Int32} {Q : hk_O → hk_H → Prop} {o5 o6 o7 : Option Value} (ho6 : hk_c1 o6) (hy : y = -1) (k1 : ∀ e, hg_P n y z u = some e → hk_S G m_X9_gift (d + 2) 0 0 63 [some (.ref 4), some (.int x), some (.int y), some (.int z), some (.int u), o5, o6, o7] [] h Q) (k0 : hg_P n y z u = none → hk_S G m_X9_gift (d + 2) 0 0 67 [some (.ref 4), some (.int x), some (.int y), some (.int z), some (.int u), o5, o6, o7] [] h Q) : hk_S G m_X9_gift (d + 2) 0 0 44 [some (.ref 4), some (.int x), some (.int y), some (.int z), some (.int u), o5, o6, o7] [] h Q := by
  obtain ⟨hn, hm, hw6, hnum⟩ := C.dim
  unfold hg_P at k1 k0
  refine b_X9_gift_44 C.1 (s_isPerson C.1 hn.2 (fun e he hye => ?_) (fun c => b_X9_gift_49 (fun _ => k0 ?_) (fun c2 => absurd rfl c2)))
  · refine b_X9_gift_49 (fun c2 => absurd c2 (by decide)) (fun _ => ?_)
    refine b_X9_gift_52 (s_isWithin (a := 0) (b := 9) ⟨by omega, by omega⟩ ⟨by omega, by omega⟩ (fun hv => ?_) (fun hv => ?_))
    · exact b_X9_gift_60 (fun c2 => absurd c2 (by decide)) (fun _ => k1 e (by rw [if_pos ⟨hy, hv⟩, hye, hx_some he (by omega)]))
    · exact b_X9_gift_60 (fun _ => k0 (if_neg fun c2 => hv c2.2)) (fun c2 => absurd rfl c2)
  · rw [hx_none c]
    split <;> rfl
theorem hg_E_ne {m : Nat} {y z u : Int32} {e : Nat} (h : hg_E m y z u = some e) (hm : m ≤ 5) : z = -1 ∧ (-99 ≤ u.toInt ∧ u.toInt ≤ 99) ∧ e < m ∧ y = hI (e : Int) ∧ y ≠ -1 := by
  unfold hg_E at h
  split at h
  · rename_i c
    obtain ⟨h1, h2⟩ := hx_cases h
    exact ⟨c.1, c.2, h1, h2, by rw [h2]; exact hI_n1 (by omega)⟩
  · cases h
theorem hg_P_ne {n : Nat} {y z u : Int32} {e : Nat} (h : hg_P n y z u = some e) : y = -1 ∧ (0 ≤ u.toInt ∧ u.toInt ≤ 9) ∧ e < n ∧ z = hI (e : Int) := by
  unfold hg_P at h
  split at h
  · rename_i c
    obtain ⟨h1, h2⟩ := hx_cases h
    exact ⟨c.1, c.2, h1, h2⟩
  · cases h
theorem s_gift (C : hC h n m w rc num Rs rq) {x y z u : Int32} {K : Int32 → hk_H → Prop} (hk : ∀ h', hC h' n m w rc num (hq_gift n m rc Rs x y z u).2 rq → hLo h h' → K (hI (hq_gift n m rc Rs x y z u).1) h') : hk_Ci G m_X9_gift (d + 4) 0 0 [.ref 4, .int x, .int y, .int z, .int u] h K := by
  have hrc := C.rc8
  obtain ⟨hn, hm, hw6, hnum⟩ := C.dim
  obtain ⟨pw, HW⟩ := C.2.1
  unfold hq_gift at hk
  refine ⟨Nat.le_of_ble_eq_true rfl, ?_⟩
  refine b_X9_gift_0 C.1 (s_ruleAt C.1 C.2.2.2.1 (fun j hj hxj => ?_) (fun c => ?_))
  · rw [hxj, hx_some hj (by omega)] at hk
    simp only at hk
    obtain ⟨g1, g2, ef, pf, H⟩ := C.2.2.2.2.1 j hj
    have fin36 : hg_E m y z u = none → hk_S G m_X9_gift (d + 4) 0 0 36 [some (.ref 4), some (.int x), some (.int y), some (.int z), some (.int u), some (.ref (rq j)), none, none] [] h (fun o h' => ∃ x, o = .inl (some (.int x)) ∧ K x h') := by
      intro hE
      rw [hE] at hk
      simp only at hk
      have fin67 : hg_P n y z u = none → hk_S G m_X9_gift (d + 4) 0 0 67 [some (.ref 4), some (.int x), some (.int y), some (.int z), some (.int u), some (.ref (rq j)), some (.int 0), none] [] h (fun o h' => ∃ x, o = .inl (some (.int x)) ∧ K x h') := by
        intro hP
        rw [hP] at hk
        exact b_X9_gift_67 (fun c2 => absurd rfl c2) (fun _ => b_X9_gift_80 (fun c2 => absurd rfl c2) (fun _ => b_X9_gift_85 ⟨_, rfl, hk h C hLo.rf⟩))
      refine b_X9_gift_36 (fun cy => fin67 (if_neg fun c2 => cy c2.1)) (fun cy => s_giftB (d := d + 2) C hk_c1i cy (fun i hP => ?_) fin67)
      rw [hP] at hk
      obtain ⟨p1, p2, p3, p4⟩ := hg_P_ne hP
      refine b_X9_gift_63 (fun c2 => absurd rfl c2) (fun _ => b_X9_gift_80 (fun _ => b_X9_gift_87 (fun _ => ?_) (fun c2 => absurd rfl c2)) (fun c2 => absurd c2 (by decide)))
      obtain ⟨v, hvu⟩ : ∃ v : Int, v = u.toInt := ⟨_, rfl⟩
      rw [← hvu] at hk p2
      rw [p4, hI_of u, ← hvu]
      refine b_X9_gift_103 (hr_dCW (C.ok hj).1) (C.obj hj) ?_
      simp only at hk
      by_cases hkd : (Rs j).1 = 2
      · rw [if_pos hkd] at hk
        refine s_changeWeight HW H hkd p3 p2 fun h' ef' ho hR => b_X9_gift_111 ⟨_, rfl, ?_⟩
        rw [hI_ite]
        exact hk h' (C.one hj ho hR rfl) ⟨by rw [ho.1]; exact Nat.le_refl _, fun a ha => ho.2 a (by omega)⟩
      · rw [if_neg hkd] at hk
        exact s_changeWeightN H hkd (b_X9_gift_111 ⟨_, rfl, hk h C hLo.rf⟩)
    refine b_X9_gift_5 (fun cz => fin36 (if_neg fun c2 => cz c2.1)) (fun cz => s_giftA (d := d + 2) C hk_c1r cz (fun e hE => ?_) fin36)
    rw [hE] at hk
    obtain ⟨p1, p2, p3, p4, p5⟩ := hg_E_ne hE hm.2
    refine b_X9_gift_32 (fun _ => ?_) (fun c2 => absurd c2 p5)
    refine b_X9_gift_67 (fun _ => b_X9_gift_87 (fun c2 => absurd c2 (by decide)) (fun _ => ?_)) (fun c2 => absurd c2 (by decide))
    obtain ⟨v, hvu⟩ : ∃ v : Int, v = u.toInt := ⟨_, rfl⟩
    rw [← hvu] at hk p2
    rw [p4, hI_of u, ← hvu]
    refine b_X9_gift_92 (hr_dCG (C.ok hj).1) (C.obj hj) ?_
    simp only at hk
    by_cases hkd : (Rs j).1 = 2
    · rw [if_pos hkd] at hk
      refine s_changeGift HW H hkd p3 p2 fun h' ef' ho hR => b_X9_gift_100 ⟨_, rfl, ?_⟩
      rw [hI_ite]
      exact hk h' (C.one hj ho hR rfl) ⟨by rw [ho.1]; exact Nat.le_refl _, fun a ha => ho.2 a (by omega)⟩
    · rw [if_neg hkd] at hk
      exact s_changeGiftN H hkd (b_X9_gift_100 ⟨_, rfl, hk h C hLo.rf⟩)
  · rw [hx_none c] at hk
    have hk := hk h C hLo.rf
    have fin36 : hk_S G m_X9_gift (d + 4) 0 0 36 [some (.ref 4), some (.int x), some (.int y), some (.int z), some (.int u), some .null, none, none] [] h (fun o h' => ∃ x, o = .inl (some (.int x)) ∧ K x h') := b_X9_gift_36 (ho5 := hk_c1n) (fun _ => b_X9_gift_67N ⟨_, rfl, hk⟩) (fun cy => s_giftB (d := d + 2) C hk_c1i cy (fun _ _ => b_X9_gift_63N ⟨_, rfl, hk⟩) (fun _ => b_X9_gift_67N ⟨_, rfl, hk⟩))
    refine b_X9_gift_5N0 (fun _ => fin36) (fun cz => s_giftA (d := d + 2) C hk_c1n cz (fun e hE => ?_) (fun _ => fin36))
    obtain ⟨p1, p2, p3, p4, p5⟩ := hg_E_ne hE hm.2
    exact b_X9_gift_32 (ho5 := hk_c1n) (fun _ => b_X9_gift_67N ⟨_, rfl, hk⟩) (fun c2 => absurd c2 p5)
end RI
