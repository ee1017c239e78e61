/-! The reference: gift; heap. -/
section RJ
variable {G : hk_G} {h h' : hk_H} {n m w rc th : Nat} {num : Nat → Int} {Rs : Nat → hr_R} {d : Nat}
theorem r_gift (B : hB h n m w rc num Rs th) {x y z u : Int32} {K : Int32 → hk_H → Prop} (hk : ∀ h', hB h' n m w rc num (hq_gift n m rc Rs x y z u).2 th → hRf hRs43 h h' → K (hI (hq_gift n m rc Rs x y z u).1) h') : hk_Ci G m_X10_gift (d + 1) 0 0 [.ref 43, .int x, .int y, .int z, .int u] h K := by
  have hrc := B.rc8
  obtain ⟨hn, hm, hw6, hnum⟩ := B.dim
  obtain ⟨⟨kf, k1, k2⟩, -, -, ⟨gf, g1, g2⟩, ⟨wf, w1, w2⟩, -⟩ := B.2.2.2.1
  unfold hq_gift at hk
  refine ⟨Nat.le_of_ble_eq_true rfl, ?_⟩
  have atE : ∀ e, hg_E m y z u = some e → ∀ o6 o7 : Option Value, hk_S G m_X10_gift (d + 1) 0 0 67 [some (.ref 43), some (.int x), some (.int y), some (.int z), some (.int u), some (.int 1), o6, o7] [] h (fun o h' => ∃ x, o = .inl (some (.int x)) ∧ K x h') := by
    intro e he o6 o7
    have he' := he
    unfold hg_E at he'
    split at he'
    · rename_i hc
      obtain ⟨hel, hye⟩ := hx_cases he'
      refine b_X10_gift_67 B.o rfl (r_isIn (by omega) (fun j hj hxj => ?_) (fun c => b_X10_gift_78 (fun _ => b_X10_gift_91 ⟨_, rfl, ?_⟩) (fun q => absurd rfl q)))
      · rw [hxj, hx_some hj (by omega)] at hk
        simp only [he] at hk
        refine b_X10_gift_78 (fun q => absurd q (by decide)) (fun _ => ?_)
        refine b_X10_gift_81 (fun _ => ?_) (fun q => absurd q (by decide))
        rw [hxj]
        refine b_X10_gift_93 B.o rfl k1 j (hI_at rfl (by omega)) (by omega) (fun c3 => ?_) (fun c3 => ?_)
        · have c3 := (r_kind B (k := 2) hj (by omega) k2).mp c3
          rw [if_pos c3] at hk
          have ob := (B.ok hj).2.2.2.1 e (by omega)
          obtain ⟨v, hv⟩ : ∃ v : Int, v = u.toInt := ⟨_, rfl⟩
          rw [← hv] at hk hc
          have hk := hk _ (B.gift hj hel ⟨by omega, by omega⟩ g1) (hRf.rf.set (by unfold hRs43; omega))
          rw [hye, hI_of u, ← hv]
          refine b_X10_gift_106 (fun q => absurd q (by decide)) (fun _ => ?_)
          refine b_X10_gift_111 B.o rfl g1 (5 * j + e) (hI_ji (q := 5) (by omega)) (by omega) (fun q => absurd q (by decide)) (fun _ => ?_)
          refine b_X10_gift_141 B.o rfl g1 (by omega) (5 * j + e) (hI_ji (q := 5) (by omega)) (by omega) rfl (fun c4 => ?_) (fun c4 => ?_)
          · rw [g2 j e hj hel, hI_eq (by omega) (by omega)] at c4
            rw [if_neg c4] at hk
            exact b_X10_gift_179 ⟨_, rfl, hk⟩
          · rw [g2 j e hj hel, hI_eq (by omega) (by omega)] at c4
            rw [if_pos c4] at hk
            exact b_X10_gift_175 ⟨_, rfl, hk⟩
        · have c3 := mt (r_kind B (k := 2) hj (by omega) k2).mpr c3
          rw [if_neg c3] at hk
          exact b_X10_gift_103 ⟨_, rfl, hk h B hRf.rf⟩
      · rw [hx_none c] at hk
        exact hk h B hRf.rf
    · cases he'
  have atN : hg_E m y z u = none → hg_P n y z u = none → ∀ o6 o7 : Option Value, hk_S G m_X10_gift (d + 1) 0 0 67 [some (.ref 43), some (.int x), some (.int y), some (.int z), some (.int u), some (.int 0), o6, o7] [] h (fun o h' => ∃ x, o = .inl (some (.int x)) ∧ K x h') := by
    intro he hp o6 o7
    refine b_X10_gift_67 B.o rfl (r_isIn (by omega) (fun j hj hxj => ?_) (fun c => b_X10_gift_78 (fun _ => b_X10_gift_91 ⟨_, rfl, ?_⟩) (fun q => absurd rfl q)))
    · rw [hxj, hx_some hj (by omega)] at hk
      simp only [he, hp] at hk
      refine b_X10_gift_78 (fun q => absurd q (by decide)) (fun _ => ?_)
      exact b_X10_gift_81 (fun q => absurd rfl q) (fun _ => b_X10_gift_86 (fun q => absurd rfl q) (fun _ => b_X10_gift_91 ⟨_, rfl, hk h B hRf.rf⟩))
    · rw [hx_none c] at hk
      exact hk h B hRf.rf
  have at34 : hg_E m y z u = none → ∀ o5 o6 o7 : Option Value, hk_S G m_X10_gift (d + 1) 0 0 34 [some (.ref 43), some (.int x), some (.int y), some (.int z), some (.int u), o5, o6, o7] [] h (fun o h' => ∃ x, o = .inl (some (.int x)) ∧ K x h') := by
    intro he o5 o6 o7
    refine b_X10_gift_34 (fun c => ?_) (fun c => ?_)
    · refine atN he ?_ _ _
      unfold hg_P
      rw [if_neg (fun q => c q.1)]
    · refine b_X10_gift_42 B.o rfl (r_isIn (by omega) (fun i hi hzi => ?_) (fun c2 => b_X10_gift_50 (fun _ => atN he ?_ _ _) (fun q => absurd rfl q)))
      · refine b_X10_gift_50 (fun q => absurd q (by decide)) (fun _ => ?_)
        refine b_X10_gift_53 (r_isIn (k := 10) (by omega) (fun v hv huv => ?_) (fun c2 => b_X10_gift_60 (fun _ => atN he ?_ _ _) (fun q => absurd rfl q)))
        · have hp : hg_P n y z u = some i := by
            unfold hg_P
            rw [huv, hI_toInt (hI_rN (by omega)), if_pos ⟨c, by omega, by omega⟩, hzi, hx_some hi (by omega)]
          refine b_X10_gift_60 (fun q => absurd q (by decide)) (fun _ => ?_)
          refine b_X10_gift_63 B.o rfl (r_isIn (by omega) (fun j hj hxj => ?_) (fun c => b_X10_gift_78 (fun _ => b_X10_gift_91 ⟨_, rfl, ?_⟩) (fun q => absurd rfl q)))
          · rw [hxj, hx_some hj (by omega)] at hk
            simp only [he, hp] at hk
            refine b_X10_gift_78 (fun q => absurd q (by decide)) (fun _ => ?_)
            refine b_X10_gift_81 (fun q => absurd rfl q) (fun _ => ?_)
            refine b_X10_gift_86 (fun _ => ?_) (fun q => absurd q (by decide))
            rw [hxj]
            refine b_X10_gift_93 B.o rfl k1 j (hI_at rfl (by omega)) (by omega) (fun c3 => ?_) (fun c3 => ?_)
            · have c3 := (r_kind B (k := 2) hj (by omega) k2).mp c3
              rw [if_pos c3] at hk
              have ob := (B.ok hj).2.2.2.2.1 i (by omega)
              have eu : u.toInt = (v : Int) := by rw [huv, hI_toInt (hI_rN (by omega))]
              rw [eu] at hk
              have hk := hk _ (B.wei hj hi ⟨by omega, by omega⟩ w1) (hRf.rf.set (by unfold hRs43; omega))
              rw [hzi, huv]
              refine b_X10_gift_106 (fun _ => ?_) (fun q => absurd rfl q)
              refine b_X10_gift_124 B.o rfl w1 (4 * j + i) (hI_ji (q := 4) (by omega)) (by omega) (fun _ => ?_) (fun q => absurd rfl q)
              refine b_X10_gift_156 B.o rfl w1 (by omega) (4 * j + i) (hI_ji (q := 4) (by omega)) (by omega) rfl (fun c4 => ?_) (fun c4 => ?_)
              · rw [w2 j i hj hi, hI_eq (by omega) (by omega)] at c4
                rw [if_neg c4] at hk
                exact b_X10_gift_179 ⟨_, rfl, hk⟩
              · rw [w2 j i hj hi, hI_eq (by omega) (by omega)] at c4
                rw [if_pos c4] at hk
                exact b_X10_gift_175 ⟨_, rfl, hk⟩
            · have c3 := mt (r_kind B (k := 2) hj (by omega) k2).mpr c3
              rw [if_neg c3] at hk
              exact b_X10_gift_103 ⟨_, rfl, hk h B hRf.rf⟩
          · rw [hx_none c] at hk
            exact hk h B hRf.rf
        · unfold hg_P
          rw [if_neg]
          rintro ⟨-, q1, q2⟩
          exact c2 ⟨q1, by omega⟩
      · unfold hg_P
        rw [hx_none c2]
        split <;> rfl
  refine b_X10_gift_0 (fun c => ?_) (fun c => ?_)
  · refine at34 ?_ _ _ _
    unfold hg_E
    rw [if_neg (fun q => c q.1)]
  · refine b_X10_gift_5 B.o rfl (r_isIn (by omega) (fun e he hye => ?_) (fun c2 => b_X10_gift_13 (fun _ => at34 ?_ _ _ _) (fun q => absurd rfl q)))
    · refine b_X10_gift_13 (fun q => absurd q (by decide)) (fun _ => ?_)
      refine b_X10_gift_16 (fun c2 => at34 ?_ _ _ _) (fun c2 => ?_)
      · rw [show (-99 : Int32) = hI (-99) from rfl, Int32.lt_iff_toInt_lt, hI_toInt (by omega)] at c2
        unfold hg_E
        rw [if_neg (by omega)]
      · rw [show (-99 : Int32) = hI (-99) from rfl, Int32.lt_iff_toInt_lt, hI_toInt (by omega)] at c2
        refine b_X10_gift_23 (fun c3 => at34 ?_ _ _ _) (fun c3 => ?_)
        · rw [show (99 : Int32) = hI 99 from rfl, Int32.lt_iff_toInt_lt, hI_toInt (by omega)] at c3
          unfold hg_E
          rw [if_neg (by omega)]
        · rw [show (99 : Int32) = hI 99 from rfl, Int32.lt_iff_toInt_lt, hI_toInt (by omega)] at c3
          have hE : hg_E m y z u = some e := by
            unfold hg_E
            rw [if_pos ⟨c, by omega, by omega⟩, hye, hx_some he (by omega)]
          refine b_X10_gift_30 (fun _ => atE e hE _ _) (fun q => ?_)
          rw [hye, show (-1 : Int32) = hI (-1) from rfl, hI_eq (by omega) (by omega)] at q
          omega
    · unfold hg_E
      rw [hx_none c2]
      split <;> rfl
end RJ
