/-! round. -/
def hp_lst (n m w : Nat) (num : Nat → Int) (R : hr_R) (r i : Nat) : Int := hy_least m (hy_cm (hq_E n m w num R r i) w) (hy_L num (hq_E n m w num R r i) w)
def hp_roundR (n m w : Nat) (num : Nat → Int) (R : hr_R) (what i r : Nat) : Option Int := if hw_in w r i = 0 ∧ hp_lst n m w num R r i < 0 then some (if what = 0 then (i : Int) else if what = 1 then (r : Int) else -hp_lst n m w num R r i) else none
def hp_roundP (n m w : Nat) (num : Nat → Int) (R : hr_R) (what i : Nat) : Option Int := hf (fun r => hp_roundR n m w num R what i r) (hw_pow w n)
def hp_round (n m w : Nat) (num : Nat → Int) (R : hr_R) (what : Nat) : Int := (hf (fun i => hp_roundP n m w num R what i) n).getD (-2)
section SRo
variable {G : hk_G} {h h' : hk_H} {n m w rc : Nat} {num : Nat → Int} {Rs : Nat → hr_R} {R : hr_R} {rq : Nat → Nat} {d : Nat}
theorem s_firstRound (C : hC h n m w rc num Rs rq) (Y : hWy h) {j what : Nat} (hj : j < rc) (hwh : what < 3) (hs : ∀ r, r < hw_pow w n → hSt h (rq j) r) {K : Int32 → hk_H → Prop} (hk : ∀ h', hC h' n m w rc num Rs rq → hWy h' → hYf h h' → K (hI (hp_round n m w num (Rs j) what)) h') : hk_Ci G m_X9_firstRound (d + 5) 0 0 [.ref 4, .ref (rq j), .int (hI what)] h K := by
  obtain ⟨hn, hm, hw6, hnum⟩ := C.dim
  have hrow := C.rows
  have hw := C.w0 hj
  have hq := (C.2.2.2.2.1 j hj).1
  unfold hp_round at hk
  refine ⟨Nat.le_of_ble_eq_true rfl, ?_⟩
  refine b_X9_firstRound_0 ?_
  refine hk_upto (P := fun i => ∀ h' (o4 : Option Value), hk_c1 o4 → hC h' n m w rc num Rs rq → hWy h' → hYf h h' → hf_from (fun i => hp_roundP n m w num (Rs j) what i) (n - i) i = hf (fun i => hp_roundP n m w num (Rs j) what i) n → hk_S G m_X9_firstRound (d + 5) 0 0 2 [some (.ref 4), some (.ref (rq j)), some (.int (hI (what : Int))), some (.int (hI (i : Int))), o4] [] h' (fun o h' => ∃ x, o = .inl (some (.int x)) ∧ K x h')) n (fun i hi ih h' o4 q4 C' Y' F' e1 => ?_) h none hk_c10 C Y hYf.rf rfl
  refine b_X9_firstRound_2 C'.1 rfl (fun cc => ?_) (fun cc => ?_)
  · rw [hN_le (by omega) (by omega)] at cc
    rw [hf_end (by omega)] at e1
    rw [← e1] at hk
    exact b_X9_firstRound_70 ⟨_, rfl, hk h' C' Y' F'⟩
  · rw [hN_le (by omega) (by omega)] at cc
    have hin : i < n := by omega
    refine b_X9_firstRound_10 ?_
    refine hk_upto (P := fun r => ∀ h', hC h' n m w rc num Rs rq → hWy h' → hYf h h' → hf_from (fun r => hp_roundR n m w num (Rs j) what i r) (hw_pow w n - r) r = hp_roundP n m w num (Rs j) what i → hk_S G m_X9_firstRound (d + 5) 0 0 13 [some (.ref 4), some (.ref (rq j)), some (.int (hI (what : Int))), some (.int (hI (i : Int))), some (.int (hI (r : Int)))] [] h' (fun o h' => ∃ x, o = .inl (some (.int x)) ∧ K x h')) (hw_pow w n) (fun r hr ih2 h' C' Y' F' e2 => ?_) h' C' Y' F' rfl
    refine b_X9_firstRound_13 C'.1 rfl C'.w1 rfl (fun c2 => ?_) (fun c2 => ?_)
    · rw [hN_le (by omega) (by omega)] at c2
      rw [hf_end (by omega)] at e2
      rw [hf_none (by omega) e2.symm] at e1
      refine b_X9_firstRound_64 ?_
      rw [hI_1]
      exact ih (by omega) h' _ hk_c1i C' Y' F' e1
    · rw [hN_le (by omega) (by omega)] at c2
      have hrl : r < hw_pow w n := by omega
      have hwi := hw_in_lt hw r i
      have next : ∀ h', hC h' n m w rc num Rs rq → hWy h' → hYf h h' → hp_roundR n m w num (Rs j) what i r = none → hk_S G m_X9_firstRound (d + 5) 0 0 58 [some (.ref 4), some (.ref (rq j)), some (.int (hI (what : Int))), some (.int (hI (i : Int))), some (.int (hI (r : Int)))] [] h' (fun o h' => ∃ x, o = .inl (some (.int x)) ∧ K x h') := by
        intro h' C' Y' F' hno
        rw [hf_none hrl hno] at e2
        refine b_X9_firstRound_58 ?_
        rw [hI_1]
        exact ih2 hrl h' C' Y' F' e2
      refine b_X9_firstRound_25 C'.1 rfl C'.w1 (c_wishIn C' hj hrl hin ?_)
      refine b_X9_firstRound_35 (fun c3 => ?_) (fun c3 => ?_)
      · rw [show (0 : Int32) = hI ((0 : Nat) : Int) from rfl, hN_eq (by omega) (by omega)] at c3
        refine next h' C' Y' F' ?_
        unfold hp_roundR
        rw [if_neg (fun z => c3 z.1)]
      · rw [show (0 : Int32) = hI ((0 : Nat) : Int) from rfl, hN_eq (by omega) (by omega)] at c3
        have hE := hq_E_lt C hj hrl hin
        have hEl : hp_lst n m w num (Rs j) r i = hy_least m (hy_cm (hq_E n m w num (Rs j) r i) w) (hy_L num (hq_E n m w num (Rs j) r i) w) := rfl
        have hsv : ∀ v, v < w → hSt h' (rq j) (hw_say w r i v) := fun v hv => F'.st hq (hs _ (by
          rw [hw_pow_1 hw] at hrl ⊢
          exact hw_say_lt hrl hin hv))
        have y1 := Y'
        obtain ⟨_, _, _, _, y1, -⟩ := y1
        refine b_X9_firstRound_38 C'.1 ⟨Nat.le_of_ble_eq_true rfl, b_X9_isRoundAt_0 C'.1 rfl y1 (c_look C' Y' hj hrl hin hsv fun h2 cf lf sf tf Y2 F2 C2 cc2 M2 => ?_)⟩
        generalize hq_E n m w num (Rs j) r i = E at hE cc2 M2 hEl
        have L0 : ∀ e, e < m → hy_cm E w e = true → hy_L num E w e e = 0 := fun e _ ce => hy_L_0 ce
        have Lb := hy_L_bd hnum hE hm.2 hw6
        obtain ⟨pw2, W2⟩ := C2.2.1
        refine b_X9_isRoundAt_10 C2.1 rfl Y2.1 (s_hasRound W2 Y2 cc2 M2 (fun e ce => hy_cm_lt hE ce) Lb (fun i j hij => hy_L_far hnum hE hm.2 hw6 hij) (fun h4 sf4 Y4 F4 M4 ng => ?_) (fun h4 sf4 Y4 F4 M4 ng => ?_))
        · rw [← hy_least_fl hm.2 L0, ← hEl] at ng
          refine b_X9_isRoundAt_17 ⟨_, rfl, ?_⟩ (Or.inr rfl)
          refine b_X9_firstRound_46 (fun c => absurd c (by decide)) (fun _ => ?_)
          have C4 := F4.c C2
          obtain ⟨pw4, W4⟩ := C4.2.1
          have hv : hp_roundR n m w num (Rs j) what i r = some (if what = 0 then (i : Int) else if what = 1 then (r : Int) else -hp_lst n m w num (Rs j) r i) := by
            unfold hp_roundR
            rw [if_pos ⟨c3, ng⟩]
          rw [hf_some hrl hv] at e2
          rw [hf_some hin e2.symm] at e1
          rw [← e1] at hk
          have F5 : hYf h h4 := (F'.tr F2).tr F4
          refine b_X9_firstRound_49 C4.1 ⟨Nat.le_of_ble_eq_true rfl, b_X9_partOfRound_0 (fun k0 => ?_) (fun k1 => ?_) (fun k0 k1 => ?_)⟩
          · rw [show (0 : Int32) = hI ((0 : Nat) : Int) from rfl, hN_eq (by omega) (by omega)] at k0
            rw [if_pos k0] at hk
            exact b_X9_partOfRound_28 ⟨_, rfl, b_X9_firstRound_57 ⟨_, rfl, hk h4 C4 ⟨_, _, _, _, Y4⟩ F5⟩⟩
          · rw [show (1 : Int32) = hI ((1 : Nat) : Int) from rfl, hN_eq (by omega) (by omega)] at k1
            rw [if_neg (by omega), if_pos k1] at hk
            exact b_X9_partOfRound_30 ⟨_, rfl, b_X9_firstRound_57 ⟨_, rfl, hk h4 C4 ⟨_, _, _, _, Y4⟩ F5⟩⟩
          · rw [show (0 : Int32) = hI ((0 : Nat) : Int) from rfl, hN_eq (by omega) (by omega)] at k0
            rw [show (1 : Int32) = hI ((1 : Nat) : Int) from rfl, hN_eq (by omega) (by omega)] at k1
            rw [if_neg k0, if_neg k1] at hk
            refine b_X9_partOfRound_32 C4.1 rfl Y4.1 (s_leastRound W4 Y4 cc2 M2 Lb L0 (by rw [← hEl]; exact ng) fun h6 tf6 Y6 F6 => ?_)
            rw [← hEl]
            refine b_X9_partOfRound_39 ⟨_, rfl, b_X9_firstRound_57 ⟨_, rfl, ?_⟩⟩
            rw [hI_neg]
            exact hk h6 (F6.c C4) ⟨_, _, _, _, Y6⟩ (F5.tr F6)
        · rw [← hy_least_fl hm.2 L0, ← hEl] at ng
          refine b_X9_isRoundAt_17 ⟨_, rfl, ?_⟩ (Or.inl rfl)
          refine b_X9_firstRound_46 (fun _ => ?_) (fun c => absurd rfl c)
          refine next h4 (F4.c C2) ⟨_, _, _, _, Y4⟩ ((F'.tr F2).tr F4) ?_
          unfold hp_roundR
          rw [if_neg (fun z => ng z.2)]
def hq_round (n m w rc : Nat) (num : Nat → Int) (Rs : Nat → hr_R) (x y : Int32) : Int := match hx x rc, hx y 3 with
  | some j, some what => hp_round n m w num (Rs j) what
  | _, _ => -1
theorem s_round (C : hC h n m w rc num Rs rq) (Y : hWy h) {x y : Int32} {K : Int32 → hk_H → Prop} (hk : ∀ h', hC h' n m w rc num Rs rq → hWy h' → hFm hP17 h h' → K (hI (hq_round n m w rc num Rs x y)) h') : hk_Ci G m_X9_round (d + 6) 0 0 [.ref 4, .int x, .int y] h K := by
  have hrc := C.rc8
  unfold hq_round at hk
  refine ⟨Nat.le_of_ble_eq_true rfl, ?_⟩
  refine b_X9_round_0 C.1 (s_settledRule C (fun j h' hj hxj C' hl hs _ => ?_) (fun hx => b_X9_round_5N0 ⟨_, rfl, ?_⟩))
  · rw [hxj, hx_some hj (by omega)] at hk
    refine b_X9_round_5 (s_isWithin (a := 0) (b := 2) ⟨by omega, by omega⟩ ⟨by omega, by omega⟩ (fun c => ?_) (fun c => b_X9_round_16 (fun c2 => absurd rfl c2) (fun _ => b_X9_round_19 ⟨_, rfl, ?_⟩)))
    · obtain ⟨what, hwt, hyw⟩ : ∃ k : Nat, k < 3 ∧ y = hI (k : Int) := ⟨y.toInt.toNat, by omega, by rw [show ((y.toInt.toNat : Nat) : Int) = y.toInt by omega]; exact hI_of y⟩
      rw [hyw, hx_some hwt (by omega)] at hk
      simp only at hk
      rw [hyw]
      refine b_X9_round_16 (fun _ => ?_) (fun c2 => absurd c2 (by decide))
      exact b_X9_round_23 C'.1 (s_firstRound C' (Y.lo hl) hj hwt hs fun h2 C2 Y2 F2 => b_X9_round_29 ⟨_, rfl, hk h2 C2 Y2 ((hFm.lo hl).tr F2.fm)⟩)
    · rw [hx_none (by unfold hIn; omega)] at hk
      exact hk h' C' (Y.lo hl) (hFm.lo hl)
  · rw [hx_none hx] at hk
    exact hk h C Y hFm.rf
end SRo
