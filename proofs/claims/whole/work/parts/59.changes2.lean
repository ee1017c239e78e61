/-- below 71 only cells of P have changed -/
def hFm (P : Nat → Prop) (h h' : hk_H) : Prop := h.1 ≤ h'.1 ∧ ∀ a, a < 71 → ¬ P a → h'.2 a = h.2 a
theorem hFm.rf {P : Nat → Prop} {h : hk_H} : hFm P h h := ⟨Nat.le_refl _, fun _ _ _ => rfl⟩
theorem hFm.tr {P : Nat → Prop} {h h' h'' : hk_H} (H : hFm P h h') (H' : hFm P h' h'') : hFm P h h'' := ⟨Nat.le_trans H.1 H'.1, fun a ha hp => (H'.2 a ha hp).trans (H.2 a ha hp)⟩
theorem hFm.lo {P : Nat → Prop} {h h' : hk_H} (H : hLo h h') : hFm P h h' := ⟨H.1, fun a ha _ => H.2 a ha⟩
theorem hFm.mono {P P' : Nat → Prop} {h h' : hk_H} (H : hFm P h h') (hp : ∀ a, P a → P' a) : hFm P' h h' := ⟨H.1, fun a ha hn => H.2 a ha fun c => hn (hp a c)⟩
theorem hFm.set {P : Nat → Prop} {h h' : hk_H} (H : hFm P h h') {a : Nat} {c : hk_AC} (ha : P a) : hFm P h (hk_set h' a c) := ⟨H.1, fun b hb hp => by rw [hk_set_ne (fun e => hp (by rw [e]; exact ha))]; exact H.2 b hb hp⟩
theorem hI_ite {p : Prop} [Decidable p] : (if p then (0 : Int32) else 1) = hI (if p then 0 else 1) := by split <;> rfl
def hr_up (Rs : Nat → hr_R) (j : Nat) (R : hr_R) : Nat → hr_R := fun i => if i = j then R else Rs i
section RH
variable {G : hk_G} {h : hk_H} {n m w rc : Nat} {num : Nat → Int} {Rs : Nat → hr_R} {rq : Nat → Nat} {d : Nat}
def hq_end (n m w rc : Nat) (num : Nat → Int) (Rs : Nat → hr_R) (x y : Int32) : Int := match hx x rc, hx y (hw_pow w n) with
  | some j, some r => (hr_end n m w num (Rs j) r : Nat)
  | _, _ => -1
theorem s_end (C : hC h n m w rc num Rs rq) {x y : Int32} {K : Int32 → hk_H → Prop} (hk : ∀ h', hC h' n m w rc num Rs rq → hLo h h' → K (hI (hq_end n m w rc num Rs x y)) h') : hk_Ci G m_X9_end (d + 4) 0 0 [.ref 4, .int x, .int y] h K := by
  have hrc := C.rc8
  have hrow := C.rows
  obtain ⟨pw, HW⟩ := C.2.1
  unfold hq_end at hk
  refine ⟨Nat.le_of_ble_eq_true rfl, ?_⟩
  refine b_X9_end_0 C.1 (s_ruleAt C.1 C.2.2.2.1 (fun j hj hxj => ?_) (fun c => b_X9_end_5N0 ⟨_, rfl, ?_⟩))
  · rw [hxj, hx_some hj (by omega)] at hk
    refine b_X9_end_5 C.1 (s_isRow C.1 HW (fun r hr hyr => ?_) (fun c => b_X9_end_15 (fun c2 => absurd rfl c2) (fun _ => b_X9_end_18 ⟨_, rfl, ?_⟩)))
    · rw [hyr, hx_some hr (by omega)] at hk
      refine b_X9_end_15 (fun _ => ?_) (fun c2 => absurd c2 (by decide))
      rw [hyr]
      refine b_X9_end_20 (hr_dSettle (C.ok hj).1) (C.obj hj) (s_settleC C hj hr fun h' C' hl hs _ => ?_)
      refine b_X9_end_25 (hr_dEnd (C'.ok hj).1) (C'.obj hj) (c_endAt C' hj hr hs ?_)
      exact b_X9_end_30 ⟨_, rfl, hk h' C' hl⟩
    · rw [hx_none c] at hk
      exact hk h C hLo.rf
  · rw [hx_none c] at hk
    exact hk h C hLo.rf
def hq_pays (n m w rc : Nat) (num : Nat → Int) (Rs : Nat → hr_R) (x y z : Int32) : Nat ⊕ Int := match hx x rc, hx y (hw_pow w n), hx z n with
  | some j, some r, some i => .inr (hr_pay n m w num (Rs j) r i)
  | _, _, _ => .inl 1
theorem s_pays (C : hC h n m w rc num Rs rq) {x y z : Int32} {Q : hk_O → hk_H → Prop} (hk : ∀ h', hC h' n m w rc num Rs rq → hLo h h' → Q (hq_outI (hq_pays n m w rc num Rs x y z)) h') : hk_E G m_X9_pays (d + 4) 1 6 [.ref 4, .int x, .int y, .int z] h Q := by
  have hrc := C.rc8
  have hrow := C.rows
  have hn := C.dim.1
  obtain ⟨pw, HW⟩ := C.2.1
  unfold hq_pays at hk
  refine ⟨Nat.le_of_ble_eq_true rfl, ?_⟩
  refine b_X9_pays_0 C.1 (s_ruleAt C.1 C.2.2.2.1 (fun j hj hxj => ?_) (fun c => b_X9_pays_5N0 ?_))
  · rw [hxj, hx_some hj (by omega)] at hk
    refine b_X9_pays_5 C.1 (s_isRow C.1 HW (fun r hr hyr => ?_) (fun c => b_X9_pays_17 (fun _ => b_X9_pays_28 ?_) (fun c2 => absurd rfl c2)))
    · rw [hyr, hx_some hr (by omega)] at hk
      refine b_X9_pays_17 (fun c2 => absurd c2 (by decide)) (fun _ => ?_)
      refine b_X9_pays_20 C.1 (s_isPerson C.1 hn.2 (fun i hi hzi => ?_) (fun c => b_X9_pays_25 (fun c2 => absurd rfl c2) (fun _ => b_X9_pays_28 ?_)))
      · rw [hzi, hx_some hi (by omega)] at hk
        refine b_X9_pays_25 (fun _ => ?_) (fun c2 => absurd c2 (by decide))
        rw [hyr, hzi]
        refine b_X9_pays_38 (hr_dSettle (C.ok hj).1) (C.obj hj) (s_settleC C hj hr fun h' C' hl hs _ => ?_)
        refine b_X9_pays_44 (hr_dPay (C'.ok hj).1) (C'.obj hj) (c_paymentAt C' hj hr hi hs ?_)
        exact b_X9_pays_51 (hk h' C' hl)
      · rw [hx_none c] at hk
        exact hk _ C.thr hLo.thr
    · rw [hx_none c] at hk
      exact hk _ C.thr hLo.thr
  · rw [hx_none c] at hk
    exact hk _ C.thr hLo.thr
def hq_said (n w : Nat) (x y z : Int32) : Int := match hx x (hw_pow w n), hx y n, hx z w with
  | some r, some i, some v => (hw_say w r i v : Nat)
  | _, _, _ => -1
theorem s_said (C : hC h n m w rc num Rs rq) {x y z : Int32} {K : Int32 → hk_H → Prop} (hk : K (hI (hq_said n w x y z)) h) : hk_Ci G m_X9_said (d + 2) 0 0 [.ref 4, .int x, .int y, .int z] h K := by
  have hrow := C.rows
  obtain ⟨hn, hm, hw6, hnum⟩ := C.dim
  obtain ⟨pw, HW⟩ := C.2.1
  unfold hq_said at hk
  refine ⟨Nat.le_of_ble_eq_true rfl, ?_⟩
  refine b_X9_said_0 C.1 (s_isRow C.1 HW (fun r hr hxr => ?_) (fun c => b_X9_said_5 (fun _ => b_X9_said_24 ⟨_, rfl, ?_⟩) (fun c2 => absurd rfl c2)))
  · rw [hxr, hx_some hr (by omega)] at hk
    refine b_X9_said_5 (fun c2 => absurd c2 (by decide)) (fun _ => ?_)
    refine b_X9_said_8 C.1 (s_isPerson C.1 hn.2 (fun i hi hyi => ?_) (fun c => b_X9_said_13 (fun _ => b_X9_said_24 ⟨_, rfl, ?_⟩) (fun c2 => absurd rfl c2)))
    · rw [hyi, hx_some hi (by omega)] at hk
      refine b_X9_said_13 (fun c2 => absurd c2 (by decide)) (fun _ => ?_)
      refine b_X9_said_16 C.1 (s_isWish C.1 HW (fun v hv hzv => ?_) (fun c => b_X9_said_21 (fun c2 => absurd rfl c2) (fun _ => b_X9_said_24 ⟨_, rfl, ?_⟩)))
      · rw [hzv, hx_some hv (by omega)] at hk
        refine b_X9_said_21 (fun _ => ?_) (fun c2 => absurd c2 (by decide))
        rw [hxr, hyi, hzv]
        refine b_X9_said_26 C.1 rfl C.w1 (s_rowSaying HW (by omega) (r := r) (by omega) hi ?_)
        exact b_X9_said_36 ⟨_, rfl, hk⟩
      · rw [hx_none c] at hk
        exact hk
    · rw [hx_none c] at hk
      exact hk
  · rw [hx_none c] at hk
    exact hk
def hq_gain (n m w rc : Nat) (num : Nat → Int) (Rs : Nat → hr_R) (x y z u : Int32) : Nat ⊕ Int := match hx x rc, hx y (hw_pow w n), hx z n, hx u w with
  | some j, some r, some i, some v => .inr (hp_gain n m w num (Rs j) r i v)
  | _, _, _, _ => .inl 1
theorem s_gain (C : hC h n m w rc num Rs rq) {x y z u : Int32} {Q : hk_O → hk_H → Prop} (hk : ∀ h', hC h' n m w rc num Rs rq → hLo h h' → Q (hq_outI (hq_gain n m w rc num Rs x y z u)) h') : hk_E G m_X9_gain (d + 4) 1 6 [.ref 4, .int x, .int y, .int z, .int u] h Q := by
  have hrc := C.rc8
  have hrow := C.rows
  obtain ⟨hn, hm, hw6, hnum⟩ := C.dim
  obtain ⟨pw, HW⟩ := C.2.1
  unfold hq_gain at hk
  refine ⟨Nat.le_of_ble_eq_true rfl, ?_⟩
  refine b_X9_gain_0 C.1 (s_ruleAt C.1 C.2.2.2.1 (fun j hj hxj => ?_) (fun c => b_X9_gain_5N0 ?_))
  · rw [hxj, hx_some hj (by omega)] at hk
    refine b_X9_gain_5 C.1 (s_isRow C.1 HW (fun r hr hyr => ?_) (fun c => b_X9_gain_17 (fun _ => b_X9_gain_37 ?_) (fun c2 => absurd rfl c2)))
    · rw [hyr, hx_some hr (by omega)] at hk
      refine b_X9_gain_17 (fun c2 => absurd c2 (by decide)) (fun _ => ?_)
      refine b_X9_gain_20 C.1 (s_isPerson C.1 hn.2 (fun i hi hzi => ?_) (fun c => b_X9_gain_25 (fun _ => b_X9_gain_37 ?_) (fun c2 => absurd rfl c2)))
      · rw [hzi, hx_some hi (by omega)] at hk
        refine b_X9_gain_25 (fun c2 => absurd c2 (by decide)) (fun _ => ?_)
        refine b_X9_gain_28 C.1 (s_isWish C.1 HW (fun v hv huv => ?_) (fun c => b_X9_gain_34 (fun c2 => absurd rfl c2) (fun _ => b_X9_gain_37 ?_)))
        · rw [huv, hx_some hv (by omega)] at hk
          refine b_X9_gain_34 (fun _ => ?_) (fun c2 => absurd c2 (by decide))
          rw [hyr, hzi, huv]
          have hin := hw_in_lt (C.w0 hj) r i
          refine b_X9_gain_47 C.1 rfl C.w1 (c_wishIn C hj hr hi ?_)
          refine b_X9_gain_56 C.1 rfl C.w1 (c_rowSaying C hj hr hi hv fun hlt => ?_)
          refine b_X9_gain_69 (hr_dSettle (C.ok hj).1) (C.obj hj) (s_settleC C hj hr fun h1 C1 hl1 hs1 _ => ?_)
          refine b_X9_gain_77 (hr_dSettle (C1.ok hj).1) (C1.obj hj) (s_settleC C1 hj hlt fun h2 C2 hl2 hs2 hm2 => ?_)
          refine b_X9_gain_84 (hr_dProfit (C2.ok hj).1) (C2.obj hj) (c_profit C2 hj hlt hi hin hs2 ?_)
          refine b_X9_gain_94 (hr_dProfit (C2.ok hj).1) (C2.obj hj) (c_profit C2 hj hr hi hin (hm2 j r hj hs1) ?_)
          refine b_X9_gain_103 ?_
          rw [hI_sub]
          exact hk h2 C2 (hl1.tr hl2)
        · rw [hx_none c] at hk
          exact hk _ C.thr hLo.thr
      · rw [hx_none c] at hk
        exact hk _ C.thr hLo.thr
    · rw [hx_none c] at hk
      exact hk _ C.thr hLo.thr
  · rw [hx_none c] at hk
    exact hk _ C.thr hLo.thr
def hq_put (n m w rc : Nat) (Rs : Nat → hr_R) (x y z : Int32) : Int × (Nat → hr_R) := match hx x rc, hx y (hw_pow w n), hx z m with
  | some j, some r, some e => if (Rs j).1 < 2 then (((Rs j).2.1 r : Nat), hr_up Rs j (hr_setE (Rs j) r e)) else (-4, Rs)
  | _, _, _ => (-1, Rs)
theorem s_put (C : hC h n m w rc num Rs rq) {x y z : Int32} {K : Int32 → hk_H → Prop} (hk : ∀ h', hC h' n m w rc num (hq_put n m w rc Rs x y z).2 rq → hLo h h' → K (hI (hq_put n m w rc Rs x y z).1) h') : hk_Ci G m_X9_put (d + 2) 0 0 [.ref 4, .int x, .int y, .int z] h K := by
  have hrc := C.rc8
  have hrow := C.rows
  obtain ⟨hn, hm, hw6, hnum⟩ := C.dim
  obtain ⟨pw, HW⟩ := C.2.1
  unfold hq_put at hk
  refine ⟨Nat.le_of_ble_eq_true rfl, ?_⟩
  refine b_X9_put_0 C.1 (s_ruleAt C.1 C.2.2.2.1 (fun j hj hxj => ?_) (fun c => b_X9_put_5N0 ⟨_, rfl, ?_⟩))
  · rw [hxj, hx_some hj (by omega)] at hk
    refine b_X9_put_5 C.1 (s_isRow C.1 HW (fun r hr hyr => ?_) (fun c => b_X9_put_17 (fun _ => b_X9_put_28 ⟨_, rfl, ?_⟩) (fun c2 => absurd rfl c2)))
    · rw [hyr, hx_some hr (by omega)] at hk
      refine b_X9_put_17 (fun c2 => absurd c2 (by decide)) (fun _ => ?_)
      refine b_X9_put_20 C.1 (s_isEnd C.1 hm.2 (fun e he hze => ?_) (fun c => b_X9_put_25 (fun c2 => absurd rfl c2) (fun _ => b_X9_put_28 ⟨_, rfl, ?_⟩)))
      · rw [hze, hx_some he (by omega)] at hk
        refine b_X9_put_25 (fun _ => ?_) (fun c2 => absurd c2 (by decide))
        rw [hyr, hze]
        obtain ⟨g1, g2, ef, pf, H⟩ := C.2.2.2.2.1 j hj
        refine b_X9_put_30 (hr_dCE (C.ok hj).1) (C.obj hj) ?_
        simp only at hk
        by_cases hkd : (Rs j).1 < 2
        · rw [if_pos hkd] at hk
          refine s_changeEnd HW H hkd hr he fun h' ho hR => b_X9_put_37 ⟨_, rfl, ?_⟩
          exact hk h' (C.one hj ho hR rfl) ⟨by rw [ho.1]; exact Nat.le_refl _, fun a ha => ho.2 a (by omega)⟩
        · rw [if_neg hkd] at hk
          exact s_changeEndN H hkd (b_X9_put_37 ⟨_, rfl, hk h C hLo.rf⟩)
      · rw [hx_none c] at hk
        exact hk h C hLo.rf
    · rw [hx_none c] at hk
      exact hk h C hLo.rf
  · rw [hx_none c] at hk
    exact hk h C hLo.rf
def hq_pay (n w rc : Nat) (Rs : Nat → hr_R) (x y z u : Int32) : Int × (Nat → hr_R) := match hx x rc, hx y (hw_pow w n), hx z n with
  | some j, some r, some i => if -9999 ≤ u.toInt ∧ u.toInt ≤ 9999 then (if (Rs j).1 = 1 then (if (Rs j).2.2.1 r i = u.toInt then 0 else 1, hr_up Rs j (hr_setP (Rs j) r i u.toInt)) else (-4, Rs)) else (-1, Rs)
  | _, _, _ => (-1, Rs)
theorem s_pay (C : hC h n m w rc num Rs rq) {x y z u : Int32} {K : Int32 → hk_H → Prop} (hk : ∀ h', hC h' n m w rc num (hq_pay n w rc Rs x y z u).2 rq → hLo h h' → K (hI (hq_pay n w rc Rs x y z u).1) h') : hk_Ci G m_X9_pay (d + 2) 0 0 [.ref 4, .int x, .int y, .int z, .int u] h K := by
  have hrc := C.rc8
  have hrow := C.rows
  obtain ⟨hn, hm, hw6, hnum⟩ := C.dim
  obtain ⟨pw, HW⟩ := C.2.1
  unfold hq_pay at hk
  refine ⟨Nat.le_of_ble_eq_true rfl, ?_⟩
  refine b_X9_pay_0 C.1 (s_ruleAt C.1 C.2.2.2.1 (fun j hj hxj => ?_) (fun c => b_X9_pay_5N0 ⟨_, rfl, ?_⟩))
  · rw [hxj, hx_some hj (by omega)] at hk
    refine b_X9_pay_5 C.1 (s_isRow C.1 HW (fun r hr hyr => ?_) (fun c => b_X9_pay_17 (fun _ => b_X9_pay_42 ⟨_, rfl, ?_⟩) (fun c2 => absurd rfl c2)))
    · rw [hyr, hx_some hr (by omega)] at hk
      refine b_X9_pay_17 (fun c2 => absurd c2 (by decide)) (fun _ => ?_)
      refine b_X9_pay_20 C.1 (s_isPerson C.1 hn.2 (fun i hi hzi => ?_) (fun c => b_X9_pay_25 (fun _ => b_X9_pay_42 ⟨_, rfl, ?_⟩) (fun c2 => absurd rfl c2)))
      · rw [hzi, hx_some hi (by omega)] at hk
        refine b_X9_pay_25 (fun c2 => absurd c2 (by decide)) (fun _ => ?_)
        simp only at hk
        refine b_X9_pay_28 (s_isWithin (a := -9999) (b := 9999) ⟨by omega, by omega⟩ ⟨by omega, by omega⟩ (fun hv => ?_) (fun hv => ?_))
        · rw [if_pos hv] at hk
          refine b_X9_pay_39 (fun _ => ?_) (fun c2 => absurd c2 (by decide))
          obtain ⟨v, hvu⟩ : ∃ v : Int, v = u.toInt := ⟨_, rfl⟩
          rw [← hvu] at hk hv
          rw [hyr, hzi, hI_of u, ← hvu]
          obtain ⟨g1, g2, ef, pf, H⟩ := C.2.2.2.2.1 j hj
          refine b_X9_pay_44 (hr_dCP (C.ok hj).1) (C.obj hj) ?_
          by_cases hkd : (Rs j).1 = 1
          · rw [if_pos hkd] at hk
            refine s_changePayment HW H hkd hr hi hv fun h' ho hR => b_X9_pay_53 ⟨_, rfl, ?_⟩
            rw [hI_ite]
            exact hk h' (C.one hj ho hR rfl) ⟨by rw [ho.1]; exact Nat.le_refl _, fun a ha => ho.2 a (by omega)⟩
          · rw [if_neg hkd] at hk
            exact s_changePaymentN H hkd (b_X9_pay_53 ⟨_, rfl, hk h C hLo.rf⟩)
        · rw [if_neg hv] at hk
          exact b_X9_pay_39 (fun c2 => absurd rfl c2) (fun _ => b_X9_pay_42 ⟨_, rfl, hk h C hLo.rf⟩)
      · rw [hx_none c] at hk
        exact hk h C hLo.rf
    · rw [hx_none c] at hk
      exact hk h C hLo.rf
  · rw [hx_none c] at hk
    exact hk h C hLo.rf
def hq_middle (n m rc : Nat) (Rs : Nat → hr_R) (x y z : Int32) : Int × (Nat → hr_R) := match hx x rc, hx y (n - 1), hx z m with
  | some j, some i, some e => if (Rs j).1 = 3 then (((Rs j).2.2.2.2.2 i : Nat), hr_up Rs j (hr_setL (Rs j) i e)) else (-4, Rs)
  | _, _, _ => (-1, Rs)
theorem s_middle (C : hC h n m w rc num Rs rq) {x y z : Int32} {K : Int32 → hk_H → Prop} (hk : ∀ h', hC h' n m w rc num (hq_middle n m rc Rs x y z).2 rq → hLo h h' → K (hI (hq_middle n m rc Rs x y z).1) h') : hk_Ci G m_X9_middle (d + 3) 0 0 [.ref 4, .int x, .int y, .int z] h K := by
  have hrc := C.rc8
  have hrow := C.rows
  obtain ⟨hn, hm, hw6, hnum⟩ := C.dim
  obtain ⟨pw, HW⟩ := C.2.1
  unfold hq_middle at hk
  refine ⟨Nat.le_of_ble_eq_true rfl, ?_⟩
  refine b_X9_middle_0 C.1 (s_ruleAt C.1 C.2.2.2.1 (fun j hj hxj => ?_) (fun c => b_X9_middle_5N0 ⟨_, rfl, ?_⟩))
  · rw [hxj, hx_some hj (by omega)] at hk
    refine b_X9_middle_5 C.1 rfl ?_
    rw [show (2 : Int32) = hI 2 from rfl, hI_sub]
    refine s_isWithin (a := 0) ⟨by omega, by omega⟩ ⟨by omega, by omega⟩ (fun c => ?_) (fun c => b_X9_middle_23 (fun _ => b_X9_middle_34 ⟨_, rfl, ?_⟩) (fun c2 => absurd rfl c2))
    · obtain ⟨i, hi, hyi⟩ : ∃ i : Nat, i < n - 1 ∧ y = hI (i : Int) := ⟨y.toInt.toNat, by omega, by rw [show ((y.toInt.toNat : Nat) : Int) = y.toInt by omega]; exact hI_of y⟩
      rw [hyi, hx_some hi (by omega)] at hk
      refine b_X9_middle_23 (fun c2 => absurd c2 (by decide)) (fun _ => ?_)
      refine b_X9_middle_26 C.1 (s_isEnd C.1 hm.2 (fun e he hze => ?_) (fun c => b_X9_middle_31 (fun c2 => absurd rfl c2) (fun _ => b_X9_middle_34 ⟨_, rfl, ?_⟩)))
      · rw [hze, hx_some he (by omega)] at hk
        refine b_X9_middle_31 (fun _ => ?_) (fun c2 => absurd c2 (by decide))
        rw [hyi, hze]
        obtain ⟨g1, g2, ef, pf, H⟩ := C.2.2.2.2.1 j hj
        refine b_X9_middle_36 (hr_dCL (C.ok hj).1) (C.obj hj) ?_
        simp only at hk
        by_cases hkd : (Rs j).1 = 3
        · rw [if_pos hkd] at hk
          refine s_changePlace HW H hkd hi he fun h' ef' ho hR => b_X9_middle_43 ⟨_, rfl, ?_⟩
          exact hk h' (C.one hj ho hR rfl) ⟨by rw [ho.1]; exact Nat.le_refl _, fun a ha => ho.2 a (by omega)⟩
        · rw [if_neg hkd] at hk
          exact s_changePlaceN H hkd (b_X9_middle_43 ⟨_, rfl, hk h C hLo.rf⟩)
      · rw [hx_none c] at hk
        exact hk h C hLo.rf
    · rw [hx_none (by unfold hIn; omega)] at hk
      exact hk h C hLo.rf
  · rw [hx_none c] at hk
    exact hk h C hLo.rf
end RH
