/-! copy, weight, toss. -/
theorem b_X9_copy_12NR {G : hk_G} {d cb sb : Nat} {h : hk_H} {Q : hk_O → hk_H → Prop} {s0 : Nat} {o0 o1 o2 o3 o4 o5 o7 : Option Value} (hq : Q (.inl (some (.int (-1)))) h) : hk_S G m_X9_copy (d + 1) cb sb 12 [o0, o1, o2, o3, o4, o5, some .null, o7] [.ref s0] h Q := by
  refine hs_astK dX9_copy_12 (by decide) (hk_nk1 rfl hk_c1n) rfl ?_
  refine hs_aloadN dX9_copy_14 rfl ?_
  refine hs_ifnullN dX9_copy_16 (tgt := 24) (by decide) ?_
  exact b_X9_copy_24 hq
theorem b_X9_copy_12NN {G : hk_G} {d cb sb : Nat} {h : hk_H} {Q : hk_O → hk_H → Prop} {o0 o1 o2 o3 o4 o5 o7 : Option Value} (hq : Q (.inl (some (.int (-1)))) h) : hk_S G m_X9_copy (d + 1) cb sb 12 [o0, o1, o2, o3, o4, o5, some .null, o7] [.null] h Q := by
  refine hs_astKN dX9_copy_12 (by decide) (hk_nk1 rfl hk_c1n) rfl ?_
  refine hs_aloadN dX9_copy_14 rfl ?_
  refine hs_ifnullN dX9_copy_16 (tgt := 24) (by decide) ?_
  exact b_X9_copy_24 hq
theorem b_X9_weight_10N {G : hk_G} {d cb sb : Nat} {h : hk_H} {Q : hk_O → hk_H → Prop} {s0 : Int32} {o0 o1 o3 : Option Value} (hq : Q (.inl (some (.int s0))) h) : hk_S G m_X9_weight (d + 1) cb sb 10 [o0, o1, some .null, o3] [.int s0] h Q := by
  refine hs_istK_n dX9_weight_10 (by decide) (hk_nk1 rfl hk_c1n) rfl ?_
  refine hs_aload_nN dX9_weight_11 rfl ?_
  refine hs_ifnullN dX9_weight_12 (tgt := 19) (by decide) ?_
  exact b_X9_weight_19 hq
theorem b_X9_toss_10N {G : hk_G} {d cb sb : Nat} {h : hk_H} {Q : hk_O → hk_H → Prop} {s0 : Int32} {o0 o1 o3 : Option Value} (hq : Q (.inl (some (.int s0))) h) : hk_S G m_X9_toss (d + 1) cb sb 10 [o0, o1, some .null, o3] [.int s0] h Q := by
  refine hs_istK_n dX9_toss_10 (by decide) (hk_nk1 rfl hk_c1n) rfl ?_
  refine hs_aload_nN dX9_toss_11 rfl ?_
  refine hs_ifnullN dX9_toss_12 (tgt := 19) (by decide) ?_
  exact b_X9_toss_19 hq
section SV3
variable {G : hk_G} {h h' : hk_H} {n m w rc rc' : Nat} {num : Nat → Int} {Rs : Nat → hr_R} {rq rq' : Nat → Nat} {Ss : Nat → hv_S} {S : hv_S} {D d : Nat}
def hq_copy (Ss : Nat → hv_S) (x y z u v : Int32) : Int × (Nat → hv_S) := match hx x 8, hx z 8 with
  | some D, some E => if (Ss D).1 = 0 ∨ (Ss E).1 = 0 then (-11, Ss) else if 3 ≤ (Ss D).1 ∧ (Ss D).1 = (Ss E).1 then (if hv_pl (Ss D).2.2.2.1 y v = true ∧ hv_pl (Ss E).2.2.2.1 u v = true then (v.toInt, hv_up Ss E ((Ss E).1, (Ss E).2.1, (Ss E).2.2.1, (Ss E).2.2.2.1, fun k => if u.toInt.toNat ≤ k ∧ k < u.toInt.toNat + v.toInt.toNat then (Ss D).2.2.2.2 (y.toInt.toNat + (k - u.toInt.toNat)) else (Ss E).2.2.2.2 k)) else (-13, Ss)) else (-12, Ss)
  | _, _ => (-1, Ss)
theorem s_copy (C : hC h n m w rc num Rs rq) (HS : hSh h rc rq Ss) {x y z u v : Int32} {K : Int32 → hk_H → Prop} (hk : ∀ h', hC h' n m w rc num Rs rq → hSh h' rc rq (hq_copy Ss x y z u v).2 → hFm hP42 h h' → K (hI (hq_copy Ss x y z u v).1) h') : hk_Ci G m_X9_copy (d + 1) 0 0 [.ref 4, .int x, .int y, .int z, .int u, .int v] h K := by
  unfold hq_copy at hk
  refine ⟨Nat.le_of_ble_eq_true rfl, ?_⟩
  refine b_X9_copy_0 C.1 (s_shelfAt C.1 HS (fun D hD hxD => ?_) (fun c => b_X9_copy_5N0 C.1 (s_shelfAt C.1 HS (fun E hE hxE => ?_) (fun c2 => ?_))))
  · rw [hxD, hx_some hD (by omega)] at hk
    refine b_X9_copy_5 C.1 (s_shelfAt C.1 HS (fun E hE hzE => ?_) (fun c => ?_))
    · rw [hzE, hx_some hE (by omega)] at hk
      simp only at hk
      have H1 := HS.2 D hD
      have H2 := HS.2 E hE
      obtain ⟨h1, h2, h3, ru, hf, sz, f, h4, h5, h6, h7⟩ := HS.2 D hD
      obtain ⟨i1, i2, i3, ru', hf', sz', f', i4, i5, i6, i7⟩ := HS.2 E hE
      refine b_X9_copy_12 h4 rfl (fun c => ?_) (fun c => ?_)
      · have c := (hv_is H1 (k := 0) (by omega)).mp c
        rw [if_pos (Or.inl c)] at hk
        exact b_X9_copy_42 ⟨_, rfl, hk h C HS hFm.rf⟩
      · have c := mt (hv_is H1 (k := 0) (by omega)).mpr c
        refine b_X9_copy_34 i4 rfl (fun c2 => ?_) (fun c2 => ?_)
        · have c2 := mt (hv_is H2 (k := 0) (by omega)).mpr c2
          rw [if_neg (by omega)] at hk
          refine b_X9_copy_45 h4 (s_holdsRow H1 ?_)
          by_cases e3 : 3 ≤ (Ss D).1
          · rw [decide_eq_true e3]
            refine b_X9_copy_50 (fun c2 => absurd c2 (by decide)) (fun _ => ?_)
            refine b_X9_copy_53 h4 rfl i4 rfl (fun c3 => ?_) (fun c3 => ?_)
            · rw [hN_eq (by omega) (by omega)] at c3
              rw [if_pos ⟨e3, c3⟩] at hk
              have e4 : 3 ≤ (Ss E).1 := by omega
              refine b_X9_copy_69 h4 (s_hasPlaces H1 e3 ?_)
              by_cases p1 : hv_pl (Ss D).2.2.2.1 y v = true
              · rw [p1]
                refine b_X9_copy_77 (fun c2 => absurd c2 (by decide)) (fun _ => ?_)
                refine b_X9_copy_80 i4 (s_hasPlaces H2 e4 ?_)
                by_cases p2 : hv_pl (Ss E).2.2.2.1 u v = true
                · rw [p2]
                  rw [if_pos ⟨p1, p2⟩] at hk
                  refine b_X9_copy_89 (fun _ => ?_) (fun c2 => absurd c2 (by decide))
                  unfold hv_pl at p1 p2
                  have p1 := of_decide_eq_true p1
                  have p2 := of_decide_eq_true p2
                  obtain ⟨h8, h9⟩ := h7 e3
                  obtain ⟨i8, i9⟩ := i7 e4
                  have h3 := h3 e3
                  have i3' := i3 e4
                  refine b_X9_copy_95 h4 rfl i4 rfl y.toInt.toNat u.toInt.toNat v.toInt.toNat h5 i5 (by omega) (by omega) (by omega) (by omega) (by omega) (by omega) rfl ⟨_, rfl, ?_⟩
                  rw [hI_of v]
                  rw [← hI_of v]
                  have hk := hk (hk_set h (28 + 2 * E) (.inl (1, 60, .inr (.inl (va_cpy f f' y.toInt.toNat u.toInt.toNat v.toInt.toNat))))) (C.fr (Nat.le_refl _) fun a ha => hk_set_ne (by omega)) (HS.one hE (fun a _ _ _ hb => hk_set_ne hb) ?_) (hFm.rf.set (by unfold hP42; omega))
                  · rw [show hI v.toInt = v from (hI_of v).symm] at hk
                    exact hk
                  · refine ⟨i1, i2, i3, ru', hf', sz', _, by rw [hk_set_ne (by omega)]; exact i4, hk_set_eq, i6, fun _ => ⟨i8, fun k hk => ?_⟩⟩
                    have hk : k < (Ss E).2.2.2.1 := hk
                    unfold va_cpy
                    by_cases e : u.toInt.toNat ≤ k ∧ k < u.toInt.toNat + v.toInt.toNat
                    · rw [if_pos e]
                      simp only [if_pos e]
                      exact h9 _ (by omega)
                    · rw [if_neg e]
                      simp only [if_neg e]
                      exact i9 k hk
                · rw [if_neg (fun z => p2 z.2)] at hk
                  rw [Bool.not_eq_true] at p2
                  rw [p2]
                  exact b_X9_copy_89 (fun c2 => absurd rfl c2) (fun _ => b_X9_copy_92 ⟨_, rfl, hk h C HS hFm.rf⟩)
              · rw [if_neg (fun z => p1 z.1)] at hk
                rw [Bool.not_eq_true] at p1
                rw [p1]
                exact b_X9_copy_77 (fun _ => b_X9_copy_92 ⟨_, rfl, hk h C HS hFm.rf⟩) (fun c2 => absurd rfl c2)
            · rw [hN_eq (by omega) (by omega)] at c3
              rw [if_neg (fun z => c3 z.2)] at hk
              exact b_X9_copy_66 ⟨_, rfl, hk h C HS hFm.rf⟩
          · rw [decide_eq_false e3]
            rw [if_neg (fun z => e3 z.1)] at hk
            exact b_X9_copy_50 (fun _ => b_X9_copy_66 ⟨_, rfl, hk h C HS hFm.rf⟩) (fun c2 => absurd rfl c2)
        · have c2 := (hv_is H2 (k := 0) (by omega)).mp c2
          rw [if_pos (Or.inr c2)] at hk
          exact b_X9_copy_42 ⟨_, rfl, hk h C HS hFm.rf⟩
    · rw [hx_none c] at hk
      exact b_X9_copy_12N0 ⟨_, rfl, hk h C HS hFm.rf⟩
  · rw [hx_none c] at hk
    exact b_X9_copy_12NR ⟨_, rfl, hk h C HS hFm.rf⟩
  · rw [hx_none c] at hk
    exact b_X9_copy_12NN ⟨_, rfl, hk h C HS hFm.rf⟩
def hv_ref (S : hv_S) : Int := if S.1 = 0 then -11 else if S.1 = 1 then 0 else -12
theorem s_refusalOfRule (H : hv_1 h rc rq D S) {K : Int32 → hk_H → Prop} (hk : K (hI (hv_ref S)) h) : hk_Ci G m_X9_refusalOfRule d 0 0 [.ref (27 + 2 * D)] h K := by
  have H' := H
  obtain ⟨h1, h2, h3, ru, hf, sz, f, h4, h5, h6, h7⟩ := H
  unfold hv_ref at hk
  refine ⟨Nat.le_of_ble_eq_true rfl, ?_⟩
  refine b_X9_refusalOfRule_0 h4 rfl (fun c => ?_) (fun c => ?_)
  · have c := mt (hv_is H' (k := 0) (by omega)).mpr c
    rw [if_neg c] at hk
    refine b_X9_refusalOfRule_16 h4 rfl (fun c2 => ?_) (fun c2 => ?_)
    · have c2 := mt (hv_is H' (k := 1) (by omega)).mpr c2
      rw [if_neg c2] at hk
      exact b_X9_refusalOfRule_28 ⟨_, rfl, hk⟩
    · have c2 := (hv_is H' (k := 1) (by omega)).mp c2
      rw [if_pos c2] at hk
      exact b_X9_refusalOfRule_24 ⟨_, rfl, hk⟩
  · have c := (hv_is H' (k := 0) (by omega)).mp c
    rw [if_pos c] at hk
    exact b_X9_refusalOfRule_13 ⟨_, rfl, hk⟩
def hq_weight (Ss : Nat → hv_S) (x : Int32) : Int := match hx x 8 with
  | none => -1
  | some D => if (Ss D).1 = 0 then -11 else if (Ss D).1 = 1 then (Ss D).2.2.1 else -12
theorem s_weight (C : hC h n m w rc num Rs rq) (HS : hSh h rc rq Ss) {x : Int32} {K : Int32 → hk_H → Prop} (hk : K (hI (hq_weight Ss x)) h) : hk_Ci G m_X9_weight (d + 1) 0 0 [.ref 4, .int x] h K := by
  unfold hq_weight at hk
  refine ⟨Nat.le_of_ble_eq_true rfl, ?_⟩
  refine b_X9_weight_0 C.1 (s_shelfAt C.1 HS (fun D hD hxD => ?_) (fun c => b_X9_weight_5N0 ⟨Nat.le_of_ble_eq_true rfl, b_X9_refusalOfRule_0N ⟨_, rfl, b_X9_weight_10N ⟨_, rfl, ?_⟩⟩⟩))
  · rw [hxD, hx_some hD (by omega)] at hk
    simp only at hk
    have H1 := HS.2 D hD
    obtain ⟨h1, h2, h3, ru, hf, sz, f, h4, h5, h6, h7⟩ := HS.2 D hD
    refine b_X9_weight_5 (s_refusalOfRule H1 ?_)
    unfold hv_ref
    rcases h1 with e | e | e | e
    · rw [if_pos e] at hk ⊢
      exact b_X9_weight_10 (fun c2 => absurd c2 (by decide)) (fun _ => b_X9_weight_19 ⟨_, rfl, hk⟩)
    · rw [if_neg (by omega), if_pos e] at hk ⊢
      refine b_X9_weight_10 (fun _ => b_X9_weight_23 h4 rfl ⟨_, rfl, ?_⟩) (fun c2 => absurd rfl c2)
      rw [(h6 e).2]; exact hk
    · rw [if_neg (by omega), if_neg (by omega)] at hk ⊢
      exact b_X9_weight_10 (fun c2 => absurd c2 (by decide)) (fun _ => b_X9_weight_19 ⟨_, rfl, hk⟩)
    · rw [if_neg (by omega), if_neg (by omega)] at hk ⊢
      exact b_X9_weight_10 (fun c2 => absurd c2 (by decide)) (fun _ => b_X9_weight_19 ⟨_, rfl, hk⟩)
  · rw [hx_none c] at hk
    exact hk
theorem hk_ctF : hk_ct m_X9_numberOfFailure 8 "java/lang/IllegalStateException" 14 1 := ⟨[], (7, 11, 14, 211), [], rfl, (fun z hz => by cases hz), ⟨by decide, by decide⟩, by decide, wd_934, by decide, rfl, by decide, Or.inl ⟨1, rfl, dX9_numberOfFailure_14⟩⟩
theorem hk_cnF : hk_cn m_X9_numberOfFailure 14 1 = 15 := by
  unfold hk_cn
  rw [if_neg]
  rw [show m_X9_numberOfFailure.2.1 = cX9_numberOfFailure from rfl, dX9_numberOfFailure_14]
  intro c; cases c
def hr_mF (kd : Nat) : hk_M := if kd = 0 then m_X5_fail else if kd = 3 then m_X2_fail else m_X3_fail
theorem hr_dF {kd : Nat} (h : kd ≤ 3) : hk_dis yX5_fail (hr_ci kd) (hr_mF kd) 0 := by
  rcases hr_kd h with e | e | e | e <;> rw [e]
  · exact di_X5_fail_5
  · exact di_X5_fail_3
  · exact di_X5_fail_7
  · exact di_X5_fail_2
theorem s_fail {kd q : Nat} {Q : hk_O → hk_H → Prop} (hk0 : kd = 0 → Q (.inl none) h) (hk1 : kd ≠ 0 → Q (.inr "java/lang/IllegalStateException") (h.1 + 1, h.2)) : hk_E G (hr_mF kd) d 1 6 [.ref q] h Q := by
  unfold hr_mF
  by_cases e : kd = 0
  · rw [if_pos e]
    exact ⟨Nat.le_of_ble_eq_true rfl, b_X5_fail_0 (hk0 e)⟩
  · rw [if_neg e]
    by_cases e3 : kd = 3
    · rw [if_pos e3]
      exact ⟨Nat.le_of_ble_eq_true rfl, b_X2_fail_0 (cb := 0) (sb := 0) (hk1 e)⟩
    · rw [if_neg e3]
      exact ⟨Nat.le_of_ble_eq_true rfl, b_X3_fail_0 (cb := 0) (sb := 0) (hk1 e)⟩
theorem s_numberOfFailure (C : hC h n m w rc num Rs rq) {j : Nat} (hj : j < rc) {K : Int32 → hk_H → Prop} (hk : ∀ h', hC h' n m w rc num Rs rq → hLo h h' → K (hI (if (Rs j).1 = 0 then -15 else (j : Int))) h') : hk_Ci G m_X9_numberOfFailure (d + 1) 1 6 [.ref (rq j)] h K := by
  have Ct : hC (h.1 + 1, h.2) n m w rc num Rs rq := C.fr (Nat.le_succ _) fun _ _ => rfl
  refine ⟨Nat.le_of_ble_eq_true rfl, ?_⟩
  refine hs_aload_n dX9_numberOfFailure_0 rfl ?_
  refine hs_ifnonnull dX9_numberOfFailure_1 (tgt := 7) (by decide) ?_
  refine hs_aload_n dX9_numberOfFailure_7 rfl ?_
  obtain ⟨r, owner, g1, g2, g3, g4, g5, g6, g7, g8, g9⟩ := hr_dF (C.ok hj).1
  refine hs_callUX (hp := fun _ => 14) (i := fun _ => 1) (c1 := 1) (s1 := 6) (c2 := 0) (s2 := 0) (vs := []) (st := []) dX9_numberOfFailure_8 g2 g3 g4 g1 ⟨wd_935, g5, g6, g7⟩ g8 g9 (C.obj hj) rfl (Nat.le_of_ble_eq_true rfl) (s_fail (Q := fun o h' => (o = .inl none ∧ h' = h ∧ (Rs j).1 = 0) ∨ (o = .inr "java/lang/IllegalStateException" ∧ h' = (h.1 + 1, h.2) ∧ (Rs j).1 ≠ 0)) (fun e => Or.inl ⟨rfl, rfl, e⟩) (fun e => Or.inr ⟨rfl, rfl, e⟩)) (fun E h' hq => ?_) (fun v h' hq => ?_)
  · rcases hq with ⟨a, -⟩ | ⟨a, b, c⟩
    · cases a
    · cases a
      subst b
      refine ⟨hk_ctF, ?_⟩
      rw [hk_cnF]
      have hk := hk _ Ct hLo.thr
      rw [if_neg c] at hk
      rcases hr_kd (C.ok hj).1 with e | e | e | e
      · exact absurd e c
      · refine b_X9_numberOfFailure_15 (h := (h.1 + 1, h.2)) (by exact C.obj hj) (k5 := 0) (by rw [e]; exact fl_X9_383_3) (v6 := hI j) (by rw [e]; rfl) ⟨_, rfl, hk⟩
      · refine b_X9_numberOfFailure_15 (h := (h.1 + 1, h.2)) (by exact C.obj hj) (k5 := 1) (by rw [e]; exact fl_X9_383_7) (v6 := hI j) (by rw [e]; rfl) ⟨_, rfl, hk⟩
      · refine b_X9_numberOfFailure_15 (h := (h.1 + 1, h.2)) (by exact C.obj hj) (k5 := 0) (by rw [e]; exact fl_X9_383_2) (v6 := hI j) (by rw [e]; rfl) ⟨_, rfl, hk⟩
  · rcases hq with ⟨a, b, c⟩ | ⟨a, -⟩
    · cases a
      subst b
      have hk := hk _ C hLo.rf
      rw [if_pos c] at hk
      exact b_X9_numberOfFailure_11 ⟨_, rfl, hk⟩
    · cases a
def hq_toss (Rs : Nat → hr_R) (Ss : Nat → hv_S) (x : Int32) : Int := match hx x 8 with
  | none => -1
  | some D => if (Ss D).1 = 0 then -11 else if (Ss D).1 = 1 then (if (Rs (Ss D).2.1).1 = 0 then -15 else ((Ss D).2.1 : Int)) else -12
theorem s_toss (C : hC h n m w rc num Rs rq) (HS : hSh h rc rq Ss) {x : Int32} {K : Int32 → hk_H → Prop} (hk : ∀ h', hC h' n m w rc num Rs rq → hLo h h' → K (hI (hq_toss Rs Ss x)) h') : hk_Ci G m_X9_toss (d + 2) 1 6 [.ref 4, .int x] h K := by
  unfold hq_toss at hk
  refine ⟨Nat.le_of_ble_eq_true rfl, ?_⟩
  refine b_X9_toss_0 C.1 (s_shelfAt C.1 HS (fun D hD hxD => ?_) (fun c => b_X9_toss_5N0 ⟨Nat.le_of_ble_eq_true rfl, b_X9_refusalOfRule_0N ⟨_, rfl, b_X9_toss_10N ⟨_, rfl, ?_⟩⟩⟩))
  · rw [hxD, hx_some hD (by omega)] at hk
    simp only at hk
    have H1 := HS.2 D hD
    obtain ⟨h1, h2, h3, ru, hf, sz, f, h4, h5, h6, h7⟩ := HS.2 D hD
    refine b_X9_toss_5 (s_refusalOfRule H1 ?_)
    unfold hv_ref
    rcases h1 with e | e | e | e
    · rw [if_pos e] at hk ⊢
      exact b_X9_toss_10 (fun c2 => absurd c2 (by decide)) (fun _ => b_X9_toss_19 ⟨_, rfl, hk h C hLo.rf⟩)
    · rw [if_neg (by omega), if_pos e] at hk ⊢
      refine b_X9_toss_10 (fun _ => b_X9_toss_23 (cq := 1) (sq := 6) (cb := 0) (sb := 0) h4 (v3 := rq (Ss D).2.1) (by rw [(h6 e).1]; rfl) (s_numberOfFailure C (h2 e) fun h' C' l' => b_X9_toss_30 ⟨_, rfl, hk h' C' l'⟩)) (fun c2 => absurd rfl c2)
    · rw [if_neg (by omega), if_neg (by omega)] at hk ⊢
      exact b_X9_toss_10 (fun c2 => absurd c2 (by decide)) (fun _ => b_X9_toss_19 ⟨_, rfl, hk h C hLo.rf⟩)
    · rw [if_neg (by omega), if_neg (by omega)] at hk ⊢
      exact b_X9_toss_10 (fun c2 => absurd c2 (by decide)) (fun _ => b_X9_toss_19 ⟨_, rfl, hk h C hLo.rf⟩)
  · rw [hx_none c] at hk
    exact hk h C hLo.rf
end SV3
