/-! The class and the reference side by side. -/
def hX (h : hk_H) (n m w rc : Nat) (num : Nat → Int) (Rs : Nat → hr_R) (rq : Nat → Nat) (P : Nat → Nat → Nat) (Ss : Nat → hv_S) : Prop := hC h n m w rc num Rs rq ∧ hSh h rc rq Ss ∧ hHp h ∧ hWy h ∧ hMk h n P
def hY (h : hk_H) (n m w rc : Nat) (num : Nat → Int) (Rs : Nat → hr_R) (P : Nat → Nat → Nat) (Ss : Nat → hv_S) (th : Nat) : Prop := hBA h n m w rc num Rs th P ∧ hBv h rc Rs Ss
def hZ (h : hk_H) (L : Nat) (xs : Nat → Int32) (g : Nat → Int64) : Prop := h.2 0 = some (hc_i32 L xs) ∧ h.2 70 = some (hc_i64 1 g)
def hT (h : hk_H) (L : Nat) (xs : Nat → Int32) : Prop := ∃ n m w rc num Rs rq P Ss th g, hX h n m w rc num Rs rq P Ss ∧ hY h n m w rc num Rs P Ss th ∧ hZ h L xs g
def hFc (h h' : hk_H) : Prop := h.1 ≤ h'.1 ∧ ∀ a, (43 ≤ a ∧ a ≤ 70) ∨ a < 4 → h'.2 a = h.2 a
def hFr (h h' : hk_H) : Prop := h'.1 = h.1 ∧ ∀ a, ¬ (43 ≤ a ∧ a ≤ 69) → h'.2 a = h.2 a
section LA
variable {h h' : hk_H} {n m w w' rc rc' th th' L : Nat} {num num' : Nat → Int} {Rs Rs' : Nat → hr_R} {rq rq' : Nat → Nat} {P P' : Nat → Nat → Nat} {Ss Ss' : Nat → hv_S} {xs : Nat → Int32} {g : Nat → Int64} {p : Nat → Prop}
theorem hFc.rf : hFc h h := ⟨Nat.le_refl _, fun _ _ => rfl⟩
theorem hFc.fm (F : hFm p h h') (hp : ∀ a, p a → 4 ≤ a ∧ a ≤ 42) : hFc h h' := ⟨F.1, fun a ha => F.2 a (by omega) fun z => by have := hp a z; omega⟩
theorem hFc.lo (F : hLo h h') : hFc h h' := ⟨F.1, fun a ha => F.2 a (by omega)⟩
theorem hFc.mf (F : hMf h h') : hFc h h' := ⟨by rw [F.1]; exact Nat.le_refl _, fun a ha => F.2 a (by omega)⟩
theorem hFr.rf : hFr h h := ⟨rfl, fun _ _ => rfl⟩
theorem hFr.of (F : hRf p h h') (hp : ∀ a, p a → 43 ≤ a ∧ a ≤ 69) : hFr h h' := ⟨F.1, fun a ha => F.2 a fun z => ha (hp a z)⟩
theorem hZ.fc (Z : hZ h L xs g) (F : hFc h h') : hZ h' L xs g := ⟨(F.2 0 (by omega)).trans Z.1, (F.2 70 (by omega)).trans Z.2⟩
theorem hZ.fr (Z : hZ h L xs g) (F : hFr h h') : hZ h' L xs g := ⟨(F.2 0 (by omega)).trans Z.1, (F.2 70 (by omega)).trans Z.2⟩
theorem hBA.fr (A : hBA h n m w rc num Rs th P) (e : ∀ a, 43 ≤ a → a ≤ 69 → h'.2 a = h.2 a) : hBA h' n m w rc num Rs th P := by
  obtain ⟨B, S, ⟨tf, t1, t2⟩, ok⟩ := A
  exact ⟨B.fr fun a h1 h2 => e a h1 (by omega), S.fr fun a ha => e a (by unfold hPsc at ha; omega) (by unfold hPsc at ha; omega), ⟨tf, (e 57 (by omega) (by omega)).trans t1, t2⟩, ok⟩
theorem hY.fc (Y : hY h n m w rc num Rs P Ss th) (F : hFc h h') : hY h' n m w rc num Rs P Ss th := ⟨Y.1.fr fun a h1 h2 => F.2 a (by omega), Y.2.fr fun a h1 h2 => F.2 a (by omega)⟩
theorem hX.fr (X : hX h n m w rc num Rs rq P Ss) (F : hFr h h') : hX h' n m w rc num Rs rq P Ss := by
  obtain ⟨C, S, H, W, M⟩ := X
  refine ⟨C.fr (by rw [F.1]; exact Nat.le_refl _) fun a ha => F.2 a (by omega), S.fr (fun a h1 h2 => F.2 a (by omega)) (Nat.le_refl _) fun _ _ => rfl, H.fr fun a h1 h2 => F.2 a (by omega), W.fr fun a h1 h2 => F.2 a (by omega), M.fr (fun a h1 h2 => F.2 a (by omega)) fun a h1 => F.2 a (by omega)⟩
/-- the class after a call that leaves all but its list and rules -/
theorem hX.c (X : hX h n m w rc num Rs rq P Ss) (C' : hC h' n m w' rc' num' Rs' rq') (F : hFm p h h') (hp : ∀ a, p a → 4 ≤ a ∧ a ≤ 8) (hrc : rc ≤ rc') (hrq : ∀ j, j < rc → rq' j = rq j) : hX h' n m w' rc' num' Rs' rq' P Ss := by
  obtain ⟨C, S, H, W, M⟩ := X
  have e : ∀ a, a < 71 → ¬ (4 ≤ a ∧ a ≤ 8) → h'.2 a = h.2 a := fun a ha hb => F.2 a ha fun z => hb (hp a z)
  exact ⟨C', S.fr (fun a h1 h2 => e a (by omega) (by omega)) hrc hrq, H.fr fun a h1 h2 => e a (by omega) (by omega), W.fr fun a h1 h2 => e a (by omega) (by omega), M.fr (fun a h1 h2 => e a (by omega) (by omega)) fun a h1 => e a (by omega) (by omega)⟩
theorem hX.lo (X : hX h n m w rc num Rs rq P Ss) (C' : hC h' n m w rc num Rs' rq) (F : hLo h h') : hX h' n m w rc num Rs' rq P Ss := X.c (p := fun _ => False) C' (hFm.lo F) (fun _ z => z.elim) (Nat.le_refl _) fun _ _ => rfl
theorem hX.hp (X : hX h n m w rc num Rs rq P Ss) (C' : hC h' n m w rc num Rs rq) (H' : hHp h') (F : hFm hP12 h h') : hX h' n m w rc num Rs rq P Ss := by
  obtain ⟨C, S, H, W, M⟩ := X
  have e : ∀ a, a < 71 → ¬ (9 ≤ a ∧ a ≤ 12) → h'.2 a = h.2 a := fun a ha hb => F.2 a ha fun z => hb (by unfold hP12 at z; omega)
  exact ⟨C', S.fr (fun a h1 h2 => e a (by omega) (by omega)) (Nat.le_refl _) fun _ _ => rfl, H', W.fr fun a h1 h2 => e a (by omega) (by omega), M.fr (fun a h1 h2 => e a (by omega) (by omega)) fun a h1 => e a (by omega) (by omega)⟩
theorem hX.wy (X : hX h n m w rc num Rs rq P Ss) (C' : hC h' n m w rc' num Rs' rq') (W' : hWy h') (F : hFm hPhon h h') (hrc : rc ≤ rc') (hrq : ∀ j, j < rc → rq' j = rq j) : hX h' n m w rc' num Rs' rq' P Ss := by
  obtain ⟨C, S, H, W, M⟩ := X
  have e : ∀ a, a < 71 → ¬ ((4 ≤ a ∧ a ≤ 8) ∨ (14 ≤ a ∧ a ≤ 17)) → h'.2 a = h.2 a := fun a ha hb => F.2 a ha fun z => hb (by unfold hPhon hP48 hP17 at z; omega)
  exact ⟨C', S.fr (fun a h1 h2 => e a (by omega) (by omega)) hrc hrq, H.fr fun a h1 h2 => e a (by omega) (by omega), W', M.fr (fun a h1 h2 => e a (by omega) (by omega)) fun a h1 => e a (by omega) (by omega)⟩
theorem hFm_17 (F : hFm hP17 h h') : hFm hPhon h h' := ⟨F.1, fun a ha hb => F.2 a ha fun z => hb (Or.inr z)⟩
theorem hX.mk (X : hX h n m w rc num Rs rq P Ss) (M' : hMk h' n P') (F : hMf h h') : hX h' n m w rc num Rs rq P' Ss := by
  obtain ⟨C, S, H, W, M⟩ := X
  exact ⟨F.c C, S.fr (fun a h1 h2 => F.2 a (by omega)) (Nat.le_refl _) fun _ _ => rfl, H.fr fun a h1 h2 => F.2 a (by omega), W.fr fun a h1 h2 => F.2 a (by omega), M'⟩
theorem hX.sh (X : hX h n m w rc num Rs rq P Ss) (C' : hC h' n m w rc num Rs rq) (S' : hSh h' rc rq Ss') (F : hFm hP42 h h') : hX h' n m w rc num Rs rq P Ss' := by
  obtain ⟨C, S, H, W, M⟩ := X
  have e : ∀ a, a < 71 → ¬ (26 ≤ a ∧ a ≤ 42) → h'.2 a = h.2 a := fun a ha hb => F.2 a ha fun z => hb (by unfold hP42 at z; omega)
  exact ⟨C', S', H.fr fun a h1 h2 => e a (by omega) (by omega), W.fr fun a h1 h2 => e a (by omega) (by omega), M.fr (fun a h1 h2 => e a (by omega) (by omega)) fun a h1 => e a (by omega) (by omega)⟩
/-- the reference after a call -/
theorem hY.b (Y : hY h n m w rc num Rs P Ss th) (B' : hB h' n m w' rc' num' Rs' th') (F : hRf hRs43 h h') (hrc : rc ≤ rc') (e : ∀ j, j < rc → (Rs' j).1 = (Rs j).1) : hY h' n m w' rc' num' Rs' P Ss th' := by
  obtain ⟨⟨B, S, ⟨tf, t1, t2⟩, ok⟩, V⟩ := Y
  refine ⟨⟨B', S.fr fun a ha => F.2 a (by unfold hRs43; unfold hPsc at ha; omega), ⟨tf, (F.2 57 (by unfold hRs43; omega)).trans t1, t2⟩, ok⟩, (V.fr fun a h1 h2 => F.2 a (by unfold hRs43; omega)).kd hrc e⟩
theorem hRf_43 (F : hRf hP43 h h') : hRf hRs43 h h' := F.mono fun a z => by unfold hP43 at z; unfold hRs43; omega
theorem hY.t (Y : hY h n m w rc num Rs P Ss th) (B' : hB h' n m w rc num Rs th') (F : hRf hP43 h h') : hY h' n m w rc num Rs P Ss th' := Y.b B' (hRf_43 F) (Nat.le_refl _) fun _ _ => rfl
theorem hY.s (Y : hY h n m w rc num Rs P Ss th) (B' : hB h' n m w rc' num Rs' th') (S' : hBs h') (F : hRf p h h') (hp : ∀ a, p a → a ≠ 57 ∧ ¬ (63 ≤ a ∧ a ≤ 68)) (hrc : rc ≤ rc') (e : ∀ j, j < rc → (Rs' j).1 = (Rs j).1) : hY h' n m w rc' num Rs' P Ss th' := by
  obtain ⟨⟨B, S, ⟨tf, t1, t2⟩, ok⟩, V⟩ := Y
  exact ⟨⟨B', S', ⟨tf, (F.2 57 (fun z => (hp _ z).1 rfl)).trans t1, t2⟩, ok⟩, (V.fr fun a h1 h2 => F.2 a fun z => (hp a z).2 ⟨h1, h2⟩).kd hrc e⟩
theorem hY.a (Y : hY h n m w rc num Rs P Ss th) (A' : hBA h' n m w rc num Rs th P') (F : hRf hP57 h h') : hY h' n m w rc num Rs P' Ss th := ⟨A', Y.2.fr fun a h1 h2 => F.2 a (by unfold hP57; omega)⟩
/-- kinds stay -/
theorem hk_put (x y z : Int32) : ∀ j, j < rc → ((hq_put n m w rc Rs x y z).2 j).1 = (Rs j).1 := by
  intro j _
  unfold hq_put
  split
  · rename_i a b c _ _ _
    split
    · show (hr_up Rs a _ j).1 = _
      unfold hr_up
      split
      · rename_i e; rw [e]; rfl
      · rfl
    · rfl
  · rfl
theorem hk_pay (x y z u : Int32) : ∀ j, j < rc → ((hq_pay n w rc Rs x y z u).2 j).1 = (Rs j).1 := by
  intro j _
  unfold hq_pay
  split
  · rename_i a b c _ _ _
    split
    · split
      · show (hr_up Rs a _ j).1 = _
        unfold hr_up
        split
        · rename_i e; rw [e]; rfl
        · rfl
      · rfl
    · rfl
  · rfl
theorem hk_middle (x y z : Int32) : ∀ j, j < rc → ((hq_middle n m rc Rs x y z).2 j).1 = (Rs j).1 := by
  intro j _
  unfold hq_middle
  split
  · rename_i a b c _ _ _
    split
    · show (hr_up Rs a _ j).1 = _
      unfold hr_up
      split
      · rename_i e; rw [e]; rfl
      · rfl
    · rfl
  · rfl
theorem hk_gift (x y z u : Int32) : ∀ j, j < rc → ((hq_gift n m rc Rs x y z u).2 j).1 = (Rs j).1 := by
  intro j _
  unfold hq_gift
  split
  · rfl
  · rename_i a _
    split
    · split
      · show (hr_up Rs a _ j).1 = _
        unfold hr_up
        split
        · rename_i e; rw [e]; rfl
        · rfl
      · rfl
    · split
      · split
        · show (hr_up Rs a _ j).1 = _
          unfold hr_up
          split
          · rename_i e; rw [e]; rfl
          · rfl
        · rfl
      · rfl
theorem hk_rule (x : Int32) : rc ≤ (hq_rule w rc Rs x).2.1 ∧ ∀ j, j < rc → ((hq_rule w rc Rs x).2.2 j).1 = (Rs j).1 := by
  unfold hq_rule
  split
  · exact ⟨Nat.le_refl _, fun _ _ => rfl⟩
  · split
    · exact ⟨Nat.le_refl _, fun _ _ => rfl⟩
    · split
      · refine ⟨Nat.le_succ _, fun j hj => ?_⟩
        show (hr_up Rs rc _ j).1 = _
        unfold hr_up
        rw [if_neg (by omega)]
      · exact ⟨Nat.le_refl _, fun _ _ => rfl⟩
theorem hk_honest (x : Int32) : rc ≤ (hq_honest n m w rc num Rs x).2.1 ∧ ∀ j, j < rc → ((hq_honest n m w rc num Rs x).2.2 j).1 = (Rs j).1 := by
  unfold hq_honest
  split
  · exact ⟨Nat.le_refl _, fun _ _ => rfl⟩
  · split
    · split
      · refine ⟨Nat.le_succ _, fun j hj => ?_⟩
        show (hr_up Rs rc _ j).1 = _
        unfold hr_up
        rw [if_neg (by omega)]
      · exact ⟨Nat.le_refl _, fun _ _ => rfl⟩
    · exact ⟨Nat.le_refl _, fun _ _ => rfl⟩
theorem hl_ix {i : Nat} (k : Nat) (h : i + k < 2147483648) : (hI (i : Int) + hI (k : Int)).toInt = ((i + k : Nat) : Int) := by
  rw [hI_add]
  exact hI_at (by push_cast; rfl) h
theorem hl_6 (i : Nat) : hI (i : Int) + 6 = hI ((i + 6 : Nat) : Int) := by
  rw [show (6 : Int32) = hI 6 from rfl, hI_add]
  congr 1
end LA
