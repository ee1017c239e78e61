/-! The class's Heap (cells 9 to 12), its small methods. -/
theorem hf_from_some {f : Nat → Option Int} {v : Int} : ∀ c i, hf_from f c i = some v ↔ ∃ k, i ≤ k ∧ k < i + c ∧ f k = some v ∧ ∀ j, i ≤ j → j < k → f j = none := by
  intro c
  induction c with
  | zero => intro i; exact ⟨(fun h => by cases h), fun ⟨k, h1, h2, _⟩ => by omega⟩
  | succ c ih =>
    intro i
    show (match f i with
      | some x => some x
      | none => hf_from f c (i + 1)) = some v ↔ _
    cases e : f i with
    | some x =>
      constructor
      · intro h
        cases h
        exact ⟨i, Nat.le_refl _, by omega, e, fun j h1 h2 => by omega⟩
      · rintro ⟨k, h1, h2, h3, h4⟩
        by_cases c : k = i
        · subst c; rw [e] at h3; exact h3
        · have := h4 i (Nat.le_refl _) (by omega)
          rw [e] at this; cases this
    | none =>
      rw [show (match (none : Option Int) with
        | some x => some x
        | none => hf_from f c (i + 1)) = hf_from f c (i + 1) from rfl, ih (i + 1)]
      constructor
      · rintro ⟨k, h1, h2, h3, h4⟩
        refine ⟨k, by omega, by omega, h3, fun j h5 h6 => ?_⟩
        by_cases c : j = i
        · subst c; exact e
        · exact h4 j (by omega) h6
      · rintro ⟨k, h1, h2, h3, h4⟩
        have c : k ≠ i := fun c => by subst c; rw [e] at h3; cases h3
        exact ⟨k, by omega, by omega, h3, fun j h5 h6 => h4 j (by omega) h6⟩
theorem hf_is {f : Nat → Option Int} {n : Nat} {v : Int} : hf f n = some v ↔ ∃ k, k < n ∧ f k = some v ∧ ∀ j, j < k → f j = none := by
  unfold hf
  rw [hf_from_some]
  constructor
  · rintro ⟨k, h1, h2, h3, h4⟩; exact ⟨k, by omega, h3, fun j hj => h4 j (Nat.zero_le _) hj⟩
  · rintro ⟨k, h2, h3, h4⟩; exact ⟨k, Nat.zero_le _, by omega, h3, fun j _ hj => h4 j hj⟩
theorem hf_no {f : Nat → Option Int} {n : Nat} : hf f n = none ↔ ∀ j, j < n → f j = none := by
  constructor
  · intro h j
    induction j using Nat.strongRecOn with
    | ind j ih =>
      intro hj
      cases e : f j with
      | none => rfl
      | some v =>
        have : hf f n = some v := hf_is.mpr ⟨j, hj, e, fun i hi => ih i hi (by omega)⟩
        rw [h] at this; cases this
  · intro h
    cases e : hf f n with
    | none => rfl
    | some v =>
      obtain ⟨k, h1, h2, _⟩ := hf_is.mp e
      rw [h k h1] at h2; cases h2
theorem ha_from_is {p : Nat → Bool} : ∀ c i, ha_from p c i = true ↔ ∀ j, i ≤ j → j < i + c → p j = true := by
  intro c
  induction c with
  | zero => intro i; exact ⟨fun _ j h1 h2 => by omega, fun _ => rfl⟩
  | succ c ih =>
    intro i
    show (p i && ha_from p c (i + 1)) = true ↔ _
    rw [Bool.and_eq_true, ih]
    constructor
    · rintro ⟨h1, h2⟩ j h3 h4
      by_cases e : j = i
      · subst e; exact h1
      · exact h2 j (by omega) (by omega)
    · intro h
      exact ⟨h i (Nat.le_refl _) (by omega), fun j h1 h2 => h j (by omega) (by omega)⟩
theorem ha_is {p : Nat → Bool} {n : Nat} : ha p n = true ↔ ∀ j, j < n → p j = true := by
  unfold ha
  rw [ha_from_is]
  exact ⟨fun h j hj => h j (Nat.zero_le _) (by omega), fun h j _ hj => h j (by omega)⟩
theorem hh_bit : ∀ H : Fin 16, ∀ i : Fin 4, (((hI (H : Nat) >>> (hI (i : Nat) &&& 31)) &&& 1) = 1) ↔ hh_mem H i = true := by decide +kernel
theorem hh_bit' {H i : Nat} (hH : H < 16) (hi : i < 4) : (((hI (H : Int) >>> (hI (i : Int) &&& 31)) &&& 1) = 1) ↔ hh_mem H i = true := hh_bit ⟨H, hH⟩ ⟨i, hi⟩
def hHo (h : hk_H) (H W : Nat) : Prop := h.2 9 = some (.inr (0, [.ref 5, .ref 10, .ref 11, .ref 12, .int (hI H), .int (hI W)]))
def hHC (h : hk_H) (n m w rc : Nat) (num : Nat → Int) (Rs : Nat → hr_R) (rq : Nat → Nat) (j H W : Nat) (c o z : Nat → Int32) : Prop :=
  hC h n m w rc num Rs rq ∧ (∀ r, r < hw_pow w n → hSt h (rq j) r) ∧ hHo h H W ∧ h.2 10 = some (hc_i32 20 c) ∧ h.2 11 = some (hc_i32 4 o) ∧ h.2 12 = some (hc_i32 4 z)
def hP12 (a : Nat) : Prop := 9 ≤ a ∧ a ≤ 12
section SHp
variable {G : hk_G} {h h' : hk_H} {n m w rc : Nat} {num : Nat → Int} {Rs : Nat → hr_R} {rq : Nat → Nat} {j H W d : Nat} {c o z c' : Nat → Int32}
theorem hHC.q (X : hHC h n m w rc num Rs rq j H W c o z) (hj : j < rc) : 71 ≤ rq j := (X.1.2.2.2.2.1 j hj).1
theorem hHC.set10 (X : hHC h n m w rc num Rs rq j H W c o z) (hj : j < rc) : hHC (hk_set h 10 (hc_i32 20 c')) n m w rc num Rs rq j H W c' o z := by
  have hq := X.q hj
  obtain ⟨x1, x2, x3, x4, x5, x6⟩ := X
  exact ⟨x1.fr (Nat.le_refl _) fun a ha => hk_set_ne (by omega), fun r hr => (x2 r hr).fr (hk_set_ne (by omega)), (hk_set_ne (by decide)).trans x3, hk_set_eq, (hk_set_ne (by decide)).trans x5, (hk_set_ne (by decide)).trans x6⟩
theorem hHC.set11 (X : hHC h n m w rc num Rs rq j H W c o z) (hj : j < rc) : hHC (hk_set h 11 (hc_i32 4 c')) n m w rc num Rs rq j H W c c' z := by
  have hq := X.q hj
  obtain ⟨x1, x2, x3, x4, x5, x6⟩ := X
  exact ⟨x1.fr (Nat.le_refl _) fun a ha => hk_set_ne (by omega), fun r hr => (x2 r hr).fr (hk_set_ne (by omega)), (hk_set_ne (by decide)).trans x3, (hk_set_ne (by decide)).trans x4, hk_set_eq, (hk_set_ne (by decide)).trans x6⟩
theorem hHC.set12 (X : hHC h n m w rc num Rs rq j H W c o z) (hj : j < rc) : hHC (hk_set h 12 (hc_i32 4 c')) n m w rc num Rs rq j H W c o c' := by
  have hq := X.q hj
  obtain ⟨x1, x2, x3, x4, x5, x6⟩ := X
  exact ⟨x1.fr (Nat.le_refl _) fun a ha => hk_set_ne (by omega), fun r hr => (x2 r hr).fr (hk_set_ne (by omega)), (hk_set_ne (by decide)).trans x3, (hk_set_ne (by decide)).trans x4, (hk_set_ne (by decide)).trans x5, hk_set_eq⟩
theorem s_isMember (X : hHo h H W) (hH : H < 16) {i : Nat} (hi : i < 4) {K : Int32 → hk_H → Prop} (hk : K (hI (hb (hh_mem H i))) h) : hk_Ci G m_X0_isMember d 0 0 [.ref 9, .int (hI i)] h K := by
  refine ⟨Nat.le_of_ble_eq_true rfl, ?_⟩
  refine b_X0_isMember_0 X rfl (fun c => ?_) (fun c => ?_)
  · have c := mt (hh_bit' hH hi).mpr c
    rw [Bool.not_eq_true] at c
    rw [c] at hk
    exact b_X0_isMember_16 ⟨_, rfl, hk⟩
  · have c := (hh_bit' hH hi).mp c
    rw [c] at hk
    exact b_X0_isMember_12 ⟨_, rfl, hk⟩
theorem hh_so_step {n i r : Nat} (h : i < n) : hh_so w H (n - i) i r = hh_so w H (n - (i + 1)) (i + 1) (if hh_mem H i = true then hw_say w r i 0 else r) := by
  rw [show n - i = (n - (i + 1)) + 1 by omega]; rfl
theorem s_startOf (C : hC h n m w rc num Rs rq) (hj : j < rc) (X : hHo h H W) (hH : H < 16) {r : Nat} (hr : r < hw_pow w n) {K : Int32 → hk_H → Prop} (hk : K (hI (hh_so w H n 0 r : Nat)) h) : hk_Ci G m_X0_startOf (d + 2) 0 0 [.ref 9, .int (hI r)] h K := by
  obtain ⟨hn, hm, hw6, hnum⟩ := C.dim
  have hw := C.w0 hj
  refine ⟨Nat.le_of_ble_eq_true rfl, ?_⟩
  refine b_X0_startOf_0 ?_
  refine hk_upto (P := fun i => ∀ s, s < hw_pow w n → hh_so w H (n - i) i s = hh_so w H n 0 r → hk_S G m_X0_startOf (d + 2) 0 0 4 [some (.ref 9), some (.int (hI r)), some (.int (hI (s : Int))), some (.int (hI (i : Int)))] [] h (fun o h' => ∃ x, o = .inl (some (.int x)) ∧ K x h')) n (fun i hi ih s hs e => ?_) r hr rfl
  refine b_X0_startOf_4 X rfl C.w1 rfl (fun c => ?_) (fun c => ?_)
  · rw [hN_le (by omega) (by omega)] at c
    rw [show n - i = 0 by omega] at e
    rw [← e] at hk
    exact b_X0_startOf_40 ⟨_, rfl, hk⟩
  · rw [hN_le (by omega) (by omega)] at c
    rw [hh_so_step (by omega)] at e
    refine b_X0_startOf_15 X (s_isMember X hH (by omega) ?_)
    by_cases e2 : hh_mem H i = true
    · rw [e2]
      rw [if_pos e2] at e
      refine b_X0_startOf_20 (fun c => absurd c (by decide)) (fun _ => ?_)
      refine b_X0_startOf_23 X rfl C.w1 (c_rowSaying (v := 0) C hj hs (by omega) (by omega) fun hlt => ?_)
      refine b_X0_startOf_33 ?_
      rw [hI_1]
      exact ih (by omega) _ hlt e
    · rw [if_neg e2] at e
      rw [Bool.not_eq_true] at e2
      rw [e2]
      refine b_X0_startOf_20 (fun _ => ?_) (fun c => absurd rfl c)
      refine b_X0_startOf_34 ?_
      rw [hI_1]
      exact ih (by omega) _ hs e
theorem hh_nx_step {n i r : Nat} (h : i < n) : hh_nx w H (n - i) i r = if hh_mem H i = true then (if hw_in w r i + 1 < w then hw_say w r i (hw_in w r i + 1) else hh_nx w H (n - (i + 1)) (i + 1) (hw_say w r i 0)) else hh_nx w H (n - (i + 1)) (i + 1) r := by
  rw [show n - i = (n - (i + 1)) + 1 by omega]; rfl
theorem s_nextRow (C : hC h n m w rc num Rs rq) (hj : j < rc) (X : hHo h H W) (hH : H < 16) {r : Nat} (hr : r < hw_pow w n) {K : Int32 → hk_H → Prop} (hk : K (hI (hh_nx w H n 0 r : Nat)) h) : hk_Ci G m_X0_nextRow (d + 2) 0 0 [.ref 9, .int (hI r)] h K := by
  obtain ⟨hn, hm, hw6, hnum⟩ := C.dim
  have hw := C.w0 hj
  refine ⟨Nat.le_of_ble_eq_true rfl, ?_⟩
  refine b_X0_nextRow_0 ?_
  refine hk_upto (P := fun i => ∀ (s : Nat) (o4 : Option Value), hk_c1 o4 → s < hw_pow w n → hh_nx w H (n - i) i s = hh_nx w H n 0 r → hk_S G m_X0_nextRow (d + 2) 0 0 4 [some (.ref 9), some (.int (hI r)), some (.int (hI (s : Int))), some (.int (hI (i : Int))), o4] [] h (fun o h' => ∃ x, o = .inl (some (.int x)) ∧ K x h')) n (fun i hi ih s o4 q4 hs e => ?_) r none hk_c10 hr rfl
  refine b_X0_nextRow_4 X rfl C.w1 rfl (fun c => ?_) (fun c => ?_)
  · rw [hN_le (by omega) (by omega)] at c
    rw [show n - i = 0 by omega] at e
    rw [← e] at hk
    exact b_X0_nextRow_79 ⟨_, rfl, hk⟩
  · rw [hN_le (by omega) (by omega)] at c
    rw [hh_nx_step (by omega)] at e
    have hin := hw_in_lt hw s i
    refine b_X0_nextRow_15 X (s_isMember X hH (by omega) ?_)
    by_cases e2 : hh_mem H i = true
    · rw [e2]
      rw [if_pos e2] at e
      refine b_X0_nextRow_20 (fun c => absurd c (by decide)) (fun _ => ?_)
      refine b_X0_nextRow_23 X rfl C.w1 (c_wishIn C hj hs (by omega) ?_)
      refine b_X0_nextRow_32 X rfl C.w1 rfl (fun c2 => ?_) (fun c2 => ?_)
      · rw [hI_1, hN_le (by omega) (by omega)] at c2
        rw [if_neg (by omega)] at e
        refine b_X0_nextRow_62 X rfl C.w1 (c_rowSaying (v := 0) C hj hs (by omega) (by omega) fun hlt => ?_)
        refine b_X0_nextRow_72 ?_
        rw [hI_1]
        exact ih (by omega) _ _ hk_c1i hlt e
      · rw [hI_1, hN_le (by omega) (by omega)] at c2
        rw [if_pos (by omega)] at e
        refine b_X0_nextRow_48 X rfl C.w1 ?_
        rw [hI_1]
        refine c_rowSaying C hj hs (by omega) (by omega) fun hlt => ?_
        rw [← e] at hk
        exact b_X0_nextRow_61 ⟨_, rfl, hk⟩
    · rw [if_neg e2] at e
      rw [Bool.not_eq_true] at e2
      rw [e2]
      refine b_X0_nextRow_20 (fun _ => ?_) (fun c => absurd rfl c)
      refine b_X0_nextRow_73 ?_
      rw [hI_1]
      exact ih (by omega) _ _ q4 hs e
end SHp
