/-! The reference's shelves (rows 63 to 69). -/
def hVc (h : hk_H) (hf sf kf nf uf : Nat → Int32) (ef : Nat → Int64) : Prop := h.2 63 = some (hc_i32 8 hf) ∧ h.2 64 = some (hc_i32 8 sf) ∧ h.2 65 = some (hc_i32 8 kf) ∧ h.2 66 = some (hc_i32 8 nf) ∧ h.2 67 = some (hc_i32 8 uf) ∧ h.2 68 = some (hc_i64 480 ef)
/-- what a kept rule of kind kd and number j weighs, u the sum of its places then -/
def hv_w (kd j : Nat) (u : Int) : Int := if kd = 0 then j + 10 else if kd = 1 then j + 110 else if kd = 2 then 2 * (j + 110) else j + 510 + u
def hv_2 (rc : Nat) (Rs : Nat → hr_R) (hf sf kf nf uf : Nat → Int32) (ef : Nat → Int64) (D : Nat) (S : hv_S) : Prop :=
  (S.1 = 0 ∨ S.1 = 1 ∨ S.1 = 3 ∨ S.1 = 4) ∧ hf D = hI (S.1 : Nat) ∧ (S.1 = 1 → S.2.1 < rc ∧ kf D = hI ((Rs S.2.1).1 : Nat) ∧ nf D = hI (S.2.1 : Nat) ∧ ∃ u : Int, uf D = hI u ∧ S.2.2.1 = hv_w (Rs S.2.1).1 S.2.1 u) ∧ (3 ≤ S.1 → S.2.2.2.1 ≤ 60 ∧ sf D = hI (S.2.2.2.1 : Nat) ∧ ∀ i, i < S.2.2.2.1 → ef (60 * D + i) = hL (S.2.2.2.2 i))
def hBv (h : hk_H) (rc : Nat) (Rs : Nat → hr_R) (Ss : Nat → hv_S) : Prop := ∃ hf sf kf nf uf ef, hVc h hf sf kf nf uf ef ∧ ∀ D, D < 8 → hv_2 rc Rs hf sf kf nf uf ef D (Ss D)
def hP63 (a : Nat) : Prop := 63 ≤ a ∧ a ≤ 69
def hP68 (a : Nat) : Prop := 63 ≤ a ∧ a ≤ 68
section RV
variable {G : hk_G} {h h' : hk_H} {n m w rc th : Nat} {num : Nat → Int} {Rs : Nat → hr_R} {P : Nat → Nat → Nat} {Ss : Nat → hv_S} {S : hv_S} {hf sf kf nf uf hf' sf' kf' nf' uf' : Nat → Int32} {ef ef' : Nat → Int64} {D d : Nat}
theorem hVc.fr (V : hVc h hf sf kf nf uf ef) (e : ∀ a, 63 ≤ a → a ≤ 68 → h'.2 a = h.2 a) : hVc h' hf sf kf nf uf ef := ⟨(e 63 (by omega) (by omega)).trans V.1, (e 64 (by omega) (by omega)).trans V.2.1, (e 65 (by omega) (by omega)).trans V.2.2.1, (e 66 (by omega) (by omega)).trans V.2.2.2.1, (e 67 (by omega) (by omega)).trans V.2.2.2.2.1, (e 68 (by omega) (by omega)).trans V.2.2.2.2.2⟩
theorem hVc.s63 (V : hVc h hf sf kf nf uf ef) : hVc (hk_set h 63 (hc_i32 8 hf')) hf' sf kf nf uf ef := ⟨hk_set_eq, (hk_set_ne (by decide)).trans V.2.1, (hk_set_ne (by decide)).trans V.2.2.1, (hk_set_ne (by decide)).trans V.2.2.2.1, (hk_set_ne (by decide)).trans V.2.2.2.2.1, (hk_set_ne (by decide)).trans V.2.2.2.2.2⟩
theorem hVc.s64 (V : hVc h hf sf kf nf uf ef) : hVc (hk_set h 64 (hc_i32 8 sf')) hf sf' kf nf uf ef := ⟨(hk_set_ne (by decide)).trans V.1, hk_set_eq, (hk_set_ne (by decide)).trans V.2.2.1, (hk_set_ne (by decide)).trans V.2.2.2.1, (hk_set_ne (by decide)).trans V.2.2.2.2.1, (hk_set_ne (by decide)).trans V.2.2.2.2.2⟩
theorem hVc.s65 (V : hVc h hf sf kf nf uf ef) : hVc (hk_set h 65 (hc_i32 8 kf')) hf sf kf' nf uf ef := ⟨(hk_set_ne (by decide)).trans V.1, (hk_set_ne (by decide)).trans V.2.1, hk_set_eq, (hk_set_ne (by decide)).trans V.2.2.2.1, (hk_set_ne (by decide)).trans V.2.2.2.2.1, (hk_set_ne (by decide)).trans V.2.2.2.2.2⟩
theorem hVc.s66 (V : hVc h hf sf kf nf uf ef) : hVc (hk_set h 66 (hc_i32 8 nf')) hf sf kf nf' uf ef := ⟨(hk_set_ne (by decide)).trans V.1, (hk_set_ne (by decide)).trans V.2.1, (hk_set_ne (by decide)).trans V.2.2.1, hk_set_eq, (hk_set_ne (by decide)).trans V.2.2.2.2.1, (hk_set_ne (by decide)).trans V.2.2.2.2.2⟩
theorem hVc.s67 (V : hVc h hf sf kf nf uf ef) : hVc (hk_set h 67 (hc_i32 8 uf')) hf sf kf nf uf' ef := ⟨(hk_set_ne (by decide)).trans V.1, (hk_set_ne (by decide)).trans V.2.1, (hk_set_ne (by decide)).trans V.2.2.1, (hk_set_ne (by decide)).trans V.2.2.2.1, hk_set_eq, (hk_set_ne (by decide)).trans V.2.2.2.2.2⟩
theorem hVc.s68 (V : hVc h hf sf kf nf uf ef) : hVc (hk_set h 68 (hc_i64 480 ef')) hf sf kf nf uf ef' := ⟨(hk_set_ne (by decide)).trans V.1, (hk_set_ne (by decide)).trans V.2.1, (hk_set_ne (by decide)).trans V.2.2.1, (hk_set_ne (by decide)).trans V.2.2.2.1, (hk_set_ne (by decide)).trans V.2.2.2.2.1, hk_set_eq⟩
theorem hv_2.eq (H : hv_2 rc Rs hf sf kf nf uf ef D S) (e1 : hf' D = hf D) (e2 : sf' D = sf D) (e3 : kf' D = kf D) (e4 : nf' D = nf D) (e5 : uf' D = uf D) (e6 : ∀ i, i < 60 → ef' (60 * D + i) = ef (60 * D + i)) : hv_2 rc Rs hf' sf' kf' nf' uf' ef' D S := by
  obtain ⟨h1, h2, h3, h4⟩ := H
  refine ⟨h1, e1.trans h2, fun c => ?_, fun c => ?_⟩
  · rw [e3, e4, e5]; exact h3 c
  · obtain ⟨q1, q2, q3⟩ := h4 c
    exact ⟨q1, e2.trans q2, fun i hi => (e6 i (by omega)).trans (q3 i hi)⟩
theorem upd_eq {f : Nat → Int32} {v : Int32} : upd f D v D = v := by unfold upd; rw [if_pos rfl]
theorem upd_ne {f : Nat → Int32} {v : Int32} {E : Nat} (e : E ≠ D) : upd f D v E = f E := by unfold upd; rw [if_neg e]
theorem hBv.fr (V : hBv h rc Rs Ss) (e : ∀ a, 63 ≤ a → a ≤ 68 → h'.2 a = h.2 a) : hBv h' rc Rs Ss := by
  obtain ⟨hf, sf, kf, nf, uf, ef, v1, v2⟩ := V
  exact ⟨hf, sf, kf, nf, uf, ef, v1.fr e, v2⟩
theorem hBv.kd {rc' : Nat} {Rs' : Nat → hr_R} (V : hBv h rc Rs Ss) (hrc : rc ≤ rc') (e : ∀ j, j < rc → (Rs' j).1 = (Rs j).1) : hBv h rc' Rs' Ss := by
  obtain ⟨hf, sf, kf, nf, uf, ef, v1, v2⟩ := V
  refine ⟨hf, sf, kf, nf, uf, ef, v1, fun D hD => ?_⟩
  obtain ⟨h1, h2, h3, h4⟩ := v2 D hD
  refine ⟨h1, h2, fun c => ?_, h4⟩
  obtain ⟨q1, q2⟩ := h3 c
  rw [e _ q1]
  exact ⟨by omega, q2⟩
theorem hBA.p68 (A : hBA h n m w rc num Rs th P) (F : hRf hP68 h h') : hBA h' n m w rc num Rs th P := by
  obtain ⟨B, S, ⟨tf, t1, t2⟩, ok⟩ := A
  exact ⟨B.fr fun a h1 h2 => F.2 a (by unfold hP68; omega), S.fr fun a ha => F.2 a (by unfold hP68; unfold hPsc at ha; omega), ⟨tf, (F.2 57 (by unfold hP68; omega)).trans t1, t2⟩, ok⟩
theorem hBA.p63 (A : hBA h n m w rc num Rs th P) (F : hRf hP63 h h') (e : ∃ f, h'.2 69 = some (hc_i64 60 f)) : hBA h' n m w rc num Rs th P := by
  obtain ⟨B, S, ⟨tf, t1, t2⟩, ok⟩ := A
  refine ⟨B.fr fun a h1 h2 => F.2 a (by unfold hP63; omega), ?_, ⟨tf, (F.2 57 (by unfold hP63; omega)).trans t1, t2⟩, ok⟩
  obtain ⟨⟨f1, s1⟩, ⟨f2, s2⟩, ⟨f3, s3⟩, ⟨f4, s4⟩, ⟨f5, s5⟩, s6, -⟩ := S
  have q : ∀ a, ¬ hP63 a → h'.2 a = h.2 a := F.2
  refine ⟨⟨f1, (q 52 (by unfold hP63; omega)).trans s1⟩, ⟨f2, (q 53 (by unfold hP63; omega)).trans s2⟩, ⟨f3, (q 54 (by unfold hP63; omega)).trans s3⟩, ⟨f4, (q 55 (by unfold hP63; omega)).trans s4⟩, ⟨f5, (q 56 (by unfold hP63; omega)).trans s5⟩, fun x hx => ?_, e⟩
  obtain ⟨f, s⟩ := s6 x hx
  exact ⟨f, (q _ (by unfold hP63; omega)).trans s⟩
theorem hP68_63 {a : Nat} (h : hP68 a) : hP63 a := by unfold hP68 at h; unfold hP63; omega
theorem r_isIn8 {x : Int32} {K : Int32 → hk_H → Prop} (hk1 : ∀ i : Nat, i < 8 → x = hI (i : Int) → K 1 h) (hk0 : ¬ hIn x 8 → K 0 h) : hk_Ci G m_X10_isIn d 0 0 [.int x, .int 8] h K := r_isIn (k := 8) (by omega) hk1 hk0
theorem r_wrongShelf (B : hB h n m w rc num Rs th) (V : hBv h rc Rs Ss) {x : Int32} {K : Int32 → hk_H → Prop} (hk1 : ∀ D : Nat, D < 8 → x = hI (D : Int) → K (hI (hv_ref (Ss D))) h) (hk0 : ¬ hIn x 8 → K (-1) h) : hk_Ci G m_X10_wrongShelf (d + 1) 0 0 [.ref 43, .int x] h K := by
  obtain ⟨hf, sf, kf, nf, uf, ef, v1, v2⟩ := V
  refine ⟨Nat.le_of_ble_eq_true rfl, ?_⟩
  refine b_X10_wrongShelf_0 (r_isIn8 (fun D hD hxD => ?_) (fun c => b_X10_wrongShelf_6 (fun z => absurd rfl z) (fun _ => b_X10_wrongShelf_9 ⟨_, rfl, hk0 c⟩)))
  have hk := hk1 D hD hxD
  unfold hv_ref at hk
  obtain ⟨h1, h2, -, -⟩ := v2 D hD
  refine b_X10_wrongShelf_6 (fun _ => ?_) (fun z => absurd z (by decide))
  rw [hxD]
  refine b_X10_wrongShelf_13 B.o rfl v1.1 D (hI_at rfl (by omega)) (by omega) (fun c => ?_) (fun c => ?_)
  · rw [h2, show (0 : Int32) = hI ((0 : Nat) : Int) from rfl, hN_eq (by omega) (by omega)] at c
    rw [if_neg c] at hk
    refine b_X10_wrongShelf_27 B.o rfl v1.1 D (hI_at rfl (by omega)) (by omega) (fun c2 => ?_) (fun c2 => ?_)
    · rw [h2, show (1 : Int32) = hI ((1 : Nat) : Int) from rfl, hN_eq (by omega) (by omega)] at c2
      rw [if_pos c2] at hk
      exact b_X10_wrongShelf_42 ⟨_, rfl, hk⟩
    · rw [h2, show (1 : Int32) = hI ((1 : Nat) : Int) from rfl, hN_eq (by omega) (by omega)] at c2
      rw [if_neg c2] at hk
      exact b_X10_wrongShelf_37 ⟨_, rfl, hk⟩
  · rw [h2, show (0 : Int32) = hI ((0 : Nat) : Int) from rfl, hN_eq (by omega) (by omega)] at c
    rw [if_pos c] at hk
    exact b_X10_wrongShelf_22 ⟨_, rfl, hk⟩
theorem r_weight (B : hB h n m w rc num Rs th) (V : hBv h rc Rs Ss) {x : Int32} {K : Int32 → hk_H → Prop} (hk : K (hI (hq_weight Ss x)) h) : hk_Ci G m_X10_weight (d + 2) 0 0 [.ref 43, .int x] h K := by
  have hrc := B.rc8
  unfold hq_weight at hk
  refine ⟨Nat.le_of_ble_eq_true rfl, ?_⟩
  refine b_X10_weight_0 B.o (r_wrongShelf B V (fun D hD hxD => ?_) (fun c => ?_))
  · rw [hxD, hx_some hD (by omega)] at hk
    simp only at hk
    obtain ⟨hf, sf, kf, nf, uf, ef, v1, v2⟩ := V
    obtain ⟨h1, h2, h3, -⟩ := v2 D hD
    unfold hv_ref
    by_cases e0 : (Ss D).1 = 0
    · rw [if_pos e0] at hk ⊢
      exact b_X10_weight_5 (fun z => absurd z (by decide)) (fun _ => b_X10_weight_10 ⟨_, rfl, hk⟩)
    · rw [if_neg e0] at hk ⊢
      by_cases e1 : (Ss D).1 = 1
      · rw [if_pos e1] at hk ⊢
        obtain ⟨q1, q2, q3, u, q4, q5⟩ := h3 e1
        have hkd := (B.ok q1).1
        refine b_X10_weight_5 (fun _ => ?_) (fun z => absurd rfl z)
        rw [hxD]
        unfold hv_w at q5
        have eq : ∀ k : Nat, k ≤ 3 → (kf D = hI ((k : Nat) : Int) ↔ (Rs (Ss D).2.1).1 = k) := fun k hk3 => by rw [q2, hN_eq (by omega) (by omega)]
        refine b_X10_weight_12 B.o rfl v1.2.2.2.1 D (hI_at rfl (by omega)) (by omega) rfl v1.2.2.1 (by omega) (fun c => ?_) (fun c => ?_) (fun c => ?_) (fun c0 c1 c2 => ?_)
        · have c := (eq 0 (by omega)).mp c
          rw [if_pos c] at q5
          rw [q5] at hk
          refine b_X10_weight_56 ⟨_, rfl, ?_⟩
          rw [q3, show (10 : Int32) = hI 10 from rfl, hI_add]
          exact hk
        · have c := (eq 1 (by omega)).mp c
          rw [if_neg (by omega), if_pos c] at q5
          rw [q5] at hk
          refine b_X10_weight_58 ⟨_, rfl, ?_⟩
          rw [q3, show (10 : Int32) = hI 10 from rfl, show (100 : Int32) = hI 100 from rfl, hI_add, hI_add, Int.add_assoc]
          exact hk
        · have c := (eq 2 (by omega)).mp c
          rw [if_neg (by omega), if_neg (by omega), if_pos c] at q5
          rw [q5] at hk
          refine b_X10_weight_63 ⟨_, rfl, ?_⟩
          rw [q3, show (10 : Int32) = hI 10 from rfl, show (100 : Int32) = hI 100 from rfl, show (2 : Int32) = hI 2 from rfl, hI_add, hI_add, hI_mul, Int.add_assoc]
          exact hk
        · have c0 := mt (eq 0 (by omega)).mpr c0
          have c1 := mt (eq 1 (by omega)).mpr c1
          have c2 := mt (eq 2 (by omega)).mpr c2
          rw [if_neg c0, if_neg c1, if_neg c2] at q5
          rw [q5] at hk
          refine b_X10_weight_70 B.o rfl v1.2.2.2.2.1 D (hI_at rfl (by omega)) (by omega) ⟨_, rfl, ?_⟩
          rw [q3, q4, show (10 : Int32) = hI 10 from rfl, show (500 : Int32) = hI 500 from rfl, hI_add, hI_add, hI_add, show ((Ss D).2.1 : Int) + 10 + 500 + u = (Ss D).2.1 + 510 + u by omega]
          exact hk
      · rw [if_neg e1] at hk ⊢
        exact b_X10_weight_5 (fun z => absurd z (by decide)) (fun _ => b_X10_weight_10 ⟨_, rfl, hk⟩)
  · rw [hx_none c] at hk
    exact b_X10_weight_5 (fun z => absurd z (by decide)) (fun _ => b_X10_weight_10 ⟨_, rfl, hk⟩)
theorem r_toss (B : hB h n m w rc num Rs th) (V : hBv h rc Rs Ss) {x : Int32} {K : Int32 → hk_H → Prop} (hk : K (hI (hq_toss Rs Ss x)) h) : hk_Ci G m_X10_toss (d + 2) 0 0 [.ref 43, .int x] h K := by
  have hrc := B.rc8
  unfold hq_toss at hk
  refine ⟨Nat.le_of_ble_eq_true rfl, ?_⟩
  refine b_X10_toss_0 B.o (r_wrongShelf B V (fun D hD hxD => ?_) (fun c => ?_))
  · rw [hxD, hx_some hD (by omega)] at hk
    simp only at hk
    obtain ⟨hf, sf, kf, nf, uf, ef, v1, v2⟩ := V
    obtain ⟨h1, h2, h3, -⟩ := v2 D hD
    unfold hv_ref
    by_cases e0 : (Ss D).1 = 0
    · rw [if_pos e0] at hk ⊢
      exact b_X10_toss_5 (fun z => absurd z (by decide)) (fun _ => b_X10_toss_10 ⟨_, rfl, hk⟩)
    · rw [if_neg e0] at hk ⊢
      by_cases e1 : (Ss D).1 = 1
      · rw [if_pos e1] at hk ⊢
        obtain ⟨q1, q2, q3, u, q4, q5⟩ := h3 e1
        have hkd := (B.ok q1).1
        refine b_X10_toss_5 (fun _ => ?_) (fun z => absurd rfl z)
        rw [hxD]
        refine b_X10_toss_14 B.o rfl v1.2.2.1 D (hI_at rfl (by omega)) (by omega) (fun c => ?_) (fun c => ?_)
        · rw [q2, show (0 : Int32) = hI ((0 : Nat) : Int) from rfl, hN_eq (by omega) (by omega)] at c
          rw [if_neg c] at hk
          refine b_X10_toss_28 B.o rfl v1.2.2.2.1 D (hI_at rfl (by omega)) (by omega) ⟨_, rfl, ?_⟩
          rw [q3]
          exact hk
        · rw [q2, show (0 : Int32) = hI ((0 : Nat) : Int) from rfl, hN_eq (by omega) (by omega)] at c
          rw [if_pos c] at hk
          exact b_X10_toss_23 ⟨_, rfl, hk⟩
      · rw [if_neg e1] at hk ⊢
        exact b_X10_toss_5 (fun z => absurd z (by decide)) (fun _ => b_X10_toss_10 ⟨_, rfl, hk⟩)
  · rw [hx_none c] at hk
    exact b_X10_toss_5 (fun z => absurd z (by decide)) (fun _ => b_X10_toss_10 ⟨_, rfl, hk⟩)
theorem hBA.t (A : hBA h n m w rc num Rs th P) {t : Nat} (B : hB h' n m w rc num Rs t) (F : hRf hP43 h h') : hBA h' n m w rc num Rs t P := by
  obtain ⟨-, S, ⟨tf, t1, t2⟩, ok⟩ := A
  exact ⟨B, S.fr fun a ha => F.2 a (by unfold hP43; unfold hPsc at ha; omega), ⟨tf, (F.2 57 (by unfold hP43; omega)).trans t1, t2⟩, ok⟩
theorem r_element (A : hBA h n m w rc num Rs th P) (V : hBv h rc Rs Ss) {x y : Int32} {K : Int64 → hk_H → Prop} (hk : ∀ h', hBA h' n m w rc num Rs (hq_th (hq_element Ss x y)) P → hBv h' rc Rs Ss → hRf hP43 h h' → K (hL (hq_val (hq_element Ss x y))) h') : hk_Cl G m_X10_element (d + 1) 0 0 [.ref 43, .int x, .int y] h K := by
  have B := A.1
  obtain ⟨B1, F1⟩ := B.t0 rfl
  have hk : ∀ h', hB h' n m w rc num Rs (hq_th (hq_element Ss x y)) → hRf hP43 h h' → K (hL (hq_val (hq_element Ss x y))) h' := fun h' B' F' => hk h' (A.t B' F') (V.fr fun a _ _ => F'.2 a (by unfold hP43; omega)) F'
  obtain ⟨hf, sf, kf, nf, uf, ef, v1, v2⟩ := V
  have v1 : hVc _ hf sf kf nf uf ef := v1.fr fun a _ _ => F1.2 a (by unfold hP43; omega)
  unfold hq_element at hk
  refine ⟨Nat.le_of_ble_eq_true rfl, ?_⟩
  refine b_X10_element_0 B.o (by omega) rfl (r_isIn8 (fun D hD hxD => ?_) (fun c => ?_)) (by simp)
  · rw [hxD, hx_some hD (by omega)] at hk
    simp only at hk
    obtain ⟨h1, h2, -, h4⟩ := v2 D hD
    have two : (∀ h', hB h' n m w rc num Rs 2 → hRf hP43 h h' → K 0 h') → ∀ (o1 o2 : Option Value), hk_S G m_X10_element (d + 1) 0 0 44 [some (.ref 43), o1, o2] [] _ (fun o h' => ∃ x, o = .inl (some (.long x)) ∧ K x h') := fun hk o1 o2 => b_X10_element_44 B1.o (r_rise (t := 2) B1 F1 fun h' B' F' => b_X10_element_49 ⟨_, rfl, hk h' B' F'⟩)
    refine b_X10_element_11 (fun _ => ?_) (fun z => absurd z (by decide))
    rw [hxD]
    refine b_X10_element_21 B1.o rfl v1.1 D (hI_at rfl (by omega)) (by omega) (fun c => ?_) (fun c => ?_)
    · rw [h2, show (3 : Int32) = hI ((3 : Nat) : Int) from rfl, hN_lt (by omega) (by omega)] at c
      rw [if_neg (by omega)] at hk
      exact two hk _ _
    · rw [h2, show (3 : Int32) = hI ((3 : Nat) : Int) from rfl, hN_lt (by omega) (by omega)] at c
      rw [if_pos (by omega)] at hk
      obtain ⟨q1, q2, q3⟩ := h4 (by omega)
      refine b_X10_element_31 B1.o rfl v1.2.1 D (hI_at rfl (by omega)) (by omega) ?_
      rw [q2]
      refine r_isIn (by omega) (fun i hi hyi => ?_) (fun c2 => ?_)
      · rw [hyi, hx_some hi (by omega)] at hk
        rw [hyi]
        refine b_X10_element_41 (fun _ => ?_) (fun z => absurd z (by decide))
        refine b_X10_element_51 B1.o rfl v1.2.2.2.2.2 (60 * D + i) (hI_ji (q := 60) (by omega)) (by omega) ⟨_, rfl, ?_⟩
        rw [q3 i hi]
        exact hk _ B1 F1
      · rw [hx_none c2] at hk
        exact b_X10_element_41 (fun z => absurd rfl z) (fun _ => two hk _ _)
  · rw [hx_none c] at hk
    exact b_X10_element_11 (fun z => absurd rfl z) (fun _ => b_X10_element_14 B1.o (r_rise (t := 1) B1 F1 fun h' B' F' => b_X10_element_19 ⟨_, rfl, hk h' B' F'⟩))
end RV
