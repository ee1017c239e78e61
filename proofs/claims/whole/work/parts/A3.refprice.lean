/-! The reference: prices, price, honest. -/
def hP56 (a : Nat) : Prop := a = 56
def hz_I (m : Nat) (cm : Nat → Bool) (D p : Nat → Int) : Prop := ∀ f, f < m → (cm f = true → D f ≤ p f) ∧ (cm f = false → 0 ≤ p f) ∧ p f ≤ 1000000
theorem hz_I_rel {m : Nat} {cm : Nat → Bool} {L : Nat → Nat → Int} {D p : Nat → Int} (hD : ∀ i j, i < m → cm i = true → j < m → cm j = true → D j ≤ D i + L i j) (H : hz_I m cm D p) {e f : Nat} (he : e < m) (hf : f < m) : hz_I m cm D (hz_rel cm L p e f) := by
  intro x hx
  obtain ⟨h1, h2, h3⟩ := H x hx
  unfold hz_rel
  split
  · rename_i q
    show (cm x = true → D x ≤ if x = f then _ else _) ∧ (cm x = false → 0 ≤ if x = f then _ else _) ∧ (if x = f then _ else _) ≤ _
    by_cases z : x = f
    · subst z
      rw [if_pos rfl]
      have a1 := h1 q.2.1
      have a2 := (H e he).1 q.1
      have a3 := hD e x he q.1 hx q.2.1
      exact ⟨fun _ => by omega, fun c => (by rw [q.2.1] at c; cases c), by omega⟩
    · rw [if_neg z]; exact ⟨h1, h2, h3⟩
  · exact ⟨h1, h2, h3⟩
section RN
variable {G : hk_G} {h h' : hk_H} {n m w rc th : Nat} {num : Nat → Int} {Rs : Nat → hr_R} {d : Nat} {cm : Nat → Bool} {L : Nat → Nat → Int}
theorem hBm.fr (M : hBm h m cm L) (F : hRf hP56 h h') : hBm h' m cm L := by
  obtain ⟨cf, lf, m1, m2, m3, m4⟩ := M
  exact ⟨cf, lf, (F.2 54 (by unfold hP56; omega)).trans m1, (F.2 55 (by unfold hP56; omega)).trans m2, m3, m4⟩
theorem r_priceAll (B : hB h n m w rc num Rs th) (M : hBm h m cm L) {p0 : Nat → Int32} (a56 : h.2 56 = some (hc_i32 5 p0)) (hL : hy_bd m cm L 198) (h0 : ∀ e, e < m → cm e = true → L e e = 0) (hd : ∀ e, e < m → cm e = true → 0 ≤ hy_fl m cm L m e e) (hex : ∃ x, x < m ∧ cm x = true) {K : hk_H → Prop} (hk : ∀ h' pf, hRf hP56 h h' → h'.2 56 = some (hc_i32 5 pf) → (∀ f, f < m → cm f = true → pf f = hI (hy_fl m cm L m (hy_fst cm m 0) f)) → K h') : hk_Cv G m_X10_priceAll (d + 1) 0 0 [.ref 43] h K := by
  obtain ⟨hn, hm, hw6, hnum⟩ := B.dim
  have hfst := hy_fst_is (cm := cm) m 0 (by obtain ⟨x, a, b⟩ := hex; exact ⟨x, Nat.zero_le _, by omega, b⟩)
  rw [Nat.zero_add] at hfst
  have hpr := hz_price hfst.2 hfst.1 h0 hL hm.2 hd
  have Bf : ∀ {h1 : hk_H}, hRf hP56 h h1 → hB h1 n m w rc num Rs th := fun F => B.fr fun a _ _ => F.2 a (by unfold hP56; omega)
  -- the potential
  have tri := hy_fl_tri L hd m (Nat.le_refl _)
  have hD : ∀ i j, i < m → cm i = true → j < m → cm j = true → hy_fl m cm L m (hy_fst cm m 0) j ≤ hy_fl m cm L m (hy_fst cm m 0) i + L i j := fun i j hi ci hj cj => by
    have := tri i (hy_fst cm m 0) j hi ci hfst.2 hfst.1 hj cj
    have := hy_fl_le (m := m) (cm := cm) L (Nat.zero_le m) i j
    have e : hy_fl m cm L 0 i j = L i j := rfl
    omega
  have hDb : ∀ f, f < m → cm f = true → -198 ≤ hy_fl m cm L m (hy_fst cm m 0) f ∧ hy_fl m cm L m (hy_fst cm m 0) f ≤ 198 := fun f hf cf => hy_fl_198 hL h0 hd hfst.2 hfst.1 hf cf
  have hD0 : hy_fl m cm L m (hy_fst cm m 0) (hy_fst cm m 0) ≤ 0 := by
    have h2 := hy_fl_le (m := m) (cm := cm) L (Nat.zero_le m) (hy_fst cm m 0) (hy_fst cm m 0)
    have e : hy_fl m cm L 0 (hy_fst cm m 0) (hy_fst cm m 0) = L (hy_fst cm m 0) (hy_fst cm m 0) := rfl
    have := h0 _ hfst.2 hfst.1
    omega
  generalize hs : hy_fst cm m 0 = s at hfst hpr hD hDb hD0 hk
  have pb : ∀ {p : Nat → Int}, hz_I m cm (fun f => hy_fl m cm L m s f) p → ∀ f, f < m → -198 ≤ p f ∧ p f ≤ 1000000 := fun {p} I f hf => by
    obtain ⟨i1, i2, i3⟩ := I f hf
    cases c : cm f with
    | true =>
      have := i1 c
      have := hDb f hf c
      simp only at *
      omega
    | false => have := i2 c; omega
  have I0 : hz_I m cm (fun f => hy_fl m cm L m s f) (hz_0 s) := fun f hf => by
    show (cm f = true → _ ≤ if f = s then (0 : Int) else 1000000) ∧ (cm f = false → 0 ≤ if f = s then (0 : Int) else 1000000) ∧ (if f = s then (0 : Int) else 1000000) ≤ 1000000
    by_cases z : f = s
    · rw [if_pos z]
      refine ⟨fun _ => ?_, fun _ => by omega, by omega⟩
      show hy_fl m cm L m s f ≤ 0
      rw [z]; exact hD0
    · rw [if_neg z]
      refine ⟨fun c => ?_, fun _ => by omega, by omega⟩
      have := hDb f hf c
      show hy_fl m cm L m s f ≤ 1000000
      omega
  obtain ⟨cf, lf, m1, m2, m3, m4⟩ := id M
  refine ⟨Nat.le_of_ble_eq_true rfl, ?_⟩
  refine b_X10_priceAll_0 ?_
  refine hk_upto (P := fun a => hy_fst cm (m - a) a = s → (∃ x, a ≤ x ∧ x < m ∧ cm x = true) → hk_S G m_X10_priceAll (d + 1) 0 0 2 [some (.ref 43), some (.int (hI (a : Int))), none, none, none] [] h (fun o h' => o = .inl none ∧ K h')) m (fun a ha ih ea ex => ?_) hs (by obtain ⟨x, a, b⟩ := hex; exact ⟨x, Nat.zero_le _, a, b⟩)
  have ham : a < m := by obtain ⟨x, q1, q2, _⟩ := ex; omega
  have ea' : (if cm a = true then a else hy_fst cm (m - (a + 1)) (a + 1)) = s := by
    rw [← ea, show m - a = (m - (a + 1)) + 1 by omega]; rfl
  refine b_X10_priceAll_2 B.o rfl m1 a (hI_at rfl (by omega)) (by omega) (fun c => ?_) (fun c => ?_)
  · rw [m3 a ham, hb_0] at c
    rw [Bool.not_eq_false] at c
    rw [if_pos c] at ea'
    subst ea'
    refine b_X10_priceAll_17 ?_
    refine hk_upto (P := fun e => ∀ h' pf, hRf hP56 h h' → h'.2 56 = some (hc_i32 5 pf) → (∀ x, x < e → pf x = hI (hz_0 a x)) → hk_S G m_X10_priceAll (d + 1) 0 0 19 [some (.ref 43), some (.int (hI (a : Int))), some (.int (hI (e : Int))), none, none] [] h' (fun o h' => o = .inl none ∧ K h')) m (fun e he ih2 h' pf F' p1 D => ?_) h p0 hRf.rf a56 (fun x hx => by omega)
    have B' := Bf F'
    refine b_X10_priceAll_19 B'.o rfl (fun cc => ?_) (fun cc => ?_)
    · rw [hN_le (by omega) (by omega)] at cc
      refine b_X10_priceAll_50 ?_
      refine hk_upto (P := fun k => ∀ h' pf (o3 o4 : Option Value), hk_c1 o3 → hk_c1 o4 → hRf hP56 h h' → h'.2 56 = some (hc_i32 5 pf) → hz_I m cm (fun f => hy_fl m cm L m a f) (hz_k m cm L (hz_0 a) k) → (∀ x, x < m → pf x = hI (hz_k m cm L (hz_0 a) k x)) → hk_S G m_X10_priceAll (d + 1) 0 0 52 [some (.ref 43), some (.int (hI (a : Int))), some (.int (hI (k : Int))), o3, o4] [] h' (fun o h' => o = .inl none ∧ K h')) m (fun k hk1 ih3 h' pf o3 o4 q3 q4 F' p1 I D => ?_) h' pf none none hk_c10 hk_c10 F' p1 I0 (fun x hx => D x (by omega))
      have B' := Bf F'
      refine b_X10_priceAll_52 B'.o rfl (fun cc => ?_) (fun cc => ?_)
      · rw [hN_le (by omega) (by omega)] at cc
        have ek : k = m := by omega
        subst ek
        exact b_X10_priceAll_165 ⟨rfl, hk h' pf F' p1 fun f hf cf => by rw [D f hf, hpr f hf cf]⟩
      · rw [hN_le (by omega) (by omega)] at cc
        refine b_X10_priceAll_60 ?_
        refine hk_upto (P := fun e => ∀ h' pf (o4 : Option Value), hk_c1 o4 → hRf hP56 h h' → h'.2 56 = some (hc_i32 5 pf) → hz_I m cm (fun f => hy_fl m cm L m a f) (hz_e m cm L (hz_k m cm L (hz_0 a) k) e) → (∀ x, x < m → pf x = hI (hz_e m cm L (hz_k m cm L (hz_0 a) k) e x)) → hk_S G m_X10_priceAll (d + 1) 0 0 62 [some (.ref 43), some (.int (hI (a : Int))), some (.int (hI (k : Int))), some (.int (hI (e : Int))), o4] [] h' (fun o h' => o = .inl none ∧ K h')) m (fun e he ih4 h' pf o4 q4 F' p1 I D => ?_) h' pf _ q4 F' p1 I D
        have B' := Bf F'
        refine b_X10_priceAll_62 B'.o rfl (fun c2 => ?_) (fun c2 => ?_)
        · rw [hN_le (by omega) (by omega)] at c2
          have ee : e = m := by omega
          subst ee
          refine b_X10_priceAll_159 ?_
          rw [hI_1]
          exact ih3 (by omega) h' pf _ _ hk_c1i q4 F' p1 I D
        · rw [hN_le (by omega) (by omega)] at c2
          have hem : e < m := by omega
          refine b_X10_priceAll_70 ?_
          refine hk_upto (P := fun f => ∀ h' pf, hRf hP56 h h' → h'.2 56 = some (hc_i32 5 pf) → hz_I m cm (fun f => hy_fl m cm L m a f) (hz_f cm L (hz_e m cm L (hz_k m cm L (hz_0 a) k) e) e f) → (∀ x, x < m → pf x = hI (hz_f cm L (hz_e m cm L (hz_k m cm L (hz_0 a) k) e) e f x)) → hk_S G m_X10_priceAll (d + 1) 0 0 73 [some (.ref 43), some (.int (hI (a : Int))), some (.int (hI (k : Int))), some (.int (hI (e : Int))), some (.int (hI (f : Int)))] [] h' (fun o h' => o = .inl none ∧ K h')) m (fun f hf ih5 h' pf F' p1 I D => ?_) h' pf F' p1 I D
          have B' := Bf F'
          obtain ⟨cf', lf', n1, n2, n3, n4⟩ := M.fr F'
          refine b_X10_priceAll_73 B'.o rfl (fun c3 => ?_) (fun c3 => ?_)
          · rw [hN_le (by omega) (by omega)] at c3
            have ef : f = m := by omega
            rw [ef] at I D
            refine b_X10_priceAll_153 ?_
            rw [hI_1]
            exact ih4 hem h' pf _ hk_c1i F' p1 I D
          · rw [hN_le (by omega) (by omega)] at c3
            have hfm : f < m := by omega
            have I' := hz_I_rel (L := L) hD I hem hfm
            have b1 := pb I e hem
            have b2 := pb I f hfm
            have es : hz_f cm L (hz_e m cm L (hz_k m cm L (hz_0 a) k) e) e (f + 1) = hz_rel cm L (hz_f cm L (hz_e m cm L (hz_k m cm L (hz_0 a) k) e) e f) e f := rfl
            generalize hz_f cm L (hz_e m cm L (hz_k m cm L (hz_0 a) k) e) e = pp at ih5 I D I' b1 b2 es
            have skip : ¬ (cm e = true ∧ cm f = true ∧ pp f e < 1000000) → hk_S G m_X10_priceAll (d + 1) 0 0 147 [some (.ref 43), some (.int (hI (a : Int))), some (.int (hI (k : Int))), some (.int (hI (e : Int))), some (.int (hI (f : Int)))] [] h' (fun o h' => o = .inl none ∧ K h') := by
              intro hno
              have eq : pp (f + 1) = pp f := by
                rw [es]
                unfold hz_rel
                rw [if_neg hno]
              refine b_X10_priceAll_147 ?_
              rw [hI_1]
              exact ih5 hfm h' pf F' p1 (by rw [eq]; exact I) (by rw [eq]; exact D)
            refine b_X10_priceAll_82 B'.o rfl n1 e (hI_at rfl (by omega)) (by omega) (fun c4 => ?_) (fun c4 => ?_)
            · rw [n3 e hem, hb_0] at c4
              exact skip fun z => by rw [c4] at z; cases z.1
            · rw [n3 e hem, hb_0] at c4
              rw [Bool.not_eq_false] at c4
              refine b_X10_priceAll_91 B'.o rfl n1 f (hI_at rfl (by omega)) (by omega) (fun c5 => ?_) (fun c5 => ?_)
              · rw [n3 f hfm, hb_0] at c5
                exact skip fun z => by rw [c5] at z; cases z.2.1
              · rw [n3 f hfm, hb_0] at c5
                rw [Bool.not_eq_false] at c5
                refine b_X10_priceAll_101 B'.o rfl p1 e (hI_at rfl (by omega)) (by omega) (fun c6 => ?_) (fun c6 => ?_)
                · rw [D e hem, show (1000000 : Int32) = hI 1000000 from rfl, hI_le (by omega) (by omega)] at c6
                  exact skip fun z => by omega
                · rw [D e hem, show (1000000 : Int32) = hI 1000000 from rfl, hI_le (by omega) (by omega)] at c6
                  have lb := hL e f hem c4 hfm c5
                  have eq : pp (f + 1) = fun x => if x = f then min (pp f f) (pp f e + L e f) else pp f x := by
                    rw [es]
                    unfold hz_rel
                    rw [if_pos ⟨c4, c5, by omega⟩]
                  refine b_X10_priceAll_112 B'.o rfl p1 f (hI_at rfl (by omega)) (by omega) e (hI_at rfl (by omega)) (by omega) rfl n2 (5 * e + f) (hI_ji (q := 5) (by omega)) (by omega) ?_
                  rw [D f hfm, D e hem, n4 e f hem hfm c4, hI_add]
                  refine s_min (by omega) (by omega) ?_
                  refine b_X10_priceAll_146 p1 (by omega) f (hI_at rfl (by omega)) (by omega) rfl ?_
                  rw [hI_1]
                  refine ih5 hfm _ _ (F'.set rfl) hk_set_eq (by rw [es]; exact I') (fun x hx => ?_)
                  rw [eq]
                  unfold upd
                  show (if x = f then _ else _) = hI (if x = f then _ else _)
                  by_cases z : x = f
                  · rw [if_pos z, if_pos z]
                  · rw [if_neg z, if_neg z]; exact D x hx
    · rw [hN_le (by omega) (by omega)] at cc
      have hem : e < m := by omega
      have step : ∀ v : Int32, v = hI (hz_0 a e) → hk_S G m_X10_priceAll (d + 1) 0 0 19 [some (.ref 43), some (.int (hI (a : Int))), some (.int (hI (e : Int) + 1)), none, none] [] (hk_set h' 56 (hc_i32 5 (upd pf e v))) (fun o h' => o = .inl none ∧ K h') := by
        intro v ev
        rw [hI_1]
        refine ih2 hem _ _ (F'.set rfl) hk_set_eq (fun x hx => ?_)
        unfold upd
        by_cases z : x = e
        · rw [if_pos z, ev, z]
        · rw [if_neg z]; exact D x (by omega)
      refine b_X10_priceAll_27 B'.o rfl (fun c3 => ?_) (fun c3 => ?_)
      · rw [hN_eq (by omega) (by omega)] at c3
        refine b_X10_priceAll_41 p1 (by omega) e (hI_at rfl (by omega)) (by omega) rfl (step _ ?_)
        unfold hz_0
        rw [if_neg c3]; rfl
      · rw [hN_eq (by omega) (by omega)] at c3
        refine b_X10_priceAll_37 p1 (by omega) e (hI_at rfl (by omega)) (by omega) rfl (step _ ?_)
        unfold hz_0
        rw [if_pos c3]; rfl
  · rw [m3 a ham, hb_0] at c
    rw [if_neg (by rw [c]; decide)] at ea'
    refine b_X10_priceAll_11 ?_
    rw [hI_1]
    refine ih ham ea' ?_
    obtain ⟨x, q1, q2, q3⟩ := ex
    refine ⟨x, ?_, q2, q3⟩
    by_cases z : x = a
    · subst z; rw [c] at q3; cases q3
    · omega
end RN
