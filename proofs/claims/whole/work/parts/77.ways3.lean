/-! The least round, by sets. -/
theorem hd_bit : ∀ g : Fin 32, ∀ e : Fin 5, (((hI (g : Nat) >>> (hI (e : Nat) &&& 31)) &&& 1) = 0) ↔ hh_mem g e = false := by decide +kernel
theorem hd_or : ∀ g : Fin 32, ∀ e : Fin 5, hh_mem g e = false → (hI (g : Nat) ||| (1 <<< (hI (e : Nat) &&& 31))) = hI ((g.val + 2 ^ e.val : Nat) : Int) := by decide +kernel
theorem hd_sh : ∀ e : Fin 6, (1 <<< (hI (e : Nat) &&& 31)) = hI ((2 ^ e.val : Nat) : Int) := by decide +kernel
def hd_S (m : Nat) (cm : Nat → Bool) (L : Nat → Nat → Int) (s : Nat) (T : Nat → Int) : Prop := (∀ p, p < 160 → T p ≤ 1000000) ∧ ∀ g a, g < 32 → a < 5 → T (g * 5 + a) < 1000000 → ∃ l, hy_ok m cm s l ∧ hy_mk (s :: l) = g ∧ hy_la s l = a ∧ T (g * 5 + a) = hy_ps L (s :: l)
def hd_C (m : Nat) (cm : Nat → Bool) (L : Nat → Nat → Int) (s : Nat) (T : Nat → Int) (P : Nat → Nat → Prop) : Prop := T (2 ^ s * 5 + s) ≤ 0 ∧ ∀ l x, hy_ok m cm s (l ++ [x]) → P (hy_mk (s :: l)) (hy_la s l) → T (hy_mk (s :: (l ++ [x])) * 5 + x) ≤ hy_ps L (s :: (l ++ [x]))
section HD
variable {L : Nat → Nat → Int} {m : Nat} {cm : Nat → Bool} {s : Nat} {T : Nat → Int}
theorem hy_ok_l {l : List Nat} {x : Nat} (h : hy_ok m cm s (l ++ [x])) : hy_ok m cm s l ∧ (s < x ∧ x < m ∧ cm x = true) ∧ x ∉ l := by
  obtain ⟨h1, h2⟩ := h
  have h3 := List.nodup_append.mp h1
  exact ⟨⟨h3.1, fun y hy => h2 y (by simp [hy])⟩, h2 x (by simp), fun c => h3.2.2 x c x (by simp) rfl⟩
theorem hy_ok_s (hm : m ≤ 5) (hs : s < m) {l : List Nat} (h : hy_ok m cm s l) : hy_mk (s :: l) < 32 ∧ hy_mk (s :: l) < 2 ^ m ∧ 2 ^ s ≤ hy_mk (s :: l) ∧ (∀ x, x < 5 → (hh_mem (hy_mk (s :: l)) x = true ↔ x = s ∨ x ∈ l)) ∧ s ≤ hy_la s l ∧ hy_la s l < m ∧ (cm s = true → cm (hy_la s l) = true) := by
  have hnd : (s :: l).Nodup := List.nodup_cons.mpr ⟨fun c => by have := (h.2 s c).1; omega, h.1⟩
  have hlt : ∀ x ∈ s :: l, x < m := fun x hx => by
    rcases List.mem_cons.mp hx with c | c
    · omega
    · exact (h.2 x c).2.1
  obtain ⟨a1, a2⟩ := hy_mk_mem (s :: l) hnd (fun x hx => by have := hlt x hx; omega)
  refine ⟨a1, hy_mk_lt hm _ hnd hlt, ?_, fun x hx => by rw [a2 x hx, List.mem_cons], ?_⟩
  · show 2 ^ s ≤ 2 ^ s + hy_mk l; omega
  · rcases hy_la_mem s l with c | c
    · rw [c]; exact ⟨by omega, hs, fun z => z⟩
    · have := h.2 _ c
      exact ⟨by omega, this.2.1, fun _ => this.2.2⟩
theorem hy_ok_b (hm : m ≤ 5) (hs : s < m) (cs : cm s = true) (hL : hy_bd m cm L 198) {l : List Nat} (h : hy_ok m cm s l) : -990 ≤ hy_ps L (s :: l) ∧ hy_ps L (s :: l) ≤ 990 ∧ -198 ≤ L (hy_la s l) s ∧ L (hy_la s l) s ≤ 198 := by
  have h1 := hy_len4 hm l h.1 (fun x hx => (h.2 x hx).2.1)
  have h2 := hy_ps_b hL l s hs cs (fun x hx => (h.2 x hx).2)
  obtain ⟨-, -, -, -, _, q1, q2⟩ := hy_ok_s hm hs h
  have h3 := hL _ s q1 (q2 cs) hs cs
  omega
theorem hd_S.b (hm : m ≤ 5) (hs : s < m) (cs : cm s = true) (hL : hy_bd m cm L 198) (H : hd_S m cm L s T) {p : Nat} (hp : p < 160) : -990 ≤ T p ∧ T p ≤ 1000000 ∧ (T p < 1000000 → T p ≤ 990) := by
  have h1 := H.1 p hp
  by_cases q : T p < 1000000
  · have e : p = p / 5 * 5 + p % 5 := by omega
    rw [e] at q
    obtain ⟨l, l1, -, -, l4⟩ := H.2 (p / 5) (p % 5) (by omega) (by omega) q
    have := hy_ok_b hm hs cs hL l1
    rw [← e] at l4
    omega
  · omega
theorem hd_C.at (hm : m ≤ 5) (hs : s < m) {P : Nat → Nat → Prop} (H : hd_C m cm L s T P) {l : List Nat} (h : hy_ok m cm s l) (hP : ∀ g a, g < hy_mk (s :: l) → P g a) : T (hy_mk (s :: l) * 5 + hy_la s l) ≤ hy_ps L (s :: l) := by
  rcases hy_snoc l with e | ⟨l', x, e⟩
  · subst e
    show T ((2 ^ s + 0) * 5 + s) ≤ 0
    rw [Nat.add_zero]
    exact H.1
  · subst e
    rw [hy_la_app]
    refine H.2 l' x h (hP _ _ ?_)
    have e2 := hy_mk_app (s :: l') x
    have e3 : 1 ≤ 2 ^ x := Nat.pow_pos (by omega)
    show hy_mk (s :: l') < hy_mk (s :: l' ++ [x])
    omega
/-- one place goes on -/
theorem hd_S.up (hm : m ≤ 5) (hs : s < m) (cs : cm s = true) (hL : hy_bd m cm L 198) (H : hd_S m cm L s T) {l : List Nat} (hl : hy_ok m cm s l) {x : Nat} (hx : s < x ∧ x < m ∧ cm x = true) (hxl : hh_mem (hy_mk (s :: l)) x = false) : hd_S m cm L s (fun p => if p = (hy_mk (s :: l) + 2 ^ x) * 5 + x then min (T p) (hy_ps L (s :: l) + L (hy_la s l) x) else T p) := by
  obtain ⟨k1, k2, k3, k4, k5, k6, k7⟩ := hy_ok_s hm hs hl
  obtain ⟨b1, b1'⟩ := hy_b1 ⟨_, k1⟩ ⟨x, by omega⟩ hxl
  simp only at b1
  refine ⟨fun p hp => ?_, fun g a hg ha hT => ?_⟩
  · have := H.1 p hp
    show (if p = _ then _ else _) ≤ _
    by_cases q : p = (hy_mk (s :: l) + 2 ^ x) * 5 + x
    · rw [if_pos q]; omega
    · rw [if_neg q]; exact this
  · change (if g * 5 + a = _ then _ else _) < _ at hT
    show ∃ l', _ ∧ _ ∧ _ ∧ (if g * 5 + a = _ then _ else _) = _
    by_cases q : g * 5 + a = (hy_mk (s :: l) + 2 ^ x) * 5 + x
    · rw [if_pos q] at hT
      have hga : g = hy_mk (s :: l) + 2 ^ x ∧ a = x := by omega
      rw [if_pos q]
      by_cases c : T (g * 5 + a) ≤ hy_ps L (s :: l) + L (hy_la s l) x
      · rw [Int.min_eq_left c] at hT ⊢
        exact H.2 g a hg ha hT
      · rw [Int.min_eq_right (by omega)]
        refine ⟨l ++ [x], ⟨List.nodup_append.mpr ⟨hl.1, by simp, fun y hy z hz => ?_⟩, fun y hy => ?_⟩, ?_, ?_, ?_⟩
        · rw [List.mem_singleton] at hz
          subst hz
          intro e
          subst e
          have := (k4 y (by omega)).mpr (Or.inr hy)
          rw [hxl] at this; cases this
        · rcases List.mem_append.mp hy with h | h
          · exact hl.2 y h
          · rw [List.mem_singleton] at h; subst h; exact hx
        · rw [hga.1]; exact hy_mk_app (s :: l) x
        · rw [hga.2]; exact hy_la_app s l x
        · exact (hy_ps_la s l x).symm
    · rw [if_neg q] at hT ⊢
      exact H.2 g a hg ha hT
end HD
def hYt (tf : Nat → Int32) (T : Nat → Int) : Prop := ∀ p, p < 160 → tf p = hI (T p)
section SDp
variable {G : hk_G} {h h' : hk_H} {n m w : Nat} {num : Nat → Int} {d : Nat} {pw : Nat → Int32} {cf lf sf tf : Nat → Int32} {cm : Nat → Bool} {L : Nat → Nat → Int} {s : Nat} {T : Nat → Int}
theorem s_goOn (HW : hW h n m w num pw) (Y : hYs h cf lf sf tf) (hc : hYc cf cm) (hl : hYm lf L) (hL : hy_bd m cm L 198) (hs : s < m) (cs : cm s = true) (hT : hYt tf T) (HS : hd_S m cm L s T) {l : List Nat} (ol : hy_ok m cm s l) (el : T (hy_mk (s :: l) * 5 + hy_la s l) = hy_ps L (s :: l)) {K : hk_H → Prop} (hk : ∀ h' tf' T', hYs h' cf lf sf tf' → hYf h h' → hYt tf' T' → hd_S m cm L s T' → (∀ p, T' p ≤ T p) → (∀ x, s < x → x < m → cm x = true → hh_mem (hy_mk (s :: l)) x = false → T' ((hy_mk (s :: l) + 2 ^ x) * 5 + x) ≤ hy_ps L (s :: l) + L (hy_la s l) x) → K h') : hk_Cv G m_X6_goOn (d + 1) 0 0 [.ref 13, .int (hI (hy_mk (s :: l) : Nat)), .int (hI (hy_la s l : Nat)), .int (hI s)] h K := by
  obtain ⟨w1, w2, w3, w4, hn, hm, hw6, hnum⟩ := id HW
  obtain ⟨k1, k2, k3, k4, k5, k6, k7⟩ := hy_ok_s hm.2 hs ol
  have hpb := hy_ok_b hm.2 hs cs hL ol
  refine ⟨Nat.le_of_ble_eq_true rfl, ?_⟩
  refine b_X6_goOn_0 Y.1 rfl Y.2.2.2.2 (hy_mk (s :: l) * 5 + hy_la s l) (hI_ij (q := 5) (by omega) (by omega) (by omega)) (by omega) ?_
  rw [hT _ (by omega), el, hI_1]
  refine hk_uptoF (P := fun x9 => ∀ h' tf' T' (o6 : Option Value), hYs h' cf lf sf tf' → hYf h h' → hYt tf' T' → hd_S m cm L s T' → (∀ p, T' p ≤ T p) → (∀ x, s < x → x < x9 → cm x = true → hh_mem (hy_mk (s :: l)) x = false → T' ((hy_mk (s :: l) + 2 ^ x) * 5 + x) ≤ hy_ps L (s :: l) + L (hy_la s l) x) → hk_S G m_X6_goOn (d + 1) 0 0 17 [some (.ref 13), some (.int (hI (hy_mk (s :: l) : Nat))), some (.int (hI (hy_la s l : Nat))), some (.int (hI s)), some (.int (hI (hy_ps L (s :: l)))), some (.int (hI (x9 : Int))), o6] [] h' (fun o h' => o = .inl none ∧ K h')) (s + 1) m (by omega) (fun x9 hx0 hx9 ih h' tf' T' o6 Y' F' T1 S1 D1 N1 => ?_) h tf T none Y hYf.rf hT HS (fun _ => Int.le_refl _) (fun x h1 h2 => by omega)
  refine b_X6_goOn_17 Y'.1 rfl (F'.wl HW).1 rfl (fun cc => ?_) (fun cc => ?_)
  · rw [hN_le (by omega) (by omega)] at cc
    exact b_X6_goOn_94 ⟨rfl, hk h' tf' T' Y' F' T1 S1 D1 fun x h1 h2 => N1 x h1 (by omega)⟩
  · rw [hN_le (by omega) (by omega)] at cc
    have skip : ¬ (cm x9 = true ∧ hh_mem (hy_mk (s :: l)) x9 = false) → hk_S G m_X6_goOn (d + 1) 0 0 88 [some (.ref 13), some (.int (hI (hy_mk (s :: l) : Nat))), some (.int (hI (hy_la s l : Nat))), some (.int (hI s)), some (.int (hI (hy_ps L (s :: l)))), some (.int (hI (x9 : Int))), o6] [] h' (fun o h' => o = .inl none ∧ K h') := by
      intro hno
      refine b_X6_goOn_88 ?_
      rw [hI_1]
      refine ih (by omega) h' tf' T' o6 Y' F' T1 S1 D1 fun x h1 h2 h3 h4 => ?_
      by_cases q : x = x9
      · subst q; exact absurd ⟨h3, h4⟩ hno
      · exact N1 x h1 (by omega) h3 h4
    refine b_X6_goOn_29 Y'.1 rfl Y'.2.1 x9 (hI_at rfl (by omega)) (by omega) (fun c3 => ?_) (fun c3 => ?_)
    · have c3 := (hc.not0 (by omega)).mp c3
      exact skip fun z => by rw [c3] at z; cases z.1
    · have c3 := mt (hc.not0 (by omega)).mpr c3
      rw [Bool.not_eq_false] at c3
      have hbit := hd_bit ⟨_, k1⟩ ⟨x9, by omega⟩
      simp only at hbit
      refine b_X6_goOn_39 (fun c4 => ?_) (fun c4 => ?_)
      · have c4 := mt hbit.mpr c4
        exact skip fun z => c4 z.2
      · have c4 := hbit.mp c4
        have hor := hd_or ⟨_, k1⟩ ⟨x9, by omega⟩ c4
        simp only at hor
        obtain ⟨b1, -⟩ := hy_b1 ⟨_, k1⟩ ⟨x9, by omega⟩ c4
        simp only at b1
        have tb := S1.b hm.2 hs cs hL (p := (hy_mk (s :: l) + 2 ^ x9) * 5 + x9) (by omega)
        have lb := hL _ x9 k6 (k7 cs) (by omega) c3
        refine b_X6_goOn_48 Y'.1 rfl Y'.2.2.2.2 ((hy_mk (s :: l) + 2 ^ x9) * 5 + x9) (by rw [hor]; exact hI_ij (q := 5) (by omega) (by omega) (by omega)) (by omega) (s_lengthOf Y' (by omega) (by omega) ?_)
        rw [T1 _ (by omega), hl _ _ (by omega) (by omega)]
        refine b_X6_goOn_83 ?_
        rw [hI_add]
        refine s_min (by omega) (by omega) ?_
        refine b_X6_goOn_87 Y'.2.2.2.2 (by omega) ((hy_mk (s :: l) + 2 ^ x9) * 5 + x9) (by rw [hor]; exact hI_ij (q := 5) (by omega) (by omega) (by omega)) (by omega) rfl ?_
        rw [hI_1]
        refine ih (by omega) _ _ _ _ Y'.set17 (F'.set (by omega)) ?_ (S1.up hm.2 hs cs hL ol ⟨by omega, by omega, c3⟩ c4) (fun p => ?_) (fun x h1 h2 h3 h4 => ?_)
        · intro p hp
          unfold upd
          show (if p = _ then _ else _) = hI (if p = _ then _ else _)
          by_cases q : p = (hy_mk (s :: l) + 2 ^ x9) * 5 + x9
          · rw [if_pos q, if_pos q, q]
          · rw [if_neg q, if_neg q]; exact T1 p hp
        · show (if p = _ then _ else _) ≤ _
          have := D1 p
          by_cases q : p = (hy_mk (s :: l) + 2 ^ x9) * 5 + x9
          · rw [if_pos q]; omega
          · rw [if_neg q]; exact this
        · show (if _ = _ then _ else _) ≤ _
          by_cases q : x = x9
          · subst q; rw [if_pos rfl]; exact Int.min_le_right _ _
          · have := N1 x h1 (by omega) h3 h4
            split
            · exact Int.le_trans (Int.min_le_left _ _) this
            · exact this
/-- what is known of the least sum of a round from s -/
def hd_lr (m : Nat) (cm : Nat → Bool) (L : Nat → Nat → Int) (s : Nat) (P : Nat → Nat → Prop) (v : Int) : Prop := v ≤ 0 ∧ (∀ l, hy_ok m cm s l → P (hy_mk (s :: l)) (hy_la s l) → v ≤ hy_ps L (s :: l ++ [s])) ∧ (v = 0 ∨ ∃ l, hy_ok m cm s l ∧ v = hy_ps L (s :: l ++ [s]))
def hd_pr (g a g' a' : Nat) : Prop := g' < g ∨ (g' = g ∧ a' < a)
theorem s_leastRoundFrom (HW : hW h n m w num pw) (Y : hYs h cf lf sf tf) (hc : hYc cf cm) (hl : hYm lf L) (hL : hy_bd m cm L 198) (hs : s < m) (cs : cm s = true) {K : Int32 → hk_H → Prop} (hk : ∀ h' tf' v, hYs h' cf lf sf tf' → hYf h h' → hd_lr m cm L s (fun _ _ => True) v → K (hI v) h') : hk_Ci G m_X6_leastRoundFrom (d + 2) 0 0 [.ref 13, .int (hI s)] h K := by
  obtain ⟨w1, w2, w3, w4, hn, hm, hw6, hnum⟩ := id HW
  have hsh := hd_sh ⟨s, by omega⟩
  have hshm := hd_sh ⟨m, by omega⟩
  simp only at hsh hshm
  have p32 : 2 ^ s < 32 := hy_p32 (by omega)
  have p1 : 1 ≤ 2 ^ s := Nat.pow_pos (by omega)
  have pm : 2 ^ m ≤ 32 := Nat.pow_le_pow_right (n := 2) (by omega) hm.2
  have psm : 2 ^ s ≤ 2 ^ m := Nat.pow_le_pow_right (by omega) (by omega)
  refine ⟨Nat.le_of_ble_eq_true rfl, ?_⟩
  refine b_X6_leastRoundFrom_0 Y.1 rfl (s_fill Y.2.2.2.2 (by omega) (by omega) fun g hg => ?_)
  have Y1 := Y.set17 (c' := g)
  refine b_X6_leastRoundFrom_9 Y1.1 rfl Y1.2.2.2.2 (by omega) (2 ^ s * 5 + s) (by rw [hsh]; exact hI_ij (q := 5) (by omega) (by omega) (by omega)) (by omega) rfl ?_
  rw [hsh]
  have T0 : hYt (upd g (2 ^ s * 5 + s) 0) (fun p => if p = 2 ^ s * 5 + s then 0 else 1000000) := by
    intro p hp
    unfold upd
    show (if p = _ then _ else _) = hI (if p = _ then _ else _)
    by_cases q : p = 2 ^ s * 5 + s
    · rw [if_pos q, if_pos q]; rfl
    · rw [if_neg q, if_neg q]; exact hg p hp
  have S0 : hd_S m cm L s (fun p => if p = 2 ^ s * 5 + s then 0 else 1000000) := by
    refine ⟨fun p hp => ?_, fun g a hg ha hT => ?_⟩
    · show (if p = _ then (0 : Int) else 1000000) ≤ _
      split <;> omega
    · change (if g * 5 + a = _ then (0 : Int) else 1000000) < _ at hT
      by_cases q : g * 5 + a = 2 ^ s * 5 + s
      · refine ⟨[], ⟨List.nodup_nil, fun x hx => by cases hx⟩, ?_, ?_, ?_⟩
        · show 2 ^ s + 0 = g; omega
        · show s = a; omega
        · show (if g * 5 + a = _ then (0 : Int) else 1000000) = 0
          rw [if_pos q]
      · rw [if_neg q] at hT; omega
  have C0 : hd_C m cm L s (fun p => if p = 2 ^ s * 5 + s then 0 else 1000000) (hd_pr (2 ^ s) s) := by
    refine ⟨by show (if 2 ^ s * 5 + s = _ then (0 : Int) else 1000000) ≤ 0; rw [if_pos rfl]; omega, fun l x hlx hp => ?_⟩
    obtain ⟨o1, o2, o3⟩ := hy_ok_l hlx
    obtain ⟨k1, k2, k3, k4, k5, k6, k7⟩ := hy_ok_s hm.2 hs o1
    unfold hd_pr at hp
    omega
  have R0 : hd_lr m cm L s (hd_pr (2 ^ s) s) 0 := by
    refine ⟨by omega, fun l hlx hp => ?_, Or.inl rfl⟩
    obtain ⟨k1, k2, k3, k4, k5, k6, k7⟩ := hy_ok_s hm.2 hs hlx
    unfold hd_pr at hp
    omega
  refine hk_uptoF (P := fun g => ∀ h' tf' T' v (o4 o5 : Option Value), hk_c1 o4 → hYs h' cf lf sf tf' → hYf h h' → hYt tf' T' → hd_S m cm L s T' → hd_C m cm L s T' (hd_pr g s) → hd_lr m cm L s (hd_pr g s) v → hk_S G m_X6_leastRoundFrom (d + 2) 0 0 28 [some (.ref 13), some (.int (hI s)), some (.int (hI v)), some (.int (hI (g : Int))), o4, o5] [] h' (fun o h' => ∃ x, o = .inl (some (.int x)) ∧ K x h')) (2 ^ s) (2 ^ m) psm (fun g hg0 hg ih h' tf' T' v o4 o5 q4 Y' F' T1 S1 C1 R1 => ?_) _ _ _ 0 none none hk_c10 Y1.set17 ((hYf.rf.set (by omega)).set (by omega)) T0 S0 C0 R0
  refine b_X6_leastRoundFrom_28 Y'.1 rfl (F'.wl HW).1 rfl (fun cc => ?_) (fun cc => ?_)
  · rw [hshm, hN_le (by omega) (by omega)] at cc
    refine b_X6_leastRoundFrom_111 ⟨_, rfl, hk h' tf' v Y' F' ⟨R1.1, fun l hl1 _ => R1.2.1 l hl1 ?_, R1.2.2⟩⟩
    obtain ⟨k1, k2, k3, k4, k5, k6, k7⟩ := hy_ok_s hm.2 hs hl1
    exact Or.inl (by omega)
  · rw [hshm, hN_le (by omega) (by omega)] at cc
    refine b_X6_leastRoundFrom_41 ?_
    refine hk_uptoF (P := fun a => ∀ h' tf' T' v (o5 : Option Value), hYs h' cf lf sf tf' → hYf h h' → hYt tf' T' → hd_S m cm L s T' → hd_C m cm L s T' (hd_pr g a) → hd_lr m cm L s (hd_pr g a) v → hk_S G m_X6_leastRoundFrom (d + 2) 0 0 44 [some (.ref 13), some (.int (hI s)), some (.int (hI v)), some (.int (hI (g : Int))), some (.int (hI (a : Int))), o5] [] h' (fun o h' => ∃ x, o = .inl (some (.int x)) ∧ K x h')) s m (by omega) (fun a ha0 ha ih2 h' tf' T' v o5 Y' F' T1 S1 C1 R1 => ?_) h' tf' T' v o5 Y' F' T1 S1 C1 R1
    refine b_X6_leastRoundFrom_44 Y'.1 rfl (F'.wl HW).1 rfl (fun c2 => ?_) (fun c2 => ?_)
    · rw [hN_le (by omega) (by omega)] at c2
      have pr : ∀ l, hy_ok m cm s l → hd_pr (g + 1) s (hy_mk (s :: l)) (hy_la s l) → hd_pr g a (hy_mk (s :: l)) (hy_la s l) := fun l ol hp => by
        obtain ⟨k1, k2, k3, k4, k5, k6, k7⟩ := hy_ok_s hm.2 hs ol
        unfold hd_pr at hp ⊢
        omega
      refine b_X6_leastRoundFrom_105 ?_
      rw [hI_1]
      exact ih (by omega) h' tf' T' v _ _ hk_c1i Y' F' T1 S1 ⟨C1.1, fun l x hlx hp => C1.2 l x hlx (pr l (hy_ok_l hlx).1 hp)⟩ ⟨R1.1, fun l ol hp => R1.2.1 l ol (pr l ol hp), R1.2.2⟩
    · rw [hN_le (by omega) (by omega)] at c2
      have split1 : ∀ g' a', hd_pr g (a + 1) g' a' → hd_pr g a g' a' ∨ (g' = g ∧ a' = a) := fun g' a' hp => by
        unfold hd_pr at hp ⊢; omega
      have tb := S1.b hm.2 hs cs hL (p := g * 5 + a) (by omega)
      have full : ∀ l, hy_ok m cm s l → hy_mk (s :: l) = g → hy_la s l = a → T' (g * 5 + a) ≤ hy_ps L (s :: l) := fun l ol e1 e2 => by
        have := C1.at hm.2 hs ol (fun g' a' hlt => Or.inl (by omega))
        rw [e1, e2] at this
        exact this
      refine b_X6_leastRoundFrom_56 Y'.1 rfl Y'.2.2.2.2 (g * 5 + a) (hI_ij (q := 5) (by omega) (by omega) (by omega)) (by omega) (fun c3 => ?_) (fun c3 => ?_)
      · rw [T1 _ (by omega), show (1000000 : Int32) = hI 1000000 from rfl, hI_le (by omega) (by omega)] at c3
        have none1 : ∀ l, hy_ok m cm s l → ¬ (hy_mk (s :: l) = g ∧ hy_la s l = a) := fun l ol e => by
          have h1 := full l ol e.1 e.2
          have h2 := hy_ok_b hm.2 hs cs hL ol
          omega
        refine b_X6_leastRoundFrom_99 ?_
        rw [hI_1]
        refine ih2 (by omega) h' tf' T' v _ Y' F' T1 S1 ⟨C1.1, fun l x hlx hp => ?_⟩ ⟨R1.1, fun l ol hp => ?_, R1.2.2⟩
        · rcases split1 _ _ hp with h1 | h1
          · exact C1.2 l x hlx h1
          · exact absurd h1 (none1 l (hy_ok_l hlx).1)
        · rcases split1 _ _ hp with h1 | h1
          · exact R1.2.1 l ol h1
          · exact absurd h1 (none1 l ol)
      · rw [T1 _ (by omega), show (1000000 : Int32) = hI 1000000 from rfl, hI_le (by omega) (by omega)] at c3
        obtain ⟨l0, l1, l2, l3, l4⟩ := S1.2 g a (by omega) (by omega) (by omega)
        have hb0 := hy_ok_b hm.2 hs cs hL l1
        rw [T1 _ (by omega)]
        have vb : -1188 ≤ v := by
          rcases R1.2.2 with e | ⟨l, ol, e⟩
          · omega
          · have := hy_ok_b hm.2 hs cs hL ol
            rw [hy_ps_la] at e
            omega
        have v0 := R1.1
        refine b_X6_leastRoundFrom_76 Y'.1 (s_lengthOf Y' (by omega) (by omega) ?_)
        rw [hl a s (by omega) (by omega)]
        rw [l3] at hb0
        refine b_X6_leastRoundFrom_86 ?_
        rw [hI_add]
        refine s_min (by omega) (by omega) ?_
        have hgo := s_goOn (G := G) (d := d) (K := fun h' => hk_S G m_X6_leastRoundFrom (d + 2) 0 0 99 [some (.ref 13), some (.int (hI s)), some (.int (hI (min v (T' (g * 5 + a) + L a s)))), some (.int (hI (g : Int))), some (.int (hI (a : Int))), some (.int (hI (T' (g * 5 + a))))] [] h' (fun o h' => ∃ x, o = .inl (some (.int x)) ∧ K x h')) (F'.wl HW) Y' hc hl hL hs cs T1 S1 l1 (by rw [l2, l3]; exact l4) (fun h4 tf4 T4 Y4 F4 T4' S4 D4 N4 => ?_)
        · rw [l2, l3] at hgo
          exact b_X6_leastRoundFrom_90 Y'.1 hgo
        · rw [l2, l3] at N4
          refine b_X6_leastRoundFrom_99 ?_
          rw [hI_1]
          refine ih2 (by omega) h4 tf4 T4 _ _ Y4 (F'.tr F4) T4' S4 ⟨Int.le_trans (D4 _) C1.1, fun l x hlx hp => ?_⟩ ⟨by omega, fun l ol hp => ?_, ?_⟩
          · rcases split1 _ _ hp with h1 | h1
            · exact Int.le_trans (D4 _) (C1.2 l x hlx h1)
            · obtain ⟨o1, o2, o3⟩ := hy_ok_l hlx
              obtain ⟨k1, k2, k3, k4, k5, k6, k7⟩ := hy_ok_s hm.2 hs o1
              have e2 : hy_mk (s :: (l ++ [x])) = g + 2 ^ x := by rw [← h1.1]; exact hy_mk_app (s :: l) x
              have e3 : hy_ps L (s :: (l ++ [x])) = hy_ps L (s :: l) + L a x := by rw [← h1.2]; exact hy_ps_la s l x
              have hmx : hh_mem g x = false := by
                rw [← Bool.not_eq_true, ← h1.1, k4 x (by omega)]
                rintro (c | c)
                · omega
                · exact o3 c
              have := N4 x o2.1 o2.2.1 o2.2.2 hmx
              have f2 := full l o1 h1.1 h1.2
              rw [e2, e3]
              omega
          · rcases split1 _ _ hp with h1 | h1
            · have := R1.2.1 l ol h1
              omega
            · have f2 := full l ol h1.1 h1.2
              rw [hy_ps_la, h1.2]
              omega
          · by_cases q : v ≤ T' (g * 5 + a) + L a s
            · rw [Int.min_eq_left q]; exact R1.2.2
            · rw [Int.min_eq_right (by omega)]
              refine Or.inr ⟨l0, l1, ?_⟩
              rw [hy_ps_la, l3, l4]
theorem s_leastRound (HW : hW h n m w num pw) (Y : hYs h cf lf sf tf) (hc : hYc cf cm) (hl : hYm lf L) (hL : hy_bd m cm L 198) (h0 : ∀ e, e < m → cm e = true → L e e = 0) (hneg : hy_least m cm L < 0) {K : Int32 → hk_H → Prop} (hk : ∀ h' tf', hYs h' cf lf sf tf' → hYf h h' → K (hI (hy_least m cm L)) h') : hk_Ci G m_X6_leastRound (d + 3) 0 0 [.ref 13] h K := by
  obtain ⟨w1, w2, w3, w4, hn, hm, hw6, hnum⟩ := id HW
  refine ⟨Nat.le_of_ble_eq_true rfl, ?_⟩
  refine b_X6_leastRound_0 ?_
  refine hk_upto (P := fun s => ∀ h' tf' (v : Int), hYs h' cf lf sf tf' → hYf h h' → v ≤ 0 → (∀ s' l, s' < s → cm s' = true → hy_ok m cm s' l → v ≤ hy_ps L (s' :: l ++ [s'])) → (v = 0 ∨ ∃ s' l, s' < m ∧ cm s' = true ∧ hy_ok m cm s' l ∧ v = hy_ps L (s' :: l ++ [s'])) → hk_S G m_X6_leastRound (d + 3) 0 0 4 [some (.ref 13), some (.int (hI v)), some (.int (hI (s : Int)))] [] h' (fun o h' => ∃ x, o = .inl (some (.int x)) ∧ K x h')) m (fun s hs1 ih h' tf' v Y' F' V0 V1 V2 => ?_) h tf 0 Y hYf.rf (by omega) (fun s' l h1 => by omega) (Or.inl rfl)
  refine b_X6_leastRound_4 Y'.1 rfl (F'.wl HW).1 rfl (fun cc => ?_) (fun cc => ?_)
  · rw [hN_le (by omega) (by omega)] at cc
    have ev : v = hy_least m cm L := by
      have h1 : v ≤ hy_least m cm L := by
        rcases hy_least_is (cm := cm) (L := L) hm.2 with e | ⟨f, l, a1, a2, a3, a4, a5⟩
        · omega
        · rw [a5]; exact V1 f l (by omega) a2 a3
      have h2 : hy_least m cm L ≤ v := by
        rcases V2 with e | ⟨f, l, a1, a2, a3, a4⟩
        · omega
        · by_cases q : l = []
          · subst q
            have e : hy_ps L (f :: [] ++ [f]) = L f f := by simp [hy_ps]
            rw [e, h0 f a1 a2] at a4
            omega
          · rw [a4]; exact hy_least_le hm.2 a1 a2 a3 q
      omega
    rw [ev]
    exact b_X6_leastRound_40 ⟨_, rfl, hk h' tf' Y' F'⟩
  · rw [hN_le (by omega) (by omega)] at cc
    refine b_X6_leastRound_15 Y'.1 rfl Y'.2.1 s (hI_at rfl (by omega)) (by omega) (fun c3 => ?_) (fun c3 => ?_)
    · have c3 := (hc.not0 (by omega)).mp c3
      refine b_X6_leastRound_34 ?_
      rw [hI_1]
      refine ih (by omega) h' tf' v Y' F' V0 (fun s' l h1 h2 h3 => ?_) V2
      by_cases q : s' = s
      · subst q; rw [c3] at h2; cases h2
      · exact V1 s' l (by omega) h2 h3
    · have c3 := mt (hc.not0 (by omega)).mpr c3
      rw [Bool.not_eq_false] at c3
      have vb : -1188 ≤ v := by
        rcases V2 with e | ⟨f, l, a1, a2, a3, a4⟩
        · omega
        · have := hy_ok_b hm.2 a1 a2 hL a3
          rw [hy_ps_la] at a4
          omega
      refine b_X6_leastRound_24 Y'.1 (s_leastRoundFrom (F'.wl HW) Y' hc hl hL (by omega) c3 fun h4 tf4 u Y4 F4 U => ?_)
      have ub : -1188 ≤ u := by
        rcases U.2.2 with e | ⟨l, a3, a4⟩
        · omega
        · have := hy_ok_b hm.2 (by omega) c3 hL a3
          rw [hy_ps_la] at a4
          omega
      have u0 := U.1
      refine b_X6_leastRound_30 (s_min (by omega) (by omega) ?_)
      refine b_X6_leastRound_33 ?_
      rw [hI_1]
      refine ih (by omega) h4 tf4 _ Y4 (F'.tr F4) (by omega) (fun s' l h1 h2 h3 => ?_) ?_
      · by_cases q : s' = s
        · subst q
          have := U.2.1 l h3 trivial
          omega
        · have := V1 s' l (by omega) h2 h3
          omega
      · by_cases q : v ≤ u
        · rw [Int.min_eq_left q]; exact V2
        · rw [Int.min_eq_right (by omega)]
          rcases U.2.2 with e | ⟨l, a3, a4⟩
          · exact Or.inl e
          · exact Or.inr ⟨s, l, by omega, c3, a3, a4⟩
end SDp
