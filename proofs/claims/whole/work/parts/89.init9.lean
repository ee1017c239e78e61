/-! The house as it is made. -/
def hNew (h : hk_H) (n m : Nat) : Prop := hO h n m 0 ∧ (∃ pw, hW h n m 0 (fun _ => 0) pw) ∧ hRs h 0 (fun _ => 0) ∧ hSh h 0 (fun _ => 0) (fun _ => hv_0) ∧ hHp h ∧ hWy h ∧ hMk h n (fun _ k => k)
section SI9
variable {G : hk_G} {d : Nat} {f : Nat → Option hk_AC}
def hn_of (x : Int32) : Nat := (2 + x.toInt % 3).toNat
def hm_ofm (x : Int32) : Nat := (2 + x.toInt % 4).toNat
theorem hn_of_b (x : Int32) : (2 ≤ hn_of x ∧ hn_of x ≤ 4) ∧ (2 : Int32) + hI (x.toInt % 3) = hI (hn_of x : Nat) := by
  have h1 := Int.emod_nonneg x.toInt (show (3 : Int) ≠ 0 by decide)
  have h2 := Int.emod_lt_of_pos x.toInt (show (0 : Int) < 3 by decide)
  unfold hn_of
  refine ⟨by omega, ?_⟩
  rw [show (2 : Int32) = hI 2 from rfl, hI_add]
  congr 1
  omega
theorem hm_ofm_b (x : Int32) : (2 ≤ hm_ofm x ∧ hm_ofm x ≤ 5) ∧ (2 : Int32) + hI (x.toInt % 4) = hI (hm_ofm x : Nat) := by
  have h1 := Int.emod_nonneg x.toInt (show (4 : Int) ≠ 0 by decide)
  have h2 := Int.emod_lt_of_pos x.toInt (show (0 : Int) < 4 by decide)
  unfold hm_ofm
  refine ⟨by omega, ?_⟩
  rw [show (2 : Int32) = hI 2 from rfl, hI_add]
  congr 1
  omega
theorem s_init9 {x y : Int32} (ho : f 4 = some (.inr (9, fs_9))) (hg : hMg (5, f) (hn_of x)) {K : hk_H → Prop} (hk : ∀ f' : Nat → Option hk_AC, hNew (43, f') (hn_of x) (hm_ofm y) → (∀ a, a < 4 → f' a = f a) → K (43, f')) : hk_Cv G m_X9_init (d + 1) 38 892 [.ref 4, .int x, .int y] (5, f) K := by
  obtain ⟨hn, en⟩ := hn_of_b x
  obtain ⟨hm, em⟩ := hm_ofm_b y
  generalize hn_of x = n at hn en hg hk
  generalize hm_ofm y = m at hm em hk
  refine ⟨Nat.le_of_ble_eq_true rfl, ?_⟩
  refine b_X9_init_0 (s_floorMod (m := 3) (Or.inl rfl) ?_)
  refine b_X9_init_10 (s_floorMod (m := 4) (Or.inr rfl) ?_)
  rw [en]
  refine hs_more (Nat.le_refl _) (cb := ((((0 + 1) + 1) + 35)) + 1) (sb := (((0 + 5) + 30) + 851) + 6) (by omega) (by omega) ?_
  refine b_X9_init_18 (h := (5, f)) (cq := (0 + 1) + 1) (cb := 35) (sq := (0 + 5) + 30) (sb := 851) rfl ?_
  rw [em]
  refine s_init8 rfl fun f1 a5 a6 a7 F1 => ?_
  have o4 : f1 4 = some (.inr (9, fs_9)) := (F1 4 (by decide)).trans ho
  refine hs_more (Nat.le_refl _) (cb := ((((((0 + 1) + 1) + 1) + 30)) + 1) + 1) (sb := (((((0 + 4) + 4) + 20) + 809) + 6) + 8) (by omega) (by omega) ?_
  refine b_X9_init_31 (h := (8, f1)) (cq := ((0 + 1) + 1) + 1) (cb := 30) (sq := ((0 + 4) + 4) + 20) (sb := 809) o4 (by omega) rfl rfl rfl rfl rfl rfl rfl rfl rfl ?_
  refine s_init0 rfl fun f2 a9 a10 a11 a12 F2 => ?_
  have o4 : f2 4 = some (.inr (9, [.int (hI n), .int (hI m), .ref 5, .ref 8, .int 0, .null, .null, .null, .null])) := F2 4 (by decide)
  have o8 : f2 8 = some (.inl (3, 8, .inr (.inr (.inr (.inr (fun _ => none)))))) := F2 8 (by decide)
  have o5 : f2 5 = f1 5 := F2 5 (by decide)
  have o6 : f2 6 = f1 6 := F2 6 (by decide)
  have o7 : f2 7 = f1 7 := F2 7 (by decide)
  have lo2 : ∀ a, a < 4 → f2 a = f a := fun a ha => by
    rw [F2 a (by omega)]
    show (hk_new (hk_set (hk_new (hk_set (hk_set (hk_set (8, f1) 4 _) 4 _) 4 _) _) 4 _) _).2 a = _
    rw [hk_new_ne (by show a ≠ 9; omega), hk_set_ne (by omega), hk_new_ne (by show a ≠ 8; omega), hk_set_ne (by omega), hk_set_ne (by omega), hk_set_ne (by omega)]
    show f1 a = f a
    rw [F1 a (by omega)]
    show (hk_new (5, f) _).2 a = f a
    rw [hk_new_ne (by show a ≠ 5; omega)]
  refine hs_more (Nat.le_refl _) (cb := (((((0 + 1) + 1) + 1) + 1) + 25) + 1) (sb := (((((0 + 160) + 25) + 25) + 5) + 589) + 5) (by omega) (by omega) ?_
  refine b_X9_init_69 (h := (13, f2)) (cq := (((0 + 1) + 1) + 1) + 1) (cb := 25) (sq := (((0 + 160) + 25) + 25) + 5) (sb := 589) o4 (by omega) rfl rfl ?_
  refine s_init6 rfl fun f3 a13 a14 a15 a16 a17 F3 => ?_
  have F3' : ∀ a, a < 13 → a ≠ 4 → f3 a = f2 a := fun a ha hb => by
    rw [F3 a ha]
    show (hk_new (hk_set (13, f2) 4 _) _).2 a = _
    rw [hk_new_ne (by show a ≠ 13; omega), hk_set_ne hb]
  have p4 : f3 4 = some (.inr (9, [.int (hI n), .int (hI m), .ref 5, .ref 8, .int 0, .ref 9, .null, .null, .null])) := F3 4 (by decide)
  refine hs_more (Nat.le_refl _) (cb := ((((((((0 + 1) + 1) + 1) + 1) + 1) + 1) + 1) + 17) + 1) (sb := ((((((((0 + 4) + 4) + 4) + 4) + 4) + 16) + 16) + 528) + 9) (by omega) (by omega) ?_
  refine b_X9_init_82 (h := (18, f3)) (cq := ((((((0 + 1) + 1) + 1) + 1) + 1) + 1) + 1) (cb := 17) (sq := ((((((0 + 4) + 4) + 4) + 4) + 4) + 16) + 16) (sb := 528) p4 (by omega) rfl rfl ?_
  refine s_init1 hn rfl fun f4 tf pf a18 a19 a20 D4 a21 F4 => ?_
  have F4' : ∀ a, a < 18 → a ≠ 4 → f4 a = f3 a := fun a ha hb => by
    rw [F4 a ha]
    show (hk_new (hk_set (18, f3) 4 _) _).2 a = _
    rw [hk_new_ne (by show a ≠ 18; omega), hk_set_ne hb]
  have q4 : f4 4 = some (.inr (9, [.int (hI n), .int (hI m), .ref 5, .ref 8, .int 0, .ref 9, .ref 13, .null, .null])) := F4 4 (by decide)
  refine hs_more (Nat.le_refl _) (cb := 16 + 1) (sb := 520 + 8) (by omega) (by omega) ?_
  refine b_X9_init_94 (h := (26, f4)) (cb := 16) (sb := 520) q4 (by omega) rfl rfl rfl (by omega) rfl ?_
  generalize hh5 : hk_set (hk_new (hk_set (26, f4) 4 _) _) 4 _ = h5
  have e5 : h5.1 = 27 := by rw [← hh5]; rfl
  have r4 : h5.2 4 = some (.inr (9, [.int (hI n), .int (hI m), .ref 5, .ref 8, .int 0, .ref 9, .ref 13, .ref 18, .ref 26])) := by rw [← hh5]; exact hk_set_eq
  have r26 : h5.2 26 = some (.inl (4, 8, .inr (.inr (.inr (.inr (fun _ => none)))))) := by rw [← hh5, hk_set_ne (by decide)]; exact hk_new_eq
  have F5 : ∀ a, a < 26 → a ≠ 4 → h5.2 a = f4 a := fun a ha hb => by
    rw [← hh5, hk_set_ne hb, hk_new_ne (by show a ≠ 26; omega), hk_set_ne hb]
  obtain ⟨N5, f5⟩ := h5
  simp only at e5 r4 r26 F5
  subst e5
  refine hs_more (Nat.le_refl _) (cb := 2 * (8 - 0)) (sb := 65 * (8 - 0)) (by omega) (by omega) ?_
  refine hk_upto (P := fun D => ∀ (f' : Nat → Option hk_AC) (sf : Nat → Option Nat), (∀ a, a < 26 → f' a = f5 a) → f' 26 = some (.inl (4, 8, .inr (.inr (.inr (.inr sf))))) → (∀ j, j < D → sf j = some (27 + 2 * j)) → (∀ j, j < D → f' (27 + 2 * j) = some (.inr (4, [.int 0, .null, .int 0, .int 0, .ref (28 + 2 * j)])) ∧ f' (28 + 2 * j) = some (hc_i64 60 (fun _ => 0))) → hk_S G m_X9_init (d + 1) (2 * (8 - D)) (65 * (8 - D)) 109 [some (.ref 4), some (.int x), some (.int y), some (.int (hI n)), some (.int (hI m)), some (.ref 5), some (.int (hI (D : Int)))] [] (27 + 2 * D, f') (fun o h' => o = .inl none ∧ K h')) 8 (fun D hD ih f' sf L S1 S2 S3 => ?_) f5 _ (fun _ _ => rfl) r26 (fun j hj => by omega) (fun j hj => by omega)
  refine b_X9_init_109 (fun cc => ?_) (fun cc => ?_)
  · rw [show (8 : Int32) = hI ((8 : Nat) : Int) from rfl, hN_le (by omega) (by omega)] at cc
    have eD : D = 8 := by omega
    subst eD
    have L5 : ∀ a, a < 26 → a ≠ 4 → f' a = f4 a := fun a ha hb => (L a ha).trans (F5 a ha hb)
    have L4 : ∀ a, a < 18 → a ≠ 4 → f' a = f3 a := fun a ha hb => (L5 a (by omega) hb).trans (F4' a ha hb)
    have L3 : ∀ a, a < 13 → a ≠ 4 → f' a = f2 a := fun a ha hb => (L4 a (by omega) hb).trans (F3' a ha hb)
    refine b_X9_init_136 ⟨rfl, hk f' ⟨(L 4 (by decide)).trans r4, ⟨fun _ => 0, ?_⟩, ⟨fun _ => none, (L3 8 (by decide) (by decide)).trans o8, by omega, fun j hj => by omega⟩, ⟨⟨sf, S1, S2⟩, fun j hj => ?_⟩, ?_, ?_, ?_⟩ fun a ha => (L3 a (by omega) (by omega)).trans (lo2 a ha)⟩
    · refine ⟨((L3 5 (by decide) (by decide)).trans o5).trans a5, ((L3 6 (by decide) (by decide)).trans o6).trans a6, ((L3 7 (by decide) (by decide)).trans o7).trans a7, fun i hi => ?_, hn, hm, by omega, fun k _ => ⟨by show (-99 : Int) ≤ 0; omega, by show (0 : Int) ≤ 99; omega⟩⟩
      unfold hw_pow
      rfl
    · obtain ⟨s1, s2⟩ := S3 j hj
      exact ⟨Or.inl rfl, fun c => absurd (show (0 : Nat) = 1 from c) (by decide), fun c => absurd (show (3 : Nat) ≤ 0 from c) (by decide), .null, 0, 0, _, s1, s2, fun c => absurd (show (0 : Nat) = 1 from c) (by decide), fun c => absurd (show (3 : Nat) ≤ 0 from c) (by decide)⟩
    · exact ⟨_, _, _, _, _, (L4 9 (by decide) (by decide)).trans ((F3' 9 (by decide) (by decide)).trans a9), (L3 10 (by decide) (by decide)).trans a10, (L3 11 (by decide) (by decide)).trans a11, (L3 12 (by decide) (by decide)).trans a12⟩
    · exact ⟨_, _, _, _, (L4 13 (by decide) (by decide)).trans a13, (L4 14 (by decide) (by decide)).trans a14, (L4 15 (by decide) (by decide)).trans a15, (L4 16 (by decide) (by decide)).trans a16, (L4 17 (by decide) (by decide)).trans a17⟩
    · refine ⟨fun _ _ => 0, (L5 18 (by decide) (by decide)).trans a18, (L3 (n - 1) (by omega) (by omega)).trans ((lo2 _ (by omega)).trans hg), ⟨tf, (L5 19 (by decide) (by decide)).trans a19, fun i k hi hk => ?_⟩, ⟨pf, (L5 20 (by decide) (by decide)).trans a20, fun i k hi hk => ?_⟩, fun z hz => (L5 _ (by omega) (by omega)).trans (a21 z hz), fun i hi => ⟨fun k hk => hk, fun k k' _ _ e => e⟩, hn⟩
      · rw [(D4 (i * 4 + k) (by omega)).1, show (i * 4 + k) % 4 = k by omega]
      · rw [(D4 (i * 4 + k) (by omega)).2, show (i * 4 + k) % 4 = k by omega]
  · rw [show (8 : Int32) = hI ((8 : Nat) : Int) from rfl, hN_le (by omega) (by omega)] at cc
    refine hs_more (Nat.le_refl _) (cb := ((0 + 1) + 2 * (8 - (D + 1))) + 1) (sb := ((0 + 60) + 65 * (8 - (D + 1))) + 5) (by omega) (by omega) ?_
    refine b_X9_init_116 (h := (27 + 2 * D, f')) (cq := 0 + 1) (cb := 2 * (8 - (D + 1))) (sq := 0 + 60) (sb := 65 * (8 - (D + 1))) ((L 4 (by decide)).trans r4) rfl rfl ?_
    refine s_init4 (N := 27 + 2 * D) (by omega) (hk_new_eq (h := (27 + 2 * D, f'))) fun f6 b1 b2 F6 => ?_
    have F6' : ∀ a, a < 27 + 2 * D → f6 a = f' a := fun a ha => by
      rw [F6 a ha]
      show (hk_new (27 + 2 * D, f') _).2 a = _
      rw [hk_new_ne (by show a ≠ 27 + 2 * D; omega)]
    have c26 : f6 26 = some (.inl (4, 8, .inr (.inr (.inr (.inr sf))))) := (F6' 26 (by omega)).trans S1
    refine b_X9_init_129 (h := (27 + 2 * D + 2, f6)) c26 (by omega) rfl b1 rfl (Or.inl rfl) D (hI_at rfl (by omega)) (by omega) rfl ?_
    rw [hI_1]
    have ihh := ih (by omega) (hk_set (27 + 2 * D + 2, f6) 26 (.inl (4, 8, .inr (.inr (.inr (.inr (va_up sf D (some (27 + 2 * D))))))))).2 (va_up sf D (some (27 + 2 * D))) (fun a ha => ?_) hk_set_eq (fun j hj => ?_) (fun j hj => ?_)
    · exact ihh
    · rw [hk_set_ne (by omega)]
      exact (F6' a (by omega)).trans (L a ha)
    · unfold va_up
      by_cases e : j = D
      · rw [if_pos e, e]
      · rw [if_neg e]; exact S2 j (by omega)
    · rw [hk_set_ne (by omega), hk_set_ne (by omega)]
      by_cases e : j = D
      · subst e
        rw [show 28 + 2 * j = 27 + 2 * j + 1 by omega]
        exact ⟨b1, b2⟩
      · obtain ⟨s1, s2⟩ := S3 j (by omega)
        exact ⟨(F6' _ (by omega)).trans s1, (F6' _ (by omega)).trans s2⟩
end SI9
