/-! The class's constructors, at the cells where the law makes them. -/
section SIn
variable {G : hk_G} {d : Nat} {f : Nat → Option hk_AC}
theorem s_init8 (ho : f 5 = some (.inr (8, fs_8))) {x y : Int32} {K : hk_H → Prop} (hk : ∀ f' : Nat → Option hk_AC, f' 5 = some (.inr (8, [.int x, .int y, .ref 6, .ref 7, .int 0, .int 0])) → f' 6 = some (hc_i32 30 (fun _ => 0)) → f' 7 = some (hc_i32 5 (fun _ => 0)) → (∀ a, a < 5 → f' a = f a) → K (8, f')) : hk_Cv G m_X8_init d ((0 + 1) + 1) ((0 + 5) + 30) [.ref 5, .int x, .int y] (6, f) K := by
  refine ⟨Nat.le_of_ble_eq_true rfl, ?_⟩
  refine b_X8_init_0 (cb := 0) (sb := 0) ho (by omega) rfl hk_set_eq rfl rfl rfl rfl rfl rfl rfl ⟨rfl, hk _ rfl rfl rfl fun a ha => ?_⟩
  show (hk_set _ 5 _).2 a = f a
  rw [hk_set_ne (by omega), hk_new_ne (by show a ≠ 7; omega), hk_set_ne (by omega), hk_new_ne (by show a ≠ 6; omega), hk_set_ne (by omega), hk_set_ne (by omega)]
theorem s_init0 (ho : f 9 = some (.inr (0, fs_0))) {K : hk_H → Prop} (hk : ∀ f' : Nat → Option hk_AC, f' 9 = some (.inr (0, [.ref 5, .ref 10, .ref 11, .ref 12, .int 0, .int 0])) → f' 10 = some (hc_i32 20 (fun _ => 0)) → f' 11 = some (hc_i32 4 (fun _ => 0)) → f' 12 = some (hc_i32 4 (fun _ => 0)) → (∀ a, a < 9 → f' a = f a) → K (13, f')) : hk_Cv G m_X0_init d (((0 + 1) + 1) + 1) (((0 + 4) + 4) + 20) [.ref 9, .ref 5] (10, f) K := by
  refine ⟨Nat.le_of_ble_eq_true rfl, ?_⟩
  refine b_X0_init_0 (cb := 0) (sb := 0) ho (by omega) rfl rfl rfl rfl rfl rfl rfl rfl rfl rfl ⟨rfl, hk _ rfl rfl rfl rfl fun a ha => ?_⟩
  show (hk_set _ 9 _).2 a = f a
  rw [hk_set_ne (by omega), hk_new_ne (by show a ≠ 12; omega), hk_set_ne (by omega), hk_new_ne (by show a ≠ 11; omega), hk_set_ne (by omega), hk_new_ne (by show a ≠ 10; omega), hk_set_ne (by omega)]
theorem s_init6 (ho : f 13 = some (.inr (6, fs_6))) {K : hk_H → Prop} (hk : ∀ f' : Nat → Option hk_AC, f' 13 = some (.inr (6, [.ref 5, .ref 14, .ref 15, .ref 16, .ref 17])) → f' 14 = some (.inl (2, 5, .inl (fun _ => 0))) → f' 15 = some (hc_i32 25 (fun _ => 0)) → f' 16 = some (hc_i32 25 (fun _ => 0)) → f' 17 = some (hc_i32 160 (fun _ => 0)) → (∀ a, a < 13 → f' a = f a) → K (18, f')) : hk_Cv G m_X6_init d ((((0 + 1) + 1) + 1) + 1) ((((0 + 160) + 25) + 25) + 5) [.ref 13, .ref 5] (14, f) K := by
  refine ⟨Nat.le_of_ble_eq_true rfl, ?_⟩
  refine b_X6_init_0 (cb := 0) (sb := 0) ho (by omega) rfl rfl rfl rfl rfl rfl rfl rfl rfl rfl 160 (by decide) (by omega) rfl rfl rfl ⟨rfl, hk _ rfl rfl rfl rfl rfl fun a ha => ?_⟩
  show (hk_set _ 13 _).2 a = f a
  rw [hk_set_ne (by omega), hk_new_ne (by show a ≠ 17; omega), hk_set_ne (by omega), hk_new_ne (by show a ≠ 16; omega), hk_set_ne (by omega), hk_new_ne (by show a ≠ 15; omega), hk_set_ne (by omega), hk_new_ne (by show a ≠ 14; omega), hk_set_ne (by omega)]
theorem s_init4 {N : Nat} (hN : 4 ≤ N) (ho : f N = some (.inr (4, fs_4))) {K : hk_H → Prop} (hk : ∀ f' : Nat → Option hk_AC, f' N = some (.inr (4, [.int 0, .null, .int 0, .int 0, .ref (N + 1)])) → f' (N + 1) = some (hc_i64 60 (fun _ => 0)) → (∀ a, a < N → f' a = f a) → K (N + 2, f')) : hk_Cv G m_X4_init d (0 + 1) (0 + 60) [.ref N] (N + 1, f) K := by
  refine ⟨Nat.le_of_ble_eq_true rfl, ?_⟩
  refine b_X4_init_0 (cb := 0) (sb := 0) rfl ((hk_new_ne (show N ≠ N + 1 by omega)).trans ho) hN rfl ⟨rfl, hk _ ?_ ?_ fun a ha => ?_⟩
  · show (hk_set _ N _).2 N = _
    rw [hk_set_eq]
    rfl
  · show (hk_set _ N _).2 (N + 1) = _
    rw [hk_set_ne (by omega)]
    exact hk_new_eq (h := (N + 1, f))
  · show (hk_set _ N _).2 a = f a
    rw [hk_set_ne (by omega), hk_new_ne (by show a ≠ N + 1; omega)]
theorem s_init1_91 {n : Nat} {f : Nat → Option hk_AC} (ho : f 18 = some (.inr (1, [.int (hI n), .ref (n - 1), .ref 19, .ref 20, .ref 21, .ref 22, .ref 23, .ref 24, .ref 25]))) {t0 p0 : Nat → Int32} (ht : f 19 = some (hc_i32 16 t0)) (hp : f 20 = some (hc_i32 16 p0)) {K : hk_H → Prop} (hk : ∀ (f' : Nat → Option hk_AC) (tf pf : Nat → Int32), f' 19 = some (hc_i32 16 tf) → f' 20 = some (hc_i32 16 pf) → (∀ k, k < 16 → tf k = hI ((k % 4 : Nat) : Int) ∧ pf k = hI ((k % 4 : Nat) : Int)) → (∀ a, a ≠ 19 → a ≠ 20 → f' a = f a) → K (26, f')) : hk_S G m_X1_init d 0 0 91 [some (.ref 18), some (.int (hI n)), some (.int 0)] [] (26, f) (fun o h' => o = .inl none ∧ K h') := by
  refine hk_upto (P := fun q => ∀ (f' : Nat → Option hk_AC) (tf pf : Nat → Int32), f' 19 = some (hc_i32 16 tf) → f' 20 = some (hc_i32 16 pf) → (∀ k, k < q → tf k = hI ((k % 4 : Nat) : Int) ∧ pf k = hI ((k % 4 : Nat) : Int)) → (∀ a, a ≠ 19 → a ≠ 20 → f' a = f a) → hk_S G m_X1_init d 0 0 91 [some (.ref 18), some (.int (hI n)), some (.int (hI (q : Int)))] [] (26, f') (fun o h' => o = .inl none ∧ K h')) 16 (fun q hq ih f' tf pf t1 p1 D F => ?_) f t0 p0 ht hp (fun k hk => by omega) (fun _ _ _ => rfl)
  refine b_X1_init_91 (fun cc => ?_) (fun cc => ?_)
  · rw [show (16 : Int32) = hI ((16 : Nat) : Int) from rfl, hN_le (by omega) (by omega)] at cc
    exact b_X1_init_121 ⟨rfl, hk f' tf pf t1 p1 (fun k hk => D k (by omega)) F⟩
  · rw [show (16 : Int32) = hI ((16 : Nat) : Int) from rfl, hN_le (by omega) (by omega)] at cc
    have o1 : f' 18 = some (.inr (1, [.int (hI n), .ref (n - 1), .ref 19, .ref 20, .ref 21, .ref 22, .ref 23, .ref 24, .ref 25])) := (F 18 (by decide) (by decide)).trans ho
    have e3 : hI (q : Int) - hI (q : Int) / 4 * 4 = hI ((q % 4 : Nat) : Int) := by
      rw [show (4 : Int32) = hI ((4 : Nat) : Int) from rfl, hI_divN (by omega) (by omega) (by omega), hI_mul, hI_sub]
      congr 1
      omega
    refine b_X1_init_97 (h := (26, f')) o1 rfl t1 (by omega) q (hI_at rfl (by omega)) (by omega) rfl ((hk_set_ne (h := (26, f')) (by decide)).trans o1) rfl ((hk_set_ne (h := (26, f')) (by decide)).trans p1) (by omega) (by omega) rfl ?_
    rw [e3, hI_1]
    refine ih (by omega) _ (upd tf q (hI ((q % 4 : Nat) : Int))) (upd pf q (hI ((q % 4 : Nat) : Int))) ?_ rfl (fun k hk => ?_) (fun a h1 h2 => ?_)
    · rfl
    · unfold upd
      by_cases e : k = q
      · rw [if_pos e, if_pos e, e]; exact ⟨rfl, rfl⟩
      · rw [if_neg e, if_neg e]; exact D k (by omega)
    · show (hk_set _ 20 _).2 a = _
      rw [hk_set_ne h2, hk_set_ne h1]
      exact F a h1 h2
theorem s_init1 {n : Nat} (hn : 2 ≤ n ∧ n ≤ 4) (ho : f 18 = some (.inr (1, fs_1))) {K : hk_H → Prop} (hk : ∀ (f' : Nat → Option hk_AC) (tf pf : Nat → Int32), f' 18 = some (.inr (1, [.int (hI n), .ref (n - 1), .ref 19, .ref 20, .ref 21, .ref 22, .ref 23, .ref 24, .ref 25])) → f' 19 = some (hc_i32 16 tf) → f' 20 = some (hc_i32 16 pf) → (∀ k, k < 16 → tf k = hI ((k % 4 : Nat) : Int) ∧ pf k = hI ((k % 4 : Nat) : Int)) → (∀ x, x < 5 → f' (21 + x) = some (hc_i32 4 (fun _ => 0))) → (∀ a, a < 18 → f' a = f a) → K (26, f')) : hk_Cv G m_X1_init d (((((((0 + 1) + 1) + 1) + 1) + 1) + 1) + 1) (((((((0 + 4) + 4) + 4) + 4) + 4) + 16) + 16) [.ref 18, .int (hI n)] (19, f) K := by
  have x5 : ∀ {g : Nat → Option hk_AC} {c : hk_AC}, g 21 = some c → g 22 = some c → g 23 = some c → g 24 = some c → g 25 = some c → ∀ x, x < 5 → g (21 + x) = some c := by
    intro g c h0 h1 h2 h3 h4 x hx
    have : x = 0 ∨ x = 1 ∨ x = 2 ∨ x = 3 ∨ x = 4 := by omega
    rcases this with e | e | e | e | e <;> subst e <;> assumption
  have lo : ∀ c1 c2 c3 c4 c5 c6 c7 c8 c9 v1 v2 v3 v4 v5 v6 v7 a, a < 18 → (hk_set (hk_new (hk_set (hk_new (hk_set (hk_new (hk_set (hk_new (hk_set (hk_new (hk_set (hk_new (hk_set (hk_new (hk_set (hk_set (19, f) 18 c1) 18 c2) v1) 18 c3) v2) 18 c4) v3) 18 c5) v4) 18 c6) v5) 18 c7) v6) 18 c8) v7) 18 c9).2 a = f a := by
    intro c1 c2 c3 c4 c5 c6 c7 c8 c9 v1 v2 v3 v4 v5 v6 v7 a ha
    rw [hk_set_ne (by omega), hk_new_ne (by show a ≠ 25; omega), hk_set_ne (by omega), hk_new_ne (by show a ≠ 24; omega), hk_set_ne (by omega), hk_new_ne (by show a ≠ 23; omega), hk_set_ne (by omega), hk_new_ne (by show a ≠ 22; omega), hk_set_ne (by omega), hk_new_ne (by show a ≠ 21; omega), hk_set_ne (by omega), hk_new_ne (by show a ≠ 20; omega), hk_set_ne (by omega), hk_new_ne (by show a ≠ 19; omega), hk_set_ne (by omega), hk_set_ne (by omega)]
  refine ⟨Nat.le_of_ble_eq_true rfl, ?_⟩
  have : n = 2 ∨ n = 3 ∨ n = 4 := by omega
  rcases this with e | e | e
  · subst e
    refine b_X1_init_0 ho (by omega) rfl (fun z => absurd rfl z) (fun _ => ?_)
    refine b_X1_init_15 (cb := 0) (sb := 0) rfl (by omega) rfl rfl rfl (by omega) rfl rfl rfl rfl rfl rfl rfl rfl rfl rfl rfl rfl rfl rfl rfl rfl rfl rfl rfl ?_
    refine s_init1_91 (n := 2) rfl rfl rfl fun f' tf pf t1 p1 D F => hk f' tf pf (F 18 (by decide) (by decide)) t1 p1 D (fun x hx => (F _ (by omega) (by omega)).trans (x5 rfl rfl rfl rfl rfl x hx)) fun a ha => (F a (by omega) (by omega)).trans (lo _ _ _ _ _ _ _ _ _ _ _ _ _ _ _ _ a ha)
  · subst e
    refine b_X1_init_0 ho (by omega) rfl (fun _ => ?_) (fun z => absurd z (by decide))
    refine b_X1_init_21 (fun z => absurd rfl z) (fun _ => ?_)
    refine b_X1_init_26 (cb := 0) (sb := 0) rfl (by omega) rfl rfl rfl (by omega) rfl rfl rfl rfl rfl rfl rfl rfl rfl rfl rfl rfl rfl rfl rfl rfl rfl rfl rfl ?_
    refine s_init1_91 (n := 3) rfl rfl rfl fun f' tf pf t1 p1 D F => hk f' tf pf (F 18 (by decide) (by decide)) t1 p1 D (fun x hx => (F _ (by omega) (by omega)).trans (x5 rfl rfl rfl rfl rfl x hx)) fun a ha => (F a (by omega) (by omega)).trans (lo _ _ _ _ _ _ _ _ _ _ _ _ _ _ _ _ a ha)
  · subst e
    refine b_X1_init_0 ho (by omega) rfl (fun _ => ?_) (fun z => absurd z (by decide))
    refine b_X1_init_21 (fun _ => ?_) (fun z => absurd z (by decide))
    refine b_X1_init_32 (cb := 0) (sb := 0) rfl (by omega) rfl rfl rfl (by omega) rfl rfl rfl rfl rfl rfl rfl rfl rfl rfl rfl rfl rfl rfl rfl rfl rfl rfl rfl ?_
    refine s_init1_91 (n := 4) rfl rfl rfl fun f' tf pf t1 p1 D F => hk f' tf pf (F 18 (by decide) (by decide)) t1 p1 D (fun x hx => (F _ (by omega) (by omega)).trans (x5 rfl rfl rfl rfl rfl x hx)) fun a ha => (F a (by omega) (by omega)).trans (lo _ _ _ _ _ _ _ _ _ _ _ _ _ _ _ _ a ha)
end SIn
