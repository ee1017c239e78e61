/-- a rule as it is when it is new -/
def hr_new (kd : Nat) : hr_R := (kd, fun _ => 0, fun _ _ => 0, fun _ => 0, fun i => if i < 4 then 1 else 0, fun _ => 0)
theorem hr_new_ok {n m w kd : Nat} (hk : kd ≤ 3) (hm : 2 ≤ m) : hr_ok n m w (hr_new kd) := by
  refine ⟨hk, fun r _ => ?_, fun r i _ _ => ?_, fun e _ => ?_, fun i hi => ?_, fun i _ => ?_⟩
  · show 0 < m; omega
  · show -9999 ≤ (0 : Int) ∧ (0 : Int) ≤ 9999; omega
  · show -99 ≤ (0 : Int) ∧ (0 : Int) ≤ 99; omega
  · show (0 : Int) ≤ (if i < 4 then 1 else 0) ∧ (if i < 4 then (1 : Int) else 0) ≤ 9
    split <;> omega
  · show 0 < m; omega
section NU
variable {G : hk_G} {h : hk_H} {n m w : Nat} {num : Nat → Int} {pw : Nat → Int32} {d q k : Nat}
theorem s_newRule (HW : hW h n m w num pw) (hh : 71 ≤ h.1) {kd : Nat} (hkd : kd ≤ 3) {K : Option Nat → hk_H → Prop} (hk : ∀ h' ef pf, h'.1 = h.1 + 1 + hr_sz kd → hRu h' h.1 k n m w num (hr_new kd) ef pf → (∀ a, a < h.1 → h'.2 a = h.2 a) → K (some h.1) h') : hk_Cr G m_X9_newRule (d + 3) 6 6501 [.int (hI kd), .int (hI k), .ref 5] h K := by
  obtain ⟨w1, w2, w3, w4, w5, w6, w7, w8⟩ := id HW
  have hrow := hw_pow_lt (i := n) w7 (by omega)
  have hle : hw_pow w n * n ≤ 1296 * 4 := Nat.mul_le_mul hrow (by omega)
  have hok := hr_new_ok (n := n) (w := w) hkd w6.1
  have hW' : ∀ c, hW (hk_new h c) n m w num pw := fun c => HW.fr fun a ha hb => by rw [hk_new_ne (by omega)]
  refine ⟨Nat.le_of_ble_eq_true rfl, ?_⟩
  rcases (show kd = 0 ∨ kd = 1 ∨ kd = 2 ∨ kd = 3 by omega) with rfl | rfl | rfl | rfl
  · refine b_X9_newRule_0 (fun c => absurd c (by decide)) (fun c => absurd c (by decide)) (fun c => absurd c (by decide)) (fun _ _ _ => ?_)
    refine hs_more (Nat.le_refl _) (cb := ((0 + 1) + 0) + 1) (sb := ((0 + hw_pow w n) + 0) + 3) (by omega) (by omega) ?_
    refine b_X9_newRule_58 (cb := 0) (sb := 0) rfl (s_init5_5 (hW' _) ⟨by omega, by show h.1 < h.1 + 1; omega⟩ hk_new_eq fun h1 e1 o1 a1 f1 => ?_)
    refine b_X9_newRule_67 ⟨some h.1, rfl, hk h1 (fun _ => 0) (fun _ => 0) e1 ⟨hok, by omega, o1, a1, fun c => absurd c (by decide), fun c => absurd c (by decide), fun c => absurd c (by decide), fun r hr => Or.inr ⟨rfl, fun c => absurd c (by decide)⟩⟩ fun a ha => ?_⟩
    rw [f1 a (by omega) (by show a ≠ h.1 + 1; omega), hk_new_ne (by omega)]
  · refine b_X9_newRule_0 (fun _ => ?_) (fun c => absurd c (by decide)) (fun c => absurd c (by decide)) (fun c _ _ => absurd rfl c)
    refine hs_more (Nat.le_refl _) (cb := (((0 + 1) + (0 + 1)) + 0) + 1) (sb := (((0 + hw_pow w n) + (0 + hw_pow w n * n)) + 0) + 4) (by omega) (by omega) ?_
    refine b_X9_newRule_28 (cb := 0) (sb := 0) rfl (s_init3_3 (hW' _) ⟨by omega, by show h.1 < h.1 + 1; omega⟩ hk_new_eq fun h1 e1 o1 a1 p1 f1 => ?_)
    refine b_X9_newRule_37 ⟨some h.1, rfl, hk h1 (fun _ => 0) (fun _ => 0) e1 ⟨hok, by omega, o1, a1, fun _ => p1, fun c => absurd c (by decide), fun c => absurd c (by decide), fun r hr => Or.inr ⟨rfl, fun _ i _ => rfl⟩⟩ fun a ha => ?_⟩
    rw [f1 a (by omega) (by show a ≠ h.1 + 1; omega) (by show a ≠ h.1 + 1 + 1; omega), hk_new_ne (by omega)]
  · refine b_X9_newRule_0 (fun c => absurd c (by decide)) (fun _ => ?_) (fun c => absurd c (by decide)) (fun _ c _ => absurd rfl c)
    refine hs_more (Nat.le_refl _) (cb := ((((0 + 1) + (0 + 1)) + (((0 + 1) + 1) + 1)) + 0) + 1) (sb := ((((0 + hw_pow w n) + (0 + hw_pow w n * n)) + (((0 + 5) + 4) + 5)) + 0) + 7) (by omega) (by omega) ?_
    refine b_X9_newRule_38 (cb := 0) (sb := 0) rfl (s_init7 (hW' _) ⟨by omega, by show h.1 < h.1 + 1; omega⟩ hk_new_eq fun h1 ef e1 o1 a1 m1 p1 c2 c3 c4 f1 => ?_)
    refine b_X9_newRule_47 ⟨some h.1, rfl, hk h1 ef (fun _ => 0) e1 ⟨hok, by omega, o1, a1, fun _ => p1, fun _ => ⟨c2, ?_, _, c4⟩, fun c => absurd c (by decide), fun r hr => Or.inl ⟨by decide, m1 r hr⟩⟩ fun a ha => ?_⟩
    · show h1.2 (h.1 + 1 + 3) = _
      rw [show (fun i => hI ((hr_new 2).2.2.2.2.1 i)) = fun j => if j < 4 then 1 else 0 from funext fun j => by
        show hI (if j < 4 then 1 else 0) = _
        split <;> rfl]
      exact c3
    · rw [f1 a (by omega) (by show a < h.1 + 1; omega), hk_new_ne (by omega)]
  · refine b_X9_newRule_0 (fun c => absurd c (by decide)) (fun c => absurd c (by decide)) (fun _ => ?_) (fun _ _ c => absurd rfl c)
    refine hs_more (Nat.le_refl _) (cb := (((0 + 1) + ((0 + 1) + 1)) + 0) + 1) (sb := (((0 + hw_pow w n) + ((0 + 5) + 3)) + 0) + 5) (by omega) (by omega) ?_
    refine b_X9_newRule_48 (cb := 0) (sb := 0) rfl (s_init2 (hW' _) ⟨by omega, by show h.1 < h.1 + 1; omega⟩ hk_new_eq fun h1 ef e1 o1 a1 m1 c1 c2 f1 => ?_)
    refine b_X9_newRule_57 ⟨some h.1, rfl, hk h1 ef (fun _ => 0) e1 ⟨hok, by omega, o1, a1, fun c => absurd c (by decide), fun c => absurd c (by decide), fun _ => ⟨c1, _, c2⟩, fun r hr => Or.inl ⟨by decide, m1 r hr⟩⟩ fun a ha => ?_⟩
    rw [f1 a (by omega) (by show a < h.1 + 1; omega), hk_new_ne (by omega)]
end NU
