/-! New rules. -/
theorem s_fillx {G : hk_G} {h : hk_H} {d : Nat} {n a : Nat} {f : Nat → Int32} {v : Int32} (ha : h.2 a = some (hc_i32 n f)) (h4 : 4 ≤ a) (hn : n < 2147483648) {K : hk_H → Prop} (hk : K (hk_set h a (hc_i32 n (fun j => if j < n then v else f j)))) : hk_Cv G m_J7_fill_53178 d 0 0 [.ref a, .int v] h K := by
  refine ⟨Nat.le_of_ble_eq_true rfl, ?_⟩
  refine b_J7_fill_53178_0 ha (by decide) ?_
  have h0 := hk_upto (P := fun i => hk_S G m_J7_fill_53178 d 0 0 5 [some (.ref a), some (.int v), some (.int (hI (i : Int))), some (.int (Int32.ofNat n))] [] (hk_set h a (hc_i32 n (fun j => if j < i then v else f j))) (fun o h' => o = .inl none ∧ K h')) n (fun i hi ih => ?_)
  · rw [show (fun j => if j < 0 then v else f j) = f from funext fun j => if_neg (by omega), hk_set_self ha] at h0
    exact h0
  · refine b_J7_fill_53178_5 (fun c => ?_) (fun c => ?_)
    · rw [hI_ofNat, hN_le (by omega) (by omega)] at c
      have e : i = n := by omega
      subst e
      exact b_J7_fill_53178_20 ⟨rfl, hk⟩
    · rw [hI_ofNat, hN_le (by omega) (by omega)] at c
      refine b_J7_fill_53178_10 hk_set_eq h4 i (hI_at rfl (by omega)) (by omega) hk_set_set ?_
      rw [hI_1]
      have z := ih (by omega)
      rw [show (fun j => if j < i + 1 then v else f j) = upd (fun j => if j < i then v else f j) i v from funext fun j => by
        unfold upd
        by_cases e : j = i
        · simp [e]
        · by_cases e2 : j < i
          · simp [e, e2, show j < i + 1 by omega]
          · simp [e, e2, show ¬ j < i + 1 by omega]] at z
      exact z
section NR
variable {G : hk_G} {h : hk_H} {n m w : Nat} {num : Nat → Int} {pw : Nat → Int32} {d q k : Nat}
theorem s_init5_5 (HW : hW h n m w num pw) (hq : 43 ≤ q ∧ q < h.1) (ho : h.2 q = some (.inr (5, fs_5))) {K : hk_H → Prop} (hk : ∀ h', h'.1 = h.1 + 1 → h'.2 q = some (.inr (5, [.int (hI k), .ref 5, .ref h.1])) → h'.2 h.1 = some (hc_i32 (hw_pow w n) (fun _ => 0)) → (∀ a, a ≠ q → a ≠ h.1 → h'.2 a = h.2 a) → K h') : hk_Cv G m_X5_init d (0 + 1) (0 + hw_pow w n) [.ref q, .int (hI k), .ref 5] h K := by
  obtain ⟨w1, w2, w3, w4, w5, w6, w7, w8⟩ := id HW
  have hrow := hw_pow_lt (i := n) w7 (by omega)
  refine ⟨Nat.le_of_ble_eq_true rfl, ?_⟩
  refine b_X5_init_0 ho fw_X5_9_5 (by omega) rfl hk_set_eq fw_X5_15_5 rfl (by rw [hk_set_ne (by omega), hk_set_ne (by omega)]; exact w1) rfl (hw_pow w n) (hI_at rfl (by omega)) (by omega) rfl (by rw [hk_new_ne (by show q ≠ h.1; omega)]; exact hk_set_eq) fw_X5_24_5 rfl ⟨rfl, ?_⟩
  refine hk _ rfl hk_set_eq ?_ (fun a ha hb => ?_)
  · rw [hk_set_ne (by omega)]
    exact hk_new_eq
  · rw [hk_set_ne ha, hk_new_ne (by exact hb), hk_set_ne ha, hk_set_ne ha]
theorem s_init5_3 (HW : hW h n m w num pw) (hq : 43 ≤ q ∧ q < h.1) (ho : h.2 q = some (.inr (3, fs_3))) {K : hk_H → Prop} (hk : ∀ h', h'.1 = h.1 + 1 → h'.2 q = some (.inr (3, [.int (hI k), .ref 5, .ref h.1, .null])) → h'.2 h.1 = some (hc_i32 (hw_pow w n) (fun _ => 0)) → (∀ a, a ≠ q → a ≠ h.1 → h'.2 a = h.2 a) → K h') : hk_Cv G m_X5_init d (0 + 1) (0 + hw_pow w n) [.ref q, .int (hI k), .ref 5] h K := by
  obtain ⟨w1, w2, w3, w4, w5, w6, w7, w8⟩ := id HW
  have hrow := hw_pow_lt (i := n) w7 (by omega)
  refine ⟨Nat.le_of_ble_eq_true rfl, ?_⟩
  refine b_X5_init_0 ho fw_X5_9_3 (by omega) rfl hk_set_eq fw_X5_15_3 rfl (by rw [hk_set_ne (by omega), hk_set_ne (by omega)]; exact w1) rfl (hw_pow w n) (hI_at rfl (by omega)) (by omega) rfl (by rw [hk_new_ne (by show q ≠ h.1; omega)]; exact hk_set_eq) fw_X5_24_3 rfl ⟨rfl, ?_⟩
  refine hk _ rfl hk_set_eq ?_ (fun a ha hb => ?_)
  · rw [hk_set_ne (by omega)]
    exact hk_new_eq
  · rw [hk_set_ne ha, hk_new_ne (by exact hb), hk_set_ne ha, hk_set_ne ha]
theorem s_init5_7 (HW : hW h n m w num pw) (hq : 43 ≤ q ∧ q < h.1) (ho : h.2 q = some (.inr (7, fs_7))) {K : hk_H → Prop} (hk : ∀ h', h'.1 = h.1 + 1 → h'.2 q = some (.inr (7, [.null, .int (hI k), .ref 5, .ref h.1, .null, .null, .null])) → h'.2 h.1 = some (hc_i32 (hw_pow w n) (fun _ => 0)) → (∀ a, a ≠ q → a ≠ h.1 → h'.2 a = h.2 a) → K h') : hk_Cv G m_X5_init d (0 + 1) (0 + hw_pow w n) [.ref q, .int (hI k), .ref 5] h K := by
  obtain ⟨w1, w2, w3, w4, w5, w6, w7, w8⟩ := id HW
  have hrow := hw_pow_lt (i := n) w7 (by omega)
  refine ⟨Nat.le_of_ble_eq_true rfl, ?_⟩
  refine b_X5_init_0 ho fw_X5_9_7 (by omega) rfl hk_set_eq fw_X5_15_7 rfl (by rw [hk_set_ne (by omega), hk_set_ne (by omega)]; exact w1) rfl (hw_pow w n) (hI_at rfl (by omega)) (by omega) rfl (by rw [hk_new_ne (by show q ≠ h.1; omega)]; exact hk_set_eq) fw_X5_24_7 rfl ⟨rfl, ?_⟩
  refine hk _ rfl hk_set_eq ?_ (fun a ha hb => ?_)
  · rw [hk_set_ne (by omega)]
    exact hk_new_eq
  · rw [hk_set_ne ha, hk_new_ne (by exact hb), hk_set_ne ha, hk_set_ne ha]
theorem s_init5_2 (HW : hW h n m w num pw) (hq : 43 ≤ q ∧ q < h.1) (ho : h.2 q = some (.inr (2, fs_2))) {K : hk_H → Prop} (hk : ∀ h', h'.1 = h.1 + 1 → h'.2 q = some (.inr (2, [.int (hI k), .ref 5, .ref h.1, .null, .null])) → h'.2 h.1 = some (hc_i32 (hw_pow w n) (fun _ => 0)) → (∀ a, a ≠ q → a ≠ h.1 → h'.2 a = h.2 a) → K h') : hk_Cv G m_X5_init d (0 + 1) (0 + hw_pow w n) [.ref q, .int (hI k), .ref 5] h K := by
  obtain ⟨w1, w2, w3, w4, w5, w6, w7, w8⟩ := id HW
  have hrow := hw_pow_lt (i := n) w7 (by omega)
  refine ⟨Nat.le_of_ble_eq_true rfl, ?_⟩
  refine b_X5_init_0 ho fw_X5_9_2 (by omega) rfl hk_set_eq fw_X5_15_2 rfl (by rw [hk_set_ne (by omega), hk_set_ne (by omega)]; exact w1) rfl (hw_pow w n) (hI_at rfl (by omega)) (by omega) rfl (by rw [hk_new_ne (by show q ≠ h.1; omega)]; exact hk_set_eq) fw_X5_24_2 rfl ⟨rfl, ?_⟩
  refine hk _ rfl hk_set_eq ?_ (fun a ha hb => ?_)
  · rw [hk_set_ne (by omega)]
    exact hk_new_eq
  · rw [hk_set_ne ha, hk_new_ne (by exact hb), hk_set_ne ha, hk_set_ne ha]
theorem s_init3_3 (HW : hW h n m w num pw) (hq : 43 ≤ q ∧ q < h.1) (ho : h.2 q = some (.inr (3, fs_3))) {K : hk_H → Prop} (hk : ∀ h', h'.1 = h.1 + 2 → h'.2 q = some (.inr (3, [.int (hI k), .ref 5, .ref h.1, .ref (h.1 + 1)])) → h'.2 h.1 = some (hc_i32 (hw_pow w n) (fun _ => 0)) → h'.2 (h.1 + 1) = some (hc_i32 (hw_pow w n * n) (fun _ => 0)) → (∀ a, a ≠ q → a ≠ h.1 → a ≠ h.1 + 1 → h'.2 a = h.2 a) → K h') : hk_Cv G m_X3_init (d + 1) ((0 + 1) + (0 + 1)) ((0 + hw_pow w n) + (0 + hw_pow w n * n)) [.ref q, .int (hI k), .ref 5] h K := by
  obtain ⟨w1, w2, w3, w4, w5, w6, w7, w8⟩ := id HW
  have hrow := hw_pow_lt (i := n) w7 (by omega)
  have hle : hw_pow w n * n ≤ 1296 * 4 := Nat.mul_le_mul hrow (by omega)
  refine ⟨Nat.le_of_ble_eq_true rfl, ?_⟩
  refine b_X3_init_0 (s_init5_3 HW hq ho fun h1 e1 o1 a1 f1 => ?_)
  refine b_X3_init_6 (by rw [f1 5 (by omega) (by omega)]; exact w1) rfl rfl (hw_pow w n * n) (by rw [hI_mul]; exact hI_at (by push_cast; rfl) (by omega)) (by omega) rfl (by rw [hk_new_ne (by omega)]; exact o1) fw_X3_16_3 (by omega) rfl ⟨rfl, ?_⟩
  refine hk _ ?_ ?_ ?_ ?_ (fun a ha hb hc => ?_)
  · show h1.1 + 1 = h.1 + 2
    omega
  · rw [hk_set_eq, e1]
    rfl
  · rw [hk_set_ne (by omega), hk_new_ne (by omega)]
    exact a1
  · rw [hk_set_ne (by omega), ← e1]
    exact hk_new_eq
  · rw [hk_set_ne ha, hk_new_ne (by omega)]
    exact f1 a ha hb
theorem s_init3_7 (HW : hW h n m w num pw) (hq : 43 ≤ q ∧ q < h.1) (ho : h.2 q = some (.inr (7, fs_7))) {K : hk_H → Prop} (hk : ∀ h', h'.1 = h.1 + 2 → h'.2 q = some (.inr (7, [.ref (h.1 + 1), .int (hI k), .ref 5, .ref h.1, .null, .null, .null])) → h'.2 h.1 = some (hc_i32 (hw_pow w n) (fun _ => 0)) → h'.2 (h.1 + 1) = some (hc_i32 (hw_pow w n * n) (fun _ => 0)) → (∀ a, a ≠ q → a ≠ h.1 → a ≠ h.1 + 1 → h'.2 a = h.2 a) → K h') : hk_Cv G m_X3_init (d + 1) ((0 + 1) + (0 + 1)) ((0 + hw_pow w n) + (0 + hw_pow w n * n)) [.ref q, .int (hI k), .ref 5] h K := by
  obtain ⟨w1, w2, w3, w4, w5, w6, w7, w8⟩ := id HW
  have hrow := hw_pow_lt (i := n) w7 (by omega)
  have hle : hw_pow w n * n ≤ 1296 * 4 := Nat.mul_le_mul hrow (by omega)
  refine ⟨Nat.le_of_ble_eq_true rfl, ?_⟩
  refine b_X3_init_0 (s_init5_7 HW hq ho fun h1 e1 o1 a1 f1 => ?_)
  refine b_X3_init_6 (by rw [f1 5 (by omega) (by omega)]; exact w1) rfl rfl (hw_pow w n * n) (by rw [hI_mul]; exact hI_at (by push_cast; rfl) (by omega)) (by omega) rfl (by rw [hk_new_ne (by omega)]; exact o1) fw_X3_16_7 (by omega) rfl ⟨rfl, ?_⟩
  refine hk _ ?_ ?_ ?_ ?_ (fun a ha hb hc => ?_)
  · show h1.1 + 1 = h.1 + 2
    omega
  · rw [hk_set_eq, e1]
    rfl
  · rw [hk_set_ne (by omega), hk_new_ne (by omega)]
    exact a1
  · rw [hk_set_ne (by omega), ← e1]
    exact hk_new_eq
  · rw [hk_set_ne ha, hk_new_ne (by omega)]
    exact f1 a ha hb
theorem s_init7 (HW : hW h n m w num pw) (hq : 43 ≤ q ∧ q < h.1) (ho : h.2 q = some (.inr (7, fs_7))) {K : hk_H → Prop} (hk : ∀ h' ef, h'.1 = h.1 + 5 → h'.2 q = some (.inr (7, [.ref (h.1 + 1), .int (hI k), .ref 5, .ref h.1, .ref (h.1 + 2), .ref (h.1 + 3), .ref (h.1 + 4)])) → h'.2 h.1 = some (hc_i32 (hw_pow w n) ef) → (∀ r, r < hw_pow w n → ef r = -1) → h'.2 (h.1 + 1) = some (hc_i32 (hw_pow w n * n) (fun _ => 0)) → h'.2 (h.1 + 2) = some (hc_i32 5 (fun _ => 0)) → h'.2 (h.1 + 3) = some (hc_i32 4 (fun j => if j < 4 then 1 else 0)) → h'.2 (h.1 + 4) = some (hc_i32 5 (fun _ => 0)) → (∀ a, a ≠ q → a < h.1 → h'.2 a = h.2 a) → K h') : hk_Cv G m_X7_init (d + 2) (((0 + 1) + (0 + 1)) + (((0 + 1) + 1) + 1)) (((0 + hw_pow w n) + (0 + hw_pow w n * n)) + (((0 + 5) + 4) + 5)) [.ref q, .int (hI k), .ref 5] h K := by
  obtain ⟨w1, w2, w3, w4, w5, w6, w7, w8⟩ := id HW
  have hrow := hw_pow_lt (i := n) w7 (by omega)
  refine ⟨Nat.le_of_ble_eq_true rfl, ?_⟩
  refine b_X7_init_0 (s_init3_7 HW hq ho fun h1 e1 o1 a1 p1 f1 => ?_)
  refine b_X7_init_6 rfl (by rw [hk_new_ne (by omega)]; exact o1) (by omega) rfl rfl (by rw [hk_new_ne (by show q ≠ h1.1 + 1; omega)]; exact hk_set_eq) rfl rfl (by rw [hk_new_ne (by show q ≠ h1.1 + 1 + 1; omega)]; exact hk_set_eq) rfl hk_set_eq rfl ?_
  generalize hh6 : hk_set (hk_new (hk_set (hk_new (hk_set (hk_new h1 _) q _) _) q _) _) q _ = h6
  have e6 : h6.1 = h.1 + 5 := by rw [← hh6]; show h1.1 + 1 + 1 + 1 = _; omega
  have o6 : h6.2 q = some (.inr (7, [.ref (h.1 + 1), .int (hI k), .ref 5, .ref h.1, .ref (h.1 + 2), .ref (h.1 + 3), .ref (h.1 + 4)])) := by
    rw [← hh6, hk_set_eq, e1]
    show some (α := hk_AC) (Sum.inr (7, [Value.ref (h.1 + 1), Value.int (hI k), Value.ref 5, Value.ref h.1, Value.ref (h.1 + 2), Value.ref (h1.1 + 1), Value.ref (h1.1 + 1 + 1)])) = _
    rw [e1]
  have c2 : h6.2 (h.1 + 2) = some (hc_i32 5 (fun _ => 0)) := by
    rw [← hh6, hk_set_ne (by omega), hk_new_ne (by show h.1 + 2 ≠ h1.1 + 1 + 1; omega), hk_set_ne (by omega), hk_new_ne (by show h.1 + 2 ≠ h1.1 + 1; omega), hk_set_ne (by omega), ← e1]
    exact hk_new_eq
  have c3 : h6.2 (h.1 + 3) = some (hc_i32 4 (fun _ => 0)) := by
    rw [← hh6, hk_set_ne (by omega), hk_new_ne (by show h.1 + 3 ≠ h1.1 + 1 + 1; omega), hk_set_ne (by omega), show h.1 + 3 = h1.1 + 1 by omega]
    exact hk_new_eq
  have c4 : h6.2 (h.1 + 4) = some (hc_i32 5 (fun _ => 0)) := by
    rw [← hh6, hk_set_ne (by omega), show h.1 + 4 = h1.1 + 1 + 1 by omega]
    exact hk_new_eq
  have f6 : ∀ a, a ≠ q → a < h.1 + 2 → h6.2 a = h1.2 a := fun a ha hb => by
    rw [← hh6, hk_set_ne ha, hk_new_ne (by show a ≠ h1.1 + 1 + 1; omega), hk_set_ne ha, hk_new_ne (by show a ≠ h1.1 + 1; omega), hk_set_ne ha, hk_new_ne (by omega)]
  change hk_Cv G m_J7_fill_53178 (d + 1) 0 0 [.ref (h1.1 + 1), .int 1] h6 _
  rw [show h1.1 + 1 = h.1 + 3 by omega]
  refine s_fillx c3 (by omega) (by omega) ?_
  refine b_X7_init_35 (by rw [hk_set_ne (by omega)]; exact o6) rfl ?_
  refine s_fillx (by rw [hk_set_ne (by omega), f6 _ (by omega) (by omega)]; exact a1) (by omega) (by omega) ?_
  refine b_X7_init_43 ⟨rfl, hk _ _ e6 ?_ hk_set_eq (fun r hr => if_pos hr) ?_ ?_ ?_ ?_ (fun a ha hb => ?_)⟩
  · rw [hk_set_ne (by omega), hk_set_ne (by omega)]; exact o6
  · rw [hk_set_ne (by omega), hk_set_ne (by omega), f6 _ (by omega) (by omega)]; exact p1
  · rw [hk_set_ne (by omega), hk_set_ne (by omega)]; exact c2
  · rw [hk_set_ne (by omega)]; exact hk_set_eq
  · rw [hk_set_ne (by omega), hk_set_ne (by omega)]; exact c4
  · rw [hk_set_ne (by omega), hk_set_ne (by omega), f6 a ha (by omega)]
    exact f1 a ha (by omega) (by omega)
theorem s_init2 (HW : hW h n m w num pw) (hq : 43 ≤ q ∧ q < h.1) (ho : h.2 q = some (.inr (2, fs_2))) {K : hk_H → Prop} (hk : ∀ h' ef, h'.1 = h.1 + 3 → h'.2 q = some (.inr (2, [.int (hI k), .ref 5, .ref h.1, .ref (h.1 + 1), .ref (h.1 + 2)])) → h'.2 h.1 = some (hc_i32 (hw_pow w n) ef) → (∀ r, r < hw_pow w n → ef r = -1) → h'.2 (h.1 + 1) = some (hc_i32 3 (fun _ => 0)) → h'.2 (h.1 + 2) = some (hc_i32 5 (fun _ => 0)) → (∀ a, a ≠ q → a < h.1 → h'.2 a = h.2 a) → K h') : hk_Cv G m_X2_init (d + 1) ((0 + 1) + ((0 + 1) + 1)) ((0 + hw_pow w n) + ((0 + 5) + 3)) [.ref q, .int (hI k), .ref 5] h K := by
  obtain ⟨w1, w2, w3, w4, w5, w6, w7, w8⟩ := id HW
  have hrow := hw_pow_lt (i := n) w7 (by omega)
  refine ⟨Nat.le_of_ble_eq_true rfl, ?_⟩
  refine b_X2_init_0 (s_init5_2 HW hq ho fun h1 e1 o1 a1 f1 => ?_)
  refine b_X2_init_6 rfl (by rw [hk_new_ne (by omega)]; exact o1) (by omega) rfl rfl (by rw [hk_new_ne (by show q ≠ h1.1 + 1; omega)]; exact hk_set_eq) rfl hk_set_eq rfl ?_
  generalize hh4 : hk_set (hk_new (hk_set (hk_new h1 _) q _) _) q _ = h4
  have e4 : h4.1 = h.1 + 3 := by rw [← hh4]; show h1.1 + 1 + 1 = _; omega
  have o4 : h4.2 q = some (.inr (2, [.int (hI k), .ref 5, .ref h.1, .ref (h.1 + 1), .ref (h.1 + 2)])) := by
    rw [← hh4, hk_set_eq, e1]
    show some (α := hk_AC) (Sum.inr (2, [Value.int (hI k), Value.ref 5, Value.ref h.1, Value.ref (h.1 + 1), Value.ref (h1.1 + 1)])) = _
    rw [e1]
  have c1 : h4.2 (h.1 + 1) = some (hc_i32 3 (fun _ => 0)) := by
    rw [← hh4, hk_set_ne (by omega), hk_new_ne (by show h.1 + 1 ≠ h1.1 + 1; omega), hk_set_ne (by omega), ← e1]
    exact hk_new_eq
  have c2 : h4.2 (h.1 + 2) = some (hc_i32 5 (fun _ => 0)) := by
    rw [← hh4, hk_set_ne (by omega), show h.1 + 2 = h1.1 + 1 by omega]
    exact hk_new_eq
  have f4 : ∀ a, a ≠ q → a < h.1 + 1 → h4.2 a = h1.2 a := fun a ha hb => by
    rw [← hh4, hk_set_ne ha, hk_new_ne (by show a ≠ h1.1 + 1; omega), hk_set_ne ha, hk_new_ne (by omega)]
  refine s_fillx (by rw [f4 _ (by omega) (by omega)]; exact a1) (by omega) (by omega) ?_
  refine b_X2_init_28 ⟨rfl, hk _ _ e4 ?_ hk_set_eq (fun r hr => if_pos hr) ?_ ?_ (fun a ha hb => ?_)⟩
  · rw [hk_set_ne (by omega)]; exact o4
  · rw [hk_set_ne (by omega)]; exact c1
  · rw [hk_set_ne (by omega)]; exact c2
  · rw [hk_set_ne (by omega), f4 a ha (by omega)]
    exact f1 a ha (by omega)
end NR
