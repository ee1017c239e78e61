/-! The law's loop, and its beginning. -/
section LE
variable {G : hk_G} {d L : Nat} {xs : Nat → Int32} {Q : hk_O → hk_H → Prop}
theorem hl_end {i : Nat} (hL : L ≤ 3074) (hi : i ≤ 3100) : Int32.ofNat L - 6 < hI (i : Int) ↔ L < i + 6 := by
  have e : Int32.ofNat L - 6 = hI ((L : Int) - 6) := by
    rw [hI_ofNat, show (6 : Int32) = hI 6 from rfl, hI_sub]
  rw [e, hI_lt (by omega) (by omega)]
  omega
theorem hl_loop (hL : L ≤ 3074) (hQ : ∀ h', Q (.inl (some (.int 1))) h') : ∀ (k i : Nat) (h : hk_H) (o5 o6 o7 : Option Value), L ≤ i + 6 * k + 5 → i ≤ L + 6 → hT h L xs → hk_S G m_L_law (d + 10) (6 * k) (6501 * k) 43 [some (.ref 0), some (.ref 4), some (.ref 43), some (.ref 70), some (.int (hI (i : Int))), o5, o6, o7] [] h Q := by
  intro k
  induction k with
  | zero =>
    intro i h o5 o6 o7 h1 h2 T
    obtain ⟨n, m, w, rc, num, Rs, rq, P, Ss, th, g, X, Y, Z⟩ := T
    exact b_L_law_43 Z.1 (by decide) (fun _ => b_L_law_1980 (hQ _)) (fun c => absurd ((hl_end hL (by omega)).mpr (by omega)) c)
  | succ k ih =>
    intro i h o5 o6 o7 h1 h2 T
    have hz : h.2 0 = some (hc_i32 L xs) := by
      obtain ⟨n, m, w, rc, num, Rs, rq, P, Ss, th, g, X, Y, Z⟩ := T
      exact Z.1
    refine b_L_law_43 hz (by decide) (fun _ => b_L_law_1980 (hQ _)) (fun c => ?_)
    have hi : i + 5 < L := by
      rcases Nat.lt_or_ge (i + 5) L with c2 | c2
      · exact c2
      · exact absurd ((hl_end hL (by omega)).mpr (by omega)) c
    have hL2 : L < 2147483648 := by omega
    have K : ∀ h' o5 o6 o7, hT h' L xs → hk_S G m_L_law (d + 10) (6 * k) (6501 * k) 43 [some (.ref 0), some (.ref 4), some (.ref 43), some (.ref 70), some (.int (hI (i : Int) + 6)), o5, o6, o7] [] h' Q := by
      intro h' o5 o6 o7 T'
      rw [hl_6]
      exact ih (i + 6) h' o5 o6 o7 (by omega) (by omega) T'
    rw [show 6 * (k + 1) = 6 + 6 * k by omega, show 6501 * (k + 1) = 6501 + 6501 * k by omega]
    refine b_L_law_53 hz i (hI_at rfl (by omega)) (by omega) (fun _ => c_wish T hL2 hi K) (fun _ => c_worth T hL2 hi K) (fun _ => c_rule T hL2 hi K) (fun _ => c_put T hL2 hi K) (fun _ => c_pay T hL2 hi K) (fun _ => c_gift T hL2 hi K) (fun _ => c_middle T hL2 hi K) (fun _ => c_end T hL2 hi K) (fun _ => c_pays T hL2 hi K) (fun _ => c_said T hL2 hi K) (fun _ => c_gain T hL2 hi K) (fun _ => c_lie T hL2 hi K) (fun _ => c_lies T hL2 hi K) (fun _ => c_heap T hL2 hi K) (fun _ => c_onto T hL2 hi K) (fun _ => c_dictator T hL2 hi K) (fun _ => c_budget T hL2 hi K) (fun _ => c_welfare T hL2 hi K) (fun _ => c_span T hL2 hi K) (fun _ => c_round T hL2 hi K) (fun _ => c_price T hL2 hi K) (fun _ => c_honest T hL2 hi K) (fun _ => c_same T hL2 hi K) (fun _ => c_fair T hL2 hi K) (fun _ => c_likes T hL2 hi K) (fun _ => c_rings T hL2 hi K) (fun _ => c_leaves T hL2 hi K) (fun _ => c_turns T hL2 hi K) (fun _ => c_blocks T hL2 hi K) (fun _ => c_core T hL2 hi K) (fun _ => c_good T hL2 hi K) (fun _ => c_by T hL2 hi K) (fun _ => c_wrong T hL2 hi K) (fun _ => c_count T hL2 hi K) (fun _ => c_keep T hL2 hi K) (fun _ => c_make T hL2 hi K) (fun _ => c_element T hL2 hi K) (fun _ => c_copy T hL2 hi K) (fun _ => c_weight T hL2 hi K) (fun _ => c_toss T hL2 hi K) ?_
    intros
    refine hs_more (Nat.le_refl _) (Nat.le_add_left _ _) (Nat.le_add_left _ _) ?_
    exact b_L_law_1974 (K _ _ _ _ T)
/-- both objects and the law's own row are made -/
theorem hl_first {f1 f2 : Nat → Option hk_AC} {n m : Nat} (N : hNew (43, f1) n m) (A : hBA (70, f2) n m 0 0 (fun _ => 0) (fun _ => hr_0) 0 (fun _ k => k)) (V : hBv (70, f2) 0 (fun _ => hr_0) (fun _ => hv_0)) (e12 : ∀ a, a < 43 → f2 a = f1 a) (hz : f1 0 = some (hc_i32 L xs)) : hT (hk_new (70, f2) (.inl (1, 1, .inr (.inl (fun _ => 0))))) L xs := by
  obtain ⟨h3, e0⟩ : ∃ h3 : hk_H, h3 = hk_new (70, f2) (.inl (1, 1, .inr (.inl (fun _ => 0)))) := ⟨_, rfl⟩
  have e3 : ∀ a, a ≠ 70 → h3.2 a = f2 a := fun a ha => by rw [e0]; exact hk_new_ne ha
  have e4 : ∀ a, a < 43 → h3.2 a = f1 a := fun a ha => (e3 a (by omega)).trans (e12 a ha)
  have e5 : h3.2 70 = some (hc_i64 1 (fun _ => 0)) := by rw [e0]; exact hk_new_eq
  have e6 : h3.1 = 71 := by rw [e0]; rfl
  rw [← e0]
  obtain ⟨n1, ⟨pw, n2⟩, n3, n4, n5, n6, n7⟩ := N
  have C : hC h3 n m 0 0 (fun _ => 0) (fun _ => hr_0) (fun _ => 0) := ⟨n1.fr (e4 4 (by omega)), ⟨pw, n2.fr fun a h1 h2 => e4 a (by omega)⟩, fun c => by omega, n3.fr (e4 8 (by omega)), fun j hj => by omega, fun j j' h1 h2 => by omega, by omega⟩
  have S : hSh h3 0 (fun _ => 0) (fun _ => hv_0) := hSh.fr n4 (fun a h1 h2 => e4 a (by omega)) (Nat.le_refl _) (fun _ _ => rfl)
  have H := hHp.fr n5 (h' := h3) (fun a h1 h2 => e4 a (by omega))
  have Wy := hWy.fr n6 (h' := h3) (fun a h1 h2 => e4 a (by omega))
  have M := hMk.fr n7 (h' := h3) (fun a h1 h2 => e4 a (by omega)) (fun a h1 => e4 a (by omega))
  have A' := hBA.fr A (h' := h3) (fun a h1 h2 => e3 a (by omega))
  have V' := hBv.fr V (h' := h3) (fun a h1 h2 => e3 a (by omega))
  exact ⟨n, m, 0, 0, fun _ => 0, fun _ => hr_0, fun _ => 0, fun _ k => k, fun _ => hv_0, 0, fun _ => 0, ⟨C, S, H, Wy, M⟩, ⟨A', V'⟩, (e4 0 (by omega)).trans hz, e5⟩
theorem hl_start {f : Nat → Option hk_AC} (hL : L ≤ 3074) (hz : f 0 = some (hc_i32 L xs)) (hg : ∀ n, 2 ≤ n → n ≤ 4 → f (n - 1) = some (hc_i32 (hm_len n) (fun j => hI (hm_at n j : Nat)))) (hQ : ∀ h', Q (.inl (some (.int 1))) h') : hk_E G m_L_law (d + 10) 3200 3400000 [.ref 0] (4, f) Q := by
  have hL2 : L < 2147483648 := by omega
  obtain ⟨hb1, hb2⟩ := (hn_of_b (hl_cell L xs 0)).1
  have z0 : (hk_up f 4 (.inr (9, fs_9))) 0 = some (hc_i32 L xs) := (if_neg (by omega)).trans hz
  have g0 : hMg (5, hk_up f 4 (.inr (9, fs_9))) (hn_of (hl_cell L xs 0)) := by
    show hk_up f 4 (.inr (9, fs_9)) (hn_of (hl_cell L xs 0) - 1) = _
    exact (if_neg (by omega)).trans (hg _ hb1 hb2)
  refine ⟨Nat.le_of_ble_eq_true rfl, ?_⟩
  refine hs_more (cb := (38 + ((26 + (6 * 512 + 1)) + 1)) + 1) (sb := (892 + ((59118 + (6501 * 512 + 1)) + 32)) + 9) (Nat.le_refl _) (by omega) (by omega) ?_
  refine b_L_law_0 (h_1 := (5, hk_up f 4 (.inr (9, fs_9)))) rfl ?_
  refine s_cell (k := 0) z0 hL2 (by omega) ?_
  refine b_L_law_9 ?_
  refine s_cell (k := 1) z0 hL2 (by omega) ?_
  refine b_L_law_14 (cq := 38) (sq := 892) (cb := (26 + (6 * 512 + 1)) + 1) (sb := (59118 + (6501 * 512 + 1)) + 32) ?_
  refine s_init9 (if_pos rfl) g0 fun f1 N1 e1 => ?_
  have z1 : f1 0 = some (hc_i32 L xs) := (e1 0 (by omega)).trans z0
  have z2 : (hk_up f1 43 (.inr (10, fs_10))) 0 = some (hc_i32 L xs) := (if_neg (by omega)).trans z1
  refine b_L_law_17 (cb := 26 + (6 * 512 + 1)) (sb := 59118 + (6501 * 512 + 1)) (h_1 := (44, hk_up f1 43 (.inr (10, fs_10)))) rfl ?_
  refine s_cell (k := 0) z2 hL2 (by omega) ?_
  refine b_L_law_27 (cb := 26 + (6 * 512 + 1)) (sb := 59118 + (6501 * 512 + 1)) ?_
  refine s_cell (k := 1) z2 hL2 (by omega) ?_
  refine b_L_law_32 (cq := 26) (sq := 59118) (cb := 6 * 512 + 1) (sb := 6501 * 512 + 1) ?_
  refine r_init (if_pos rfl) fun f2 A2 V2 e2 => ?_
  refine b_L_law_35 (cb := 6 * 512) (sb := 6501 * 512) rfl ?_
  exact hl_loop hL hQ 512 2 _ _ _ _ (by omega) (by omega) (hl_first N1 A2 V2 (fun a ha => (e2 a ha).trans (if_neg (by omega))) z1)
end LE
