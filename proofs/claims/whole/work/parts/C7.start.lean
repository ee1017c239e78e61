/-! The start: what the Statement gives of it, as the picture has it. -/
section LF
variable {args : Array Value} {s : State}
theorem hw_len {t : Term} {n : Nat} (hN : n < 2 ^ 31) (h : (Term.length t).eval args s none [] s = some (.int (Int32.ofNat n))) : ∃ (b : Addr) (cell : Cell), t.eval args s none [] s = some (.ref b) ∧ s.arrayAt? b = some cell ∧ cell.slots.size = n := by
  obtain ⟨b, cell, ht, harr, hv⟩ := Term.length_spec h
  have hsz : cell.slots.size < 2 ^ 31 := by
    simp only [Term.eval, ht, harr, Option.bind_eq_bind, Option.bind_some] at h
    by_cases hlt : cell.slots.size < 2147483648
    · exact hlt
    · simp [hlt] at h
  refine ⟨b, cell, ht, harr, ?_⟩
  have h1 : (Int32.ofNat n).toInt = (Int32.ofNat cell.slots.size).toInt := congrArg Int32.toInt (Value.int.inj hv)
  rw [Int32.toInt_ofNat_small hN, Int32.toInt_ofNat_small hsz] at h1
  omega
theorem hw_row {t : Term} {n : Nat} {f : Nat → Int32} (hN : n < 2 ^ 31) (harr : (Cond.arrayOf t .int).before args s = true) (hlen : (Cond.eq (.length t) (.int (Int32.ofNat n))).before args s = true) (hel : ∀ j, j < n → (Cond.eq (.elem t (.int (Int32.ofNat j))) (.int (f j))).before args s = true) : ∃ (b : Nat) (cell : Cell), t.eval args s none [] s = some (.ref b) ∧ s.heap[b]? = some cell ∧ s.isArrayOf cell .int ∧ cell.vm ≠ .unknown ∧ cell.slots.size = n ∧ ∀ j : Nat, j < n → cell.slots[j]? = some (.int (f j)) := by
  obtain ⟨b, cell, ht, hat, hsz⟩ := hw_len hN (va_eqt hlen)
  obtain ⟨hcell, hkn, -, -⟩ := State.arrayAt?_spec hat
  obtain ⟨hof, -⟩ := Cond.arrayOf_spec harr ht hcell
  refine ⟨b, cell, ht, hcell, hof, hkn, hsz, fun j hj => ?_⟩
  obtain ⟨a, i, cell2, h1, h2, h3, h4, h5⟩ := Term.elem_spec (va_eqt (hel j hj))
  cases ht.symm.trans h1
  cases hat.symm.trans h3
  have hi : i = Int32.ofNat j := by
    have e : (Term.int (Int32.ofNat j)).eval args s none [] s = some (.int (Int32.ofNat j)) := rfl
    cases h2.symm.trans e
    rfl
  have hc : i.toNatClampNeg = j := by rw [hi]; exact Int32.toNatClampNeg_ofNat_of_lt (Nat.lt_trans hj hN)
  rw [hc] at h5
  exact h5
def hw_nm (n : Nat) : String := if n = 2 then "ORDERS_OF_TWO" else if n = 3 then "ORDERS_OF_THREE" else "ORDERS_OF_FOUR"
def hw_tm (n : Nat) : Term := .static "HonestHouse" (hw_nm n) "[I"
theorem hw_len31 (n : Nat) (h2 : 2 ≤ n) (h5 : n < 5) : hm_len n < 2 ^ 31 := by
  rcases (show n = 2 ∨ n = 3 ∨ n = 4 by omega) with rfl | rfl | rfl <;> decide
theorem hw_w1 : ∀ n, n < 5 → 2 ≤ n → Cond.arrayOf (hw_tm n) .int ∈ flatC (Jvm.Cond.and given_1 narrow_1) := by decide +kernel
theorem hw_w2 : ∀ n, n < 5 → 2 ≤ n → Cond.eq (.length (hw_tm n)) (.int (Int32.ofNat (hm_len n))) ∈ flatC (Jvm.Cond.and given_1 narrow_1) := by decide +kernel
theorem hw_w3 : ∀ n, n < 5 → 2 ≤ n → ∀ j, j < hm_len n → Cond.eq (.elem (hw_tm n) (.int (Int32.ofNat j))) (.int (hI (hm_at n j : Nat))) ∈ flatC (Jvm.Cond.and given_1 narrow_1) := by decide +kernel
theorem hw_w4 : ∀ n, n < 5 → 2 ≤ n → Cond.laysStatic "HonestHouse" (hw_nm n) "[I" ∈ lw_tbl := by decide +kernel
theorem hw_w5 : ∀ q ∈ hk_strs, Cond.exactly (.string q.1 q.2.1) "java/lang/String" ∈ flatC (Jvm.Cond.and given_1 narrow_1) := by decide +kernel
theorem hw_w6 : ∀ q ∈ hk_strs, Cond.stringRef q.1 q.2.1 q.2.2 ∈ lw_tbl := by decide +kernel
theorem hw_w7 : ∀ q ∈ hk_cast, Cond.castable q.1 q.2 ∈ lw_tbl := by decide +kernel
theorem hw_w8 : ∀ x ∈ hk_decl, Cond.declares x ∈ lw_tbl := by decide +kernel
theorem hw_w9 : ∀ q ∈ hk_nest, Cond.fieldLinkNest RX1 q.1 RX9 q.2 "[I" RX9 ∈ lw_tbl := by decide +kernel
theorem hw_w10 : Cond.not (.castable "java/lang/IllegalStateException" "java/lang/IllegalArgumentException") ∈ flatC (Jvm.Cond.and given_1 narrow_1) := by decide +kernel
theorem hw_w11 : Cond.isRef (.static Bundle.tN "UNASSIGNED_STACK" Bundle.steD) ∈ flatC (Jvm.Cond.and given_1 narrow_1) := by decide +kernel
theorem hw_w12 : Cond.isRef (.static Bundle.tN "SUPPRESSED_SENTINEL" Bundle.listD) ∈ flatC (Jvm.Cond.and given_1 narrow_1) := by decide +kernel
theorem hw_w13 : Cond.laysStatic Bundle.tN "UNASSIGNED_STACK" Bundle.steD ∈ lw_tbl := by decide +kernel
theorem hw_w14 : Cond.laysStatic Bundle.tN "SUPPRESSED_SENTINEL" Bundle.listD ∈ lw_tbl := by decide +kernel
theorem hw_w15 : Cond.initialized Bundle.tN ∈ lw_tbl := by decide +kernel
theorem hw_w16 : Cond.arrayOver (.object RX5) ∈ lw_tbl ∧ Cond.arrayOver (.object RX4) ∈ lw_tbl := by decide +kernel
theorem hw_w17 : Cond.arrayClass .int ∈ lw_tbl ∧ Cond.arrayClass .long ∈ lw_tbl ∧ Cond.arrayClass .boolean ∈ lw_tbl := by decide +kernel
theorem hw_w18 : ∀ q ∈ hk_cl, Cond.instantiable q.1 q.2.2 ∈ lw_tbl := List.forall_mem_cons.mpr ⟨by decide +kernel, List.forall_mem_cons.mpr ⟨by decide +kernel, List.forall_mem_cons.mpr ⟨by decide +kernel, List.forall_mem_cons.mpr ⟨by decide +kernel, List.forall_mem_cons.mpr ⟨by decide +kernel, List.forall_mem_cons.mpr ⟨by decide +kernel, List.forall_mem_cons.mpr ⟨by decide +kernel, List.forall_mem_cons.mpr ⟨by decide +kernel, List.forall_mem_cons.mpr ⟨by decide +kernel, List.forall_mem_cons.mpr ⟨by decide +kernel, List.forall_mem_cons.mpr ⟨by decide +kernel, fun _ h => absurd h List.not_mem_nil⟩⟩⟩⟩⟩⟩⟩⟩⟩⟩⟩
theorem hw_inw : ∀ (c : Nat) (q : vw_C), hk_cl[c]? = some q → ∀ w ∈ u_ws q.1 q.2.1 q.2.2, w ∈ hk_ws := by
  intro c q hq
  match c, hq with
  | 0, hq => cases hq; exact cl_0.2.2.2
  | 1, hq => cases hq; exact cl_1.2.2.2
  | 2, hq => cases hq; exact cl_2.2.2.2
  | 3, hq => cases hq; exact cl_3.2.2.2
  | 4, hq => cases hq; exact cl_4.2.2.2
  | 5, hq => cases hq; exact cl_5.2.2.2
  | 6, hq => cases hq; exact cl_6.2.2.2
  | 7, hq => cases hq; exact cl_7.2.2.2
  | 8, hq => cases hq; exact cl_8.2.2.2
  | 9, hq => cases hq; exact cl_9.2.2.2
  | 10, hq => cases hq; exact cl_10.2.2.2
  | k + 11, hq => cases hq
theorem hw_cls (hts : ∀ w ∈ lw_tbl, w.before args s = true) : ∃ (dC : Nat → ClassId) (dI : Nat → Nat → Nat), ∀ (c : Nat) (q : vw_C), hk_cl[c]? = some q → u_Kn s q.1 q.2.1 q.2.2 (dC c) (dI c) := by
  have h0 : ∀ c : Nat, ∃ x : ClassId × (Nat → Nat), ∀ q : vw_C, hk_cl[c]? = some q → u_Kn s q.1 q.2.1 q.2.2 x.1 x.2 := by
    intro c
    cases hq : hk_cl[c]? with
    | none => exact ⟨(0, fun _ => 0), fun q h => by cases h⟩
    | some q =>
      obtain ⟨cC, iS, hK⟩ := u_known (C := q.1) (T := q.2.1) (N := q.2.2) (n := q.2.2) (ws := hk_ws) (fun w hw => hts w (List.mem_filter.mp hw).1) (hw_inw c q hq) (hts _ (hw_w18 q (List.mem_of_getElem? hq)))
      exact ⟨(cC, iS), fun q' h => by cases h; exact hK⟩
  obtain ⟨x, hx⟩ := Classical.axiomOfChoice h0
  exact ⟨fun c => (x c).1, fun c => (x c).2, hx⟩
theorem hw_arr {ty : FieldType} (h : (Cond.arrayClass ty).before args s = true) : ∃ cA : ClassId, ArrOfT s cA ty ∧ s.vm.findClass ("[" ++ ty.toString) = some cA := by
  obtain ⟨cA, kA, comp, h1, h2, h3⟩ := Cond.arrayClass_spec h
  exact ⟨cA, fun n z => ⟨fun k h => (by cases h), kA, h2, comp, h3⟩, h1⟩
theorem hw_arrO {C : String} (h : (Cond.arrayOver (.object C)).before args s = true) : ∃ cA : ClassId, ArrOfT s cA (.object C) ∧ va_RA s cA (.object C) := by
  obtain ⟨comp, cA, kA, h1, h2, h3, h4, h5⟩ := Cond.arrayOver_spec h
  exact ⟨cA, fun n z => ⟨fun k h => (by cases h), kA, h3, comp, h4⟩, kA, comp, h3, h4, h1, h5⟩
def hw_f (L : Nat) (xs : Nat → Int32) : Nat → Option hk_AC := fun a => if a = 0 then some (hc_i32 L xs) else if a < 4 then some (hc_i32 (hm_len (a + 1)) (fun j => hI (hm_at (a + 1) j : Nat))) else none
theorem hw_f0 {L : Nat} {xs : Nat → Int32} : hw_f L xs 0 = some (hc_i32 L xs) := if_pos rfl
theorem hw_fn {L : Nat} {xs : Nat → Int32} (n : Nat) (h2 : 2 ≤ n) (h4 : n ≤ 4) : hw_f L xs (n - 1) = some (hc_i32 (hm_len n) (fun j => hI (hm_at n j : Nat))) := by
  unfold hw_f
  rw [if_neg (by omega), if_pos (by omega), show n - 1 + 1 = n by omega]
set_option maxHeartbeats 4000000 in
theorem hw_start {b L : Nat} {xs : Nat → Int32} (hts : ∀ w ∈ lw_tbl, w.before args s = true) (hX : va_X b L xs s s.heap) (hgv : (Jvm.Cond.and given_1 narrow_1).before args s = true) : ∃ G : hk_G, hk_K G s s.heap ∧ G.2.2.2 = s.heap.size ∧ hk_R G s.heap (4, hw_f L xs) ∧ hk_cv G (.ref 0) = .ref b := by
  have hs := flat_of_before _ hgv
  obtain ⟨dC, dI, hKn⟩ := hw_cls hts
  obtain ⟨c0, a0, n0⟩ := hw_arr (hts _ hw_w17.1)
  obtain ⟨c1, a1, n1⟩ := hw_arr (hts _ hw_w17.2.1)
  obtain ⟨c2, a2, n2⟩ := hw_arr (hts _ hw_w17.2.2)
  obtain ⟨c3, a3, n3⟩ := hw_arrO (hts _ hw_w16.1)
  obtain ⟨c4, a4, n4⟩ := hw_arrO (hts _ hw_w16.2)
  obtain ⟨scr, x1, x2, x3, x4, x5⟩ := hX
  have hrow : ∀ n : Nat, ∃ q : Nat × Cell, 2 ≤ n → n < 5 → (hw_tm n).eval args s none [] s = some (.ref q.1) ∧ s.heap[q.1]? = some q.2 ∧ s.isArrayOf q.2 .int ∧ q.2.vm ≠ .unknown ∧ q.2.slots.size = hm_len n ∧ ∀ j : Nat, j < hm_len n → q.2.slots[j]? = some (.int (hI (hm_at n j : Nat))) := by
    intro n
    by_cases h : 2 ≤ n ∧ n < 5
    · obtain ⟨r, cell, g⟩ := hw_row (f := fun j => hI (hm_at n j : Nat)) (hw_len31 n h.1 h.2) (hs _ (hw_w1 n h.2 h.1)) (hs _ (hw_w2 n h.2 h.1)) (fun j hj => hs _ (hw_w3 n h.2 h.1 j hj))
      exact ⟨(r, cell), fun _ _ => g⟩
    · exact ⟨(0, scr), fun h1 h2 => absurd ⟨h1, h2⟩ h⟩
  obtain ⟨rr, hrr⟩ := Classical.axiomOfChoice hrow
  have hA : ∀ a : Nat, a < s.heap.size → ¬ (fun q : Nat => s.heap.size ≤ q) a := fun a ha h => by have : s.heap.size ≤ a := h; omega
  let ad : Nat → Nat := fun a => if a = 0 then b else (rr (a + 1)).1
  let cc : Nat → ClassId := fun t => if t = 0 then c0 else if t = 1 then c1 else if t = 2 then c2 else if t = 3 then c3 else if t = 4 then c4 else if t = 5 then scr.cls else (rr (t - 4)).2.cls
  have hold : ∀ a : Nat, a < 4 → ∃ cell : Cell, s.heap[ad a]? = some cell ∧ cell.cls = cc (5 + a) ∧ s.isArrayOf cell .int ∧ cell.vm ≠ .unknown ∧ ∀ c, hw_f L xs a = some c → ∃ (n : Nat) (f : Nat → Int32), c = .inl (0, n, .inl f) ∧ cell.slots.size = n ∧ ∀ j : Nat, j < n → cell.slots[j]? = some (.int (f j)) := by
    intro a ha
    by_cases e : a = 0
    · subst e
      refine ⟨scr, x1, rfl, x2, x3, fun c hc => ?_⟩
      rw [hw_f0] at hc
      cases hc
      exact ⟨L, xs, rfl, x4, x5⟩
    · obtain ⟨g1, g2, g3, g4, g5, g6⟩ := hrr (a + 1) (by omega) (by omega)
      refine ⟨(rr (a + 1)).2, ?_, ?_, g3, g4, fun c hc => ?_⟩
      · show s.heap[if a = 0 then b else (rr (a + 1)).1]? = _
        rw [if_neg e]
        exact g2
      · show _ = (if 5 + a = 0 then c0 else if 5 + a = 1 then c1 else if 5 + a = 2 then c2 else if 5 + a = 3 then c3 else if 5 + a = 4 then c4 else if 5 + a = 5 then scr.cls else (rr (5 + a - 4)).2.cls)
        rw [if_neg (by omega), if_neg (by omega), if_neg (by omega), if_neg (by omega), if_neg (by omega), if_neg (by omega), show 5 + a - 4 = a + 1 by omega]
      · have e9 : hw_f L xs a = some (hc_i32 (hm_len (a + 1)) (fun j => hI (hm_at (a + 1) j : Nat))) := by
          unfold hw_f
          rw [if_neg e, if_pos ha]
        rw [e9] at hc
        cases hc
        exact ⟨_, _, rfl, g5, g6⟩
  have hlt : ∀ a : Nat, a < 4 → ad a < s.heap.size := fun a ha => by
    obtain ⟨cell, g, -⟩ := hold a ha
    exact (Array.getElem?_eq_some_iff.mp g).1
  refine ⟨((dC, dI), cc, ad, s.heap.size), ⟨⟨hKn, ?_⟩, ?_, ?_, ?_, ?_, ?_, ?_, ?_, ?_, ?_, ?_, ?_⟩, rfl, ⟨?_, Nat.le_refl _, hlt, ?_⟩, rfl⟩
  · intro k q hq
    match k, hq with
    | 0, hq => cases hq; exact ⟨a0, n0⟩
    | 1, hq => cases hq; exact ⟨a1, n1⟩
    | 2, hq => cases hq; exact ⟨a2, n2⟩
    | 3, hq => cases hq; exact ⟨a3, n3⟩
    | 4, hq => cases hq; exact ⟨a4, n4⟩
    | k + 5, hq => cases hq
  · exact vx_Zqof (hts _ hw_w13) (hts _ hw_w15) (hs _ hw_w11) hA
  · exact vx_Zqof (hts _ hw_w14) (hts _ hw_w15) (hs _ hw_w12) hA
  · intro q hq
    have hi := hts _ (List.mem_filter.mp wd_1).1
    simp only [hk_sta, List.mem_cons, List.not_mem_nil, or_false] at hq
    rcases hq with rfl | rfl | rfl
    · exact va_Zof (hts _ (hw_w4 2 (by omega) (by omega))) hi (hrr 2 (by omega) (by omega)).1 hA
    · exact va_Zof (hts _ (hw_w4 3 (by omega) (by omega))) hi (hrr 3 (by omega) (by omega)).1 hA
    · exact va_Zof (hts _ (hw_w4 4 (by omega) (by omega))) hi (hrr 4 (by omega) (by omega)).1 hA
  · intro q hq
    obtain ⟨a, c, cA, kA, q1, -⟩ := Cond.exactly_spec (args := args) (first := s) (o := none) (s := s) (idx := []) (t := .string q.1 q.2.1) (cls := "java/lang/String") (hs _ (hw_w5 q hq))
    exact ⟨a, vk_R.of (hts _ (hw_w6 q hq)) q1⟩
  · exact fun q hq => va_Nw.of rfl (hts _ (hw_w7 q hq))
  · exact fun x hx => va_Nw.of rfl (hts _ (hw_w8 x hx))
  · exact fun q hq => va_Nw.of rfl (hts _ (hw_w9 q hq))
  · exact va_AO.of (hts _ hw_w16.1)
  · exact va_AO.of (hts _ hw_w16.2)
  · exact va_Nc.of (hs _ hw_w10)
  · intro a ha n z
    obtain ⟨cell, -, g2, g3, -⟩ := hold a ha
    refine ⟨fun k h => (by cases h), ?_⟩
    show ∃ k, s.vm.classes[cc (5 + a)]? = some k ∧ _
    rw [← g2]
    exact g3.2
  · show s.heap.size = s.heap.size + (4 - 4)
    omega
  · intro a c hc
    by_cases ha : a < 4
    · rw [hk_is0 ha]
      obtain ⟨cell, g1, g2, g3, g4, g5⟩ := hold a ha
      obtain ⟨n, f, e1, e2, e3⟩ := g5 c hc
      exact ⟨n, f, cell, e1, g1, g2, g4, g3.1, e2, e3⟩
    · have e9 : hw_f L xs a = none := by
        unfold hw_f
        rw [if_neg (by omega), if_neg ha]
      have hc : hw_f L xs a = some c := hc
      rw [e9] at hc
      cases hc
end LF
