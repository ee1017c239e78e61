section HY
variable {G : hk_G} {M M' : hk_M} {d cb sb c1 s1 c2 s2 pc : Nat} {L L' : List (Option Value)} {st : List Value} {h : hk_H} {Q Qe : hk_O → hk_H → Prop}
set_option maxRecDepth 10000 in
theorem hk_lo3 {d r q : Nat} (h : 64 * d + 400 ≤ r) (hq : q ≤ 8) : q + (nativeFrameWords "java/lang/System" "arraycopy" 5 + 11) ≤ r := by
  rw [show nativeFrameWords "java/lang/System" "arraycopy" 5 = 7 by decide +kernel]
  omega
set_option maxHeartbeats 1000000 in
theorem hs_copyi {idx a a0 n0 n1 : Nat} {f g : Nat → Int32} {sp dp n : Int32} (spN dpN nN : Nat) (hd : decode M.2.1 pc = .ok (.invokestatic idx, 3)) (hw : Cond.methodLink M.1.cls idx arraycopyName ∈ hk_ws ∧ Cond.native arraycopyName ∈ hk_ws ∧ Cond.static arraycopyName ∈ hk_ws ∧ Cond.initialized "java/lang/System" ∈ hk_ws) (ha0 : h.2 a0 = some (.inl (0, n0, (.inl f)))) (ha1 : h.2 a = some (.inl (0, n1, (.inl g)))) (h4a : 4 ≤ a) (h40 : 4 ≤ a0) (e1 : sp.toInt = (spN : Int)) (e2 : dp.toInt = (dpN : Int)) (e3 : n.toInt = (nN : Int)) (h4 : spN + nN ≤ n0) (h5 : dpN + nN ≤ n1) (hcat : (st.map (fun v => v.category)).sum ≤ 8)
    (kk : hk_S G M d cb sb (pc + 3) L st (hk_set h a (.inl (0, n1, (.inl (va_cpy f g spN dpN nN))))) Q) : hk_S G M d cb sb pc L (.int n :: .int dp :: .ref a :: .int sp :: .ref a0 :: st) h Q := by
  intro p l e R s m args below meth c H locs cells slots mc ms ls C hS hR hL hb
  have hts := C.2.2.2.2.2.1
  have hK := C.2.2.2.2.2.2.2.2.2.1.1
  have hfr := C.2.2.2.2.2.2.2.2.2.2.2.1
  have hlo := C.2.2.2.2.2.2.2.2.2.2.2.2.1
  have hbb := C.2.1
  have nn : ∀ (z : Int32) (k : Nat), z.toInt = (k : Int) → ¬ z < 0 := fun z k hz => by rw [Int32.lt_iff_toInt_lt, Int32.toInt_zero]; omega
  have h1 := nn sp spN e1
  have h2 := nn dp dpN e2
  have h3 := nn n nN e3
  intro T hT X
  have hc0 : H[hk_r G a0]? = some (vp_cell (G.2.1 0) (n0, (.inl f))) := hR.at4 ha0 h40
  have hc1 : H[hk_r G a]? = some (vp_cell (G.2.1 0) (n1, (.inl g))) := hR.at4 ha1 h4a
  obtain ⟨-, k0, hk0, cm0, hkk0⟩ := (hK.2 0 _ rfl).1 n0 (fun j => .int (f j))
  obtain ⟨-, k1, hk1, cm1, hkk1⟩ := (hK.2 0 _ rfl).1 n1 (fun j => .int (g j))
  obtain ⟨vm', X', step⟩ := X.arraycopy C.1 C.2.2.2.2.1 (hts _ hw.1) (hts _ hw.2.1) (hts _ hw.2.2.1) (hts _ hw.2.2.2) (src := hk_r G a0) (dst := hk_r G a) (cs := vp_cell (G.2.1 0) (n0, (.inl f))) (cd := vp_cell (G.2.1 0) (n1, (.inl g))) (srcPos := sp) (destPos := dp) (n := n) (by rw [hT]; exact hc0) (by rw [hT]; exact hc1)
    (fun _ h => by cases h) (fun _ h => by cases h) (fun h => by cases h) (fun h => by cases h) hk0 hk1 hkk0 hkk1 (by simp [refKind]) h1 h2 h3
    (by rw [e1, e3]; show ¬ _ > ((arrV _ n0 (fun j => .int (f j))).slots.size : Int); rw [arrV_size]; omega)
    (by rw [e2, e3]; show ¬ _ > ((arrV _ n1 (fun j => .int (g j))).slots.size : Int); rw [arrV_size]; omega)
    (fun vm₁ _ i hi => by
      rw [hk_clamp e3] at hi
      rw [hk_clamp e1]
      have e9 : (vp_cell (G.2.1 0) (n0, (.inl f))).slots.getD (spN + i) .null = .int (f (spN + i)) := by
        show (arrV _ n0 (fun j => .int (f j))).slots.getD _ _ = _
        rw [Array.getD_eq_getD_getElem?, arrV_read _ _ (by omega)]
        rfl
      refine ⟨?_, ?_⟩
      · rw [e9]
        rfl
      · rw [e9]
        exact trivial)
    (g := F0 m pc ls (.int n :: .int dp :: .ref (hk_r G a) :: .int sp :: .ref (hk_r G a0) :: st.map (hk_cv G))) rfl (by rw [C.2.2.2.1]; exact hL.1) (rest := st.map (hk_cv G)) rfl (by rw [hbb]; exact hd) (by omega) (by show 2 * 0 + _ + _ ≤ _; rw [Nat.mul_zero, Nat.zero_add, hk_cats]; exact hk_lo3 hlo hcat)
  have e6 : copied (vp_cell (G.2.1 0) (n0, (.inl f))) (vp_cell (G.2.1 0) (n1, (.inl g))) sp dp n = vp_cell (G.2.1 0) (n1, (.inl (va_cpy f g spN dpN nN))) := by
    have := va_copied (fun z => .int z) (G.2.1 0) (G.2.1 0) (n1 := n1) (dp := dp.toNatClampNeg) (n := n.toNatClampNeg) (sp := sp.toNatClampNeg) f g (by rw [hk_clamp e1, hk_clamp e3]; exact h4)
    rw [hk_clamp e1, hk_clamp e2, hk_clamp e3] at this
    show (vp_cell (G.2.1 0) (n1, (.inl g))).storeRun dp.toNatClampNeg ((vp_cell (G.2.1 0) (n0, (.inl f))).stretch sp.toNatClampNeg n.toNatClampNeg) = _
    rw [hk_clamp e1, hk_clamp e2, hk_clamp e3]
    exact this
  rw [e6] at X' step
  have hl : hk_r G a < H.size := (Array.getElem?_eq_some_iff.mp hc1).1
  have hheap : ((T.setVm vm').setCell (hk_r G a) (vp_cell (G.2.1 0) (n1, (.inl (va_cpy f g spN dpN nN))))).heap = H.setIfInBounds (hk_r G a) (vp_cell (G.2.1 0) (n1, (.inl (va_cpy f g spN dpN nN)))) := by rw [← hT]; rfl
  have oq : ∀ q : Nat, q ≠ hk_r G a → (H.setIfInBounds (hk_r G a) (vp_cell (G.2.1 0) (n1, (.inl (va_cpy f g spN dpN nN)))))[q]? = H[q]? := fun q hq => by simp [Array.getElem?_setIfInBounds, Ne.symm hq]
  obtain ⟨t9, a1, b1⟩ := kk p l e R s m args below meth c _ _ cells slots mc ms ls C ⟨by simp; exact hS.1, fun q g1 g2 => by
      rw [oq q (fun e => g2 (by rw [e]; exact hR.own h4a))]
      exact hS.2.1 q g1 g2, fun q hq => by
      rcases List.mem_append.mp hq with h | h
      · exact hS.2.2 q h
      · obtain ⟨z, -, hz⟩ := List.mem_map.mp h
        rw [← hz]
        exact hR.own h4a⟩ (hR.put h4a (show (H.setIfInBounds (hk_r G a) _)[hk_r G a]? = some (vp_cell (G.2.1 0) (n1, (.inl (va_cpy f g spN dpN nN)))) by simp [Array.getElem?_setIfInBounds, hl]) (by simp) oq) hL hb _ hheap X'
  exact ⟨t9, step t9 a1, b1⟩
set_option maxHeartbeats 1000000 in
theorem hs_copyl {idx a a0 n0 n1 : Nat} {f g : Nat → Int64} {sp dp n : Int32} (spN dpN nN : Nat) (hd : decode M.2.1 pc = .ok (.invokestatic idx, 3)) (hw : Cond.methodLink M.1.cls idx arraycopyName ∈ hk_ws ∧ Cond.native arraycopyName ∈ hk_ws ∧ Cond.static arraycopyName ∈ hk_ws ∧ Cond.initialized "java/lang/System" ∈ hk_ws) (ha0 : h.2 a0 = some (.inl (1, n0, (.inr (.inl f))))) (ha1 : h.2 a = some (.inl (1, n1, (.inr (.inl g))))) (h4a : 4 ≤ a) (e1 : sp.toInt = (spN : Int)) (e2 : dp.toInt = (dpN : Int)) (e3 : n.toInt = (nN : Int)) (h4 : spN + nN ≤ n0) (h5 : dpN + nN ≤ n1) (hcat : (st.map (fun v => v.category)).sum ≤ 8)
    (kk : hk_S G M d cb sb (pc + 3) L st (hk_set h a (.inl (1, n1, (.inr (.inl (va_cpy f g spN dpN nN)))))) Q) : hk_S G M d cb sb pc L (.int n :: .int dp :: .ref a :: .int sp :: .ref a0 :: st) h Q := by
  intro p l e R s m args below meth c H locs cells slots mc ms ls C hS hR hL hb
  have hts := C.2.2.2.2.2.1
  have hK := C.2.2.2.2.2.2.2.2.2.1.1
  have hfr := C.2.2.2.2.2.2.2.2.2.2.2.1
  have hlo := C.2.2.2.2.2.2.2.2.2.2.2.2.1
  have hbb := C.2.1
  have nn : ∀ (z : Int32) (k : Nat), z.toInt = (k : Int) → ¬ z < 0 := fun z k hz => by rw [Int32.lt_iff_toInt_lt, Int32.toInt_zero]; omega
  have h1 := nn sp spN e1
  have h2 := nn dp dpN e2
  have h3 := nn n nN e3
  intro T hT X
  have hc0 : H[hk_r G a0]? = some (vp_cell (G.2.1 1) (n0, (.inr (.inl f)))) := hR.atT ha0 (by decide)
  have hc1 : H[hk_r G a]? = some (vp_cell (G.2.1 1) (n1, (.inr (.inl g)))) := hR.at4 ha1 h4a
  obtain ⟨-, k0, hk0, cm0, hkk0⟩ := (hK.2 1 _ rfl).1 n0 (fun j => .long (f j))
  obtain ⟨-, k1, hk1, cm1, hkk1⟩ := (hK.2 1 _ rfl).1 n1 (fun j => .long (g j))
  obtain ⟨vm', X', step⟩ := X.arraycopy C.1 C.2.2.2.2.1 (hts _ hw.1) (hts _ hw.2.1) (hts _ hw.2.2.1) (hts _ hw.2.2.2) (src := hk_r G a0) (dst := hk_r G a) (cs := vp_cell (G.2.1 1) (n0, (.inr (.inl f)))) (cd := vp_cell (G.2.1 1) (n1, (.inr (.inl g)))) (srcPos := sp) (destPos := dp) (n := n) (by rw [hT]; exact hc0) (by rw [hT]; exact hc1)
    (fun _ h => by cases h) (fun _ h => by cases h) (fun h => by cases h) (fun h => by cases h) hk0 hk1 hkk0 hkk1 (by simp [refKind]) h1 h2 h3
    (by rw [e1, e3]; show ¬ _ > ((arrV _ n0 (fun j => .long (f j))).slots.size : Int); rw [arrV_size]; omega)
    (by rw [e2, e3]; show ¬ _ > ((arrV _ n1 (fun j => .long (g j))).slots.size : Int); rw [arrV_size]; omega)
    (fun vm₁ _ i hi => by
      rw [hk_clamp e3] at hi
      rw [hk_clamp e1]
      have e9 : (vp_cell (G.2.1 1) (n0, (.inr (.inl f)))).slots.getD (spN + i) .null = .long (f (spN + i)) := by
        show (arrV _ n0 (fun j => .long (f j))).slots.getD _ _ = _
        rw [Array.getD_eq_getD_getElem?, arrV_read _ _ (by omega)]
        rfl
      refine ⟨?_, ?_⟩
      · rw [e9]
        rfl
      · rw [e9]
        exact trivial)
    (g := F0 m pc ls (.int n :: .int dp :: .ref (hk_r G a) :: .int sp :: .ref (hk_r G a0) :: st.map (hk_cv G))) rfl (by rw [C.2.2.2.1]; exact hL.1) (rest := st.map (hk_cv G)) rfl (by rw [hbb]; exact hd) (by omega) (by show 2 * 0 + _ + _ ≤ _; rw [Nat.mul_zero, Nat.zero_add, hk_cats]; exact hk_lo3 hlo hcat)
  have e6 : copied (vp_cell (G.2.1 1) (n0, (.inr (.inl f)))) (vp_cell (G.2.1 1) (n1, (.inr (.inl g)))) sp dp n = vp_cell (G.2.1 1) (n1, (.inr (.inl (va_cpy f g spN dpN nN)))) := by
    have := va_copied (fun z => .long z) (G.2.1 1) (G.2.1 1) (n1 := n1) (dp := dp.toNatClampNeg) (n := n.toNatClampNeg) (sp := sp.toNatClampNeg) f g (by rw [hk_clamp e1, hk_clamp e3]; exact h4)
    rw [hk_clamp e1, hk_clamp e2, hk_clamp e3] at this
    show (vp_cell (G.2.1 1) (n1, (.inr (.inl g)))).storeRun dp.toNatClampNeg ((vp_cell (G.2.1 1) (n0, (.inr (.inl f)))).stretch sp.toNatClampNeg n.toNatClampNeg) = _
    rw [hk_clamp e1, hk_clamp e2, hk_clamp e3]
    exact this
  rw [e6] at X' step
  have hl : hk_r G a < H.size := (Array.getElem?_eq_some_iff.mp hc1).1
  have hheap : ((T.setVm vm').setCell (hk_r G a) (vp_cell (G.2.1 1) (n1, (.inr (.inl (va_cpy f g spN dpN nN)))))).heap = H.setIfInBounds (hk_r G a) (vp_cell (G.2.1 1) (n1, (.inr (.inl (va_cpy f g spN dpN nN))))) := by rw [← hT]; rfl
  have oq : ∀ q : Nat, q ≠ hk_r G a → (H.setIfInBounds (hk_r G a) (vp_cell (G.2.1 1) (n1, (.inr (.inl (va_cpy f g spN dpN nN))))))[q]? = H[q]? := fun q hq => by simp [Array.getElem?_setIfInBounds, Ne.symm hq]
  obtain ⟨t9, a1, b1⟩ := kk p l e R s m args below meth c _ _ cells slots mc ms ls C ⟨by simp; exact hS.1, fun q g1 g2 => by
      rw [oq q (fun e => g2 (by rw [e]; exact hR.own h4a))]
      exact hS.2.1 q g1 g2, fun q hq => by
      rcases List.mem_append.mp hq with h | h
      · exact hS.2.2 q h
      · obtain ⟨z, -, hz⟩ := List.mem_map.mp h
        rw [← hz]
        exact hR.own h4a⟩ (hR.put h4a (show (H.setIfInBounds (hk_r G a) _)[hk_r G a]? = some (vp_cell (G.2.1 1) (n1, (.inr (.inl (va_cpy f g spN dpN nN))))) by simp [Array.getElem?_setIfInBounds, hl]) (by simp) oq) hL hb _ hheap X'
  exact ⟨t9, step t9 a1, b1⟩
/-- a method by the receiver's class that may throw; what it throws is caught here -/
theorem hs_callUX {idx n a ci : Nat} {vs fs : List Value} {r : vw_C} {x : MethodName} {owner : String} {hp i : String → Nat} (hd : decode M.2.1 pc = .ok (.invokevirtual idx, 3)) (hok : hk_ok M' n) (hh : M'.2.2.2.2 = []) (hdx : x.desc = M'.1.desc) (hc : hk_cl[ci]? = some r) (hw : Cond.methodLink M.1.cls idx x ∈ hk_ws ∧ Cond.sameMethod x.cls owner x.name x.desc ∈ hk_ws ∧ Cond.selects r.1 x M'.1 ∈ hk_ws ∧ Cond.instanceMethod M'.1 ∈ hk_ws) (ho : owner ≠ "java/lang/invoke/MethodHandle" ∧ owner ≠ "java/lang/invoke/VarHandle") (hde : (Cond.instanceMethod ⟨owner, x.name, x.desc⟩ ∈ hk_ws ∧ ∃ b0 m0 r0, Cond.code ⟨owner, x.name, x.desc⟩ b0 m0 r0 ∈ hk_ws) ∨ (⟨owner, x.name, x.desc⟩ : MethodName) ∈ hk_decl) (ha : h.2 a = some (.inr (ci, fs))) (hn : vs.length = n) (hcat : (st.map (fun v => v.category)).sum ≤ 8)
    (hE : hk_E G M' d c1 s1 (.ref a :: vs) h Qe) (kx : ∀ E h', Qe (.inr E) h' → hk_ct M pc E (hp E) (i E) ∧ hk_S G M (d + 1) c2 s2 (hk_cn M (hp E) (i E)) ((hk_kill L (i E)).set (i E) none) [] h' Q) (kk : ∀ v h', Qe (.inl v) h' → hk_S G M (d + 1) c2 s2 (pc + 3) L (v.toList ++ st) h' Q) : hk_S G M (d + 1) (c1 + c2) (s1 + s2) pc L (vs.reverse ++ .ref a :: st) h Q := by
  intro p l e R s m args below meth c H locs cells slots mc ms ls C hS hR hL hb
  refine hk_backX (st9 := (vs.reverse ++ .ref a :: st).map (hk_cv G)) C hS hL hb (a := ((.ref a :: vs).map (hk_cv G)).toArray) ?_ kx kk
  have cw := hk_cu (c1 := c1) (s1 := s1) C hok hh hdx hw ho hde
  obtain ⟨hrc, hrs, hfr, hlo, hws, hcw⟩ := cw.back
  have hini := cw.init
  have hM := hk_met C.2.2.2.2.2.2.2.2.2.2.1 hok hE
  have hK : vx_Back l R p e below s args M'.1 3 8 (PreOf R c1 s1 (hk_Pc G (.ref a :: vs) h)) (PostOf (hk_Qc G Qe) c1 s1 (hk_A G)) (vx_Post (hk_XC G Qe) c1 s1 (hk_A G)) := vx_back (bytes := M'.2.1) (maxL := M'.2.2.1) (ret := M'.2.2.2.1) hM hk_blind hrc hrs hfr hlo hws hcw (fun a' U hW => word_at hW (Or.inl (by first | rfl | simp [Cond.onTables, Cond.keeps, Cond.steady])) hini)
  obtain ⟨cellB, hcB, hoB, hclB⟩ := hk_recv C.2.2.2.2.2.2.2.2.2.1 hR hc ha
  have hPc := hk_pre (vs := .ref a :: vs) C hS hR
  intro T hT X
  obtain ⟨r0, r9, hn0, hrm, hstR, hsigR⟩ := cw.decl
  have hsame := cw.same
  obtain ⟨cn, ck, r1, hcn, hck, hni, hf, hn1⟩ := Cond.sameMethod_found hsame
  cases hn0.symm.trans hn1
  obtain ⟨mk, methM, hnamed, hmethM, -, habM⟩ := Cond.instanceMethod_spec cw.inst
  obtain ⟨c3, r2, m2, q1, q2, q3, q4, kP, hkP, hkPi⟩ := Cond.selects_spec cw.sel
  cases hclB.symm.trans q1
  cases hf.symm.trans q2
  cases hnamed.symm.trans q3
  have hselP : selectMethod e.platform s.vm cellB.cls r0 = .method mk := by rw [Launch.admits_selectMethod X.admits]; exact q4
  have hbb := C.2.1
  obtain ⟨vm₁, X₁, hstep₁⟩ := X.invokevirtualUp C.1 C.2.2.2.2.1 cw.link hsame cw.notMH hn0 hrm hstR (a := hk_r G a) (cell := cellB) (by rw [hT]; exact hcB)
    (fun z h => by rw [h] at hoB; cases hoB) hselP hmethM habM hkP hkPi (g := F0 m pc ls ((vs.reverse ++ .ref a :: st).map (hk_cv G))) rfl (argsL := vs.map (hk_cv G)) (rest := st.map (hk_cv G)) (by rw [List.length_map, hn]; exact cw.len _ hsigR) (by show (vs.reverse ++ .ref a :: st).map (hk_cv G) = _; rw [List.map_append, List.map_reverse]; rfl) (by rw [hbb]; exact hd)
  rcases hK m meth c ⟨T.setVm vm₁, locs, cells, slots⟩ { F0 m pc ls ((vs.reverse ++ .ref a :: st).map (hk_cv G)) with stack := st.map (hk_cv G) } (.invokevirtual idx) mk (Value.ref (hk_r G a) :: vs.map (hk_cv G)).toArray X₁ rfl (hL.1.trans C.2.2.2.1.symm) (by rw [hbb]; exact hd) (by show 2 * 0 + _ ≤ 8; rw [hk_cats]; omega) (X₁.named hnamed) ⟨by show cells + c1 ≤ R.cells; omega, by show slots + s1 ≤ R.slots; omega, hPc (T.setVm vm₁) hT X₁.warmed⟩ with ⟨v, B, X', ⟨g', mk', t, LL, f1, f2, hq, g1, hLL, g2, g3⟩, hsteps⟩ | ⟨q, B, X', ⟨g', mk', t, LL, E, ce, f1, f2, hq, hce, hcv, hcl, g1, hLL, g2, g3⟩, hsteps⟩
  · obtain ⟨U', l2, n2, n3⟩ := B
    dsimp only [Pt.U, Pt.locs, Pt.cells, Pt.slots] at X' f1 f2 g1 g2 g3 hsteps
    subst g1; subst g2; subst g3
    exact Or.inl ⟨v, (T.setVm vm₁).calling g' mk' (Value.ref (hk_r G a) :: vs.map (hk_cv G)).toArray, t, U', LL, hT, X', hLL, f1, f2, hq, fun target h9 => hstep₁ _ fun acts => by rw [doInvoke_state]; exact hsteps.trans h9⟩
  · obtain ⟨U', l2, n2, n3⟩ := B
    dsimp only [Pt.U, Pt.locs, Pt.cells, Pt.slots] at X' f1 f2 g1 g2 g3 hcl hsteps
    subst g1; subst g2; subst g3
    exact Or.inr ⟨q, (T.setVm vm₁).calling g' mk' (Value.ref (hk_r G a) :: vs.map (hk_cv G)).toArray, t, U', LL, E, ce, hT, X', hLL, f1, f2, hq, hce, hcv, vx_cls X₁.warmed hcl, hstep₁ _ fun acts => by rw [doInvoke_state]; exact hsteps⟩
end HY
