/-! Calls: a method's frame judgement from its entry is its contract at every call. -/
theorem hk_ofW {l : Launch} {y : MethodName} {ws ws' : List Cond} {rm : Room} {Pc : Array Value → State → Prop} {Qc : Array Value → State → Outcome → State → Prop} {XC : String → State → State → Prop} {mc ms : Nat} {free : Addr → Prop} {cc : ByteArray} {maxL : Nat} {ret : Option FieldType}
    (hy : plainFor y = true) (hw : ws = Cond.code y cc maxL ret :: ws')
    (body : ∀ p e s m args below meth c s₁, BodyLoose p l y (headSpec ws rm) cc maxL ret e s m args below meth c s₁ → c.maxLocals = maxL → (∀ x ∈ c.exceptionTable.toList, False) → Pc args s →
      W p l e (headSpec ws rm).room s m args below meth c s.heap [] 0 0 (vx_MQ below Qc XC args s mc ms free) (entryFrame m args maxL)) : vx_Met l y ws rm Pc Qc XC mc ms free := by
  refine MetFree.of_bodySF (code := cc) (maxLocals := maxL) (ret := ret) hy ?_ ?_
  · intro args s m h hn
    obtain ⟨meth, c, h1, h2, h3, h4, h5, h6, -, -⟩ := Cond.code_spec hn (atoms_spec (ws := ws) h _ (by rw [hw]; exact List.mem_cons_self))
    exact ⟨meth, c, h1, h2, h3, h4, h5, h6⟩
  · intro p e s m args below meth c s₁ B hml hP _
    have hh0 : s₁.heap = s.heap := by rw [B.state]; rfl
    have ht : ∀ x ∈ c.exceptionTable.toList, False := by
      obtain ⟨meth9, c9, h1, h2, -, -, -, -, h7, -⟩ := Cond.code_spec B.named (atoms_spec (ws := ws) B.pre _ (by rw [hw]; exact List.mem_cons_self))
      cases Option.some.inj (h1.symm.trans B.method)
      cases Option.some.inj (h2.symm.trans (Stand.of_body B).code)
      intro x hx
      rw [Array.isEmpty_iff.mp h7] at hx
      cases hx
    obtain ⟨t, a1, o, b1, b2, b3⟩ := body p e s m args below meth c s₁ B hml ht hP s₁ hh0 (Stand.of_body B)
    exact ⟨t, o, a1, b1, b2, b3⟩
theorem hk_ofWH {l : Launch} {y : MethodName} {ws ws' : List Cond} {rm : Room} {Pc : Array Value → State → Prop} {Qc : Array Value → State → Outcome → State → Prop} {XC : String → State → State → Prop} {mc ms : Nat} {free : Addr → Prop} {cc : ByteArray} {maxL : Nat} {ret : Option FieldType} {hh : List (Nat × Nat × Nat × Nat)}
    (hy : plainFor y = true) (hw : ws = Cond.codeWith y cc maxL ret hh :: ws')
    (body : ∀ p e s m args below meth c s₁, BodyLoose p l y (headSpec ws rm) cc maxL ret e s m args below meth c s₁ → c.maxLocals = maxL → Pc args s →
      W p l e (headSpec ws rm).room s m args below meth c s.heap [] 0 0 (vx_MQ below Qc XC args s mc ms free) (entryFrame m args maxL)) : vx_Met l y ws rm Pc Qc XC mc ms free := by
  refine MetFree.of_bodySF (code := cc) (maxLocals := maxL) (ret := ret) hy ?_ ?_
  · intro args s m h hn
    obtain ⟨m9, meth, c, hn9, h1, h2, h3, h4, -, h5, h6, -⟩ := Cond.codeWith_spec (atoms_spec (ws := ws) h _ (by rw [hw]; exact List.mem_cons_self))
    cases hn.symm.trans hn9
    exact ⟨meth, c, h1, h2, h3, h4, h5, h6⟩
  · intro p e s m args below meth c s₁ B hml hP _
    have hh0 : s₁.heap = s.heap := by rw [B.state]; rfl
    obtain ⟨t, a1, o, b1, b2, b3⟩ := body p e s m args below meth c s₁ B hml hP s₁ hh0 (Stand.of_body B)
    exact ⟨t, o, a1, b1, b2, b3⟩
def hk_room (d c s : Nat) : Room := { frames := d + 8, cells := c, slots := s, locals := 64 * d + 400 }
theorem hk_room_fr (d c s : Nat) : (hk_room d c s).frames = d + 8 := rfl
theorem hk_room_lo (d c s : Nat) : (hk_room d c s).locals = 64 * d + 400 := rfl
theorem hk_fr1 {d c s r : Nat} (h : d + 1 + 8 ≤ r) : (hk_room d c s).frames + 1 ≤ r := by rw [hk_room_fr]; omega
set_option maxRecDepth 10000 in
theorem hk_lo1 {a d c s r : Nat} (h : a ≤ 45) (h2 : 64 * (d + 1) + 400 ≤ r) : 8 + (a + 11) + (hk_room d c s).locals ≤ r := by rw [hk_room_lo]; omega
def hk_Pc (G : hk_G) (vs : List Value) (h : hk_H) : Array Value → State → Prop := fun a U => a = (vs.map (hk_cv G)).toArray ∧ hk_K G U U.heap ∧ hk_R G U.heap h
/-- the method M, begun with the values vs -/
def hk_E (G : hk_G) (M : hk_M) (d cb sb : Nat) (vs : List Value) (h : hk_H) (Q : hk_O → hk_H → Prop) : Prop := (hk_ar vs).length ≤ M.2.2.1 ∧ hk_S G M d cb sb 0 (hk_en vs M.2.2.1) [] h Q
theorem hk_blind {G : hk_G} {vs : List Value} {h : hk_H} : FrameBlind (hk_Pc G vs h) := fun _ U _ _ q => ⟨q.1, q.2.1.go (State.WarmedH.refl U) (fun _ _ _ => rfl), q.2.2⟩
def hk_cw (M : hk_M) : Cond := if M.2.2.2.2 = [] then .code M.1 M.2.1 M.2.2.1 M.2.2.2.1 else .codeWith M.1 M.2.1 M.2.2.1 M.2.2.2.1 M.2.2.2.2
/-- what the tables say of a method that is called with n values (the receiver not counted) -/
def hk_ok (M : hk_M) (n : Nat) : Prop := plainFor M.1 = true ∧ (M.1.cls ≠ "java/lang/invoke/MethodHandle" ∧ M.1.cls ≠ "java/lang/invoke/VarHandle") ∧ (parseMethodDescriptor M.1.desc).map (fun d => d.parameters.length) = some n ∧ M.2.2.1 ≤ 45 ∧ Cond.initialized M.1.cls ∈ hk_ws ∧ hk_cw M ∈ hk_ws
theorem hk_good {w : Cond} (h : w ∈ hk_ws) : goodWord w = true := (List.mem_filter.mp h).2
theorem hk_mem {w : Cond} (i : Nat) (h : lw_tbl[i]? = some w) (hg : goodWord w = true) : w ∈ hk_ws := List.mem_filter.mpr ⟨List.mem_of_getElem? h, hg⟩
theorem hk_word {s : State} {args : Array Value} (hts : ∀ w ∈ hk_ws, w.before args s = true) {w : Cond} (h : w ∈ hk_ws) (a' : Array Value) (U : State) (hW : s.WarmedH U.vm) : w.before a' U = true := word_at hW (good_of_word (hk_good h)) (hts w h)
set_option maxHeartbeats 1000000 in
theorem hk_met {G : hk_G} {M : hk_M} {d cb sb n : Nat} {vs : List Value} {h : hk_H} {Q : hk_O → hk_H → Prop} {l : Launch} (hl : l.stackTraces = false) (hok : hk_ok M n) (hE : hk_E G M d cb sb vs h Q) : vx_Met l M.1 (hk_cw M :: hk_ws) (hk_room d cb sb) (hk_Pc G vs h) (hk_Qc G Q) (hk_XC G Q) cb sb (hk_A G) := by
  have fin : ∀ (p : Program) (e : Env) (s : State) (m : MethodId) (args : Array Value) (below : List Frame) (meth : Method) (c : Code) (s₁ : State), BodyLoose p l M.1 (headSpec (hk_cw M :: hk_ws) (hk_room d cb sb)) M.2.1 M.2.2.1 M.2.2.2.1 e s m args below meth c s₁ → c.maxLocals = M.2.2.1 → c.exceptionTable.toList = tableOf M.2.2.2.2 → hk_Pc G vs h args s →
      W p l e (headSpec (hk_cw M :: hk_ws) (hk_room d cb sb)).room s m args below meth c s.heap [] 0 0 (vx_MQ below (hk_Qc G Q) (hk_XC G Q) args s cb sb (hk_A G)) (entryFrame m args M.2.2.1) := by
    intro p e s m args below meth c s₁ B hml htab hv
    obtain ⟨rfl, hK, hR⟩ := hv
    have hts := atoms_spec (ws := hk_cw M :: hk_ws) B.pre
    rw [lg_entry_eq]
    refine hE.2 p l e _ s m _ below meth c s.heap [] 0 0 cb sb _ ⟨B.exec, B.bytes, B.returns, hml, findClass_of_methodNamed B.named, fun w hw => hts w (List.mem_cons_of_mem _ hw), B.notSynchronized, (name_of_methodNamed B.named B.method).1, htab, hK, hl, Nat.le_refl _, Nat.le_refl _, ?_⟩ va_S.rf hR (hk_entry vs hE.1) ⟨by omega, by omega, Nat.le_refl _, Nat.le_refl _⟩
    have := hR.1
    omega
  by_cases hh : M.2.2.2.2 = []
  · have e1 : hk_cw M = .code M.1 M.2.1 M.2.2.1 M.2.2.2.1 := if_pos hh
    refine hk_ofW (cc := M.2.1) (maxL := M.2.2.1) (ret := M.2.2.2.1) hok.1 (by rw [e1]) ?_
    intro p e s m args below meth c s₁ B hml ht hP
    refine fin p e s m args below meth c s₁ B hml ?_ hP
    rw [hh]
    cases h9 : c.exceptionTable.toList with
    | nil => rfl
    | cons x xs => exact (ht x (by rw [h9]; exact List.mem_cons_self)).elim
  · have e1 : hk_cw M = .codeWith M.1 M.2.1 M.2.2.1 M.2.2.2.1 M.2.2.2.2 := if_neg hh
    refine hk_ofWH (cc := M.2.1) (maxL := M.2.2.1) (ret := M.2.2.2.1) (hh := M.2.2.2.2) hok.1 (by rw [e1]) ?_
    intro p e s m args below meth c s₁ B hml hP
    exact fin p e s m args below meth c s₁ B hml (vx_table (x := M.1) B (by rw [← e1]; exact atoms_spec (ws := hk_cw M :: hk_ws) B.pre _ List.mem_cons_self)) hP
theorem hk_metr {G : hk_G} {M : hk_M} {d cb sb n : Nat} {vs : List Value} {h : hk_H} {Q : hk_O → hk_H → Prop} {l : Launch} (hl : l.stackTraces = false) (hok : hk_ok M n) (hE : hk_E G M d cb sb vs h Q) (hno : ∀ E h', ¬ Q (.inr E) h') : Met l M.1 (hk_cw M :: hk_ws) (hk_room d cb sb) (hk_Pc G vs h) (hk_Qc G Q) cb sb (hk_A G) := by
  have hM := hk_met hl hok hE
  intro p e ha hc hk s m args below hf happ hP hT
  obtain ⟨k, o, h1, h2, h3, hQ⟩ := hM p e ha hc hk s m args below hf happ hP hT
  refine ⟨k, o, h1, h2, h3, ?_⟩
  rcases hQ with hQ | ⟨q, -, E, ce, LL, ⟨h', h9, -⟩, -⟩
  · exact hQ
  · exact (hno _ _ h9).elim
theorem hk_cats {G : hk_G} (st : List Value) : (List.map (fun v => Value.category v) (st.map (hk_cv G))) = st.map (fun v => v.category) := by
  rw [List.map_map]
  exact List.map_congr_left fun v _ => hk_cat G v
theorem hk_len {M : hk_M} {n : Nat} (hok : hk_ok M n) : ∀ sig, parseMethodDescriptor M.1.desc = some sig → n = sig.parameters.length := fun sig h => by
  have h2 := hok.2.2.1
  rw [h] at h2
  exact (Option.some.inj h2).symm
section HC
variable {G : hk_G} {M M' : hk_M} {d c1 s1 c2 s2 pc : Nat} {L : List (Option Value)} {st : List Value} {h : hk_H} {Q Qe : hk_O → hk_H → Prop}
/-- behind a call that came back -/
theorem hk_back {p : Program} {l : Launch} {e : Env} {R : Room} {s : State} {m : MethodId} {args : Array Value} {below : List Frame} {meth : Method} {c : Code} {H : Heap} {locs : List Loc} {cells slots mc ms : Nat} {ls : Array Slot} {g : JFrame} {a : Array Value}
    (hg : g = F0 m pc ls g.stack) (C : hk_Cx G M (d + 1) p l R s m args meth c) (hS : va_S (hk_A G) s.heap H locs) (hL : hk_L G ls M.2.2.1 L) (hb : cells + (c1 + c2) ≤ mc ∧ slots + (s1 + s2) ≤ ms ∧ mc ≤ R.cells ∧ ms ≤ R.slots)
    (run : va_Run p l e R s m args below meth c H locs cells slots c1 s1 g (st.map (hk_cv G)) (hk_Qc G Qe a) (hk_A G))
    (kk : ∀ v h', Qe (.inl v) h' → hk_S G M (d + 1) c2 s2 (pc + 3) L (v.toList ++ st) h' Q) : W p l e R s m args below meth c H locs cells slots (vx_MQ below (hk_Qc G Q) (hk_XC G Q) args s mc ms (hk_A G)) g := by
  intro T hT X
  obtain ⟨v, st₀, t, T', L9, h0, X', hL9, e1, e2, ⟨v', h', hv, hq, hR', hF⟩, go⟩ := run T hT X
  cases hv
  have hS' : va_S (hk_A G) s.heap T'.heap (locs ++ L9) := by
    refine ⟨Nat.le_trans hS.1 ?_, fun q g1 g2 => ?_, fun q hq => ?_⟩
    · rw [e1, ← h0]; exact hF.1
    · rw [e1, hF.2 q (by rw [h0]; exact Nat.lt_of_lt_of_le g1 hS.1) g2, h0]
      exact hS.2.1 q g1 g2
    · rcases List.mem_append.mp hq with g | g
      · exact hS.2.2 q g
      · exact hL9 q g
  obtain ⟨t2, a1, b1⟩ := kk v' h' hq p l e R s m args below meth c T'.heap (locs ++ L9) (cells + c1) (slots + s1) mc ms ls C hS' (by rw [e1]; exact hR') hL (by omega) T' rfl X'
  refine ⟨t2, go t2 ?_, b1⟩
  have e9 : ({ g with pc := g.pc + 3, stack := (v'.map (hk_cv G)).toList ++ st.map (hk_cv G) } : JFrame) = F0 m (pc + 3) ls ((v'.toList ++ st).map (hk_cv G)) := by
    rw [hg]
    cases v' <;> rfl
  rw [e9]
  exact a1
theorem hk_fix {p : Program} {l : Launch} {R : Room} {s : State} {m : MethodId} {args : Array Value} {meth : Method} {c : Code} (C : hk_Cx G M d p l R s m args meth c) : CallFix p m c M.2.1 M.2.2.1 s args hk_ws M.1.cls := ⟨C.1, C.2.1, C.2.2.2.1, C.2.2.2.2.1, C.2.2.2.2.2.1⟩
theorem hk_callB {p : Program} {l : Launch} {R : Room} {s : State} {m : MethodId} {args : Array Value} {meth : Method} {c : Code} {n idx : Nat} (C : hk_Cx G M (d + 1) p l R s m args meth c) (hok : hk_ok M' n) (hh : M'.2.2.2.2 = []) (hw : Cond.methodLink M.1.cls idx M'.1 ∈ hk_ws) : CallB R s args M.1.cls idx M'.1 M'.2.1 M'.2.2.1 M'.2.2.2.1 (hk_cw M' :: hk_ws) (hk_room d c1 s1) c1 s1 n := by
  have hts := C.2.2.2.2.2.1
  have hfr := C.2.2.2.2.2.2.2.2.2.2.2.1
  have hlo := C.2.2.2.2.2.2.2.2.2.2.2.2.1
  have e1 : hk_cw M' = .code M'.1 M'.2.1 M'.2.2.1 M'.2.2.2.1 := if_pos hh
  obtain ⟨o1, o2, o3, o4, o5, o6⟩ := id hok
  refine ⟨rfl, rfl, hk_fr1 hfr, hk_lo1 o4 hlo, fun w hw a' U hW => ?_, by rw [e1]; exact List.mem_cons_self, hts _ (by rw [← e1]; exact o6), hts _ o5, o2, hk_len hok, hts _ hw⟩
  rcases List.mem_cons.mp hw with rfl | hw
  · exact hk_word hts o6 a' U hW
  · exact hk_word hts hw a' U hW
theorem hk_pre {p : Program} {l : Launch} {R : Room} {s : State} {m : MethodId} {args : Array Value} {meth : Method} {c : Code} {H : Heap} {locs : List Loc} {vs : List Value} (C : hk_Cx G M d p l R s m args meth c) (hS : va_S (hk_A G) s.heap H locs) (hR : hk_R G H h) : ∀ U : State, U.heap = H → s.WarmedH U.vm → hk_Pc G vs h (vs.map (hk_cv G)).toArray U := fun U hU hW =>
  ⟨rfl, C.2.2.2.2.2.2.2.2.2.1.go hW (fun q g1 g2 => by rw [hU]; exact hS.2.1 q g1 g2), by rw [hU]; exact hR⟩
/-- a static method -/
theorem hs_callS {idx n : Nat} {vs : List Value} (hd : decode M.2.1 pc = .ok (.invokestatic idx, 3)) (hok : hk_ok M' n) (hh : M'.2.2.2.2 = []) (hw : Cond.methodLink M.1.cls idx M'.1 ∈ hk_ws) (hst : Cond.static M'.1 ∈ hk_ws) (hn : vs.length = n) (hcat : (st.map (fun v => v.category)).sum ≤ 8)
    (hE : hk_E G M' d c1 s1 vs h Qe) (hno : ∀ E h', ¬ Qe (.inr E) h') (kk : ∀ v h', Qe (.inl v) h' → hk_S G M (d + 1) c2 s2 (pc + 3) L (v.toList ++ st) h' Q) : hk_S G M (d + 1) (c1 + c2) (s1 + s2) pc L (vs.reverse ++ st) h Q := by
  intro p l e R s m args below meth c H locs cells slots mc ms ls C hS hR hL hb
  have hts := C.2.2.2.2.2.1
  refine hk_back (g := F0 m pc ls ((vs.reverse ++ st).map (hk_cv G))) rfl C hS hL hb (a := (vs.map (hk_cv G)).toArray) ?_ kk
  exact va_runS (As := vs.map (hk_cv G)) (hk_fix C) (hk_metr C.2.2.2.2.2.2.2.2.2.2.1 hok hE hno) ⟨hk_callB C hok hh hw, hts _ hst⟩ ⟨hk_blind, hk_pre C hS hR⟩ rfl (by rw [List.length_map]; exact hn) hL.1 (by show (vs.reverse ++ st).map (hk_cv G) = _; rw [List.map_append, List.map_reverse]) (by show 2 * 0 + _ ≤ 8; rw [hk_cats]; omega) hd ⟨by omega, by omega⟩
/-- a constructor -/
theorem hs_callI {idx n a : Nat} {vs : List Value} (hd : decode M.2.1 pc = .ok (.invokespecial idx, 3)) (hok : hk_ok M' n) (hh : M'.2.2.2.2 = []) (hr : M'.2.2.2.1 = none) (hi : M'.1.name = "<init>") (hw : Cond.methodLink M.1.cls idx M'.1 ∈ hk_ws) (hin : Cond.instanceMethod M'.1 ∈ hk_ws) (hn : vs.length = n) (hcat : (st.map (fun v => v.category)).sum ≤ 8)
    (hE : hk_E G M' d c1 s1 (.ref a :: vs) h Qe) (hno : ∀ E h', ¬ Qe (.inr E) h') (kk : ∀ v h', Qe (.inl v) h' → hk_S G M (d + 1) c2 s2 (pc + 3) L (v.toList ++ st) h' Q) : hk_S G M (d + 1) (c1 + c2) (s1 + s2) pc L (vs.reverse ++ .ref a :: st) h Q := by
  intro p l e R s m args below meth c H locs cells slots mc ms ls C hS hR hL hb
  have hts := C.2.2.2.2.2.1
  have hB := hk_callB (c1 := c1) (s1 := s1) C hok hh hw
  rw [hr] at hB
  refine hk_back (g := F0 m pc ls ((vs.reverse ++ .ref a :: st).map (hk_cv G))) rfl C hS hL hb (a := ((.ref a :: vs).map (hk_cv G)).toArray) ?_ kk
  exact va_runI (As := vs.map (hk_cv G)) (b := hk_r G a) (hk_fix C) (hk_metr C.2.2.2.2.2.2.2.2.2.2.1 hok hE hno) ⟨hB, hi, hts _ hin⟩ ⟨hk_blind, hk_pre (vs := .ref a :: vs) C hS hR⟩ rfl (by rw [List.length_map]; exact hn) hL.1 (by show (vs.reverse ++ .ref a :: st).map (hk_cv G) = _; rw [List.map_append, List.map_reverse]; rfl) (by show 2 * 0 + _ ≤ 8; rw [hk_cats]; omega) hd ⟨by omega, by omega⟩
theorem hk_recv {s : State} {H : Heap} {U : Heap} {a ci : Nat} {fs : List Value} {r : vw_C} (hK : hk_K G s U) (hR : hk_R G H h) (hc : hk_cl[ci]? = some r) (ha : h.2 a = some (.inr (ci, fs))) : ∃ cell : Cell, H[hk_r G a]? = some cell ∧ cell.vm.isStatics = false ∧ s.vm.findClass r.1 = some cell.cls := by
  obtain ⟨q', h1, cell, g1, g2, g3, -⟩ := hR.atO ha
  exact ⟨cell, g1, by rw [g3]; rfl, by rw [g2]; exact (hK.1.1 ci r hc).2.1⟩
/-- a method that the receiver's own class has (a private one, too) -/
theorem hs_callV {idx n a ci : Nat} {vs fs : List Value} {r : vw_C} (hd : decode M.2.1 pc = .ok (.invokevirtual idx, 3)) (hok : hk_ok M' n) (hh : M'.2.2.2.2 = []) (hw : Cond.methodLink M.1.cls idx M'.1 ∈ hk_ws) (hin : Cond.instanceMethod M'.1 ∈ hk_ws) (hc : hk_cl[ci]? = some r) (hsel : Cond.selects r.1 M'.1 M'.1 ∈ hk_ws) (ha : h.2 a = some (.inr (ci, fs))) (hn : vs.length = n) (hcat : (st.map (fun v => v.category)).sum ≤ 8)
    (hE : hk_E G M' d c1 s1 (.ref a :: vs) h Qe) (hno : ∀ E h', ¬ Qe (.inr E) h') (kk : ∀ v h', Qe (.inl v) h' → hk_S G M (d + 1) c2 s2 (pc + 3) L (v.toList ++ st) h' Q) : hk_S G M (d + 1) (c1 + c2) (s1 + s2) pc L (vs.reverse ++ .ref a :: st) h Q := by
  intro p l e R s m args below meth c H locs cells slots mc ms ls C hS hR hL hb
  have hts := C.2.2.2.2.2.1
  refine hk_back (g := F0 m pc ls ((vs.reverse ++ .ref a :: st).map (hk_cv G))) rfl C hS hL hb (a := ((.ref a :: vs).map (hk_cv G)).toArray) ?_ kk
  exact va_runV (As := vs.map (hk_cv G)) (b := hk_r G a) (C := r.1) (hk_fix C) (hk_metr C.2.2.2.2.2.2.2.2.2.2.1 hok hE hno) ⟨hk_callB C hok hh hw, hts _ hin, hts _ hsel⟩ ⟨hk_blind, hk_recv C.2.2.2.2.2.2.2.2.2.1 hR hc ha, hk_pre (vs := .ref a :: vs) C hS hR⟩ rfl (by rw [List.length_map]; exact hn) hL.1 (by show (vs.reverse ++ .ref a :: st).map (hk_cv G) = _; rw [List.map_append, List.map_reverse]; rfl) (by show 2 * 0 + _ ≤ 8; rw [hk_cats]; omega) hd ⟨by omega, by omega⟩
theorem hk_cu {p : Program} {l : Launch} {R : Room} {s : State} {m : MethodId} {args : Array Value} {meth : Method} {c : Code} {n idx : Nat} {x : MethodName} {owner Cn : String} (C : hk_Cx G M (d + 1) p l R s m args meth c) (hok : hk_ok M' n) (hh : M'.2.2.2.2 = []) (hdx : x.desc = M'.1.desc) (hw : Cond.methodLink M.1.cls idx x ∈ hk_ws ∧ Cond.sameMethod x.cls owner x.name x.desc ∈ hk_ws ∧ Cond.selects Cn x M'.1 ∈ hk_ws ∧ Cond.instanceMethod M'.1 ∈ hk_ws) (ho : owner ≠ "java/lang/invoke/MethodHandle" ∧ owner ≠ "java/lang/invoke/VarHandle") (hde : (Cond.instanceMethod ⟨owner, x.name, x.desc⟩ ∈ hk_ws ∧ ∃ b0 m0 r0, Cond.code ⟨owner, x.name, x.desc⟩ b0 m0 r0 ∈ hk_ws) ∨ (⟨owner, x.name, x.desc⟩ : MethodName) ∈ hk_decl) : va_CU R s args M.1.cls Cn owner idx x M'.1 M'.2.1 M'.2.2.1 M'.2.2.2.1 (hk_cw M' :: hk_ws) (hk_room d c1 s1) c1 s1 n := by
  have hts := C.2.2.2.2.2.1
  have hfr := C.2.2.2.2.2.2.2.2.2.2.2.1
  have hlo := C.2.2.2.2.2.2.2.2.2.2.2.2.1
  have e1 : hk_cw M' = .code M'.1 M'.2.1 M'.2.2.1 M'.2.2.2.1 := if_pos hh
  obtain ⟨o1, o2, o3, o4, o5, o6⟩ := id hok
  refine ⟨⟨rfl, rfl, hk_fr1 hfr, hk_lo1 o4 hlo, fun w hw a' U hW => ?_, by rw [e1]; exact List.mem_cons_self⟩, hts _ (by rw [← e1]; exact o6), hts _ o5, ho, by rw [hdx]; exact hk_len hok, hts _ hw.1, hts _ hw.2.1, ?_, hts _ hw.2.2.1, hts _ hw.2.2.2⟩
  · rcases List.mem_cons.mp hw with rfl | hw
    · exact hk_word hts o6 a' U hW
    · exact hk_word hts hw a' U hW
  · rcases hde with ⟨h1, b0, m0, r0, h2⟩ | h1
    · exact va_Decl.of (hts _ h1) (hts _ h2)
    · exact va_Decl.abs (C.2.2.2.2.2.2.2.2.2.1.2.2.2.2.2.2.1 _ h1)
/-- a method by the receiver's class: inherited or overriding -/
theorem hs_callU {idx n a ci : Nat} {vs fs : List Value} {r : vw_C} {x : MethodName} {owner : String} (hd : decode M.2.1 pc = .ok (.invokevirtual idx, 3)) (hok : hk_ok M' n) (hh : M'.2.2.2.2 = []) (hdx : x.desc = M'.1.desc) (hc : hk_cl[ci]? = some r) (hw : Cond.methodLink M.1.cls idx x ∈ hk_ws ∧ Cond.sameMethod x.cls owner x.name x.desc ∈ hk_ws ∧ Cond.selects r.1 x M'.1 ∈ hk_ws ∧ Cond.instanceMethod M'.1 ∈ hk_ws) (ho : owner ≠ "java/lang/invoke/MethodHandle" ∧ owner ≠ "java/lang/invoke/VarHandle") (hde : (Cond.instanceMethod ⟨owner, x.name, x.desc⟩ ∈ hk_ws ∧ ∃ b0 m0 r0, Cond.code ⟨owner, x.name, x.desc⟩ b0 m0 r0 ∈ hk_ws) ∨ (⟨owner, x.name, x.desc⟩ : MethodName) ∈ hk_decl) (ha : h.2 a = some (.inr (ci, fs))) (hn : vs.length = n) (hcat : (st.map (fun v => v.category)).sum ≤ 8)
    (hE : hk_E G M' d c1 s1 (.ref a :: vs) h Qe) (hno : ∀ E h', ¬ Qe (.inr E) h') (kk : ∀ v h', Qe (.inl v) h' → hk_S G M (d + 1) c2 s2 (pc + 3) L (v.toList ++ st) h' Q) : hk_S G M (d + 1) (c1 + c2) (s1 + s2) pc L (vs.reverse ++ .ref a :: st) h Q := by
  intro p l e R s m args below meth c H locs cells slots mc ms ls C hS hR hL hb
  refine hk_back (g := F0 m pc ls ((vs.reverse ++ .ref a :: st).map (hk_cv G))) rfl C hS hL hb (a := ((.ref a :: vs).map (hk_cv G)).toArray) ?_ kk
  exact va_runU (As := vs.map (hk_cv G)) (b := hk_r G a) (C := r.1) (hk_fix C) (hk_metr C.2.2.2.2.2.2.2.2.2.2.1 hok hE hno) (hk_cu C hok hh hdx hw ho hde) ⟨hk_blind, hk_recv C.2.2.2.2.2.2.2.2.2.1 hR hc ha, hk_pre (vs := .ref a :: vs) C hS hR⟩ rfl (by rw [List.length_map]; exact hn) hL.1 (by show (vs.reverse ++ .ref a :: st).map (hk_cv G) = _; rw [List.map_append, List.map_reverse]; rfl) (by show 2 * 0 + _ ≤ 8; rw [hk_cats]; omega) hd ⟨by omega, by omega⟩
/-- super.method() -/
theorem hs_callSU {idx n a ci : Nat} {vs fs : List Value} {r : vw_C} (hd : decode M.2.1 pc = .ok (.invokespecial idx, 3)) (hok : hk_ok M' n) (hh : M'.2.2.2.2 = []) (hni : M'.1.name ≠ "<init>") (hw : Cond.methodLink M.1.cls idx M'.1 ∈ hk_ws ∧ Cond.sameMethod M'.1.cls M'.1.cls M'.1.name M'.1.desc ∈ hk_ws ∧ Cond.superclass M.1.cls M'.1.cls ∈ hk_ws ∧ Cond.instanceMethod M'.1 ∈ hk_ws) (hc : hk_cl[ci]? = some r) (ha : h.2 a = some (.inr (ci, fs))) (hn : vs.length = n) (hcat : (st.map (fun v => v.category)).sum ≤ 8)
    (hE : hk_E G M' d c1 s1 (.ref a :: vs) h Qe) (hno : ∀ E h', ¬ Qe (.inr E) h') (kk : ∀ v h', Qe (.inl v) h' → hk_S G M (d + 1) c2 s2 (pc + 3) L (v.toList ++ st) h' Q) : hk_S G M (d + 1) (c1 + c2) (s1 + s2) pc L (vs.reverse ++ .ref a :: st) h Q := by
  intro p l e R s m args below meth c H locs cells slots mc ms ls C hS hR hL hb
  have hts := C.2.2.2.2.2.1
  have hB := hk_callB (c1 := c1) (s1 := s1) C hok hh hw.1
  refine hk_back (g := F0 m pc ls ((vs.reverse ++ .ref a :: st).map (hk_cv G))) rfl C hS hL hb (a := ((.ref a :: vs).map (hk_cv G)).toArray) ?_ kk
  refine va_runSU (n := n) (As := vs.map (hk_cv G)) (b := hk_r G a) (C := r.1) (bytes := M'.2.1) (maxL := M'.2.2.1) (ret := M'.2.2.2.1) (cC := G.1.1 ci) (C.2.2.2.2.2.2.2.2.2.1.1.1 ci r hc).2 (hk_fix C) (hk_metr C.2.2.2.2.2.2.2.2.2.2.1 hok hE hno) ?_ ⟨hk_blind, hk_recv C.2.2.2.2.2.2.2.2.2.1 hR hc ha, hk_pre (vs := .ref a :: vs) C hS hR⟩ rfl (by rw [List.length_map]; exact hn) hL.1 (by show (vs.reverse ++ .ref a :: st).map (hk_cv G) = _; rw [List.map_append, List.map_reverse]; rfl) (by show 2 * 0 + _ ≤ 8; rw [hk_cats]; omega) hd ⟨by omega, by omega⟩
  obtain ⟨b1, b2, b3, b4, b5, b6, b7, b8, b9, b10, b11⟩ := hB
  exact ⟨⟨b1, b2, b3, b4, b5, b6⟩, b11, hts _ hw.2.1, hts _ hw.2.2.1, hts _ hw.2.2.2, b8, b7, hni, b10⟩
end HC
