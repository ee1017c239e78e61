section HT0
variable {p : Program} {l : Launch} {e : Env} {R : Room} {s : State} {m : MethodId} {args : Array Value} {below : List Frame} {meth : Method} {c : Code} {H : Heap} {locs : List Loc} {cells slots : Nat} {Q : State → Prop}
variable {mc ms : Nat} {free : Addr → Prop} {A0 A1 : Nat → Prop} {H0 : Heap} {a : Array Value} {ls : Array Slot} {st0 rest : List Value}
variable {Qc : Array Value → State → Outcome → State → Prop} {XC : String → State → State → Prop}
theorem hk_throwS {cc : ByteArray} {pc : Nat} (hexec : p.tables.exec = Jvm.exec) (hb : c.code = cc) (hl : l.stackTraces = false) {own cls text : String} {names : List String} {ik is ic mc ms sa : Nat} {A : Nat → Prop}
    (hown : s.vm.findClass own = some m.cls) (hcls : Bundle.fit cls = true) (hnames : ∀ n ∈ names, Bundle.fit n = true)
    (hk : (Cond.classLink own ik cls).before args s = true) (hini : (Cond.initialized cls).before args s = true) (hstr : vk_R own is text sa s) (hat : ∀ w ∈ vx_atS own ic cls names, w.before args s = true)
    (hgood : ∀ w ∈ Cond.classLink own ik cls :: Cond.initialized cls :: vx_atS own ic cls names, vx_ot w = true)
    (hU : vx_Zq Bundle.tN "UNASSIGNED_STACK" Bundle.steD A s s.heap) (hN : vx_Zq Bundle.tN "SUPPRESSED_SENTINEL" Bundle.listD A s s.heap) (hS : va_S A s.heap H locs) (hsize : ls.size = c.maxLocals)
    (d0 : decode cc pc = .ok (.new ik, 3)) (d3 : decode cc (pc + 3) = .ok (.dup, 1)) (d4 : decode cc (pc + 4) = .ok (.ldc is, 2)) (d6 : decode cc (pc + 6) = .ok (.invokespecial ic, 3)) (d9 : decode cc (pc + 9) = .ok (.athrow, 1))
    (hout : ∀ x ∈ c.exceptionTable.toList, covers x (pc + 9) = false)
    (hRframes : names.length + 3 < R.frames) (hRlocals : (rest.map fun v => v.category).sum + (13 * (names.length + 1) + 43) ≤ R.locals) (hRcells : cells + 1 ≤ R.cells) (hRslots : slots + 6 ≤ R.slots) (hlocks : meth.locks = false)
    (hx : ∀ t : State, s.vm.Alike t.vm → t.heap.size = H.size + 1 → (∀ q : Nat, q < H.size → t.heap[q]? = H[q]?) → XC cls s t)
    (hf : ∀ z ∈ locs, free z.base) (hc : cells + 1 ≤ mc) (hs : slots + 6 ≤ ms) :
    W p l e R s m args below meth c H locs cells slots (vx_MQ below Qc XC args s mc ms free) (F0 m pc ls rest) := by
  intro T hT X
  have htr : e.platform.stackTraces = false := (show e.platform.stackTraces = l.stackTraces by rw [X.admits.platform]).trans hl
  have Y := vx_rebase X (R' := { frames := R.frames, locals := R.locals, cells := 1, slots := 6 }) (Nat.le_refl _) (Nat.le_refl _) hRcells hRslots
  obtain ⟨s', hA⟩ : ∃ z, z = (T.setVm s.vm).setFrames (.invoking m args :: below) := ⟨_, rfl⟩
  rw [← hA] at Y
  have hvm : s'.vm = s.vm := by rw [hA]; rfl
  have hhp : s'.heap = H := by rw [hA]; exact hT
  have hW0 : s.WarmedH s'.vm := by rw [hvm]; exact State.WarmedH.refl s
  have hat' : ∀ w ∈ vx_atS own ic cls names, w.before args s' = true := fun w hw => vx_ot_at hW0 hvm.symm (hgood w (List.mem_cons_of_mem _ (List.mem_cons_of_mem _ hw))) (hat w hw)
  have hk' : (Cond.classLink own ik cls).before args s' = true := vx_ot_at hW0 hvm.symm (hgood _ List.mem_cons_self) hk
  have hini' : (Cond.initialized cls).before args s' = true := vx_ot_at hW0 hvm.symm (hgood _ (List.mem_cons_of_mem _ List.mem_cons_self)) hini
  have hU' : vx_Zq Bundle.tN "UNASSIGNED_STACK" Bundle.steD A s' s'.heap := by rw [hhp]; exact vx_Zq.moved hW0.alike (hU.kept hS.2.1)
  have hN' : vx_Zq Bundle.tN "SUPPRESSED_SENTINEL" Bundle.listD A s' s'.heap := by rw [hhp]; exact vx_Zq.moved hW0.alike (hN.kept hS.2.1)
  have h : ∀ w ∈ Bundle.ownAtoms own ic cls names, w.before args s' = true := vx_own hat' (vx_isRefq hU'.1) (vx_isRefq hN'.1) hU'.2.word hN'.2.word
  have hown' : s'.vm.findClass own = some m.cls := by rw [hvm]; exact hown
  have hins : (Cond.instantiable cls 6).before args s' = true := h _ (by simp [Bundle.ownAtoms])
  obtain ⟨vm₁, cX, kX, hfX, hkX, -, -, X₁, st1⟩ := Y.newCold hexec (own := own) (C := cls) (index := ik) (n := 6) hown' hk' hins hini'
    (g := F0 m pc ls rest) rfl (by rw [hb]; exact d0) (Nat.le_refl _) (Nat.le_refl _)
  generalize hT1 : (T.setVm vm₁).pushCell { cls := cX, slots := kX.instanceTypes.map defaultValue, vm := .none } = T1 at X₁ st1
  have hcat : (Value.ref T.heap.size).category = 1 := rfl
  have hcellA : T1.heap[T.heap.size]? = some (freshCell cX kX) := by rw [← hT1]; exact State.heap_pushCell_size _ _
  have d3' : decode c.code (pc + 3) = .ok (.dup, 1) := by rw [hb]; exact d3
  have d4' : decode c.code (pc + 4) = .ok (.ldc is, 2) := by rw [hb]; exact d4
  have hstr' : vk_R own is text sa s' := vk_R.warm hW0 hstr
  obtain ⟨U, hsteps, hrun, hend, hW, hsame, ce, hce, hO⟩ := X₁.ctorThrowS hexec htr (own := own) (cls := cls) (names := names) (ic := ic) hown' hcls hnames h (fun x hx => nomatch hx) hfX hkX hcellA (by rw [hhp, hT]; exact Nat.le_refl _) (msg := .ref sa) rfl
    (g := { method := m, pc := pc + 6, locals := ls, stack := .ref sa :: .ref T.heap.size :: .ref T.heap.size :: rest, locked := none }) rfl hsize rfl rfl (rest := rest) rfl
    (by rw [hb]; exact d6) (by rw [hb]; exact d9) hout hRframes (by simp only [List.map_cons, List.sum_cons, hcat]; omega) hlocks
  obtain ⟨f1, f2⟩ := vx_frame hsame
  rw [hhp] at f1 f2
  have f3 : U.heap.size = H.size + 1 := by
    have g1 : T.heap.size < U.heap.size := (Array.getElem?_eq_some_iff.mp hce).1
    have g2 : U.heap.size ≤ s'.heap.size + (0 + 1) := hsame.2.2.1
    rw [hhp] at g2
    rw [hT] at g1
    omega
  have hWs : s.WarmedH U.vm := State.WarmedH.trans hW0 hW
  have hcl : s.vm.findClass cls = some ce.cls := by
    have h9 := hO.cls
    rw [hvm] at h9
    exact h9
  have hall : s.sameButNew ({ U with vm := s.vm } : State) locs mc ms := by
    subst hA
    obtain ⟨e1, e2⟩ := hsame
    rw [State.setFrames_setFrames] at e1
    have h2 : (T.setVm s.vm).sameButNew ({ U with vm := s.vm } : State) [] (0 + 1) (0 + 6) := ⟨e1, e2⟩
    have h3 := X.same.trans h2
    rw [List.append_nil] at h3
    exact h3.mono hc hs
  refine ⟨U, ?_, .threw T.heap.size, hrun, hend, Or.inr ⟨T.heap.size, rfl, cls, ce, locs, hx U hWs.alike f3 (fun q hq => f2 q hq (fun z hz => nomatch hz)), hce, hO.vm, hcl, hWs, hall, hf⟩⟩
  refine st1 _ ?_
  show Steps p.tables e below (T1.setTop { method := m, pc := pc + 3, locals := ls, stack := .ref T.heap.size :: rest, locked := none }) _
  jvm_step X₁.here [X₁.here.top, hexec, d3', Value.category]
  exact X₁.ldcString hexec (own := own) (text := text) (index := is) (a := sa) hown' hstr'.1 hstr'.2
    (g := { method := m, pc := pc + 4, locals := ls, stack := .ref T.heap.size :: .ref T.heap.size :: rest, locked := none }) rfl d4' _ hsteps
theorem hk_throwSW {cc : ByteArray} {pc : Nat} (hexec : p.tables.exec = Jvm.exec) (hb : c.code = cc) (hl : l.stackTraces = false) {own cls text : String} {names : List String} {ik is ic mc ms sa : Nat} {A : Nat → Prop}
    (hown : s.vm.findClass own = some m.cls) (hcls : Bundle.fit cls = true) (hnames : ∀ n ∈ names, Bundle.fit n = true)
    (hk : (Cond.classLink own ik cls).before args s = true) (hini : (Cond.initialized cls).before args s = true) (hstr : vk_R own is text sa s) (hat : ∀ w ∈ vx_atS own ic cls names, w.before args s = true)
    (hgood : ∀ w ∈ Cond.classLink own ik cls :: Cond.initialized cls :: vx_atS own ic cls names, vx_ot w = true)
    (hU : vx_Zq Bundle.tN "UNASSIGNED_STACK" Bundle.steD A s s.heap) (hN : vx_Zq Bundle.tN "SUPPRESSED_SENTINEL" Bundle.listD A s s.heap) (hS : va_S A s.heap H locs) (hsize : ls.size = c.maxLocals)
    (d0 : decode cc pc = .ok (.new ik, 3)) (d3 : decode cc (pc + 3) = .ok (.dup, 1)) (d4 : decode cc (pc + 4) = .ok (.ldc_w is, 3)) (d7 : decode cc (pc + 7) = .ok (.invokespecial ic, 3)) (d10 : decode cc (pc + 10) = .ok (.athrow, 1))
    (hout : ∀ x ∈ c.exceptionTable.toList, covers x (pc + 10) = false)
    (hRframes : names.length + 3 < R.frames) (hRlocals : (rest.map fun v => v.category).sum + (13 * (names.length + 1) + 43) ≤ R.locals) (hRcells : cells + 1 ≤ R.cells) (hRslots : slots + 6 ≤ R.slots) (hlocks : meth.locks = false)
    (hx : ∀ t : State, s.vm.Alike t.vm → t.heap.size = H.size + 1 → (∀ q : Nat, q < H.size → t.heap[q]? = H[q]?) → XC cls s t)
    (hf : ∀ z ∈ locs, free z.base) (hc : cells + 1 ≤ mc) (hs : slots + 6 ≤ ms) :
    W p l e R s m args below meth c H locs cells slots (vx_MQ below Qc XC args s mc ms free) (F0 m pc ls rest) := by
  intro T hT X
  have htr : e.platform.stackTraces = false := (show e.platform.stackTraces = l.stackTraces by rw [X.admits.platform]).trans hl
  have Y := vx_rebase X (R' := { frames := R.frames, locals := R.locals, cells := 1, slots := 6 }) (Nat.le_refl _) (Nat.le_refl _) hRcells hRslots
  obtain ⟨s', hA⟩ : ∃ z, z = (T.setVm s.vm).setFrames (.invoking m args :: below) := ⟨_, rfl⟩
  rw [← hA] at Y
  have hvm : s'.vm = s.vm := by rw [hA]; rfl
  have hhp : s'.heap = H := by rw [hA]; exact hT
  have hW0 : s.WarmedH s'.vm := by rw [hvm]; exact State.WarmedH.refl s
  have hat' : ∀ w ∈ vx_atS own ic cls names, w.before args s' = true := fun w hw => vx_ot_at hW0 hvm.symm (hgood w (List.mem_cons_of_mem _ (List.mem_cons_of_mem _ hw))) (hat w hw)
  have hk' : (Cond.classLink own ik cls).before args s' = true := vx_ot_at hW0 hvm.symm (hgood _ List.mem_cons_self) hk
  have hini' : (Cond.initialized cls).before args s' = true := vx_ot_at hW0 hvm.symm (hgood _ (List.mem_cons_of_mem _ List.mem_cons_self)) hini
  have hU' : vx_Zq Bundle.tN "UNASSIGNED_STACK" Bundle.steD A s' s'.heap := by rw [hhp]; exact vx_Zq.moved hW0.alike (hU.kept hS.2.1)
  have hN' : vx_Zq Bundle.tN "SUPPRESSED_SENTINEL" Bundle.listD A s' s'.heap := by rw [hhp]; exact vx_Zq.moved hW0.alike (hN.kept hS.2.1)
  have h : ∀ w ∈ Bundle.ownAtoms own ic cls names, w.before args s' = true := vx_own hat' (vx_isRefq hU'.1) (vx_isRefq hN'.1) hU'.2.word hN'.2.word
  have hown' : s'.vm.findClass own = some m.cls := by rw [hvm]; exact hown
  have hins : (Cond.instantiable cls 6).before args s' = true := h _ (by simp [Bundle.ownAtoms])
  obtain ⟨vm₁, cX, kX, hfX, hkX, -, -, X₁, st1⟩ := Y.newCold hexec (own := own) (C := cls) (index := ik) (n := 6) hown' hk' hins hini'
    (g := F0 m pc ls rest) rfl (by rw [hb]; exact d0) (Nat.le_refl _) (Nat.le_refl _)
  generalize hT1 : (T.setVm vm₁).pushCell { cls := cX, slots := kX.instanceTypes.map defaultValue, vm := .none } = T1 at X₁ st1
  have hcat : (Value.ref T.heap.size).category = 1 := rfl
  have hcellA : T1.heap[T.heap.size]? = some (freshCell cX kX) := by rw [← hT1]; exact State.heap_pushCell_size _ _
  have d3' : decode c.code (pc + 3) = .ok (.dup, 1) := by rw [hb]; exact d3
  have d4' : decode c.code (pc + 4) = .ok (.ldc_w is, 3) := by rw [hb]; exact d4
  have hstr' : vk_R own is text sa s' := vk_R.warm hW0 hstr
  obtain ⟨U, hsteps, hrun, hend, hW, hsame, ce, hce, hO⟩ := X₁.ctorThrowS hexec htr (own := own) (cls := cls) (names := names) (ic := ic) hown' hcls hnames h (fun x hx => nomatch hx) hfX hkX hcellA (by rw [hhp, hT]; exact Nat.le_refl _) (msg := .ref sa) rfl
    (g := { method := m, pc := pc + 7, locals := ls, stack := .ref sa :: .ref T.heap.size :: .ref T.heap.size :: rest, locked := none }) rfl hsize rfl rfl (rest := rest) rfl
    (by rw [hb]; exact d7) (by rw [hb]; exact d10) hout hRframes (by simp only [List.map_cons, List.sum_cons, hcat]; omega) hlocks
  obtain ⟨f1, f2⟩ := vx_frame hsame
  rw [hhp] at f1 f2
  have f3 : U.heap.size = H.size + 1 := by
    have g1 : T.heap.size < U.heap.size := (Array.getElem?_eq_some_iff.mp hce).1
    have g2 : U.heap.size ≤ s'.heap.size + (0 + 1) := hsame.2.2.1
    rw [hhp] at g2
    rw [hT] at g1
    omega
  have hWs : s.WarmedH U.vm := State.WarmedH.trans hW0 hW
  have hcl : s.vm.findClass cls = some ce.cls := by
    have h9 := hO.cls
    rw [hvm] at h9
    exact h9
  have hall : s.sameButNew ({ U with vm := s.vm } : State) locs mc ms := by
    subst hA
    obtain ⟨e1, e2⟩ := hsame
    rw [State.setFrames_setFrames] at e1
    have h2 : (T.setVm s.vm).sameButNew ({ U with vm := s.vm } : State) [] (0 + 1) (0 + 6) := ⟨e1, e2⟩
    have h3 := X.same.trans h2
    rw [List.append_nil] at h3
    exact h3.mono hc hs
  refine ⟨U, ?_, .threw T.heap.size, hrun, hend, Or.inr ⟨T.heap.size, rfl, cls, ce, locs, hx U hWs.alike f3 (fun q hq => f2 q hq (fun z hz => nomatch hz)), hce, hO.vm, hcl, hWs, hall, hf⟩⟩
  refine st1 _ ?_
  show Steps p.tables e below (T1.setTop { method := m, pc := pc + 3, locals := ls, stack := .ref T.heap.size :: rest, locked := none }) _
  jvm_step X₁.here [X₁.here.top, hexec, d3', Value.category]
  exact X₁.ldcStringW hexec (own := own) (text := text) (index := is) (a := sa) hown' hstr'.1 hstr'.2
    (g := { method := m, pc := pc + 4, locals := ls, stack := .ref T.heap.size :: .ref T.heap.size :: rest, locked := none }) rfl d4' _ hsteps
end HT0
def hk_B : List Cond := hk_cast.map (fun q => .castable q.1 q.2) ++ hk_decl.map (fun x => .declares x)
def hk_chain : List String := ["java/lang/RuntimeException", "java/lang/Exception"]
/-- what the tables say where the class own throws a new cls (pool's entries: the class, the constructor) -/
def hk_thr (own : String) (ik ic : Nat) (cls : String) : Prop := Bundle.fit cls = true ∧ (∀ n ∈ hk_chain, Bundle.fit n = true) ∧ Cond.classLink own ik cls ∈ hk_ws ∧ Cond.initialized cls ∈ hk_ws ∧ (∀ w ∈ (vx_atS own ic cls hk_chain).filter goodWord, w ∈ hk_ws) ∧ (∀ w ∈ (vx_atS own ic cls hk_chain).filter (fun w => !goodWord w), w ∈ hk_B) ∧ (∀ w ∈ Cond.classLink own ik cls :: Cond.initialized cls :: vx_atS own ic cls hk_chain, vx_ot w = true)
set_option maxRecDepth 10000 in
theorem hk_lo2 {d r : Nat} (h : 64 * d + 400 ≤ r) : (([] : List Value).map fun v => v.category).sum + (13 * (hk_chain.length + 1) + 43) ≤ r := by
  show 0 + (13 * (2 + 1) + 43) ≤ r
  omega
section HT
variable {G : hk_G} {M M' : hk_M} {d cb sb c1 s1 c2 s2 pc : Nat} {L L' : List (Option Value)} {st : List Value} {h : hk_H} {Q Qe : hk_O → hk_H → Prop}
theorem hk_bs {s : State} {H : Heap} {args : Array Value} (hK : hk_K G s H) : ∀ w ∈ hk_B, w.before args s = true := by
  intro w hw
  rcases List.mem_append.mp hw with hw | hw
  · obtain ⟨q, hq, rfl⟩ := List.mem_map.mp hw
    exact va_Nw.use rfl (hK.2.2.2.2.2.1 q hq)
  · obtain ⟨x, hx, rfl⟩ := List.mem_map.mp hw
    exact va_Nw.use rfl (hK.2.2.2.2.2.2.1 x hx)
theorem hk_covers {pc : Nat} (h : ∀ q ∈ M.2.2.2.2, ¬ (q.1 ≤ pc ∧ pc < q.2.1)) {c : Code} (ht : c.exceptionTable.toList = tableOf M.2.2.2.2) : ∀ x ∈ c.exceptionTable.toList, covers x pc = false := by
  intro x hx
  rw [ht] at hx
  obtain ⟨q, hq, rfl⟩ := List.mem_map.mp hx
  have := h q hq
  simp only [covers, Bool.and_eq_false_iff, decide_eq_false_iff_not]
  omega
theorem hs_throw {ik is ic : Nat} {cls text : String} (d0 : decode M.2.1 pc = .ok (.new ik, 3)) (d3 : decode M.2.1 (pc + 3) = .ok (.dup, 1)) (d4 : decode M.2.1 (pc + 4) = .ok (.ldc is, 2)) (d6 : decode M.2.1 (pc + 6) = .ok (.invokespecial ic, 3)) (d9 : decode M.2.1 (pc + 9) = .ok (.athrow, 1)) (hh : M.2.2.2.2 = []) (ht : hk_thr M.1.cls ik ic cls) (hs : (M.1.cls, is, text) ∈ hk_strs) (hst : st = []) (hq : Q (.inr cls) (h.1 + 1, h.2)) : hk_S G M d (cb + 1) (sb + 6) pc L st h Q := by
  intro p l e R s m args below meth c H locs cells slots mc ms ls C hS hR hL hb
  subst hst
  obtain ⟨t1, t2, t3, t4, t5, t6, t7⟩ := ht
  have hts := C.2.2.2.2.2.1
  have hK := C.2.2.2.2.2.2.2.2.2.1
  have hfr := C.2.2.2.2.2.2.2.2.2.2.2.1
  have hlo := C.2.2.2.2.2.2.2.2.2.2.2.2.1
  obtain ⟨sa, hsa⟩ := hK.2.2.2.2.1 _ hs
  have hf0 : hk_chain.length + 3 < R.frames := by show 2 + 3 < _; omega
  refine hk_throwS (names := hk_chain) (sa := sa) C.1 C.2.1 C.2.2.2.2.2.2.2.2.2.2.1 C.2.2.2.2.1 t1 t2 (hts _ t3) (hts _ t4) hsa (vx_hat (fun w hw => hts w (t5 w hw)) t6 (hk_bs hK)) t7 hK.2.1 hK.2.2.1 hS (hL.1.trans C.2.2.2.1.symm) d0 d3 d4 d6 d9 (hk_covers (by rw [hh]; exact fun q hq => by cases hq) C.2.2.2.2.2.2.2.2.1) hf0 (hk_lo2 hlo) (by omega) (by omega) C.2.2.2.2.2.2.1 ?_ hS.2.2 (by omega) (by omega)
  intro t ha hz ho
  refine ⟨(h.1 + 1, h.2), hq, ⟨?_, ?_, hR.2.2.1, fun a c9 ha9 => ?_⟩, ⟨?_, fun q g1 g2 => ?_⟩⟩
  · rw [hz, hR.1]
    have := hR.2.1
    show _ = G.2.2.2 + (h.1 + 1 - 4)
    omega
  · have := hR.2.1
    show 4 ≤ h.1 + 1
    omega
  · have h5 := hR.2.2.2 a c9 ha9
    exact h5.kept (ho _ h5.lt)
  · rw [hz]
    have := hS.1
    omega
  · rw [ho q (Nat.lt_of_lt_of_le g1 hS.1)]
    exact hS.2.1 q g1 g2
theorem hs_throwW {ik is ic : Nat} {cls text : String} (d0 : decode M.2.1 pc = .ok (.new ik, 3)) (d3 : decode M.2.1 (pc + 3) = .ok (.dup, 1)) (d4 : decode M.2.1 (pc + 4) = .ok (.ldc_w is, 3)) (d6 : decode M.2.1 (pc + 7) = .ok (.invokespecial ic, 3)) (d9 : decode M.2.1 (pc + 10) = .ok (.athrow, 1)) (hh : M.2.2.2.2 = []) (ht : hk_thr M.1.cls ik ic cls) (hs : (M.1.cls, is, text) ∈ hk_strs) (hst : st = []) (hq : Q (.inr cls) (h.1 + 1, h.2)) : hk_S G M d (cb + 1) (sb + 6) pc L st h Q := by
  intro p l e R s m args below meth c H locs cells slots mc ms ls C hS hR hL hb
  subst hst
  obtain ⟨t1, t2, t3, t4, t5, t6, t7⟩ := ht
  have hts := C.2.2.2.2.2.1
  have hK := C.2.2.2.2.2.2.2.2.2.1
  have hfr := C.2.2.2.2.2.2.2.2.2.2.2.1
  have hlo := C.2.2.2.2.2.2.2.2.2.2.2.2.1
  obtain ⟨sa, hsa⟩ := hK.2.2.2.2.1 _ hs
  have hf0 : hk_chain.length + 3 < R.frames := by show 2 + 3 < _; omega
  refine hk_throwSW (names := hk_chain) (sa := sa) C.1 C.2.1 C.2.2.2.2.2.2.2.2.2.2.1 C.2.2.2.2.1 t1 t2 (hts _ t3) (hts _ t4) hsa (vx_hat (fun w hw => hts w (t5 w hw)) t6 (hk_bs hK)) t7 hK.2.1 hK.2.2.1 hS (hL.1.trans C.2.2.2.1.symm) d0 d3 d4 d6 d9 (hk_covers (by rw [hh]; exact fun q hq => by cases hq) C.2.2.2.2.2.2.2.2.1) hf0 (hk_lo2 hlo) (by omega) (by omega) C.2.2.2.2.2.2.1 ?_ hS.2.2 (by omega) (by omega)
  intro t ha hz ho
  refine ⟨(h.1 + 1, h.2), hq, ⟨?_, ?_, hR.2.2.1, fun a c9 ha9 => ?_⟩, ⟨?_, fun q g1 g2 => ?_⟩⟩
  · rw [hz, hR.1]
    have := hR.2.1
    show _ = G.2.2.2 + (h.1 + 1 - 4)
    omega
  · have := hR.2.1
    show 4 ≤ h.1 + 1
    omega
  · have h5 := hR.2.2.2 a c9 ha9
    exact h5.kept (ho _ h5.lt)
  · rw [hz]
    have := hS.1
    omega
  · rw [ho q (Nat.lt_of_lt_of_le g1 hS.1)]
    exact hS.2.1 q g1 g2
/-- the thrown object goes to a local that is not looked at again -/
theorem hk_L.storeQ {ls : Array Slot} {n i : Nat} {q : Nat} (h : hk_L G ls n L) (hi : i < n) : ∃ ls', storeLocals ls i (.ref q) = some ls' ∧ hk_L G ls' n ((hk_kill L i).set i none) := by
  obtain ⟨ls', e, h1, h2, h3⟩ := lv_store1 (v := .ref q) h.has hi rfl
  refine ⟨ls', e, h1, h2, fun k w hw => ?_⟩
  by_cases e1 : k = i
  · subst e1
    by_cases hlen : k < (hk_kill L k).length
    · rw [List.getElem?_set_self hlen] at hw
      cases hw
    · have : ((hk_kill L k).set k none)[k]? = none := by simp; omega
      rw [this] at hw
      cases hw
  · rw [List.getElem?_set_ne (Ne.symm e1)] at hw
    obtain ⟨g1, g2⟩ := hk_kill_of hw
    refine h3 (k, hk_cv G w) (List.mem_cons_of_mem _ (List.mem_filter.mpr ⟨hk_as_mem g1, ?_⟩))
    simp only [Bool.and_eq_true, Bool.not_eq_true', beq_eq_false_iff_ne, ne_eq, Bool.and_eq_false_iff, hk_cat]
    refine ⟨e1, ?_⟩
    by_cases e2 : k + 1 = i
    · exact Or.inr fun q => g2 ⟨e2, q⟩
    · exact Or.inl e2
/-- who catches: the first row of the method's table that covers pc and takes the class E has its handler at hp, which stores the object in local i -/
def hk_ct (M : hk_M) (pc : Nat) (E : String) (hp i : Nat) : Prop := ∃ (pre : List (Nat × Nat × Nat × Nat)) (x : Nat × Nat × Nat × Nat) (suf : List (Nat × Nat × Nat × Nat)), M.2.2.2.2 = pre ++ x :: suf ∧ (∀ z ∈ pre, ¬ (z.1 ≤ pc ∧ pc < z.2.1) ∨ (z.2.2.2 ≠ 0 ∧ Cond.classLink M.1.cls z.2.2.2 "java/lang/IllegalArgumentException" ∈ hk_ws ∧ E = "java/lang/IllegalStateException")) ∧ (x.1 ≤ pc ∧ pc < x.2.1) ∧ x.2.2.2 ≠ 0 ∧ Cond.classLink M.1.cls x.2.2.2 E ∈ hk_ws ∧ (E, E) ∈ hk_cast ∧ x.2.2.1 = hp ∧ i < M.2.2.1 ∧ ((∃ j : Fin 4, (j : Nat) = i ∧ decode M.2.1 hp = .ok (.astore_n j, 1)) ∨ decode M.2.1 hp = .ok (.astore i, 2))
def hk_cn (M : hk_M) (hp i : Nat) : Nat := if decode M.2.1 hp = .ok (.astore i, 2) then hp + 2 else hp + 1
theorem hk_catch {p : Program} {l : Launch} {e : Env} {R : Room} {s : State} {m : MethodId} {args : Array Value} {below : List Frame} {meth : Method} {c : Code} {H : Heap} {locs : List Loc} {cells slots : Nat} {Q9 : State → Prop} {ls : Array Slot} {rest : List Value} {E : String} {ce : Cell} {q hp i : Nat} (C : hk_Cx G M d p l R s m args meth c) (hL : hk_L G ls M.2.2.1 L) (hct : hk_ct M pc E hp i) (hcell : H[q]? = some ce) (hv : ce.vm = .none) (hcl : s.vm.findClass E = some ce.cls)
    (kk : ∀ ls', hk_L G ls' M.2.2.1 ((hk_kill L i).set i none) → W p l e R s m args below meth c H locs cells slots Q9 (F0 m (hk_cn M hp i) ls' [])) : vx_W p l e R s m args below meth c H locs cells slots Q9 (F0 m pc ls rest) q := by
  obtain ⟨pre, x, suf, e1, e2, e3, e4, e5, e6, e7, e8, e9⟩ := hct
  have hts := C.2.2.2.2.2.1
  have hK := C.2.2.2.2.2.2.2.2.2.1
  have htab := C.2.2.2.2.2.2.2.2.1
  rw [e1] at htab
  obtain ⟨ls', g1, g2⟩ := hL.storeQ (q := q) e8
  have hcode := C.2.1
  have hexec := C.1
  refine vx_catch C.2.2.2.2.1 (tableOf pre) ⟨x.1, x.2.1, x.2.2.1, x.2.2.2⟩ (tableOf suf) (by rw [htab]; simp [tableOf]) ?_ (by simp only [covers, Bool.and_eq_true, decide_eq_true_eq]; exact e3) e4 (hts _ e5) (va_Nw.use rfl (hK.2.2.2.2.2.1 _ e6)) hcell hv hcl ?_
  · intro z hz
    obtain ⟨z', hz', rfl⟩ := List.mem_map.mp hz
    rcases e2 z' hz' with h1 | ⟨h1, h2, h3⟩
    · refine Or.inl ?_
      simp only [covers, Bool.and_eq_false_iff, decide_eq_false_iff_not]
      omega
    · refine Or.inr ⟨h1, _, hts _ h2, ?_⟩
      rw [h3]
      exact hK.2.2.2.2.2.2.2.2.2.2.1
  · show W p l e R s m args below meth c H locs cells slots Q9 (F0 m x.2.2.1 ls [.ref q])
    rw [e7]
    intro T hT X
    obtain ⟨t, a, b⟩ := kk ls' g2 T hT X
    refine ⟨t, ?_, b⟩
    rcases e9 with ⟨j, hj, hdj⟩ | hdj
    · have e10 : hk_cn M hp i = hp + 1 := by
        unfold hk_cn
        rw [if_neg]
        rw [hdj]
        intro h9
        cases h9
      rw [e10] at a
      subst hj
      jvm_step X.here [X.here.top, ↓top_set X.here.top, hexec, hcode, hdj, g1, Value.isRef]
      exact a
    · have e10 : hk_cn M hp i = hp + 2 := if_pos hdj
      rw [e10] at a
      jvm_step X.here [X.here.top, ↓top_set X.here.top, hexec, hcode, hdj, g1, Value.isRef]
      exact a
/-- behind a call that came back or threw -/
theorem hk_backX {p : Program} {l : Launch} {e : Env} {R : Room} {s : State} {m : MethodId} {args : Array Value} {below : List Frame} {meth : Method} {c : Code} {H : Heap} {locs : List Loc} {cells slots mc ms : Nat} {ls : Array Slot} {st9 : List Value} {a : Array Value} {hp i : String → Nat}
    (C : hk_Cx G M (d + 1) p l R s m args meth c) (hS : va_S (hk_A G) s.heap H locs) (hL : hk_L G ls M.2.2.1 L) (hb : cells + (c1 + c2) ≤ mc ∧ slots + (s1 + s2) ≤ ms ∧ mc ≤ R.cells ∧ ms ≤ R.slots)
    (run : vx_Run p l e R s m args below meth c H locs cells slots c1 s1 (F0 m pc ls st9) (st.map (hk_cv G)) (hk_Qc G Qe a) (hk_XC G Qe) (hk_A G))
    (kx : ∀ E h', Qe (.inr E) h' → hk_ct M pc E (hp E) (i E) ∧ hk_S G M (d + 1) c2 s2 (hk_cn M (hp E) (i E)) ((hk_kill L (i E)).set (i E) none) [] h' Q)
    (kk : ∀ v h', Qe (.inl v) h' → hk_S G M (d + 1) c2 s2 (pc + 3) L (v.toList ++ st) h' Q) : W p l e R s m args below meth c H locs cells slots (vx_MQ below (hk_Qc G Q) (hk_XC G Q) args s mc ms (hk_A G)) (F0 m pc ls st9) := by
  intro T hT X
  rcases run T hT X with ⟨v, st₀, t, T', L9, h0, X', hL9, e1, e2, ⟨v', h', hv, hq, hR', hF⟩, go⟩ | ⟨q, st₀, t, T', L9, E, ce, h0, X', hL9, e1, e2, ⟨h', hq, hR', hF⟩, hce, hcv, hcl, go⟩
  · cases hv
    have hS' : va_S (hk_A G) s.heap T'.heap (locs ++ L9) := by
      refine ⟨Nat.le_trans hS.1 ?_, fun q g1 g2 => ?_, fun q hq => ?_⟩
      · rw [e1, ← h0]; exact hF.1
      · rw [e1, hF.2 q (by rw [h0]; exact Nat.lt_of_lt_of_le g1 hS.1) g2, h0]
        exact hS.2.1 q g1 g2
      · rcases List.mem_append.mp hq with g | g
        · exact hS.2.2 q g
        · exact hL9 q g
    obtain ⟨t2, a1, b1⟩ := kk v' h' hq p l e R s m args below meth c T'.heap (locs ++ L9) (cells + c1) (slots + s1) mc ms ls C hS' (by rw [e1]; exact hR') hL (by omega) T' rfl X'
    refine ⟨t2, go t2 ?_, b1⟩
    have e9 : ({ F0 m pc ls st9 with pc := pc + 3, stack := (v'.map (hk_cv G)).toList ++ st.map (hk_cv G) } : JFrame) = F0 m (pc + 3) ls ((v'.toList ++ st).map (hk_cv G)) := by
      cases v' <;> rfl
    rw [← e9] at a1
    exact a1
  · have hS' : va_S (hk_A G) s.heap T'.heap (locs ++ L9) := by
      refine ⟨Nat.le_trans hS.1 ?_, fun q g1 g2 => ?_, fun q hq => ?_⟩
      · rw [e1, ← h0]; exact hF.1
      · rw [e1, hF.2 q (by rw [h0]; exact Nat.lt_of_lt_of_le g1 hS.1) g2, h0]
        exact hS.2.1 q g1 g2
      · rcases List.mem_append.mp hq with g | g
        · exact hS.2.2 q g
        · exact hL9 q g
    obtain ⟨hct, ks⟩ := kx E h' hq
    obtain ⟨t2, a1, b1⟩ := hk_catch (rest := st.map (hk_cv G)) C hL hct (by rw [e1]; exact hce) hcv hcl (fun ls' hl' => ks p l e R s m args below meth c T'.heap (locs ++ L9) (cells + c1) (slots + s1) mc ms ls' C hS' (by rw [e1]; exact hR') hl' (by omega)) T' rfl X'
    exact ⟨t2, go.trans a1, b1⟩
/-- a call of a method that may throw; what it throws is caught here -/
theorem hs_callVX {idx n a ci : Nat} {vs fs : List Value} {r : vw_C} {hp i : String → Nat} (hd : decode M.2.1 pc = .ok (.invokevirtual idx, 3)) (hok : hk_ok M' n) (hh : M'.2.2.2.2 = []) (hw : Cond.methodLink M.1.cls idx M'.1 ∈ hk_ws) (hin : Cond.instanceMethod M'.1 ∈ hk_ws) (hc : hk_cl[ci]? = some r) (hsel : Cond.selects r.1 M'.1 M'.1 ∈ hk_ws) (ha : h.2 a = some (.inr (ci, fs))) (hn : vs.length = n) (hcat : (st.map (fun v => v.category)).sum ≤ 8)
    (hE : hk_E G M' d c1 s1 (.ref a :: vs) h Qe) (kx : ∀ E h', Qe (.inr E) h' → hk_ct M pc E (hp E) (i E) ∧ hk_S G M (d + 1) c2 s2 (hk_cn M (hp E) (i E)) ((hk_kill L (i E)).set (i E) none) [] h' Q) (kk : ∀ v h', Qe (.inl v) h' → hk_S G M (d + 1) c2 s2 (pc + 3) L (v.toList ++ st) h' Q) : hk_S G M (d + 1) (c1 + c2) (s1 + s2) pc L (vs.reverse ++ .ref a :: st) h Q := by
  intro p l e R s m args below meth c H locs cells slots mc ms ls C hS hR hL hb
  have hts := C.2.2.2.2.2.1
  refine hk_backX (st9 := (vs.reverse ++ .ref a :: st).map (hk_cv G)) C hS hL hb (a := ((.ref a :: vs).map (hk_cv G)).toArray) ?_ kx kk
  exact vx_runV (As := vs.map (hk_cv G)) (b := hk_r G a) (C := r.1) (hk_fix C) (hk_met C.2.2.2.2.2.2.2.2.2.2.1 hok hE) ⟨hk_callB C hok hh hw, hts _ hin, hts _ hsel⟩ ⟨hk_blind, hk_recv C.2.2.2.2.2.2.2.2.2.1 hR hc ha, hk_pre (vs := .ref a :: vs) C hS hR⟩ rfl (by rw [List.length_map]; exact hn) hL.1 (by show (vs.reverse ++ .ref a :: st).map (hk_cv G) = _; rw [List.map_append, List.map_reverse]; rfl) (by show 2 * 0 + _ ≤ 8; rw [hk_cats]; omega) hd ⟨by omega, by omega⟩
/-- a static method with a table of its own -/
theorem hs_callSH {idx n : Nat} {vs : List Value} (hd : decode M.2.1 pc = .ok (.invokestatic idx, 3)) (hok : hk_ok M' n) (hh : M'.2.2.2.2 ≠ []) (hw : Cond.methodLink M.1.cls idx M'.1 ∈ hk_ws) (hst : Cond.static M'.1 ∈ hk_ws) (hn : vs.length = n) (hcat : (st.map (fun v => v.category)).sum ≤ 8)
    (hE : hk_E G M' d c1 s1 vs h Qe) (hno : ∀ E h', ¬ Qe (.inr E) h') (kk : ∀ v h', Qe (.inl v) h' → hk_S G M (d + 1) c2 s2 (pc + 3) L (v.toList ++ st) h' Q) : hk_S G M (d + 1) (c1 + c2) (s1 + s2) pc L (vs.reverse ++ st) h Q := by
  intro p l e R s m args below meth c H locs cells slots mc ms ls C hS hR hL hb
  have hts := C.2.2.2.2.2.1
  have hfr := C.2.2.2.2.2.2.2.2.2.2.2.1
  have hlo := C.2.2.2.2.2.2.2.2.2.2.2.2.1
  have e1 : hk_cw M' = .codeWith M'.1 M'.2.1 M'.2.2.1 M'.2.2.2.1 M'.2.2.2.2 := if_neg hh
  obtain ⟨o1, o2, o3, o4, o5, o6⟩ := id hok
  refine hk_backX (hp := fun _ => 0) (i := fun _ => 0) (st9 := (vs.reverse ++ st).map (hk_cv G)) C hS hL hb (a := (vs.map (hk_cv G)).toArray) ?_ (fun E h' hq => (hno E h' hq).elim) kk
  refine vx_runSX (hh := M'.2.2.2.2) (bytes := M'.2.1) (maxL := M'.2.2.1) (ret := M'.2.2.2.1) (n := n) (As := vs.map (hk_cv G)) (hk_fix C) (hk_met C.2.2.2.2.2.2.2.2.2.2.1 hok hE) ?_ ⟨hk_blind, hk_pre C hS hR⟩ rfl (by rw [List.length_map]; exact hn) hL.1 (by show (vs.reverse ++ st).map (hk_cv G) = _; rw [List.map_append, List.map_reverse]) (by show 2 * 0 + _ ≤ 8; rw [hk_cats]; omega) hd ⟨by omega, by omega⟩
  refine ⟨⟨rfl, rfl, hk_fr1 hfr, hk_lo1 o4 hlo, fun w hw a' U hW => ?_, by rw [e1]; exact List.mem_cons_self⟩, hts _ (by rw [← e1]; exact o6), hts _ o5, o2, hk_len hok, hts _ hw, hts _ hst⟩
  rcases List.mem_cons.mp hw with rfl | hw
  · exact hk_word hts o6 a' U hW
  · exact hk_word hts hw a' U hW
end HT
