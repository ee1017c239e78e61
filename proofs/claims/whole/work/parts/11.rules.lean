/-! What holds at every frame, and stays: the classes, the statics that are read, the texts of throws, words of the tables. -/
def hk_A (G : hk_G) : Nat → Prop := fun q => G.2.2.2 ≤ q
def hk_tys (G : hk_G) : List (ClassId × FieldType) := [(G.2.1 0, .int), (G.2.1 1, .long), (G.2.1 2, .boolean), (G.2.1 3, .object RX5), (G.2.1 4, .object RX4)]
def hk_cast : List (String × String) := [("java/lang/IllegalStateException", "java/lang/IllegalStateException"), ("java/lang/IllegalArgumentException", "java/lang/IllegalArgumentException"), (RX3, RX5), (RX7, RX5), (RX2, RX5)]
def hk_decl : List MethodName := [⟨"HonestHouse$Table", "changeEnd", "(II)I"⟩, ⟨"HonestHouse$Table", "endAt", "(I)I"⟩, ⟨"java/lang/RuntimeException", "<init>", "()V"⟩, ⟨"java/lang/RuntimeException", "<init>", "(Ljava/lang/String;)V"⟩, ⟨"java/lang/Exception", "<init>", "()V"⟩, ⟨"java/lang/Exception", "<init>", "(Ljava/lang/String;)V"⟩, ⟨"java/lang/Throwable", "<init>", "()V"⟩, ⟨"java/lang/Throwable", "<init>", "(Ljava/lang/String;)V"⟩]
def hk_nest : List (Nat × String) := [(15, "ORDERS_OF_TWO"), (19, "ORDERS_OF_THREE"), (22, "ORDERS_OF_FOUR")]
def hk_strs : List (String × Nat × String) := [(RX2, 57, "a middle rule fails"), (RX3, 32, "a paid rule fails"), (RX9, 136, "no such rule, row or person"), (RX9, 147, "no such rule, row, person or wish"), (RX9, 184, "no such rule"), (RX9, 198, "no such rule, row, person or end"), (RX9, 213, "an end that does not come about"), (RX9, 226, "an end that does not come about, or a round below 0"), (RX9, 296, "no such shelf"), (RX9, 304, "no row, or no such place in it")]
def hk_sta : List (Nat × String) := [(1, "ORDERS_OF_TWO"), (2, "ORDERS_OF_THREE"), (3, "ORDERS_OF_FOUR")]
def hk_K (G : hk_G) (U : State) (H : Heap) : Prop := va_K G.1 hk_cl (hk_tys G) U ∧ vx_Zq Bundle.tN "UNASSIGNED_STACK" Bundle.steD (hk_A G) U H ∧ vx_Zq Bundle.tN "SUPPRESSED_SENTINEL" Bundle.listD (hk_A G) U H ∧ (∀ q ∈ hk_sta, va_Z RX9 q.2 "[I" (.ref (G.2.2.1 q.1)) (hk_A G) U H) ∧ (∀ q ∈ hk_strs, ∃ a, vk_R q.1 q.2.1 q.2.2 a U) ∧ (∀ q ∈ hk_cast, va_Nw (.castable q.1 q.2) U) ∧ (∀ x ∈ hk_decl, va_Nw (.declares x) U) ∧ (∀ q ∈ hk_nest, va_Nw (.fieldLinkNest RX1 q.1 RX9 q.2 "[I" RX9) U) ∧ va_AO RX5 U ∧ va_AO RX4 U ∧ va_Nc "java/lang/IllegalStateException" "java/lang/IllegalArgumentException" U ∧ ∀ a, a < 4 → ArrOfT U (G.2.1 (5 + a)) .int
theorem hk_K.go {G : hk_G} {s U : State} {H0 H : Heap} (h : hk_K G s H0) (hW : s.WarmedH U.vm) (hq : ∀ q : Nat, q < H0.size → ¬ hk_A G q → H[q]? = H0[q]?) : hk_K G U H := by
  obtain ⟨h1, h2, h3, h4, h5, h6, h7, h8, h9, h10, h11, h12⟩ := h
  have ha := hW.alike
  exact ⟨h1.moved ha, (h2.kept hq).moved ha, (h3.kept hq).moved ha, fun q hq' => ((h4 q hq').kept hq).moved ha, fun q hq' => (h5 q hq').imp fun a h => h.warm hW, fun q hq' => va_Nw.warmC hW (h6 q hq'), fun x hx => va_Nw.warmD hW (h7 x hx), fun q hq' => va_Nw.warmF hW (h8 q hq'), h9.moved ha, h10.moved ha, h11.moved ha, fun a ha9 => arrOfT_moved ha (h12 a ha9)⟩
abbrev hk_M : Type := MethodName × ByteArray × Nat × Option FieldType × List (Nat × Nat × Nat × Nat)
abbrev hk_O : Type := Option Value ⊕ String
def hk_ws : List Cond := lw_tbl.filter goodWord
def hk_Qc (G : hk_G) (Q : hk_O → hk_H → Prop) : Array Value → State → Outcome → State → Prop := fun _ st o t => ∃ (v : Option Value) (h' : hk_H), o = .returned (v.map (hk_cv G)) ∧ Q (.inl v) h' ∧ hk_R G t.heap h' ∧ va_F (hk_A G) st t
def hk_XC (G : hk_G) (Q : hk_O → hk_H → Prop) : String → State → State → Prop := fun E st t => ∃ h' : hk_H, Q (.inr E) h' ∧ hk_R G t.heap h' ∧ va_F (hk_A G) st t
def hk_Cx (G : hk_G) (M : hk_M) (d : Nat) (p : Program) (l : Launch) (R : Room) (s : State) (m : MethodId) (args : Array Value) (meth : Method) (c : Code) : Prop :=
  p.tables.exec = Jvm.exec ∧ c.code = M.2.1 ∧ meth.sig.returnType = M.2.2.2.1 ∧ c.maxLocals = M.2.2.1 ∧ s.vm.findClass M.1.cls = some m.cls ∧ (∀ w ∈ hk_ws, w.before args s = true) ∧ meth.locks = false ∧ meth.name = M.1.name ∧ c.exceptionTable.toList = tableOf M.2.2.2.2 ∧ hk_K G s s.heap ∧ l.stackTraces = false ∧ d + 8 ≤ R.frames ∧ 64 * d + 400 ≤ R.locals ∧ G.2.2.2 ≤ s.heap.size
/-- the frame of the method M at pc, locals L, stack st, heap h; d calls deep at most, cb cells and sb slots may be made: it comes to an end of which Q holds -/
def hk_S (G : hk_G) (M : hk_M) (d cb sb pc : Nat) (L : List (Option Value)) (st : List Value) (h : hk_H) (Q : hk_O → hk_H → Prop) : Prop :=
  ∀ (p : Program) (l : Launch) (e : Env) (R : Room) (s : State) (m : MethodId) (args : Array Value) (below : List Frame) (meth : Method) (c : Code) (H : Heap) (locs : List Loc) (cells slots mc ms : Nat) (ls : Array Slot),
    hk_Cx G M d p l R s m args meth c → va_S (hk_A G) s.heap H locs → hk_R G H h → hk_L G ls M.2.2.1 L → cells + cb ≤ mc ∧ slots + sb ≤ ms ∧ mc ≤ R.cells ∧ ms ≤ R.slots →
    W p l e R s m args below meth c H locs cells slots (vx_MQ below (hk_Qc G Q) (hk_XC G Q) args s mc ms (hk_A G)) (F0 m pc ls (st.map (hk_cv G)))
section HS
variable {G : hk_G} {M : hk_M} {d cb sb pc : Nat} {L L' : List (Option Value)} {st : List Value} {h : hk_H} {Q : hk_O → hk_H → Prop}
theorem hs_le (hl : hk_le L' L) (k : hk_S G M d cb sb pc L' st h Q) : hk_S G M d cb sb pc L st h Q := fun p l e R s m args below meth c H locs cells slots mc ms ls C hS hR hL hb => k p l e R s m args below meth c H locs cells slots mc ms ls C hS hR (hL.le hl) hb
theorem hs_post {Q' : hk_O → hk_H → Prop} (hq : ∀ o h', Q' o h' → Q o h') (k : hk_S G M d cb sb pc L st h Q') : hk_S G M d cb sb pc L st h Q := by
  intro p l e R s m args below meth c H locs cells slots mc ms ls C hS hR hL hb T hT X
  obtain ⟨t, a, o, b1, b2, b3⟩ := k p l e R s m args below meth c H locs cells slots mc ms ls C hS hR hL hb T hT X
  refine ⟨t, a, o, b1, b2, ?_⟩
  rcases b3 with ⟨⟨v, h', e1, e2, e3⟩, e4⟩ | ⟨q, e1, E, ce, LL, ⟨h', e2, e3⟩, e4⟩
  · exact Or.inl ⟨⟨v, h', e1, hq _ _ e2, e3⟩, e4⟩
  · exact Or.inr ⟨q, e1, E, ce, LL, ⟨h', hq _ _ e2, e3⟩, e4⟩
theorem hs_iconst {n : Int} {v : Int32} (hd : decode M.2.1 pc = .ok (.iconst n, 1)) (hv : Int32.ofInt n = v) (k : hk_S G M d cb sb (pc + 1) L (.int v :: st) h Q) : hk_S G M d cb sb pc L (st) h Q := by
  intro p l e R s m args below meth c H locs cells slots mc ms ls C hS hR hL hb
  exact lv_iconst C.1 C.2.1 hd hv (k p l e R s m args below meth c H locs cells slots mc ms ls C hS hR hL hb)
theorem hs_bipush {n : Int} {v : Int32} (hd : decode M.2.1 pc = .ok (.bipush n, 2)) (hv : (Int8.ofInt n).toInt32 = v) (k : hk_S G M d cb sb (pc + 2) L (.int v :: st) h Q) : hk_S G M d cb sb pc L (st) h Q := by
  intro p l e R s m args below meth c H locs cells slots mc ms ls C hS hR hL hb
  exact lv_bipush C.1 C.2.1 hd hv (k p l e R s m args below meth c H locs cells slots mc ms ls C hS hR hL hb)
theorem hs_sipush {n : Int} {v : Int32} (hd : decode M.2.1 pc = .ok (.sipush n, 3)) (hv : (Int16.ofInt n).toInt32 = v) (k : hk_S G M d cb sb (pc + 3) L (.int v :: st) h Q) : hk_S G M d cb sb pc L (st) h Q := by
  intro p l e R s m args below meth c H locs cells slots mc ms ls C hS hR hL hb
  exact lv_sipush C.1 C.2.1 hd hv (k p l e R s m args below meth c H locs cells slots mc ms ls C hS hR hL hb)
theorem hs_lconst {n : Fin 2} {v : Int64} (hd : decode M.2.1 pc = .ok (.lconst n, 1)) (hv : Int64.ofNat (n : Nat) = v) (k : hk_S G M d cb sb (pc + 1) L (.long v :: st) h Q) : hk_S G M d cb sb pc L (st) h Q := by
  intro p l e R s m args below meth c H locs cells slots mc ms ls C hS hR hL hb
  exact lv_lconst C.1 C.2.1 hd hv (k p l e R s m args below meth c H locs cells slots mc ms ls C hS hR hL hb)
theorem hs_null  (hd : decode M.2.1 pc = .ok (.aconst_null, 1)) (k : hk_S G M d cb sb (pc + 1) L (.null :: st) h Q) : hk_S G M d cb sb pc L (st) h Q := by
  intro p l e R s m args below meth c H locs cells slots mc ms ls C hS hR hL hb
  exact lv_null C.1 C.2.1 hd (k p l e R s m args below meth c H locs cells slots mc ms ls C hS hR hL hb)
theorem hs_iadd {x y : Int32} (hd : decode M.2.1 pc = .ok (.iadd, 1)) (k : hk_S G M d cb sb (pc + 1) L (.int (x + y) :: st) h Q) : hk_S G M d cb sb pc L (.int y :: .int x :: st) h Q := by
  intro p l e R s m args below meth c H locs cells slots mc ms ls C hS hR hL hb
  exact lv_iadd C.1 C.2.1 hd (k p l e R s m args below meth c H locs cells slots mc ms ls C hS hR hL hb)
theorem hs_isub {x y : Int32} (hd : decode M.2.1 pc = .ok (.isub, 1)) (k : hk_S G M d cb sb (pc + 1) L (.int (x - y) :: st) h Q) : hk_S G M d cb sb pc L (.int y :: .int x :: st) h Q := by
  intro p l e R s m args below meth c H locs cells slots mc ms ls C hS hR hL hb
  exact lv_isub C.1 C.2.1 hd (k p l e R s m args below meth c H locs cells slots mc ms ls C hS hR hL hb)
theorem hs_imul {x y : Int32} (hd : decode M.2.1 pc = .ok (.imul, 1)) (k : hk_S G M d cb sb (pc + 1) L (.int (x * y) :: st) h Q) : hk_S G M d cb sb pc L (.int y :: .int x :: st) h Q := by
  intro p l e R s m args below meth c H locs cells slots mc ms ls C hS hR hL hb
  exact lv_imul C.1 C.2.1 hd (k p l e R s m args below meth c H locs cells slots mc ms ls C hS hR hL hb)
theorem hs_iand {x y : Int32} (hd : decode M.2.1 pc = .ok (.iand, 1)) (k : hk_S G M d cb sb (pc + 1) L (.int (x &&& y) :: st) h Q) : hk_S G M d cb sb pc L (.int y :: .int x :: st) h Q := by
  intro p l e R s m args below meth c H locs cells slots mc ms ls C hS hR hL hb
  exact lv_iand C.1 C.2.1 hd (k p l e R s m args below meth c H locs cells slots mc ms ls C hS hR hL hb)
theorem hs_ior {x y : Int32} (hd : decode M.2.1 pc = .ok (.ior, 1)) (k : hk_S G M d cb sb (pc + 1) L (.int (x ||| y) :: st) h Q) : hk_S G M d cb sb pc L (.int y :: .int x :: st) h Q := by
  intro p l e R s m args below meth c H locs cells slots mc ms ls C hS hR hL hb
  exact lv_ior C.1 C.2.1 hd (k p l e R s m args below meth c H locs cells slots mc ms ls C hS hR hL hb)
theorem hs_ixor {x y : Int32} (hd : decode M.2.1 pc = .ok (.ixor, 1)) (k : hk_S G M d cb sb (pc + 1) L (.int (x ^^^ y) :: st) h Q) : hk_S G M d cb sb pc L (.int y :: .int x :: st) h Q := by
  intro p l e R s m args below meth c H locs cells slots mc ms ls C hS hR hL hb
  exact lv_ixor C.1 C.2.1 hd (k p l e R s m args below meth c H locs cells slots mc ms ls C hS hR hL hb)
theorem hs_ineg {x : Int32} (hd : decode M.2.1 pc = .ok (.ineg, 1)) (k : hk_S G M d cb sb (pc + 1) L (.int (-x) :: st) h Q) : hk_S G M d cb sb pc L (.int x :: st) h Q := by
  intro p l e R s m args below meth c H locs cells slots mc ms ls C hS hR hL hb
  exact lv_ineg C.1 C.2.1 hd (k p l e R s m args below meth c H locs cells slots mc ms ls C hS hR hL hb)
theorem hs_idiv {x y : Int32} (hd : decode M.2.1 pc = .ok (.idiv, 1)) (hne : ¬ y = 0) (k : hk_S G M d cb sb (pc + 1) L (.int (x / y) :: st) h Q) : hk_S G M d cb sb pc L (.int y :: .int x :: st) h Q := by
  intro p l e R s m args below meth c H locs cells slots mc ms ls C hS hR hL hb
  exact lv_idiv C.1 C.2.1 hd hne (k p l e R s m args below meth c H locs cells slots mc ms ls C hS hR hL hb)
theorem hs_irem {x y : Int32} (hd : decode M.2.1 pc = .ok (.irem, 1)) (hne : ¬ y = 0) (k : hk_S G M d cb sb (pc + 1) L (.int (x - x / y * y) :: st) h Q) : hk_S G M d cb sb pc L (.int y :: .int x :: st) h Q := by
  intro p l e R s m args below meth c H locs cells slots mc ms ls C hS hR hL hb
  exact lv_irem C.1 C.2.1 hd hne (k p l e R s m args below meth c H locs cells slots mc ms ls C hS hR hL hb)
theorem hs_ishl {x y : Int32} (hd : decode M.2.1 pc = .ok (.ishl, 1)) (k : hk_S G M d cb sb (pc + 1) L (.int (x <<< (y &&& 31)) :: st) h Q) : hk_S G M d cb sb pc L (.int y :: .int x :: st) h Q := by
  intro p l e R s m args below meth c H locs cells slots mc ms ls C hS hR hL hb
  exact lv_ishl C.1 C.2.1 hd (k p l e R s m args below meth c H locs cells slots mc ms ls C hS hR hL hb)
theorem hs_ishr {x y : Int32} (hd : decode M.2.1 pc = .ok (.ishr, 1)) (k : hk_S G M d cb sb (pc + 1) L (.int (x >>> (y &&& 31)) :: st) h Q) : hk_S G M d cb sb pc L (.int y :: .int x :: st) h Q := by
  intro p l e R s m args below meth c H locs cells slots mc ms ls C hS hR hL hb
  exact lv_ishr C.1 C.2.1 hd (k p l e R s m args below meth c H locs cells slots mc ms ls C hS hR hL hb)
theorem hs_iushr {x y : Int32} (hd : decode M.2.1 pc = .ok (.iushr, 1)) (k : hk_S G M d cb sb (pc + 1) L (.int (x.toUInt32 >>> (y.toUInt32 &&& Int32.toUInt32 31)).toInt32 :: st) h Q) : hk_S G M d cb sb pc L (.int y :: .int x :: st) h Q := by
  intro p l e R s m args below meth c H locs cells slots mc ms ls C hS hR hL hb
  exact lv_iushr C.1 C.2.1 hd rfl (k p l e R s m args below meth c H locs cells slots mc ms ls C hS hR hL hb)
theorem hs_ladd {x y : Int64} (hd : decode M.2.1 pc = .ok (.ladd, 1)) (k : hk_S G M d cb sb (pc + 1) L (.long (x + y) :: st) h Q) : hk_S G M d cb sb pc L (.long y :: .long x :: st) h Q := by
  intro p l e R s m args below meth c H locs cells slots mc ms ls C hS hR hL hb
  exact lv_ladd C.1 C.2.1 hd (k p l e R s m args below meth c H locs cells slots mc ms ls C hS hR hL hb)
theorem hs_i2l {x : Int32} (hd : decode M.2.1 pc = .ok (.i2l, 1)) (k : hk_S G M d cb sb (pc + 1) L (.long x.toInt64 :: st) h Q) : hk_S G M d cb sb pc L (.int x :: st) h Q := by
  intro p l e R s m args below meth c H locs cells slots mc ms ls C hS hR hL hb
  exact lv_i2l C.1 C.2.1 hd rfl (k p l e R s m args below meth c H locs cells slots mc ms ls C hS hR hL hb)
theorem hs_iload_n {i : Fin 4} {x : Int32} (hd : decode M.2.1 pc = .ok (.iload_n i, 1)) (hl : L[(i : Nat)]? = some (some (.int x))) (k : hk_S G M d cb sb (pc + 1) L (.int x :: st) h Q) : hk_S G M d cb sb pc L st h Q := by
  intro p l e R s m args below meth c H locs cells slots mc ms ls C hS hR hL hb
  exact lv_iload_n C.1 C.2.1 hd rfl (hL.2.2 _ _ hl) (k p l e R s m args below meth c H locs cells slots mc ms ls C hS hR hL hb)
theorem hs_iload {i : Nat} {x : Int32} (hd : decode M.2.1 pc = .ok (.iload i, 2)) (hl : L[i]? = some (some (.int x))) (k : hk_S G M d cb sb (pc + 2) L (.int x :: st) h Q) : hk_S G M d cb sb pc L st h Q := by
  intro p l e R s m args below meth c H locs cells slots mc ms ls C hS hR hL hb
  exact lv_iload C.1 C.2.1 hd (hL.2.2 _ _ hl) (k p l e R s m args below meth c H locs cells slots mc ms ls C hS hR hL hb)
theorem hs_lload_n {i : Fin 4} {x : Int64} (hd : decode M.2.1 pc = .ok (.lload_n i, 1)) (hl : L[(i : Nat)]? = some (some (.long x))) (k : hk_S G M d cb sb (pc + 1) L (.long x :: st) h Q) : hk_S G M d cb sb pc L st h Q := by
  intro p l e R s m args below meth c H locs cells slots mc ms ls C hS hR hL hb
  exact lv_lload_n C.1 C.2.1 hd rfl (hL.2.2 _ _ hl) (k p l e R s m args below meth c H locs cells slots mc ms ls C hS hR hL hb)
theorem hs_lload {i : Nat} {x : Int64} (hd : decode M.2.1 pc = .ok (.lload i, 2)) (hl : L[i]? = some (some (.long x))) (k : hk_S G M d cb sb (pc + 2) L (.long x :: st) h Q) : hk_S G M d cb sb pc L st h Q := by
  intro p l e R s m args below meth c H locs cells slots mc ms ls C hS hR hL hb
  exact lv_lload C.1 C.2.1 hd (hL.2.2 _ _ hl) (k p l e R s m args below meth c H locs cells slots mc ms ls C hS hR hL hb)
theorem hs_aload_n {i : Fin 4} {x : Nat} (hd : decode M.2.1 pc = .ok (.aload_n i, 1)) (hl : L[(i : Nat)]? = some (some (.ref x))) (k : hk_S G M d cb sb (pc + 1) L (.ref x :: st) h Q) : hk_S G M d cb sb pc L st h Q := by
  intro p l e R s m args below meth c H locs cells slots mc ms ls C hS hR hL hb
  exact lv_aload_n C.1 C.2.1 hd rfl (hL.2.2 _ _ hl) (k p l e R s m args below meth c H locs cells slots mc ms ls C hS hR hL hb)
theorem hs_aload {i : Nat} {x : Nat} (hd : decode M.2.1 pc = .ok (.aload i, 2)) (hl : L[i]? = some (some (.ref x))) (k : hk_S G M d cb sb (pc + 2) L (.ref x :: st) h Q) : hk_S G M d cb sb pc L st h Q := by
  intro p l e R s m args below meth c H locs cells slots mc ms ls C hS hR hL hb
  exact lv_aload C.1 C.2.1 hd (hL.2.2 _ _ hl) (k p l e R s m args below meth c H locs cells slots mc ms ls C hS hR hL hb)
theorem hs_aload_nN {i : Fin 4} (hd : decode M.2.1 pc = .ok (.aload_n i, 1)) (hl : L[(i : Nat)]? = some (some .null)) (k : hk_S G M d cb sb (pc + 1) L (.null :: st) h Q) : hk_S G M d cb sb pc L st h Q := by
  intro p l e R s m args below meth c H locs cells slots mc ms ls C hS hR hL hb
  exact lv_aload_nN C.1 C.2.1 hd rfl (hL.2.2 _ _ hl) (k p l e R s m args below meth c H locs cells slots mc ms ls C hS hR hL hb)
theorem hs_aloadN {i : Nat} (hd : decode M.2.1 pc = .ok (.aload i, 2)) (hl : L[i]? = some (some .null)) (k : hk_S G M d cb sb (pc + 2) L (.null :: st) h Q) : hk_S G M d cb sb pc L st h Q := by
  intro p l e R s m args below meth c H locs cells slots mc ms ls C hS hR hL hb
  exact lv_aloadN C.1 C.2.1 hd (hL.2.2 _ _ hl) (k p l e R s m args below meth c H locs cells slots mc ms ls C hS hR hL hb)
theorem hs_istore_n {i : Fin 4} {x : Int32} (hd : decode M.2.1 pc = .ok (.istore_n i, 1)) (hi : (i : Nat) < M.2.2.1) (hl : hk_st1 L (i : Nat) (.int x) = L') (k : hk_S G M d cb sb (pc + 1) L' st h Q) : hk_S G M d cb sb pc L (.int x :: st) h Q := by
  intro p l e R s m args below meth c H locs cells slots mc ms ls C hS hR hL hb
  obtain ⟨ls', e', hL'⟩ := hL.store1 (v := .int x) hi rfl
  rw [hl] at hL'
  have kk := k p l e R s m args below meth c H locs cells slots mc ms ls' C hS hR hL' hb
  have hexec := C.1
  have hcode := C.2.1
  intro T hT X
  obtain ⟨t, a, b⟩ := kk T hT X
  refine ⟨t, ?_, b⟩
  have e2 : storeLocals ls (i : Nat) (.int x) = some ls' := e'
  jvm_step X.here [X.here.top, ↓top_set X.here.top, hexec, hcode, hd, e2, Value.isRef, hk_cv, List.map_cons]
  exact a
theorem hs_istore {i : Nat} {x : Int32} (hd : decode M.2.1 pc = .ok (.istore i, 2)) (hi : i < M.2.2.1) (hl : hk_st1 L i (.int x) = L') (k : hk_S G M d cb sb (pc + 2) L' st h Q) : hk_S G M d cb sb pc L (.int x :: st) h Q := by
  intro p l e R s m args below meth c H locs cells slots mc ms ls C hS hR hL hb
  obtain ⟨ls', e', hL'⟩ := hL.store1 (v := .int x) hi rfl
  rw [hl] at hL'
  have kk := k p l e R s m args below meth c H locs cells slots mc ms ls' C hS hR hL' hb
  have hexec := C.1
  have hcode := C.2.1
  intro T hT X
  obtain ⟨t, a, b⟩ := kk T hT X
  refine ⟨t, ?_, b⟩
  have e2 : storeLocals ls i (.int x) = some ls' := e'
  jvm_step X.here [X.here.top, ↓top_set X.here.top, hexec, hcode, hd, e2, Value.isRef, hk_cv, List.map_cons]
  exact a
theorem hs_lstore_n {i : Fin 4} {x : Int64} (hd : decode M.2.1 pc = .ok (.lstore_n i, 1)) (hi : (i : Nat) + 1 < M.2.2.1) (hl : hk_st2 L (i : Nat) (.long x) = L') (k : hk_S G M d cb sb (pc + 1) L' st h Q) : hk_S G M d cb sb pc L (.long x :: st) h Q := by
  intro p l e R s m args below meth c H locs cells slots mc ms ls C hS hR hL hb
  obtain ⟨ls', e', hL'⟩ := hL.store2 (v := .long x) hi rfl
  rw [hl] at hL'
  have kk := k p l e R s m args below meth c H locs cells slots mc ms ls' C hS hR hL' hb
  have hexec := C.1
  have hcode := C.2.1
  intro T hT X
  obtain ⟨t, a, b⟩ := kk T hT X
  refine ⟨t, ?_, b⟩
  have e2 : storeLocals ls (i : Nat) (.long x) = some ls' := e'
  jvm_step X.here [X.here.top, ↓top_set X.here.top, hexec, hcode, hd, e2, Value.isRef, hk_cv, List.map_cons]
  exact a
theorem hs_lstore {i : Nat} {x : Int64} (hd : decode M.2.1 pc = .ok (.lstore i, 2)) (hi : i + 1 < M.2.2.1) (hl : hk_st2 L i (.long x) = L') (k : hk_S G M d cb sb (pc + 2) L' st h Q) : hk_S G M d cb sb pc L (.long x :: st) h Q := by
  intro p l e R s m args below meth c H locs cells slots mc ms ls C hS hR hL hb
  obtain ⟨ls', e', hL'⟩ := hL.store2 (v := .long x) hi rfl
  rw [hl] at hL'
  have kk := k p l e R s m args below meth c H locs cells slots mc ms ls' C hS hR hL' hb
  have hexec := C.1
  have hcode := C.2.1
  intro T hT X
  obtain ⟨t, a, b⟩ := kk T hT X
  refine ⟨t, ?_, b⟩
  have e2 : storeLocals ls i (.long x) = some ls' := e'
  jvm_step X.here [X.here.top, ↓top_set X.here.top, hexec, hcode, hd, e2, Value.isRef, hk_cv, List.map_cons]
  exact a
theorem hs_astore_n {i : Fin 4} {x : Nat} (hd : decode M.2.1 pc = .ok (.astore_n i, 1)) (hi : (i : Nat) < M.2.2.1) (hl : hk_st1 L (i : Nat) (.ref x) = L') (k : hk_S G M d cb sb (pc + 1) L' st h Q) : hk_S G M d cb sb pc L (.ref x :: st) h Q := by
  intro p l e R s m args below meth c H locs cells slots mc ms ls C hS hR hL hb
  obtain ⟨ls', e', hL'⟩ := hL.store1 (v := .ref x) hi rfl
  rw [hl] at hL'
  have kk := k p l e R s m args below meth c H locs cells slots mc ms ls' C hS hR hL' hb
  have hexec := C.1
  have hcode := C.2.1
  intro T hT X
  obtain ⟨t, a, b⟩ := kk T hT X
  refine ⟨t, ?_, b⟩
  have e2 : storeLocals ls (i : Nat) (.ref (hk_r G x)) = some ls' := e'
  jvm_step X.here [X.here.top, ↓top_set X.here.top, hexec, hcode, hd, e2, Value.isRef, hk_cv, List.map_cons]
  exact a
theorem hs_astore {i : Nat} {x : Nat} (hd : decode M.2.1 pc = .ok (.astore i, 2)) (hi : i < M.2.2.1) (hl : hk_st1 L i (.ref x) = L') (k : hk_S G M d cb sb (pc + 2) L' st h Q) : hk_S G M d cb sb pc L (.ref x :: st) h Q := by
  intro p l e R s m args below meth c H locs cells slots mc ms ls C hS hR hL hb
  obtain ⟨ls', e', hL'⟩ := hL.store1 (v := .ref x) hi rfl
  rw [hl] at hL'
  have kk := k p l e R s m args below meth c H locs cells slots mc ms ls' C hS hR hL' hb
  have hexec := C.1
  have hcode := C.2.1
  intro T hT X
  obtain ⟨t, a, b⟩ := kk T hT X
  refine ⟨t, ?_, b⟩
  have e2 : storeLocals ls i (.ref (hk_r G x)) = some ls' := e'
  jvm_step X.here [X.here.top, ↓top_set X.here.top, hexec, hcode, hd, e2, Value.isRef, hk_cv, List.map_cons]
  exact a
theorem hs_astore_nN {i : Fin 4}  (hd : decode M.2.1 pc = .ok (.astore_n i, 1)) (hi : (i : Nat) < M.2.2.1) (hl : hk_st1 L (i : Nat) (.null) = L') (k : hk_S G M d cb sb (pc + 1) L' st h Q) : hk_S G M d cb sb pc L (.null :: st) h Q := by
  intro p l e R s m args below meth c H locs cells slots mc ms ls C hS hR hL hb
  obtain ⟨ls', e', hL'⟩ := hL.store1 (v := .null) hi rfl
  rw [hl] at hL'
  have kk := k p l e R s m args below meth c H locs cells slots mc ms ls' C hS hR hL' hb
  have hexec := C.1
  have hcode := C.2.1
  intro T hT X
  obtain ⟨t, a, b⟩ := kk T hT X
  refine ⟨t, ?_, b⟩
  have e2 : storeLocals ls (i : Nat) (.null) = some ls' := e'
  jvm_step X.here [X.here.top, ↓top_set X.here.top, hexec, hcode, hd, e2, Value.isRef, hk_cv, List.map_cons]
  exact a
theorem hs_astoreN {i : Nat}  (hd : decode M.2.1 pc = .ok (.astore i, 2)) (hi : i < M.2.2.1) (hl : hk_st1 L i (.null) = L') (k : hk_S G M d cb sb (pc + 2) L' st h Q) : hk_S G M d cb sb pc L (.null :: st) h Q := by
  intro p l e R s m args below meth c H locs cells slots mc ms ls C hS hR hL hb
  obtain ⟨ls', e', hL'⟩ := hL.store1 (v := .null) hi rfl
  rw [hl] at hL'
  have kk := k p l e R s m args below meth c H locs cells slots mc ms ls' C hS hR hL' hb
  have hexec := C.1
  have hcode := C.2.1
  intro T hT X
  obtain ⟨t, a, b⟩ := kk T hT X
  refine ⟨t, ?_, b⟩
  have e2 : storeLocals ls i (.null) = some ls' := e'
  jvm_step X.here [X.here.top, ↓top_set X.here.top, hexec, hcode, hd, e2, Value.isRef, hk_cv, List.map_cons]
  exact a
theorem hs_iinc {i : Nat} {n : Int} {x v : Int32} (hd : decode M.2.1 pc = .ok (.iinc i n, 3)) (hx : L[i]? = some (some (.int x))) (hv : x + Int32.ofInt n = v) (hi : i < M.2.2.1) (hl : hk_st1 L i (.int v) = L') (k : hk_S G M d cb sb (pc + 3) L' st h Q) : hk_S G M d cb sb pc L st h Q := by
  intro p l e R s m args below meth c H locs cells slots mc ms ls C hS hR hL hb
  obtain ⟨ls', e', hL'⟩ := hL.store1 (v := .int v) hi rfl
  rw [hl] at hL'
  have kk := k p l e R s m args below meth c H locs cells slots mc ms ls' C hS hR hL' hb
  have hexec := C.1
  have hcode := C.2.1
  have hg : ls[i]? = some (.val (.int x)) := hL.2.2 _ _ hx
  intro T hT X
  obtain ⟨t, a, b⟩ := kk T hT X
  refine ⟨t, ?_, b⟩
  have e2 : storeLocals ls i (.int (x + Int32.ofInt n)) = some ls' := by rw [hv]; exact e'
  jvm_step X.here [X.here.top, ↓top_set X.here.top, hexec, hcode, hd, hg, e2]
  exact a
theorem hs_dup {v : Value} (hd : decode M.2.1 pc = .ok (.dup, 1)) (hc : v.category = 1) (k : hk_S G M d cb sb (pc + 1) L (v :: v :: st) h Q) : hk_S G M d cb sb pc L (v :: st) h Q := by
  intro p l e R s m args below meth c H locs cells slots mc ms ls C hS hR hL hb
  exact lv_dup C.1 C.2.1 hd (by rw [hk_cat]; exact hc) (k p l e R s m args below meth c H locs cells slots mc ms ls C hS hR hL hb)
theorem hs_pop {v : Value} (hd : decode M.2.1 pc = .ok (.pop, 1)) (hc : v.category = 1) (k : hk_S G M d cb sb (pc + 1) L (st) h Q) : hk_S G M d cb sb pc L (v :: st) h Q := by
  intro p l e R s m args below meth c H locs cells slots mc ms ls C hS hR hL hb
  exact lv_pop C.1 C.2.1 hd (by rw [hk_cat]; exact hc) (k p l e R s m args below meth c H locs cells slots mc ms ls C hS hR hL hb)
theorem hs_dup2 {v w : Value} (hd : decode M.2.1 pc = .ok (.dup2, 1)) (hc : v.category = 1) (hc2 : w.category = 1) (k : hk_S G M d cb sb (pc + 1) L (v :: w :: v :: w :: st) h Q) : hk_S G M d cb sb pc L (v :: w :: st) h Q := by
  intro p l e R s m args below meth c H locs cells slots mc ms ls C hS hR hL hb
  exact lv_dup2_11 C.1 C.2.1 hd (by rw [hk_cat]; exact hc) (by rw [hk_cat]; exact hc2) (k p l e R s m args below meth c H locs cells slots mc ms ls C hS hR hL hb)
theorem hs_if_eq {x : Int32} {off : Int} {tgt : Nat} (hd : decode M.2.1 pc = .ok (.ifCond .eq off, 3)) (ht : (pc : Int) + off = (tgt : Int)) (kt : x = 0 → hk_S G M d cb sb tgt L st h Q) (kf : ¬ x = 0 → hk_S G M d cb sb (pc + 3) L st h Q) : hk_S G M d cb sb pc L (.int x :: st) h Q := by
  intro p l e R s m args below meth c H locs cells slots mc ms ls C hS hR hL hb
  exact lv_if_eq C.1 C.2.1 hd ht (fun q => kt q p l e R s m args below meth c H locs cells slots mc ms ls C hS hR hL hb) (fun q => kf q p l e R s m args below meth c H locs cells slots mc ms ls C hS hR hL hb)
theorem hs_icmp_eq {x y : Int32} {off : Int} {tgt : Nat} (hd : decode M.2.1 pc = .ok (.if_icmp .eq off, 3)) (ht : (pc : Int) + off = (tgt : Int)) (kt : x = y → hk_S G M d cb sb tgt L st h Q) (kf : ¬ x = y → hk_S G M d cb sb (pc + 3) L st h Q) : hk_S G M d cb sb pc L (.int y :: .int x :: st) h Q := by
  intro p l e R s m args below meth c H locs cells slots mc ms ls C hS hR hL hb
  exact lv_icmp_eq C.1 C.2.1 hd ht (fun q => kt q p l e R s m args below meth c H locs cells slots mc ms ls C hS hR hL hb) (fun q => kf q p l e R s m args below meth c H locs cells slots mc ms ls C hS hR hL hb)
theorem hs_if_ne {x : Int32} {off : Int} {tgt : Nat} (hd : decode M.2.1 pc = .ok (.ifCond .ne off, 3)) (ht : (pc : Int) + off = (tgt : Int)) (kt : ¬ x = 0 → hk_S G M d cb sb tgt L st h Q) (kf : x = 0 → hk_S G M d cb sb (pc + 3) L st h Q) : hk_S G M d cb sb pc L (.int x :: st) h Q := by
  intro p l e R s m args below meth c H locs cells slots mc ms ls C hS hR hL hb
  exact lv_if_ne C.1 C.2.1 hd ht (fun q => kt q p l e R s m args below meth c H locs cells slots mc ms ls C hS hR hL hb) (fun q => kf q p l e R s m args below meth c H locs cells slots mc ms ls C hS hR hL hb)
theorem hs_icmp_ne {x y : Int32} {off : Int} {tgt : Nat} (hd : decode M.2.1 pc = .ok (.if_icmp .ne off, 3)) (ht : (pc : Int) + off = (tgt : Int)) (kt : ¬ x = y → hk_S G M d cb sb tgt L st h Q) (kf : x = y → hk_S G M d cb sb (pc + 3) L st h Q) : hk_S G M d cb sb pc L (.int y :: .int x :: st) h Q := by
  intro p l e R s m args below meth c H locs cells slots mc ms ls C hS hR hL hb
  exact lv_icmp_ne C.1 C.2.1 hd ht (fun q => kt q p l e R s m args below meth c H locs cells slots mc ms ls C hS hR hL hb) (fun q => kf q p l e R s m args below meth c H locs cells slots mc ms ls C hS hR hL hb)
theorem hs_if_lt {x : Int32} {off : Int} {tgt : Nat} (hd : decode M.2.1 pc = .ok (.ifCond .lt off, 3)) (ht : (pc : Int) + off = (tgt : Int)) (kt : x < 0 → hk_S G M d cb sb tgt L st h Q) (kf : ¬ x < 0 → hk_S G M d cb sb (pc + 3) L st h Q) : hk_S G M d cb sb pc L (.int x :: st) h Q := by
  intro p l e R s m args below meth c H locs cells slots mc ms ls C hS hR hL hb
  exact lv_if_lt C.1 C.2.1 hd ht (fun q => kt q p l e R s m args below meth c H locs cells slots mc ms ls C hS hR hL hb) (fun q => kf q p l e R s m args below meth c H locs cells slots mc ms ls C hS hR hL hb)
theorem hs_icmp_lt {x y : Int32} {off : Int} {tgt : Nat} (hd : decode M.2.1 pc = .ok (.if_icmp .lt off, 3)) (ht : (pc : Int) + off = (tgt : Int)) (kt : x < y → hk_S G M d cb sb tgt L st h Q) (kf : ¬ x < y → hk_S G M d cb sb (pc + 3) L st h Q) : hk_S G M d cb sb pc L (.int y :: .int x :: st) h Q := by
  intro p l e R s m args below meth c H locs cells slots mc ms ls C hS hR hL hb
  exact lv_icmp_lt C.1 C.2.1 hd ht (fun q => kt q p l e R s m args below meth c H locs cells slots mc ms ls C hS hR hL hb) (fun q => kf q p l e R s m args below meth c H locs cells slots mc ms ls C hS hR hL hb)
theorem hs_if_ge {x : Int32} {off : Int} {tgt : Nat} (hd : decode M.2.1 pc = .ok (.ifCond .ge off, 3)) (ht : (pc : Int) + off = (tgt : Int)) (kt : 0 ≤ x → hk_S G M d cb sb tgt L st h Q) (kf : ¬ 0 ≤ x → hk_S G M d cb sb (pc + 3) L st h Q) : hk_S G M d cb sb pc L (.int x :: st) h Q := by
  intro p l e R s m args below meth c H locs cells slots mc ms ls C hS hR hL hb
  exact lv_if_ge C.1 C.2.1 hd ht (fun q => kt q p l e R s m args below meth c H locs cells slots mc ms ls C hS hR hL hb) (fun q => kf q p l e R s m args below meth c H locs cells slots mc ms ls C hS hR hL hb)
theorem hs_icmp_ge {x y : Int32} {off : Int} {tgt : Nat} (hd : decode M.2.1 pc = .ok (.if_icmp .ge off, 3)) (ht : (pc : Int) + off = (tgt : Int)) (kt : y ≤ x → hk_S G M d cb sb tgt L st h Q) (kf : ¬ y ≤ x → hk_S G M d cb sb (pc + 3) L st h Q) : hk_S G M d cb sb pc L (.int y :: .int x :: st) h Q := by
  intro p l e R s m args below meth c H locs cells slots mc ms ls C hS hR hL hb
  exact lv_icmp_ge C.1 C.2.1 hd ht (fun q => kt q p l e R s m args below meth c H locs cells slots mc ms ls C hS hR hL hb) (fun q => kf q p l e R s m args below meth c H locs cells slots mc ms ls C hS hR hL hb)
theorem hs_if_gt {x : Int32} {off : Int} {tgt : Nat} (hd : decode M.2.1 pc = .ok (.ifCond .gt off, 3)) (ht : (pc : Int) + off = (tgt : Int)) (kt : 0 < x → hk_S G M d cb sb tgt L st h Q) (kf : ¬ 0 < x → hk_S G M d cb sb (pc + 3) L st h Q) : hk_S G M d cb sb pc L (.int x :: st) h Q := by
  intro p l e R s m args below meth c H locs cells slots mc ms ls C hS hR hL hb
  exact lv_if_gt C.1 C.2.1 hd ht (fun q => kt q p l e R s m args below meth c H locs cells slots mc ms ls C hS hR hL hb) (fun q => kf q p l e R s m args below meth c H locs cells slots mc ms ls C hS hR hL hb)
theorem hs_icmp_gt {x y : Int32} {off : Int} {tgt : Nat} (hd : decode M.2.1 pc = .ok (.if_icmp .gt off, 3)) (ht : (pc : Int) + off = (tgt : Int)) (kt : y < x → hk_S G M d cb sb tgt L st h Q) (kf : ¬ y < x → hk_S G M d cb sb (pc + 3) L st h Q) : hk_S G M d cb sb pc L (.int y :: .int x :: st) h Q := by
  intro p l e R s m args below meth c H locs cells slots mc ms ls C hS hR hL hb
  exact lv_icmp_gt C.1 C.2.1 hd ht (fun q => kt q p l e R s m args below meth c H locs cells slots mc ms ls C hS hR hL hb) (fun q => kf q p l e R s m args below meth c H locs cells slots mc ms ls C hS hR hL hb)
theorem hs_if_le {x : Int32} {off : Int} {tgt : Nat} (hd : decode M.2.1 pc = .ok (.ifCond .le off, 3)) (ht : (pc : Int) + off = (tgt : Int)) (kt : x ≤ 0 → hk_S G M d cb sb tgt L st h Q) (kf : ¬ x ≤ 0 → hk_S G M d cb sb (pc + 3) L st h Q) : hk_S G M d cb sb pc L (.int x :: st) h Q := by
  intro p l e R s m args below meth c H locs cells slots mc ms ls C hS hR hL hb
  exact lv_if_le C.1 C.2.1 hd ht (fun q => kt q p l e R s m args below meth c H locs cells slots mc ms ls C hS hR hL hb) (fun q => kf q p l e R s m args below meth c H locs cells slots mc ms ls C hS hR hL hb)
theorem hs_icmp_le {x y : Int32} {off : Int} {tgt : Nat} (hd : decode M.2.1 pc = .ok (.if_icmp .le off, 3)) (ht : (pc : Int) + off = (tgt : Int)) (kt : x ≤ y → hk_S G M d cb sb tgt L st h Q) (kf : ¬ x ≤ y → hk_S G M d cb sb (pc + 3) L st h Q) : hk_S G M d cb sb pc L (.int y :: .int x :: st) h Q := by
  intro p l e R s m args below meth c H locs cells slots mc ms ls C hS hR hL hb
  exact lv_icmp_le C.1 C.2.1 hd ht (fun q => kt q p l e R s m args below meth c H locs cells slots mc ms ls C hS hR hL hb) (fun q => kf q p l e R s m args below meth c H locs cells slots mc ms ls C hS hR hL hb)
theorem hs_goto  {off : Int} {tgt : Nat} (hd : decode M.2.1 pc = .ok (.goto off, 3)) (ht : (pc : Int) + off = (tgt : Int)) (k : hk_S G M d cb sb tgt L st h Q) : hk_S G M d cb sb pc L (st) h Q := by
  intro p l e R s m args below meth c H locs cells slots mc ms ls C hS hR hL hb
  exact lv_goto C.1 C.2.1 hd ht (k p l e R s m args below meth c H locs cells slots mc ms ls C hS hR hL hb)
theorem hs_ifnonnull {x : Nat} {off : Int} {tgt : Nat} (hd : decode M.2.1 pc = .ok (.ifnonnull off, 3)) (ht : (pc : Int) + off = (tgt : Int)) (k : hk_S G M d cb sb tgt L st h Q) : hk_S G M d cb sb pc L (.ref x :: st) h Q := by
  intro p l e R s m args below meth c H locs cells slots mc ms ls C hS hR hL hb
  exact lv_ifnonnull C.1 C.2.1 hd ht (k p l e R s m args below meth c H locs cells slots mc ms ls C hS hR hL hb)
theorem hs_ifnullN  {off : Int} {tgt : Nat} (hd : decode M.2.1 pc = .ok (.ifnull off, 3)) (ht : (pc : Int) + off = (tgt : Int)) (k : hk_S G M d cb sb tgt L st h Q) : hk_S G M d cb sb pc L (.null :: st) h Q := by
  intro p l e R s m args below meth c H locs cells slots mc ms ls C hS hR hL hb
  exact lv_ifnullN C.1 C.2.1 hd ht (k p l e R s m args below meth c H locs cells slots mc ms ls C hS hR hL hb)
theorem hs_ifnull {x : Nat} {off : Int} (hd : decode M.2.1 pc = .ok (.ifnull off, 3)) (k : hk_S G M d cb sb (pc + 3) L st h Q) : hk_S G M d cb sb pc L (.ref x :: st) h Q := by
  intro p l e R s m args below meth c H locs cells slots mc ms ls C hS hR hL hb
  exact lv_ifnull C.1 C.2.1 hd (k p l e R s m args below meth c H locs cells slots mc ms ls C hS hR hL hb)
theorem hs_ifnonnullN {off : Int} (hd : decode M.2.1 pc = .ok (.ifnonnull off, 3)) (k : hk_S G M d cb sb (pc + 3) L st h Q) : hk_S G M d cb sb pc L (.null :: st) h Q := by
  intro p l e R s m args below meth c H locs cells slots mc ms ls C hS hR hL hb
  exact lv_ifnonnullN C.1 C.2.1 hd (k p l e R s m args below meth c H locs cells slots mc ms ls C hS hR hL hb)
theorem hs_lookup {dflt : Int} {ps : Array (Int × Int)} {len : Nat} {x : Int32} {off : Int} {tgt : Nat} (hd : decode M.2.1 pc = .ok (.lookupswitch dflt ps, len)) (hp : (ps.toList.zip (ps.toList.drop 1)).all (fun (a, next) => a.1 < next.1) = true) (ho : Op.lookupswitch.offset ps.toList dflt x.toInt = off) (ht : (pc : Int) + off = (tgt : Int)) (k : hk_S G M d cb sb tgt L st h Q) : hk_S G M d cb sb pc L (.int x :: st) h Q := by
  intro p l e R s m args below meth c H locs cells slots mc ms ls C hS hR hL hb
  exact lv_lookup C.1 C.2.1 hd hp ho ht (k p l e R s m args below meth c H locs cells slots mc ms ls C hS hR hL hb)
theorem hs_tableOut {dflt lo hi : Int} {offs : Array Int} {len : Nat} {x : Int32} {tgt : Nat} (hd : decode M.2.1 pc = .ok (.tableswitch dflt lo hi offs, len)) (hx : x.toInt < lo ∨ hi < x.toInt) (ht : (pc : Int) + dflt = (tgt : Int)) (k : hk_S G M d cb sb tgt L st h Q) : hk_S G M d cb sb pc L (.int x :: st) h Q := by
  intro p l e R s m args below meth c H locs cells slots mc ms ls C hS hR hL hb
  exact lv_tableOut C.1 C.2.1 hd hx ht (k p l e R s m args below meth c H locs cells slots mc ms ls C hS hR hL hb)
theorem hs_tableIn {dflt lo hi : Int} {offs : Array Int} {len : Nat} {x : Int32} {off : Int} {tgt : Nat} (hd : decode M.2.1 pc = .ok (.tableswitch dflt lo hi offs, len)) (h1 : ¬ x.toInt < lo) (h2 : ¬ hi < x.toInt) (ho : offs[(x.toInt - lo).toNat]? = some off) (ht : (pc : Int) + off = (tgt : Int)) (k : hk_S G M d cb sb tgt L st h Q) : hk_S G M d cb sb pc L (.int x :: st) h Q := by
  intro p l e R s m args below meth c H locs cells slots mc ms ls C hS hR hL hb
  exact lv_tableIn C.1 C.2.1 hd h1 h2 ho ht (k p l e R s m args below meth c H locs cells slots mc ms ls C hS hR hL hb)
theorem hs_ldc {i : Nat} {v : Int32} (hd : decode M.2.1 pc = .ok (.ldc i, 2)) (hw : Cond.constant M.1.cls i v ∈ hk_ws) (k : hk_S G M d cb sb (pc + 2) L (.int v :: st) h Q) : hk_S G M d cb sb pc L st h Q := by
  intro p l e R s m args below meth c H locs cells slots mc ms ls C hS hR hL hb
  exact lv_ldc C.1 C.2.1 C.2.2.2.2.1 (C.2.2.2.2.2.1 _ hw) hd (k p l e R s m args below meth c H locs cells slots mc ms ls C hS hR hL hb)
theorem hs_ldcw {i : Nat} {v : Int32} (hd : decode M.2.1 pc = .ok (.ldc_w i, 3)) (hw : Cond.constant M.1.cls i v ∈ hk_ws) (k : hk_S G M d cb sb (pc + 3) L (.int v :: st) h Q) : hk_S G M d cb sb pc L st h Q := by
  intro p l e R s m args below meth c H locs cells slots mc ms ls C hS hR hL hb
  exact lv_ldcw C.1 C.2.1 C.2.2.2.2.1 (C.2.2.2.2.2.1 _ hw) hd (k p l e R s m args below meth c H locs cells slots mc ms ls C hS hR hL hb)
theorem hs_lcmp {x y : Int64} (hd : decode M.2.1 pc = .ok (.lcmp, 1)) (k : hk_S G M d cb sb (pc + 1) L (.int (lg_cmp x y) :: st) h Q) : hk_S G M d cb sb pc L (.long y :: .long x :: st) h Q := by
  intro p l e R s m args below meth c H locs cells slots mc ms ls C hS hR hL hb
  exact W.lcmp C.1 C.2.1 hd (k p l e R s m args below meth c H locs cells slots mc ms ls C hS hR hL hb)
theorem hs_iret {x : Int32} (hd : decode M.2.1 pc = .ok (.ireturn, 1)) (hr : M.2.2.2.1 = some .int) (hq : Q (.inl (some (.int x))) h) : hk_S G M d cb sb pc L ([.int x]) h Q := by
  intro p l e R s m args below meth c H locs cells slots mc ms ls C hS hR hL hb
  refine W.widen (k := mc) (n := ms) (by omega) (by omega) (vx_ret ?_)
  exact W.iret C.1 C.2.1 (C.2.2.1.trans hr) (fun t ht _ => ⟨_, h, rfl, hq, by rw [ht]; exact hR, hS.F ht⟩) (fun q hq' => hS.2.2 q hq') hd C.2.2.2.2.2.2.1
theorem hs_lret {x : Int64} (hd : decode M.2.1 pc = .ok (.lreturn, 1)) (hr : M.2.2.2.1 = some .long) (hq : Q (.inl (some (.long x))) h) : hk_S G M d cb sb pc L ([.long x]) h Q := by
  intro p l e R s m args below meth c H locs cells slots mc ms ls C hS hR hL hb
  refine W.widen (k := mc) (n := ms) (by omega) (by omega) (vx_ret ?_)
  exact W.lret C.1 C.2.1 (C.2.2.1.trans hr) (fun t ht _ => ⟨_, h, rfl, hq, by rw [ht]; exact hR, hS.F ht⟩) (fun q hq' => hS.2.2 q hq') hd C.2.2.2.2.2.2.1
theorem hs_zret {x : Int32} (hd : decode M.2.1 pc = .ok (.ireturn, 1)) (hr : M.2.2.2.1 = some .boolean) (hn : x = 0 ∨ x = 1) (hq : Q (.inl (some (.int x))) h) : hk_S G M d cb sb pc L ([.int x]) h Q := by
  intro p l e R s m args below meth c H locs cells slots mc ms ls C hS hR hL hb
  refine W.widen (k := mc) (n := ms) (by omega) (by omega) (vx_ret ?_)
  exact W.zret C.1 C.2.1 (C.2.2.1.trans hr) (by rcases hn with rfl | rfl <;> rfl) (fun t ht _ => ⟨_, h, rfl, hq, by rw [ht]; exact hR, hS.F ht⟩) (fun q hq' => hS.2.2 q hq') hd C.2.2.2.2.2.2.1
theorem hs_vret  (hd : decode M.2.1 pc = .ok (.return_, 1)) (hr : M.2.2.2.1 = none) (hq : Q (.inl (none)) h) : hk_S G M d cb sb pc L ([]) h Q := by
  intro p l e R s m args below meth c H locs cells slots mc ms ls C hS hR hL hb
  refine W.widen (k := mc) (n := ms) (by omega) (by omega) (vx_ret ?_)
  exact W.vret C.1 C.2.1 (C.2.2.1.trans hr) (fun t ht _ => ⟨_, h, rfl, hq, by rw [ht]; exact hR, hS.F ht⟩) (fun q hq' => hS.2.2 q hq') hd C.2.2.2.2.2.2.1
theorem hs_aret {v : Value} {rt : FieldType} (hd : decode M.2.1 pc = .ok (.areturn, 1)) (hr : M.2.2.2.1 = some rt) (hrt : (∃ n, rt = .object n) ∨ ∃ t, rt = .array t) (hv : v = .null ∨ ∃ a, v = .ref a) (hq : Q (.inl (some v)) h) : hk_S G M d cb sb pc L [v] h Q := by
  intro p l e R s m args below meth c H locs cells slots mc ms ls C hS hR hL hb
  refine W.widen (k := mc) (n := ms) (by omega) (by omega) (vx_ret ?_)
  exact W.aret C.1 C.2.1 (C.2.2.1.trans hr) hrt (by rcases hv with rfl | ⟨a, rfl⟩; exact Or.inl rfl; exact Or.inr ⟨_, rfl⟩) (fun t ht _ => ⟨some v, h, rfl, hq, by rw [ht]; exact hR, hS.F ht⟩) (fun q hq' => hS.2.2 q hq') hd C.2.2.2.2.2.2.1
end HS
