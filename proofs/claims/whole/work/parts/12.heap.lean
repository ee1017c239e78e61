/-! Rules of the instructions that read, write and make cells. -/
/-- class number ci: its name, fields, types; its words -/
def hk_Cls (ci : Nat) (C : String) (T : u_T) (N : Nat) (ty : Nat → FieldType) : Prop := hk_cl[ci]? = some (C, T, N) ∧ (∀ k, k < N → parseFieldDescriptor (T k).2.2.1 = some (ty k)) ∧ (∀ a, a < N → ∀ b, b < N → a ≠ b → (T a).2.1 ≠ (T b).2.1) ∧ (∀ w ∈ u_ws C T N, w ∈ hk_ws)
/-- the pool's entry idx of the class own is field k of objects of class number ci -/
def hk_fl (own : String) (idx ci k : Nat) : Prop := ∃ (C : String) (T : u_T) (N : Nat) (ty : Nat → FieldType) (ref : String), hk_Cls ci C T N ty ∧ k < N ∧ Cond.fieldLink own idx ref (T k).2.1 (T k).2.2.1 ∈ hk_ws ∧ (ref = (T k).1 ∨ Cond.sameField ref (T k).1 (T k).2.1 (T k).2.2.1 ∈ hk_ws)
/-- .. and it may be written there with a value of the type t (fin: a final field, in a constructor of its own class) -/
def hk_fw (own : String) (idx ci k : Nat) (t : FieldType) (fin : Bool) : Prop := ∃ (C : String) (T : u_T) (N : Nat) (ty : Nat → FieldType) (ref : String), hk_Cls ci C T N ty ∧ k < N ∧ Cond.fieldLink own idx ref (T k).2.1 (T k).2.2.1 ∈ hk_ws ∧ (ref = (T k).1 ∨ Cond.sameField ref (T k).1 (T k).2.1 (T k).2.2.1 ∈ hk_ws) ∧ ty k = t ∧ (T k).2.2.2 = fin ∧ (fin = true → (T k).1 = own)
theorem hk_same {s : State} {args : Array Value} {ref O n d : String} (hts : ∀ w ∈ hk_ws, w.before args s = true) (h : ref = O ∨ Cond.sameField ref O n d ∈ hk_ws) : ∀ x, s.fieldFound? O n d = some x → s.fieldFound? ref n d = some x := by
  rcases h with rfl | h
  · exact fun x hx => hx
  · exact u_same (hts _ h)
theorem hk_clamp {i : Int32} {j : Nat} (h : i.toInt = (j : Int)) : i.toNatClampNeg = j := by
  show i.toInt.toNat = j
  omega
theorem hk_vin {i : Int32} {j n : Nat} (h : i.toInt = (j : Int)) (hj : j < n) : vp_in i n := vp_in_iff.mpr ⟨by omega, by omega⟩
section HP
variable {G : hk_G} {M : hk_M} {d cb sb pc : Nat} {L : List (Option Value)} {st : List Value} {h : hk_H} {Q : hk_O → hk_H → Prop}
theorem hk_oldX {p : Program} {l : Launch} {R : Room} {s : State} {m : MethodId} {args : Array Value} {meth : Method} {c : Code} {H : Heap} {a t n : Nat} {x : (Nat → Int32) ⊕ (Nat → Int64) ⊕ (Nat → UInt32) ⊕ (Nat → UInt64) ⊕ (Nat → Option Nat)} (C : hk_Cx G M d p l R s m args meth c) (hR : hk_R G H h) (ha : h.2 a = some (.inl (t, n, x))) (h4 : a < 4) : ∃ (n' : Nat) (f : Nat → Int32), (t, n, x) = (0, n', .inl f) ∧ va_X (G.2.2.1 a) n' f s H ∧ G.2.2.1 a < H.size := by
  have h5 := hR.2.2.2 a _ ha
  have hlt := h5.lt
  rw [hk_r0 h4] at hlt
  rw [hk_is0 h4] at h5
  obtain ⟨n', f, scr, h1, h2, h3, h6, h7, h8, h9⟩ := h5
  have hA := (C.2.2.2.2.2.2.2.2.2.1.2.2.2.2.2.2.2.2.2.2.2 a h4 0 (fun _ => .null)).2
  exact ⟨n', f, Sum.inl.inj h1, ⟨scr, h2, ⟨h7, by rw [h3]; exact hA⟩, h6, h8, h9⟩, hlt⟩
theorem hs_get {idx ci k a : Nat} {fs : List Value} {v : Value} (hd : decode M.2.1 pc = .ok (.getfield idx, 3)) (hf : hk_fl M.1.cls idx ci k) (ha : h.2 a = some (.inr (ci, fs))) (hv : fs[k]? = some v) (kk : hk_S G M d cb sb (pc + 3) L (v :: st) h Q) : hk_S G M d cb sb pc L (.ref a :: st) h Q := by
  intro p l e R s m args below meth c H locs cells slots mc ms ls C hS hR hL hb
  obtain ⟨Cn, T, N, ty, ref, ⟨hc, h1, h2, h3⟩, hk, hw, hsame⟩ := hf
  have hts := C.2.2.2.2.2.1
  refine va_get (D := G.1) (cl := hk_cl) (ws := [(hk_r G a, .inr (ci, fs.map (hk_cv G)))]) (v := hk_cv G v) C.1 C.2.1 hts h3 C.2.2.2.2.1 C.2.2.2.2.2.2.2.2.2.1.1 ?_ 0 rfl hc k hk (hts _ hw) (hk_same hts hsame) (by rw [List.getElem?_map, hv]; rfl) hd (kk p l e R s m args below meth c H locs cells slots mc ms ls C hS hR hL hb)
  intro k0 q hq
  cases k0 with
  | zero => cases hq; exact hR.atO ha
  | succ j => cases hq
theorem hk_setl {G : hk_G} {fs : List Value} {k : Nat} {v : Value} (hk : k < fs.length) (j : Nat) : updV (vp_V (fs.map (hk_cv G))) k (hk_cv G v) j = vp_V ((fs.set k v).map (hk_cv G)) j := by
  rw [List.map_set]
  exact vp_updV_set (by simpa using hk) _ j
theorem hs_put {idx ci k a : Nat} {fs : List Value} {v : Value} {t : FieldType} (hd : decode M.2.1 pc = .ok (.putfield idx, 3)) (hf : hk_fw M.1.cls idx ci k t false) (ha : h.2 a = some (.inr (ci, fs))) (h4 : 4 ≤ a) (hl : k < fs.length) (hn : narrow t (hk_cv G v) = hk_cv G v) (hfit : fits t (hk_cv G v) = true) (kk : hk_S G M d cb sb (pc + 3) L st (hk_set h a (.inr (ci, fs.set k v))) Q) : hk_S G M d cb sb pc L (v :: .ref a :: st) h Q := by
  intro p l e R s m args below meth c H locs cells slots mc ms ls C hS hR hL hb
  obtain ⟨Cn, T, N, ty, ref, ⟨hc, g1, g2, g3⟩, hk, hw, hsame, hty, hfin, -⟩ := hf
  have hts := C.2.2.2.2.2.1
  have hK := C.2.2.2.2.2.2.2.2.2.1.1
  have hap := va_apart (own := M.1.cls) hts g3 ty g1 g2 hK hc
  obtain ⟨r, e1, cell, q1, q2, q3, q4⟩ := hR.atO ha
  have hr : r = (Cn, T, N) := Option.some.inj (e1.symm.trans hc)
  subst hr
  obtain ⟨hSl, hfc, kC, hkC, hkind⟩ := hK.1 ci _ hc
  obtain ⟨cf, kf, fi, f, hi, hsl⟩ := hSl k hk
  have hlay := hts _ (g3 _ (u_in_lay hk))
  unfold u_lay at hlay
  rw [if_neg (by rw [hfin]; decide)] at hlay
  have hst := (u_facts hfc hkC (u_lays hts g3 hk) hi).1
  have h6 := u_store hfc hkC hkind hlay hi (g1 k hk) (by rw [hty]; exact hn) (by rw [hty]; exact hfit)
  refine W.putK C.1 C.2.1 (f := f) ⟨C.2.2.2.2.1, hts _ hw, ⟨_, _, _, hk_same hts hsame _ hi⟩, hst⟩ (by rw [q2]; exact h6) q1 q3 (by rw [hsl]; exact k2_hasslot (q4 k hk)) rfl rfl hd fun H' e1 e2 e3 => ?_
  rw [hsl] at e1 ⊢
  refine kk p l e R s m args below meth c H' _ cells slots mc ms ls C (hS.put e2 e3 (hR.own h4)) (hR.put h4 ?_ e2 e3) hL hb
  exact ⟨_, hc, t_OB.to (V := updV (vp_V (fs.map (hk_cv G))) k (hk_cv G v)) ⟨_, e1, q2, q3, t_set q4 hap hk _⟩ (fun j _ => hk_setl hl j)⟩
theorem hs_putF {idx ci k a : Nat} {fs : List Value} {v : Value} {t : FieldType} (hd : decode M.2.1 pc = .ok (.putfield idx, 3)) (hi0 : M.1.name = "<init>") (hf : hk_fw M.1.cls idx ci k t true) (ha : h.2 a = some (.inr (ci, fs))) (h4 : 4 ≤ a) (hl : k < fs.length) (hn : narrow t (hk_cv G v) = hk_cv G v) (hfit : fits t (hk_cv G v) = true) (kk : hk_S G M d cb sb (pc + 3) L st (hk_set h a (.inr (ci, fs.set k v))) Q) : hk_S G M d cb sb pc L (v :: .ref a :: st) h Q := by
  intro p l e R s m args below meth c H locs cells slots mc ms ls C hS hR hL hb
  obtain ⟨Cn, T, N, ty, ref, ⟨hc, g1, g2, g3⟩, hk, hw, hsame, hty, hfin, hdecl⟩ := hf
  have hdecl := hdecl rfl
  have hts := C.2.2.2.2.2.1
  have hown := C.2.2.2.2.1
  have hK := C.2.2.2.2.2.2.2.2.2.1.1
  have hap := va_apart (own := M.1.cls) hts g3 ty g1 g2 hK hc
  obtain ⟨r, e1, cell, q1, q2, q3, q4⟩ := hR.atO ha
  have hr : r = (Cn, T, N) := Option.some.inj (e1.symm.trans hc)
  subst hr
  obtain ⟨hSl, hfc, kC, hkC, hkind⟩ := hK.1 ci _ hc
  obtain ⟨cf, kf, fi, f, hi, hsl⟩ := hSl k hk
  have hlay := hts _ (g3 _ (u_in_lay hk))
  unfold u_lay at hlay
  rw [if_pos hfin] at hlay
  have hst := (u_facts hfc hkC (u_lays hts g3 hk) hi).1
  have hcf : m.cls = cf := by
    obtain ⟨_, _, c', _, _, _, -, -, hf', -, -, -, hown2, -⟩ := Cond.laysFinal_spec hlay
    have e1 : c' = cf := by have := hi.symm.trans hf'; simp at this; exact this.1.symm
    rw [hdecl] at hown2
    rw [← e1]; exact Option.some.inj (hown.symm.trans hown2)
  have h6 := u_fits hfc hkC hkind (Or.inr hlay) hi (g1 k hk) (by rw [hty]; exact hn) (by rw [hty]; exact hfit)
  refine W.putFinK C.1 C.2.1 hown (hts _ hw) (hk_same hts hsame _ hi) hst hcf (C.2.2.2.2.2.2.2.1.trans hi0) (by rw [q2]; exact h6) q1 q3 (by rw [hsl]; exact k2_hasslot (q4 k hk)) rfl rfl hd fun H' e1 e2 e3 => ?_
  rw [hsl] at e1 ⊢
  refine kk p l e R s m args below meth c H' _ cells slots mc ms ls C (hS.put e2 e3 (hR.own h4)) (hR.put h4 ?_ e2 e3) hL hb
  exact ⟨_, hc, t_OB.to (V := updV (vp_V (fs.map (hk_cv G))) k (hk_cv G v)) ⟨_, e1, q2, q3, t_set q4 hap hk _⟩ (fun j _ => hk_setl hl j)⟩
theorem hs_alen {a t n : Nat} {x : (Nat → Int32) ⊕ (Nat → Int64) ⊕ (Nat → UInt32) ⊕ (Nat → UInt64) ⊕ (Nat → Option Nat)} (hd : decode M.2.1 pc = .ok (.arraylength, 1)) (ha : h.2 a = some (.inl (t, n, x))) (ht : t < 5) (kk : hk_S G M d cb sb (pc + 1) L (.int (Int32.ofNat n) :: st) h Q) : hk_S G M d cb sb pc L (.ref a :: st) h Q := by
  intro p l e R s m args below meth c H locs cells slots mc ms ls C hS hR hL hb
  by_cases h4 : a < 4
  · obtain ⟨n', f, hx, hX, hlt⟩ := hk_oldX C hR ha h4
    cases hx
    have e9 : hk_cv G (.ref a) = .ref (G.2.2.1 a) := by show Value.ref (hk_r G a) = _; rw [hk_r0 h4]
    rw [List.map_cons, e9]
    exact va_slen C.1 C.2.1 hX hlt (A := hk_A G) (by have := hR.2.2.1 a h4; unfold hk_A; omega) ⟨Nat.le_refl _, fun _ _ _ => rfl, hS.2.2⟩ hd (kk p l e R s m args below meth c H locs cells slots mc ms ls C hS hR hL hb)
  obtain ⟨ty, hty⟩ : ∃ ty, (hk_tys G)[t]? = some (G.2.1 t, ty) := by
    rcases (show t = 0 ∨ t = 1 ∨ t = 2 ∨ t = 3 ∨ t = 4 by omega) with rfl | rfl | rfl | rfl | rfl <;> exact ⟨_, rfl⟩
  refine va_alen (D := G.1) (cl := hk_cl) (ws := [(hk_r G a, .inl (G.2.1 t, hk_ca G (n, x)))]) C.1 C.2.1 C.2.2.2.2.2.2.2.2.2.1.1 ?_ 0 t rfl hty ?_ hd (kk p l e R s m args below meth c H locs cells slots mc ms ls C hS hR hL hb)
  · intro k0 q hq
    cases k0 with
    | zero => cases hq; exact hR.at4 ha (by omega)
    | succ j => cases hq
  · rcases x with f | f | f | f | f <;> rfl
theorem hs_iald {a n : Nat} {f : Nat → Int32} {i : Int32} (j : Nat) (hd : decode M.2.1 pc = .ok (.iaload, 1)) (ha : h.2 a = some (.inl (0, n, .inl f))) (hij : i.toInt = (j : Int)) (hj : j < n) (kk : hk_S G M d cb sb (pc + 1) L (.int (f j) :: st) h Q) : hk_S G M d cb sb pc L (.int i :: .ref a :: st) h Q := by
  intro p l e R s m args below meth c H locs cells slots mc ms ls C hS hR hL hb
  by_cases h4 : a < 4
  · obtain ⟨n', f', hx, hX, hlt⟩ := hk_oldX C hR ha h4
    cases hx
    have e9 : hk_cv G (.ref a) = .ref (G.2.2.1 a) := by show Value.ref (hk_r G a) = _; rw [hk_r0 h4]
    rw [List.map_cons, List.map_cons, e9]
    refine va_sld C.1 C.2.1 hX hlt (A := hk_A G) (by have := hR.2.2.1 a h4; unfold hk_A; omega) ⟨Nat.le_refl _, fun _ _ _ => rfl, hS.2.2⟩ (hk_vin hij hj) hd ?_
    rw [hk_clamp hij]
    exact kk p l e R s m args below meth c H locs cells slots mc ms ls C hS hR hL hb
  refine va_iald (D := G.1) (cl := hk_cl) (ws := [(hk_r G a, .inl (G.2.1 0, (n, .inl f)))]) C.1 C.2.1 C.2.2.2.2.2.2.2.2.2.1.1 ?_ 0 0 rfl rfl (hk_vin hij hj) hd ?_
  · intro k0 q hq
    cases k0 with
    | zero => cases hq; exact hR.at4 ha (by omega)
    | succ j => cases hq
  · rw [hk_clamp hij]
    exact kk p l e R s m args below meth c H locs cells slots mc ms ls C hS hR hL hb
theorem hs_lald {a n : Nat} {f : Nat → Int64} {i : Int32} (j : Nat) (hd : decode M.2.1 pc = .ok (.laload, 1)) (ha : h.2 a = some (.inl (1, n, .inr (.inl f)))) (hij : i.toInt = (j : Int)) (hj : j < n) (kk : hk_S G M d cb sb (pc + 1) L (.long (f j) :: st) h Q) : hk_S G M d cb sb pc L (.int i :: .ref a :: st) h Q := by
  intro p l e R s m args below meth c H locs cells slots mc ms ls C hS hR hL hb
  refine va_lald (D := G.1) (cl := hk_cl) (ws := [(hk_r G a, .inl (G.2.1 1, (n, .inr (.inl f))))]) C.1 C.2.1 C.2.2.2.2.2.2.2.2.2.1.1 ?_ 0 1 rfl rfl (hk_vin hij hj) hd ?_
  · intro k0 q hq
    cases k0 with
    | zero => cases hq; exact hR.atT ha (by decide)
    | succ j => cases hq
  · rw [hk_clamp hij]
    exact kk p l e R s m args below meth c H locs cells slots mc ms ls C hS hR hL hb
theorem hs_zald {a n : Nat} {f : Nat → Int32} {i : Int32} (j : Nat) (hd : decode M.2.1 pc = .ok (.baload, 1)) (ha : h.2 a = some (.inl (2, n, .inl f))) (hij : i.toInt = (j : Int)) (hj : j < n) (kk : hk_S G M d cb sb (pc + 1) L (.int (f j) :: st) h Q) : hk_S G M d cb sb pc L (.int i :: .ref a :: st) h Q := by
  intro p l e R s m args below meth c H locs cells slots mc ms ls C hS hR hL hb
  refine va_zald (D := G.1) (cl := hk_cl) (ws := [(hk_r G a, .inl (G.2.1 2, (n, .inl f)))]) C.1 C.2.1 C.2.2.2.2.2.2.2.2.2.1.1 ?_ 0 2 rfl rfl (hk_vin hij hj) hd ?_
  · intro k0 q hq
    cases k0 with
    | zero => cases hq; exact hR.atT ha (by decide)
    | succ j => cases hq
  · rw [hk_clamp hij]
    exact kk p l e R s m args below meth c H locs cells slots mc ms ls C hS hR hL hb
/-- an element of a row of references: null, or a cell -/
def hk_rf (r : Option Nat) : Value := match r with
  | none => .null
  | some a => .ref a
theorem hs_aald {a t n : Nat} {f : Nat → Option Nat} {i : Int32} (j : Nat) (hd : decode M.2.1 pc = .ok (.aaload, 1)) (ha : h.2 a = some (.inl (t, n, .inr (.inr (.inr (.inr f)))))) (ht : t = 3 ∨ t = 4) (hij : i.toInt = (j : Int)) (hj : j < n) (kk : hk_S G M d cb sb (pc + 1) L (hk_rf (f j) :: st) h Q) : hk_S G M d cb sb pc L (.int i :: .ref a :: st) h Q := by
  intro p l e R s m args below meth c H locs cells slots mc ms ls C hS hR hL hb
  obtain ⟨E, hty⟩ : ∃ E, (hk_tys G)[t]? = some (G.2.1 t, .object E) := by
    rcases ht with rfl | rfl <;> exact ⟨_, rfl⟩
  refine va_aldq (D := G.1) (cl := hk_cl) (ws := [(hk_r G a, .inl (G.2.1 t, (n, .inr (.inr (.inr (.inr (fun j => (f j).map (hk_r G))))))))]) C.1 C.2.1 C.2.2.2.2.2.2.2.2.2.1.1 ?_ 0 t rfl hty (hk_vin hij hj) hd ?_
  · intro k0 q hq
    cases k0 with
    | zero => cases hq; exact hR.atT ha (by omega)
    | succ j => cases hq
  · rw [hk_clamp hij]
    have e9 : va_rf ((f j).map (hk_r G)) = hk_cv G (hk_rf (f j)) := by cases f j <;> rfl
    rw [e9]
    exact kk p l e R s m args below meth c H locs cells slots mc ms ls C hS hR hL hb
theorem hs_iast {a n : Nat} {f : Nat → Int32} {i x : Int32} (j : Nat) (hd : decode M.2.1 pc = .ok (.iastore, 1)) (ha : h.2 a = some (.inl (0, n, .inl f))) (h4 : 4 ≤ a) (hij : i.toInt = (j : Int)) (hj : j < n) (kk : hk_S G M d cb sb (pc + 1) L st (hk_set h a (.inl (0, n, .inl (upd f j x)))) Q) : hk_S G M d cb sb pc L (.int x :: .int i :: .ref a :: st) h Q := by
  intro p l e R s m args below meth c H locs cells slots mc ms ls C hS hR hL hb
  have hK := C.2.2.2.2.2.2.2.2.2.1.1
  have hin := hk_vin hij hj
  have hc : H[hk_r G a]? = some (vp_cell (G.2.1 0) (n, .inl f)) := hR.at4 ha h4
  refine W.iast C.1 C.2.1 hc ((hK.2 0 _ rfl).1 n (fun j => .int (f j))) (fun q => by cases q) (by show ¬ (i < 0 ∨ (arrV _ _ _).slots.size ≤ _); rw [arrV_size]; exact hin) rfl rfl hd fun H1 e1 z oq => ?_
  refine kk p l e R s m args below meth c H1 _ cells slots mc ms ls C (hS.put z oq (hR.own h4)) (hR.put h4 ?_ z oq) hL hb
  show H1[hk_r G a]? = some (vp_cell _ _)
  rw [e1, hk_clamp hij, vp_cell_i]
  show _ = some (vp_cell (G.2.1 0) (n, .inl (upd f j x)))
  rw [vp_cell_i, arrV_store]
  congr 2
  funext q
  by_cases hq : q = j <;> simp [upd, updV, hq]
theorem hs_last {a n : Nat} {f : Nat → Int64} {i : Int32} {x : Int64} (j : Nat) (hd : decode M.2.1 pc = .ok (.lastore, 1)) (ha : h.2 a = some (.inl (1, n, .inr (.inl f)))) (h4 : 4 ≤ a) (hij : i.toInt = (j : Int)) (hj : j < n) (kk : hk_S G M d cb sb (pc + 1) L st (hk_set h a (.inl (1, n, .inr (.inl (vp_updL f j x))))) Q) : hk_S G M d cb sb pc L (.long x :: .int i :: .ref a :: st) h Q := by
  intro p l e R s m args below meth c H locs cells slots mc ms ls C hS hR hL hb
  have hK := C.2.2.2.2.2.2.2.2.2.1.1
  have hin := hk_vin hij hj
  have hc : H[hk_r G a]? = some (vp_cell (G.2.1 1) (n, .inr (.inl f))) := hR.at4 ha h4
  refine W.last C.1 C.2.1 hc ((hK.2 1 _ rfl).1 n (fun j => .long (f j))) (fun q => by cases q) (by show ¬ (i < 0 ∨ (arrV _ _ _).slots.size ≤ _); rw [arrV_size]; exact hin) rfl rfl hd fun H1 e1 z oq => ?_
  refine kk p l e R s m args below meth c H1 _ cells slots mc ms ls C (hS.put z oq (hR.own h4)) (hR.put h4 ?_ z oq) hL hb
  show H1[hk_r G a]? = some (vp_cell _ _)
  rw [e1, hk_clamp hij, vp_cell_l]
  show _ = some (vp_cell (G.2.1 1) (n, .inr (.inl (vp_updL f j x))))
  rw [vp_cell_l, arrV_store]
  congr 2
  funext q
  by_cases hq : q = j <;> simp [vp_updL, updV, hq]
theorem hs_zast {a n : Nat} {f : Nat → Int32} {i x : Int32} (j : Nat) (hd : decode M.2.1 pc = .ok (.bastore, 1)) (ha : h.2 a = some (.inl (2, n, .inl f))) (h4 : 4 ≤ a) (hij : i.toInt = (j : Int)) (hj : j < n) (hx : x = 0 ∨ x = 1) (kk : hk_S G M d cb sb (pc + 1) L st (hk_set h a (.inl (2, n, .inl (upd f j x)))) Q) : hk_S G M d cb sb pc L (.int x :: .int i :: .ref a :: st) h Q := by
  intro p l e R s m args below meth c H locs cells slots mc ms ls C hS hR hL hb
  have hK := C.2.2.2.2.2.2.2.2.2.1.1
  have hin := hk_vin hij hj
  have hc : H[hk_r G a]? = some (vp_cell (G.2.1 2) (n, .inl f)) := hR.at4 ha h4
  have hnx : narrow .boolean (.int x) = .int x := by rcases hx with rfl | rfl <;> rfl
  refine W.zast C.1 C.2.1 hc ((hK.2 2 _ rfl).1 n (fun j => .int (f j))) (fun q => by cases q) (by show ¬ (i < 0 ∨ (arrV _ _ _).slots.size ≤ _); rw [arrV_size]; exact hin) rfl rfl hd fun H1 e1 z oq => ?_
  rw [hnx] at e1
  refine kk p l e R s m args below meth c H1 _ cells slots mc ms ls C (hS.put z oq (hR.own h4)) (hR.put h4 ?_ z oq) hL hb
  show H1[hk_r G a]? = some (vp_cell _ _)
  rw [e1, hk_clamp hij, vp_cell_i]
  show _ = some (vp_cell (G.2.1 2) (n, .inl (upd f j x)))
  rw [vp_cell_i, arrV_store]
  congr 2
  funext q
  by_cases hq : q = j <;> simp [upd, updV, hq]
/-- a row of references takes an object of the row's class, or of one under it -/
theorem hs_aast {a t n b ci : Nat} {vs : List Value} {f : Nat → Option Nat} {i : Int32} {r : vw_C} {E : String} (j : Nat) (hd : decode M.2.1 pc = .ok (.aastore, 1)) (ha : h.2 a = some (.inl (t, n, .inr (.inr (.inr (.inr f)))))) (ht : (hk_tys G)[t]? = some (G.2.1 t, .object E)) (h4 : 4 ≤ a) (hb0 : h.2 b = some (.inr (ci, vs))) (hc0 : hk_cl[ci]? = some r) (hE : r.1 = E ∨ (r.1, E) ∈ hk_cast) (hij : i.toInt = (j : Int)) (hj : j < n) (kk : hk_S G M d cb sb (pc + 1) L st (hk_set h a (.inl (t, n, .inr (.inr (.inr (.inr (va_up f j (some b)))))))) Q) : hk_S G M d cb sb pc L (.ref b :: .int i :: .ref a :: st) h Q := by
  intro p l e R s m args below meth c H locs cells slots mc ms ls C hS hR hL hb
  have hKK := C.2.2.2.2.2.2.2.2.2.1
  have hK := hKK.1
  have hin := hk_vin hij hj
  have h0 : ¬ i < 0 := fun q => hin (Or.inl q)
  have hlt : i.toNatClampNeg < n := Nat.not_le.mp fun q => hin (Or.inr q)
  have hc : H[hk_r G a]? = some (vp_cell (G.2.1 t) (n, .inr (.inr (.inr (.inr (fun j => (f j).map (hk_r G))))))) := hR.at4 ha h4
  obtain ⟨r', hr', cellV, g1, g2, g3, -⟩ := hR.atO hb0
  have hcls := (hK.1 ci r hc0).2
  obtain ⟨kA, comp, k1, k2, k3, -⟩ := (hK.2 t _ ht).2
  obtain ⟨kE, hkE, -⟩ := Vm.findClass_spec k3
  obtain ⟨kC, hkC, -⟩ := hcls.2
  have hasg : s.vm.assignable (G.1.1 ci) comp = true := by
    rcases hE with rfl | hE
    · have : comp = G.1.1 ci := Option.some.inj (k3.symm.trans hcls.1)
      rw [this]
      exact va_assign hcls
    · exact vb_asgC (hKK.2.2.2.2.2.1 _ hE) comp _ k3 hcls.1
  refine W.aast C.1 C.2.1 hc (fun q h => by cases h) (fun h => by cases h) k1 k2 rfl hkE ⟨h0, by show _ < (arrV _ _ _).slots.size; rw [arrV_size]; exact hlt⟩ g1 (fun q h => by rw [g3] at h; cases h) (by rw [g2]; exact hkC) (by rw [g2]; exact hasg) rfl rfl hd fun H1 e1 z oq => ?_
  refine kk p l e R s m args below meth c H1 _ cells slots mc ms ls C (hS.put z oq (hR.own h4)) (hR.put h4 ?_ z oq) hL hb
  show H1[hk_r G a]? = some (vp_cell _ _)
  rw [e1, hk_clamp hij, vp_cell_q]
  show _ = some (vp_cell (G.2.1 t) (n, .inr (.inr (.inr (.inr (fun q => (va_up f j (some b) q).map (hk_r G)))))))
  rw [vp_cell_q, arrV_store]
  congr 2
  funext q
  by_cases hq : q = j <;> simp [va_up, updV, hq, va_rf]
theorem hs_newa {atype : ArrayType} {n : Int32} {t N : Nat} {ty : FieldType} {x : (Nat → Int32) ⊕ (Nat → Int64) ⊕ (Nat → UInt32) ⊕ (Nat → UInt64) ⊕ (Nat → Option Nat)} (hd : decode M.2.1 pc = .ok (.newarray atype, 2)) (hat : newarray.typeOf atype = ty) (hw : Cond.arrayClass ty ∈ hk_ws) (ht : (hk_tys G)[t]? = some (G.2.1 t, ty)) (hra : ∀ (U : State) (cA : ClassId), va_RA U cA ty = (U.vm.findClass ("[" ++ ty.toString) = some cA)) (hx : ∀ cA : ClassId, vp_cell cA (hk_ca G (N, x)) = arrV cA N (fun _ => defaultValue ty)) (hnN : n.toInt = (N : Int)) (hbytes : N * componentBytes ty ≤ 536870912) (kk : hk_S G M d cb sb (pc + 2) L (.ref h.1 :: st) (hk_new h (.inl (t, N, x))) Q) : hk_S G M d (cb + 1) (sb + N) pc L (.int n :: st) h Q := by
  intro p l e R s m args below meth c H locs cells slots mc ms ls C hS hR hL hb
  subst hat
  have hK := C.2.2.2.2.2.2.2.2.2.1.1
  have hts := C.2.2.2.2.2.1
  refine va_newaK C.1 C.2.1 (hts _ hw) rfl hd rfl (by rw [Int32.lt_iff_toInt_lt, Int32.toInt_zero]; omega) (hk_clamp hnN) hbytes (by omega) (by omega) rfl fun H1 cA e1 z o hAr hNm => ?_
  have hcA : cA = G.2.1 t := by
    have h9 := (hK.2 t _ ht).2
    rw [hra] at h9
    exact Option.some.inj (hNm.symm.trans h9)
  subst hcA
  have e9 : hk_cv G (.ref h.1) = .ref H.size := by
    show Value.ref (hk_r G h.1) = _
    rw [hR.top]
  rw [← e9]
  refine kk p l e R s m args below meth c H1 locs (cells + 1) (slots + N) mc ms ls C ⟨Nat.le_trans hS.1 (by omega), fun q h1 h2 => (o q (Nat.lt_of_lt_of_le h1 hS.1)).trans (hS.2.1 q h1 h2), hS.2.2⟩ (hR.push ?_ z o) hL (by omega)
  show H1[H.size]? = some (vp_cell _ _)
  rw [hx]
  exact e1
theorem hs_anew {idx : Nat} {n : Int32} {t N : Nat} {E : String} (hd : decode M.2.1 pc = .ok (.anewarray idx, 3)) (hw : Cond.classLink M.1.cls idx E ∈ hk_ws) (hE : (t = 3 ∧ E = RX5) ∨ (t = 4 ∧ E = RX4)) (hnN : n.toInt = (N : Int)) (hbytes : N * 4 ≤ 536870912) (kk : hk_S G M d cb sb (pc + 3) L (.ref h.1 :: st) (hk_new h (.inl (t, N, .inr (.inr (.inr (.inr (fun _ => none))))))) Q) : hk_S G M d (cb + 1) (sb + N) pc L (.int n :: st) h Q := by
  intro p l e R s m args below meth c H locs cells slots mc ms ls C hS hR hL hb
  have hKK := C.2.2.2.2.2.2.2.2.2.1
  have hK := hKK.1
  have hts := C.2.2.2.2.2.1
  have hAO : va_AO E s := by
    rcases hE with ⟨-, rfl⟩ | ⟨-, rfl⟩
    · exact hKK.2.2.2.2.2.2.2.2.1
    · exact hKK.2.2.2.2.2.2.2.2.2.1
  have hty : (hk_tys G)[t]? = some (G.2.1 t, .object E) := by
    rcases hE with ⟨rfl, rfl⟩ | ⟨rfl, rfl⟩ <;> rfl
  have hcl := hk_clamp hnN
  refine W.anew C.1 C.2.1 C.2.2.2.2.1 (hts _ hw) hAO.use rfl hd rfl (by rw [Int32.lt_iff_toInt_lt, Int32.toInt_zero]; omega) (by rw [hcl]; exact hbytes) (by omega) (by rw [hcl]; omega) fun cA kA comp h1 h2 h3 h4 => ?_
  rw [hcl]
  have hcA : cA = G.2.1 t := by
    obtain ⟨kA', comp', -, -, -, h9⟩ := (hK.2 t _ hty).2
    exact Option.some.inj (h1.symm.trans h9)
  subst hcA
  have e9 : hk_cv G (.ref h.1) = .ref H.size := by
    show Value.ref (hk_r G h.1) = _
    rw [hR.top]
  rw [← e9]
  have o : ∀ q, q < H.size → (H.push { cls := G.2.1 t, slots := Array.replicate N Value.null, vm := .none })[q]? = H[q]? := fun q hq => by
    rw [Array.getElem?_push, if_neg (Nat.ne_of_lt hq)]
  refine kk p l e R s m args below meth c _ locs (cells + 1) (slots + N) mc ms ls C ⟨Nat.le_trans hS.1 (by simp), fun q h1 h2 => (o q (Nat.lt_of_lt_of_le h1 hS.1)).trans (hS.2.1 q h1 h2), hS.2.2⟩ (hR.push ?_ (by simp) o) hL (by omega)
  show (H.push _)[H.size]? = some (vp_cell _ _)
  show (H.push _)[H.size]? = some (vp_cell (G.2.1 t) (N, .inr (.inr (.inr (.inr (fun j => (none : Option Nat).map (hk_r G)))))))
  rw [vp_cell_q]
  have e8 : (fun j : Nat => va_rf ((none : Option Nat).map (hk_r G))) = fun _ => Value.null := rfl
  rw [show (fun j : Nat => va_rf ((fun _ : Nat => (none : Option Nat).map (hk_r G)) j)) = fun _ => Value.null from rfl, ← arrV_new]
  simp
theorem hs_new {idx ci N : Nat} {C0 : String} {T : u_T} {ty : Nat → FieldType} {fs : List Value} (hd : decode M.2.1 pc = .ok (.new idx, 3)) (hc : hk_Cls ci C0 T N ty) (hw : Cond.classLink M.1.cls idx C0 ∈ hk_ws ∧ Cond.instantiable C0 N ∈ hk_ws ∧ Cond.initialized C0 ∈ hk_ws) (hfs : ∀ j, j < N → defaultValue (ty j) = vp_V (fs.map (hk_cv G)) j) (kk : hk_S G M d cb sb (pc + 3) L (.ref h.1 :: st) (hk_new h (.inr (ci, fs))) Q) : hk_S G M d (cb + 1) (sb + N) pc L st h Q := by
  intro p l e R s m args below meth c H locs cells slots mc ms ls C hS hR hL hb
  have hK := C.2.2.2.2.2.2.2.2.2.1.1
  have hts := C.2.2.2.2.2.1
  obtain ⟨hcc, g1, g2, g3⟩ := hc
  have hKn := hK.1 ci _ hcc
  refine W.newcK C.1 C.2.1 C.2.2.2.2.1 (hts _ hw.1) (hts _ hw.2.1) (hts _ hw.2.2) rfl hd (by omega) (by omega) hKn.2.1 rfl fun H1 kC hkC e1 z o => ?_
  have e9 : hk_cv G (.ref h.1) = .ref H.size := by
    show Value.ref (hk_r G h.1) = _
    rw [hR.top]
  rw [← e9]
  refine kk p l e R s m args below meth c H1 locs (cells + 1) (slots + N) mc ms ls C ⟨Nat.le_trans hS.1 (by omega), fun q h1 h2 => (o q (Nat.lt_of_lt_of_le h1 hS.1)).trans (hS.2.1 q h1 h2), hS.2.2⟩ (hR.push ?_ z o) hL (by omega)
  exact ⟨_, hcc, (u_born ty hts g3 hKn hkC e1 g1).to hfs⟩
theorem hs_gets {idx j : Nat} {nm : String} (hd : decode M.2.1 pc = .ok (.getstatic idx, 3)) (hM : M.1.cls = RX1) (hq : (j, nm) ∈ hk_sta) (hn : (idx, nm) ∈ hk_nest) (hj : j < 4) (kk : hk_S G M d cb sb (pc + 3) L (.ref j :: st) h Q) : hk_S G M d cb sb pc L st h Q := by
  intro p l e R s m args below meth c H locs cells slots mc ms ls C hS hR hL hb
  have hKK := C.2.2.2.2.2.2.2.2.2.1
  refine va_getsN C.1 C.2.1 (hKK.2.2.2.1 (j, nm) hq) hS (index := idx) (by have := C.2.2.2.2.1; rw [hM] at this; exact this) (va_Nw.use rfl (hKK.2.2.2.2.2.2.2.1 (idx, nm) hn)) (fun x hx => hx) hd ?_
  have e9 : hk_cv G (.ref j) = .ref (G.2.2.1 j) := by
    show Value.ref (hk_r G j) = _
    unfold hk_r
    rw [if_pos hj]
  rw [← e9]
  exact kk p l e R s m args below meth c H locs cells slots mc ms ls C hS hR hL hb
/-- Object's constructor -/
theorem hs_objInit {idx a : Nat} (hd : decode M.2.1 pc = .ok (.invokespecial idx, 3)) (hw : Cond.methodLink M.1.cls idx Lib.objectInit ∈ hk_ws ∧ Cond.instanceMethod Lib.objectInit ∈ hk_ws ∧ Cond.code Lib.objectInit ⟨#[0xb1]⟩ 1 none ∈ hk_ws) (hst : (st.map (fun v => v.category)).sum ≤ 300) (kk : hk_S G M d cb sb (pc + 3) L st h Q) : hk_S G M d cb sb pc L (.ref a :: st) h Q := by
  intro p l e R s m args below meth c H locs cells slots mc ms ls C hS hR hL hb
  have hts := C.2.2.2.2.2.1
  have hfr := C.2.2.2.2.2.2.2.2.2.2.2.1
  have hlo := C.2.2.2.2.2.2.2.2.2.2.2.2.1
  refine W.objInit C.1 C.2.1 C.2.2.2.2.1 (hts _ hw.1) (hts _ hw.2.1) (hts _ hw.2.2) rfl (hL.1.trans C.2.2.2.1.symm) rfl hd (by omega) ?_ (kk p l e R s m args below meth c H locs cells slots mc ms ls C hS hR hL hb)
  have e9 : (List.map (fun v => Value.category v) (st.map (hk_cv G))) = st.map (fun v => v.category) := by
    rw [List.map_map]
    exact List.map_congr_left fun v _ => hk_cat G v
  show 2 * 0 + _ + 12 ≤ _
  rw [e9]
  omega
end HP
