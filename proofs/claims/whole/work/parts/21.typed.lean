/-! Calls by the kind of their answer; stores beside a local that is no long; dispatch. -/
def hk_Ci (G : hk_G) (M : hk_M) (d c s : Nat) (vs : List Value) (h : hk_H) (K : Int32 → hk_H → Prop) : Prop := hk_E G M d c s vs h (fun o h' => ∃ x, o = .inl (some (.int x)) ∧ K x h')
def hk_Cl (G : hk_G) (M : hk_M) (d c s : Nat) (vs : List Value) (h : hk_H) (K : Int64 → hk_H → Prop) : Prop := hk_E G M d c s vs h (fun o h' => ∃ x, o = .inl (some (.long x)) ∧ K x h')
def hk_Cv (G : hk_G) (M : hk_M) (d c s : Nat) (vs : List Value) (h : hk_H) (K : hk_H → Prop) : Prop := hk_E G M d c s vs h (fun o h' => o = .inl none ∧ K h')
def hk_Cr (G : hk_G) (M : hk_M) (d c s : Nat) (vs : List Value) (h : hk_H) (K : Option Nat → hk_H → Prop) : Prop := hk_E G M d c s vs h (fun o h' => ∃ r, o = .inl (some (hk_rf r)) ∧ K r h')
def hk_c1 (o : Option Value) : Prop := ∀ w, o = some w → w.category = 1
def hk_nk (L : List (Option Value)) (i : Nat) : Prop := ∀ j w, i = j + 1 → L[j]? = some (some w) → w.category = 1
theorem hk_kill_nk {L : List (Option Value)} {i : Nat} (h : hk_nk L i) : hk_kill L i = L := by
  cases i with
  | zero => rfl
  | succ j =>
    unfold hk_kill
    dsimp only
    split
    · rename_i w hw
      rw [if_neg]
      rw [h j w rfl hw]
      decide
    · rfl
theorem hk_nk0 {L : List (Option Value)} : hk_nk L 0 := fun j w h => by omega
theorem hk_nk1 {L : List (Option Value)} {j : Nat} {o : Option Value} (hl : L[j]? = some o) (ho : hk_c1 o) : hk_nk L (j + 1) := fun j' w e h => by
  have : j' = j := by omega
  subst this
  rw [hl] at h
  exact ho w (Option.some.inj h)
theorem hk_c1i {x : Int32} : hk_c1 (some (.int x)) := fun w h => by cases h; rfl
theorem hk_c1r {x : Nat} : hk_c1 (some (.ref x)) := fun w h => by cases h; rfl
theorem hk_c1n : hk_c1 (some .null) := fun w h => by cases h; rfl
theorem hk_c10 : hk_c1 none := fun w h => by cases h
section HTy
variable {G : hk_G} {M M' : hk_M} {d cb sb c1 s1 c2 s2 pc : Nat} {L L' : List (Option Value)} {st : List Value} {h : hk_H} {Q Qe : hk_O → hk_H → Prop}
theorem hs_istK_n {i : Fin 4} {x : Int32} (hd : decode M.2.1 pc = .ok (.istore_n i, 1)) (hi : (i : Nat) < M.2.2.1) (hk : hk_nk L i) (hl : L.set i (some (.int x)) = L') (k : hk_S G M d cb sb (pc + 1) L' st h Q) : hk_S G M d cb sb pc L (.int x :: st) h Q := hs_istore_n hd hi (by unfold hk_st1; rw [hk_kill_nk hk]; exact hl) k
theorem hs_istK {i : Nat} {x : Int32} (hd : decode M.2.1 pc = .ok (.istore i, 2)) (hi : i < M.2.2.1) (hk : hk_nk L i) (hl : L.set i (some (.int x)) = L') (k : hk_S G M d cb sb (pc + 2) L' st h Q) : hk_S G M d cb sb pc L (.int x :: st) h Q := hs_istore hd hi (by unfold hk_st1; rw [hk_kill_nk hk]; exact hl) k
theorem hs_astK_n {i : Fin 4} {x : Nat} (hd : decode M.2.1 pc = .ok (.astore_n i, 1)) (hi : (i : Nat) < M.2.2.1) (hk : hk_nk L i) (hl : L.set i (some (.ref x)) = L') (k : hk_S G M d cb sb (pc + 1) L' st h Q) : hk_S G M d cb sb pc L (.ref x :: st) h Q := hs_astore_n hd hi (by unfold hk_st1; rw [hk_kill_nk hk]; exact hl) k
theorem hs_astK {i : Nat} {x : Nat} (hd : decode M.2.1 pc = .ok (.astore i, 2)) (hi : i < M.2.2.1) (hk : hk_nk L i) (hl : L.set i (some (.ref x)) = L') (k : hk_S G M d cb sb (pc + 2) L' st h Q) : hk_S G M d cb sb pc L (.ref x :: st) h Q := hs_astore hd hi (by unfold hk_st1; rw [hk_kill_nk hk]; exact hl) k
theorem hs_astKN_n {i : Fin 4} (hd : decode M.2.1 pc = .ok (.astore_n i, 1)) (hi : (i : Nat) < M.2.2.1) (hk : hk_nk L i) (hl : L.set i (some .null) = L') (k : hk_S G M d cb sb (pc + 1) L' st h Q) : hk_S G M d cb sb pc L (.null :: st) h Q := hs_astore_nN hd hi (by unfold hk_st1; rw [hk_kill_nk hk]; exact hl) k
theorem hs_astKN {i : Nat} (hd : decode M.2.1 pc = .ok (.astore i, 2)) (hi : i < M.2.2.1) (hk : hk_nk L i) (hl : L.set i (some .null) = L') (k : hk_S G M d cb sb (pc + 2) L' st h Q) : hk_S G M d cb sb pc L (.null :: st) h Q := hs_astoreN hd hi (by unfold hk_st1; rw [hk_kill_nk hk]; exact hl) k
theorem hs_lstK_n {i : Fin 4} {x : Int64} (hd : decode M.2.1 pc = .ok (.lstore_n i, 1)) (hi : (i : Nat) + 1 < M.2.2.1) (hk : hk_nk L i) (hl : (L.set i (some (.long x))).set (i + 1) none = L') (k : hk_S G M d cb sb (pc + 1) L' st h Q) : hk_S G M d cb sb pc L (.long x :: st) h Q := hs_lstore_n hd hi (by unfold hk_st2; rw [hk_kill_nk hk]; exact hl) k
theorem hs_lstK {i : Nat} {x : Int64} (hd : decode M.2.1 pc = .ok (.lstore i, 2)) (hi : i + 1 < M.2.2.1) (hk : hk_nk L i) (hl : (L.set i (some (.long x))).set (i + 1) none = L') (k : hk_S G M d cb sb (pc + 2) L' st h Q) : hk_S G M d cb sb pc L (.long x :: st) h Q := hs_lstore hd hi (by unfold hk_st2; rw [hk_kill_nk hk]; exact hl) k
theorem hs_iincK {i : Nat} {n : Int} {x v : Int32} (hd : decode M.2.1 pc = .ok (.iinc i n, 3)) (hx : L[i]? = some (some (.int x))) (hv : Int32.ofInt n = v) (hi : i < M.2.2.1) (hk : hk_nk L i) (hl : L.set i (some (.int (x + v))) = L') (k : hk_S G M d cb sb (pc + 3) L' st h Q) : hk_S G M d cb sb pc L st h Q := hs_iinc hd hx (by rw [hv]) hi (by unfold hk_st1; rw [hk_kill_nk hk]; exact hl) k
/-- a row of references at a place that holds a cell -/
theorem hs_aaldR {a t n x : Nat} {f : Nat → Option Nat} {i : Int32} (j : Nat) (hd : decode M.2.1 pc = .ok (.aaload, 1)) (ha : h.2 a = some (.inl (t, n, .inr (.inr (.inr (.inr f)))))) (ht : t = 3 ∨ t = 4) (hij : i.toInt = (j : Int)) (hj : j < n) (hf : f j = some x) (kk : hk_S G M d cb sb (pc + 1) L (.ref x :: st) h Q) : hk_S G M d cb sb pc L (.int i :: .ref a :: st) h Q := by
  refine hs_aald j hd ha ht hij hj ?_
  rw [hf]
  exact kk
/-- instance method M' of class number ci, called on an object of just that class -/
def hk_vir (M' : hk_M) (ci n : Nat) : Prop := hk_ok M' n ∧ M'.2.2.2.2 = [] ∧ Cond.instanceMethod M'.1 ∈ hk_ws ∧ ∃ r, hk_cl[ci]? = some r ∧ Cond.selects r.1 M'.1 M'.1 ∈ hk_ws
/-- a call of x on an object of class number ci runs M' -/
def hk_dis (x : MethodName) (ci : Nat) (M' : hk_M) (n : Nat) : Prop := ∃ (r : vw_C) (owner : String), hk_cl[ci]? = some r ∧ hk_ok M' n ∧ M'.2.2.2.2 = [] ∧ x.desc = M'.1.desc ∧ Cond.sameMethod x.cls owner x.name x.desc ∈ hk_ws ∧ Cond.selects r.1 x M'.1 ∈ hk_ws ∧ Cond.instanceMethod M'.1 ∈ hk_ws ∧ (owner ≠ "java/lang/invoke/MethodHandle" ∧ owner ≠ "java/lang/invoke/VarHandle") ∧ ((Cond.instanceMethod ⟨owner, x.name, x.desc⟩ ∈ hk_ws ∧ ∃ b0 m0 r0, Cond.code ⟨owner, x.name, x.desc⟩ b0 m0 r0 ∈ hk_ws) ∨ (⟨owner, x.name, x.desc⟩ : MethodName) ∈ hk_decl)
theorem hs_vir {idx n a ci : Nat} {vs fs : List Value} (hd : decode M.2.1 pc = .ok (.invokevirtual idx, 3)) (hw : Cond.methodLink M.1.cls idx M'.1 ∈ hk_ws) (hv : hk_vir M' ci n) (ha : h.2 a = some (.inr (ci, fs))) (hn : vs.length = n) (hcat : (st.map (fun v => v.category)).sum ≤ 8)
    (hE : hk_E G M' d c1 s1 (.ref a :: vs) h Qe) (hno : ∀ E h', ¬ Qe (.inr E) h') (kk : ∀ v h', Qe (.inl v) h' → hk_S G M (d + 1) c2 s2 (pc + 3) L (v.toList ++ st) h' Q) : hk_S G M (d + 1) (c1 + c2) (s1 + s2) pc L (vs.reverse ++ .ref a :: st) h Q := by
  obtain ⟨h1, h2, h3, r, h4, h5⟩ := hv
  exact hs_callV hd h1 h2 hw h3 h4 h5 ha hn hcat hE hno kk
theorem hs_dis {idx n a ci : Nat} {vs fs : List Value} {x : MethodName} (hd : decode M.2.1 pc = .ok (.invokevirtual idx, 3)) (hw : Cond.methodLink M.1.cls idx x ∈ hk_ws) (hv : hk_dis x ci M' n) (ha : h.2 a = some (.inr (ci, fs))) (hn : vs.length = n) (hcat : (st.map (fun v => v.category)).sum ≤ 8)
    (hE : hk_E G M' d c1 s1 (.ref a :: vs) h Qe) (hno : ∀ E h', ¬ Qe (.inr E) h') (kk : ∀ v h', Qe (.inl v) h' → hk_S G M (d + 1) c2 s2 (pc + 3) L (v.toList ++ st) h' Q) : hk_S G M (d + 1) (c1 + c2) (s1 + s2) pc L (vs.reverse ++ .ref a :: st) h Q := by
  obtain ⟨r, owner, h1, h2, h3, h4, h5, h6, h7, h8, h9⟩ := hv
  exact hs_callU hd h2 h3 h4 h1 ⟨hw, h5, h6, h7⟩ h8 h9 ha hn hcat hE hno kk
/-- a constructor of class M'.1.cls -/
def hk_ini (M' : hk_M) (n : Nat) : Prop := hk_ok M' n ∧ M'.2.2.2.2 = [] ∧ M'.2.2.2.1 = none ∧ M'.1.name = "<init>" ∧ Cond.instanceMethod M'.1 ∈ hk_ws
theorem hs_ini {idx n a : Nat} {vs : List Value} (hd : decode M.2.1 pc = .ok (.invokespecial idx, 3)) (hw : Cond.methodLink M.1.cls idx M'.1 ∈ hk_ws) (hv : hk_ini M' n) (hn : vs.length = n) (hcat : (st.map (fun v => v.category)).sum ≤ 8)
    (hE : hk_E G M' d c1 s1 (.ref a :: vs) h Qe) (hno : ∀ E h', ¬ Qe (.inr E) h') (kk : ∀ v h', Qe (.inl v) h' → hk_S G M (d + 1) c2 s2 (pc + 3) L (v.toList ++ st) h' Q) : hk_S G M (d + 1) (c1 + c2) (s1 + s2) pc L (vs.reverse ++ .ref a :: st) h Q := by
  obtain ⟨h1, h2, h3, h4, h5⟩ := hv
  exact hs_callI hd h1 h2 h3 h4 hw h5 hn hcat hE hno kk
def hk_sta1 (M' : hk_M) (n : Nat) : Prop := hk_ok M' n ∧ M'.2.2.2.2 = [] ∧ Cond.static M'.1 ∈ hk_ws
theorem hs_sta {idx n : Nat} {vs : List Value} (hd : decode M.2.1 pc = .ok (.invokestatic idx, 3)) (hw : Cond.methodLink M.1.cls idx M'.1 ∈ hk_ws) (hv : hk_sta1 M' n) (hn : vs.length = n) (hcat : (st.map (fun v => v.category)).sum ≤ 8)
    (hE : hk_E G M' d c1 s1 vs h Qe) (hno : ∀ E h', ¬ Qe (.inr E) h') (kk : ∀ v h', Qe (.inl v) h' → hk_S G M (d + 1) c2 s2 (pc + 3) L (v.toList ++ st) h' Q) : hk_S G M (d + 1) (c1 + c2) (s1 + s2) pc L (vs.reverse ++ st) h Q := by
  obtain ⟨h1, h2, h3⟩ := hv
  exact hs_callS hd h1 h2 hw h3 hn hcat hE hno kk
def hk_sup (own : String) (M' : hk_M) (n : Nat) : Prop := hk_ok M' n ∧ M'.2.2.2.2 = [] ∧ M'.1.name ≠ "<init>" ∧ Cond.sameMethod M'.1.cls M'.1.cls M'.1.name M'.1.desc ∈ hk_ws ∧ Cond.superclass own M'.1.cls ∈ hk_ws ∧ Cond.instanceMethod M'.1 ∈ hk_ws
theorem hs_sup {idx n a ci : Nat} {vs fs : List Value} {r : vw_C} (hd : decode M.2.1 pc = .ok (.invokespecial idx, 3)) (hw : Cond.methodLink M.1.cls idx M'.1 ∈ hk_ws) (hv : hk_sup M.1.cls M' n) (hc : hk_cl[ci]? = some r) (ha : h.2 a = some (.inr (ci, fs))) (hn : vs.length = n) (hcat : (st.map (fun v => v.category)).sum ≤ 8)
    (hE : hk_E G M' d c1 s1 (.ref a :: vs) h Qe) (hno : ∀ E h', ¬ Qe (.inr E) h') (kk : ∀ v h', Qe (.inl v) h' → hk_S G M (d + 1) c2 s2 (pc + 3) L (v.toList ++ st) h' Q) : hk_S G M (d + 1) (c1 + c2) (s1 + s2) pc L (vs.reverse ++ .ref a :: st) h Q := by
  obtain ⟨h1, h2, h3, h4, h5, h6⟩ := hv
  exact hs_callSU hd h1 h2 h3 ⟨hw, h4, h5, h6⟩ hc ha hn hcat hE hno kk
end HTy
/-! what of a call's end Qe says: an answer of a kind, no throw -/
theorem hq_i {K : Int32 → hk_H → Prop} : ∀ E h', ¬ (fun (o : hk_O) (h' : hk_H) => ∃ x, o = .inl (some (.int x)) ∧ K x h') (.inr E) h' := fun E h' ⟨x, hx, _⟩ => by cases hx
theorem hq_l {K : Int64 → hk_H → Prop} : ∀ E h', ¬ (fun (o : hk_O) (h' : hk_H) => ∃ x, o = .inl (some (.long x)) ∧ K x h') (.inr E) h' := fun E h' ⟨x, hx, _⟩ => by cases hx
theorem hq_v {K : hk_H → Prop} : ∀ E h', ¬ (fun (o : hk_O) (h' : hk_H) => o = .inl none ∧ K h') (.inr E) h' := fun E h' ⟨hx, _⟩ => by cases hx
theorem hq_r {K : Option Nat → hk_H → Prop} : ∀ E h', ¬ (fun (o : hk_O) (h' : hk_H) => ∃ r, o = .inl (some (hk_rf r)) ∧ K r h') (.inr E) h' := fun E h' ⟨x, hx, _⟩ => by cases hx
theorem hc_i {K : Int32 → hk_H → Prop} {P : Option Value → hk_H → Prop} (h : ∀ x h', K x h' → P (some (.int x)) h') : ∀ v h', (fun (o : hk_O) (h' : hk_H) => ∃ x, o = .inl (some (.int x)) ∧ K x h') (.inl v) h' → P v h' := fun v h' ⟨x, hx, hk⟩ => by cases hx; exact h x h' hk
theorem hc_l {K : Int64 → hk_H → Prop} {P : Option Value → hk_H → Prop} (h : ∀ x h', K x h' → P (some (.long x)) h') : ∀ v h', (fun (o : hk_O) (h' : hk_H) => ∃ x, o = .inl (some (.long x)) ∧ K x h') (.inl v) h' → P v h' := fun v h' ⟨x, hx, hk⟩ => by cases hx; exact h x h' hk
theorem hc_v {K : hk_H → Prop} {P : Option Value → hk_H → Prop} (h : ∀ h', K h' → P none h') : ∀ v h', (fun (o : hk_O) (h' : hk_H) => o = .inl none ∧ K h') (.inl v) h' → P v h' := fun v h' ⟨hx, hk⟩ => by cases hx; exact h h' hk
theorem hc_r {K : Option Nat → hk_H → Prop} {P : Option Value → hk_H → Prop} (h : ∀ x h', K x h' → P (some (hk_rf x)) h') : ∀ v h', (fun (o : hk_O) (h' : hk_H) => ∃ r, o = .inl (some (hk_rf r)) ∧ K r h') (.inl v) h' → P v h' := fun v h' ⟨x, hx, hk⟩ => by cases hx; exact h x h' hk
/-! rooms: what does with less does with more; deeper is no harm -/
theorem hs_more {G : hk_G} {M : hk_M} {d d' cb sb cb' sb' pc : Nat} {L : List (Option Value)} {st : List Value} {h : hk_H} {Q : hk_O → hk_H → Prop} (hd : d ≤ d') (hc : cb ≤ cb') (hs : sb ≤ sb') (k : hk_S G M d cb sb pc L st h Q) : hk_S G M d' cb' sb' pc L st h Q := by
  intro p l e R s m args below meth c H locs cells slots mc ms ls C hS hR hL hb
  obtain ⟨q1, q2, q3, q4, q5, q6, q7, q8, q9, q10, q11, q12, q13, q14⟩ := C
  exact k p l e R s m args below meth c H locs cells slots mc ms ls ⟨q1, q2, q3, q4, q5, q6, q7, q8, q9, q10, q11, by omega, Nat.le_trans (Nat.add_le_add_right (Nat.mul_le_mul_left 64 hd) 400) q13, q14⟩ hS hR hL (by omega)
theorem hE_more {G : hk_G} {M : hk_M} {d d' cb sb cb' sb' : Nat} {vs : List Value} {h : hk_H} {Q : hk_O → hk_H → Prop} (hd : d ≤ d') (hc : cb ≤ cb') (hs : sb ≤ sb') (k : hk_E G M d cb sb vs h Q) : hk_E G M d' cb' sb' vs h Q := ⟨k.1, hs_more hd hc hs k.2⟩
theorem hE_post {G : hk_G} {M : hk_M} {d cb sb : Nat} {vs : List Value} {h : hk_H} {Q Q' : hk_O → hk_H → Prop} (hq : ∀ o h', Q' o h' → Q o h') (k : hk_E G M d cb sb vs h Q') : hk_E G M d cb sb vs h Q := ⟨k.1, hs_post hq k.2⟩
