/-! The pure picture of the machine. An abstract heap numbers cells 0, 1, 2, ..: 0 is the script, 1 to 3 the rows ORDERS_OF_TWO, .._THREE, .._FOUR, 4 and on what the law's run makes, in its order. hk_S says of a frame of a method over such a heap: the machine comes to an end that Q allows. -/
abbrev hk_G : Type := va_G × (Nat → ClassId) × (Nat → Nat) × Nat
def hk_r (G : hk_G) (a : Nat) : Nat := if a < 4 then G.2.2.1 a else G.2.2.2 + (a - 4)
def hk_cv (G : hk_G) (v : Value) : Value := match v with
  | .ref a => .ref (hk_r G a)
  | v => v
theorem hk_cat (G : hk_G) (v : Value) : (hk_cv G v).category = v.category := by cases v <;> rfl
abbrev hk_AC : Type := (Nat × vp_A) ⊕ (Nat × List Value)
abbrev hk_H : Type := Nat × (Nat → Option hk_AC)
def hk_ca (G : hk_G) (x : vp_A) : vp_A := match x with
  | (n, .inr (.inr (.inr (.inr f)))) => (n, .inr (.inr (.inr (.inr (fun j => (f j).map (hk_r G))))))
  | y => y
def hk_ce (G : hk_G) (c : hk_AC) : va_E := match c with
  | .inl a => .inl (G.2.1 a.1, hk_ca G a.2)
  | .inr o => .inr (o.1, o.2.map (hk_cv G))
abbrev hk_cl : List vw_C := [(RX0, TX0, 6), (RX1, TX1, 9), (RX2, TX2, 5), (RX3, TX3, 4), (RX4, TX4, 5), (RX5, TX5, 3), (RX6, TX6, 5), (RX7, TX7, 7), (RX8, TX8, 6), (RX9, TX9, 9), (RX10, TX10, 32)]
def hk_up (h : Nat → Option hk_AC) (a : Nat) (c : hk_AC) : Nat → Option hk_AC := fun j => if j = a then some c else h j
def hk_set (h : hk_H) (a : Nat) (c : hk_AC) : hk_H := (h.1, hk_up h.2 a c)
def hk_new (h : hk_H) (c : hk_AC) : hk_H := (h.1 + 1, hk_up h.2 h.1 c)
/-- a cell that was there before the law: a row of ints, of whatever class number such a row has there -/
def hk_old (G : hk_G) (H : Heap) (a : Nat) (c : hk_AC) : Prop := ∃ (n : Nat) (f : Nat → Int32) (scr : Cell), c = .inl (0, n, .inl f) ∧ H[G.2.2.1 a]? = some scr ∧ scr.cls = G.2.1 (5 + a) ∧ scr.vm ≠ .unknown ∧ (∀ k, scr.vm ≠ .statics k) ∧ scr.slots.size = n ∧ ∀ j : Nat, j < n → scr.slots[j]? = some (.int (f j))
def hk_is (G : hk_G) (H : Heap) (a : Nat) (c : hk_AC) : Prop := if a < 4 then hk_old G H a c else va_at G.1 hk_cl (hk_r G a, hk_ce G c) H
theorem hk_is4 {G : hk_G} {H : Heap} {a : Nat} {c : hk_AC} (ha : 4 ≤ a) : hk_is G H a c = va_at G.1 hk_cl (hk_r G a, hk_ce G c) H := if_neg (by omega)
theorem hk_is0 {G : hk_G} {H : Heap} {a : Nat} {c : hk_AC} (ha : a < 4) : hk_is G H a c = hk_old G H a c := if_pos ha
theorem hk_r0 {G : hk_G} {a : Nat} (ha : a < 4) : hk_r G a = G.2.2.1 a := if_pos ha
theorem hk_is.kept {G : hk_G} {H H1 : Heap} {a : Nat} {c : hk_AC} (h : hk_is G H a c) (hq : H1[hk_r G a]? = H[hk_r G a]?) : hk_is G H1 a c := by
  by_cases ha : a < 4
  · rw [hk_is0 ha] at h ⊢
    rw [hk_r0 ha] at hq
    obtain ⟨n, f, scr, h1, h2, h3⟩ := h
    exact ⟨n, f, scr, h1, hq.trans h2, h3⟩
  · rw [hk_is4 (by omega)] at h ⊢
    exact va_at.kept h hq
theorem hk_is.lt {G : hk_G} {H : Heap} {a : Nat} {c : hk_AC} (h : hk_is G H a c) : hk_r G a < H.size := by
  by_cases ha : a < 4
  · rw [hk_is0 ha] at h
    rw [hk_r0 ha]
    obtain ⟨n, f, scr, h1, h2, h3⟩ := h
    exact (Array.getElem?_eq_some_iff.mp h2).1
  · rw [hk_is4 (by omega)] at h
    exact va_at.lt h
def hk_R (G : hk_G) (H : Heap) (h : hk_H) : Prop := H.size = G.2.2.2 + (h.1 - 4) ∧ 4 ≤ h.1 ∧ (∀ a, a < 4 → G.2.2.1 a < G.2.2.2) ∧ ∀ (a : Nat) (c : hk_AC), h.2 a = some c → hk_is G H a c
theorem hk_R.at4 {G : hk_G} {H : Heap} {h : hk_H} (hR : hk_R G H h) {a : Nat} {c : hk_AC} (ha : h.2 a = some c) (h4 : 4 ≤ a) : va_at G.1 hk_cl (hk_r G a, hk_ce G c) H := by
  have := hR.2.2.2 a c ha
  rw [hk_is4 h4] at this
  exact this
theorem hk_R.atO {G : hk_G} {H : Heap} {h : hk_H} (hR : hk_R G H h) {a : Nat} {o : Nat × List Value} (ha : h.2 a = some (.inr o)) : va_at G.1 hk_cl (hk_r G a, hk_ce G (.inr o)) H := by
  refine hR.at4 ha ?_
  rcases Nat.lt_or_ge a 4 with h4 | h4
  · have := hR.2.2.2 a _ ha
    rw [hk_is0 h4] at this
    obtain ⟨n, f, scr, h1, -⟩ := this
    cases h1
  · exact h4
theorem hk_R.atT {G : hk_G} {H : Heap} {h : hk_H} (hR : hk_R G H h) {a t : Nat} {x : vp_A} (ha : h.2 a = some (.inl (t, x))) (ht : t ≠ 0) : va_at G.1 hk_cl (hk_r G a, hk_ce G (.inl (t, x))) H := by
  refine hR.at4 ha ?_
  rcases Nat.lt_or_ge a 4 with h4 | h4
  · have := hR.2.2.2 a _ ha
    rw [hk_is0 h4] at this
    obtain ⟨n, f, scr, h1, -⟩ := this
    cases h1
    exact absurd rfl ht
  · exact h4
theorem hk_r_ne {G : hk_G} (hs : ∀ a, a < 4 → G.2.2.1 a < G.2.2.2) {a b : Nat} (ha : 4 ≤ a) (h : b ≠ a) : hk_r G b ≠ hk_r G a := by
  unfold hk_r
  rw [if_neg (by omega : ¬ a < 4)]
  split
  · rename_i hb
    have := hs b hb
    omega
  · omega
theorem hk_R.put {G : hk_G} {H H' : Heap} {h : hk_H} (hR : hk_R G H h) {a : Nat} {c : hk_AC} (ha : 4 ≤ a) (hc : va_at G.1 hk_cl (hk_r G a, hk_ce G c) H') (z : H'.size = H.size) (o : ∀ q, q ≠ hk_r G a → H'[q]? = H[q]?) : hk_R G H' (hk_set h a c) := by
  obtain ⟨h1, h2, h3, h4⟩ := hR
  refine ⟨z.trans h1, h2, h3, fun b c' hb => ?_⟩
  have hb' : (if b = a then some c else h.2 b) = some c' := hb
  by_cases e : b = a
  · rw [if_pos e] at hb'
    cases hb'
    rw [e, hk_is4 ha]
    exact hc
  · rw [if_neg e] at hb'
    exact (h4 b c' hb').kept (o _ (hk_r_ne h3 ha e))
theorem hk_R.push {G : hk_G} {H H' : Heap} {h : hk_H} (hR : hk_R G H h) {c : hk_AC} (hc : va_at G.1 hk_cl (H.size, hk_ce G c) H') (z : H'.size = H.size + 1) (o : ∀ q, q < H.size → H'[q]? = H[q]?) : hk_R G H' (hk_new h c) := by
  obtain ⟨h1, h2, h3, h4⟩ := hR
  have hr : hk_r G h.1 = H.size := by unfold hk_r; rw [if_neg (by omega : ¬ h.1 < 4)]; omega
  refine ⟨?_, ?_, h3, fun b c' hb => ?_⟩
  · show H'.size = G.2.2.2 + (h.1 + 1 - 4)
    omega
  · show 4 ≤ h.1 + 1
    omega
  · have hb' : (if b = h.1 then some c else h.2 b) = some c' := hb
    by_cases e : b = h.1
    · rw [if_pos e] at hb'
      cases hb'
      rw [e, hk_is4 h2, hr]
      exact hc
    · rw [if_neg e] at hb'
      have h5 := h4 b c' hb'
      exact h5.kept (o _ h5.lt)
theorem hk_R.top {G : hk_G} {H : Heap} {h : hk_H} (hR : hk_R G H h) : hk_r G h.1 = H.size := by
  obtain ⟨h1, h2, -, -⟩ := hR
  unfold hk_r; rw [if_neg (by omega : ¬ h.1 < 4)]; omega
theorem hk_R.own {G : hk_G} {H : Heap} {h : hk_H} (hR : hk_R G H h) {a : Nat} (ha : 4 ≤ a) : G.2.2.2 ≤ hk_r G a := by
  unfold hk_r; rw [if_neg (by omega : ¬ a < 4)]; omega
/-! locals -/
def hk_L (G : hk_G) (ls : Array Slot) (n : Nat) (L : List (Option Value)) : Prop := ls.size = n ∧ lv_wf ls ∧ ∀ (k : Nat) (v : Value), L[k]? = some (some v) → ls[k]? = some (.val (hk_cv G v))
def hk_as (G : hk_G) (L : List (Option Value)) : List (Nat × Value) := (List.range L.length).filterMap (fun k => match L[k]? with
  | some (some v) => some (k, hk_cv G v)
  | _ => none)
theorem hk_as_mem {G : hk_G} {L : List (Option Value)} {k : Nat} {v : Value} (h : L[k]? = some (some v)) : (k, hk_cv G v) ∈ hk_as G L := by
  refine List.mem_filterMap.mpr ⟨k, List.mem_range.mpr (List.getElem?_eq_some_iff.mp h).1, ?_⟩
  rw [h]
theorem hk_as_of {G : hk_G} {L : List (Option Value)} {q : Nat × Value} (h : q ∈ hk_as G L) : ∃ v, L[q.1]? = some (some v) ∧ q.2 = hk_cv G v := by
  obtain ⟨k, -, hk⟩ := List.mem_filterMap.mp h
  split at hk
  · rename_i v hv
    cases hk
    exact ⟨v, hv, rfl⟩
  · cases hk
theorem hk_L.has {G : hk_G} {ls : Array Slot} {n : Nat} {L : List (Option Value)} (h : hk_L G ls n L) : lv_has ls n (hk_as G L) := by
  refine ⟨h.1, h.2.1, fun q hq => ?_⟩
  obtain ⟨v, h1, h2⟩ := hk_as_of hq
  rw [h2]
  exact h.2.2 q.1 v h1
def hk_kill (L : List (Option Value)) (i : Nat) : List (Option Value) := match i with
  | 0 => L
  | j + 1 => match L[j]? with
    | some (some w) => if w.category == 2 then L.set j none else L
    | _ => L
def hk_st1 (L : List (Option Value)) (i : Nat) (v : Value) : List (Option Value) := (hk_kill L i).set i (some v)
def hk_st2 (L : List (Option Value)) (i : Nat) (v : Value) : List (Option Value) := ((hk_kill L i).set i (some v)).set (i + 1) none
theorem hk_kill_of {L : List (Option Value)} {i k : Nat} {w : Value} (h : (hk_kill L i)[k]? = some (some w)) : L[k]? = some (some w) ∧ ¬ (k + 1 = i ∧ w.category = 2) := by
  cases i with
  | zero => exact ⟨h, fun q => by omega⟩
  | succ j =>
    unfold hk_kill at h
    dsimp only at h
    split at h
    · rename_i w0 hw0
      split at h
      · by_cases e : k = j
        · subst e
          rw [List.getElem?_set_self (List.getElem?_eq_some_iff.mp hw0).1] at h
          cases h
        · rw [List.getElem?_set_ne (Ne.symm e)] at h
          exact ⟨h, fun q => e (by omega)⟩
      · rename_i hc
        refine ⟨h, fun q => ?_⟩
        have e : k = j := by omega
        subst e
        rw [hw0] at h
        cases h
        exact hc (by simp [q.2])
    · rename_i hn
      refine ⟨h, fun q => ?_⟩
      have e : k = j := by omega
      subst e
      exact hn w h
theorem hk_L.store1 {G : hk_G} {ls : Array Slot} {n i : Nat} {L : List (Option Value)} {v : Value} (h : hk_L G ls n L) (hi : i < n) (hc : v.category = 1) : ∃ ls', storeLocals ls i (hk_cv G v) = some ls' ∧ hk_L G ls' n (hk_st1 L i v) := by
  obtain ⟨ls', e, h1, h2, h3⟩ := lv_store1 (v := hk_cv G v) h.has hi (by rw [hk_cat]; exact hc)
  refine ⟨ls', e, h1, h2, fun k w hw => ?_⟩
  unfold hk_st1 at hw
  by_cases e1 : k = i
  · subst e1
    by_cases hlen : k < (hk_kill L k).length
    · rw [List.getElem?_set_self hlen] at hw
      cases hw
      exact h3 _ List.mem_cons_self
    · have : ((hk_kill L k).set k (some v))[k]? = none := by simp; omega
      rw [this] at hw
      cases hw
  · rw [List.getElem?_set_ne (Ne.symm e1)] at hw
    obtain ⟨g1, g2⟩ := hk_kill_of hw
    refine h3 (k, hk_cv G w) (List.mem_cons_of_mem _ (List.mem_filter.mpr ⟨hk_as_mem g1, ?_⟩))
    simp only [Bool.and_eq_true, Bool.not_eq_true', beq_eq_false_iff_ne, ne_eq, Bool.and_eq_false_iff, hk_cat]
    refine ⟨e1, ?_⟩
    by_cases e2 : k + 1 = i
    · exact Or.inr fun q => g2 ⟨e2, q⟩
    · exact Or.inl e2
theorem hk_L.store2 {G : hk_G} {ls : Array Slot} {n i : Nat} {L : List (Option Value)} {v : Value} (h : hk_L G ls n L) (hi : i + 1 < n) (hc : v.category = 2) : ∃ ls', storeLocals ls i (hk_cv G v) = some ls' ∧ hk_L G ls' n (hk_st2 L i v) := by
  obtain ⟨ls', e, h1, h2, h3⟩ := lv_store2 (v := hk_cv G v) h.has hi (by rw [hk_cat]; exact hc)
  refine ⟨ls', e, h1, h2, fun k w hw => ?_⟩
  unfold hk_st2 at hw
  by_cases e0 : k = i + 1
  · subst e0
    by_cases hlen : i + 1 < ((hk_kill L i).set i (some v)).length
    · rw [List.getElem?_set_self hlen] at hw
      cases hw
    · have : (((hk_kill L i).set i (some v)).set (i + 1) none)[i + 1]? = none := by simp at hlen ⊢; omega
      rw [this] at hw
      cases hw
  · rw [List.getElem?_set_ne (Ne.symm e0)] at hw
    by_cases e1 : k = i
    · subst e1
      by_cases hlen : k < (hk_kill L k).length
      · rw [List.getElem?_set_self hlen] at hw
        cases hw
        exact h3 _ List.mem_cons_self
      · have : ((hk_kill L k).set k (some v))[k]? = none := by simp; omega
        rw [this] at hw
        cases hw
    · rw [List.getElem?_set_ne (Ne.symm e1)] at hw
      obtain ⟨g1, g2⟩ := hk_kill_of hw
      refine h3 (k, hk_cv G w) (List.mem_cons_of_mem _ (List.mem_filter.mpr ⟨hk_as_mem g1, ?_⟩))
      simp only [Bool.and_eq_true, Bool.not_eq_true', beq_eq_false_iff_ne, ne_eq, Bool.and_eq_false_iff, hk_cat]
      refine ⟨e1, e0, ?_⟩
      by_cases e2 : k + 1 = i
      · exact Or.inr fun q => g2 ⟨e2, q⟩
      · exact Or.inl e2
/-- fewer known locals -/
def hk_le (L' L : List (Option Value)) : Prop := ∀ (k : Nat) (v : Value), L'[k]? = some (some v) → L[k]? = some (some v)
theorem hk_L.le {G : hk_G} {ls : Array Slot} {n : Nat} {L L' : List (Option Value)} (h : hk_L G ls n L) (hl : hk_le L' L) : hk_L G ls n L' := ⟨h.1, h.2.1, fun k v hk => h.2.2 k v (hl k v hk)⟩
theorem hk_le_nil (L : List (Option Value)) : hk_le [] L := fun k v h => by simp at h
theorem hk_le_s {L' L : List (Option Value)} {x : Option Value} (h : hk_le L' L) : hk_le (x :: L') (x :: L) := fun k v hk => by
  cases k with
  | zero => exact hk
  | succ j => exact h j v hk
theorem hk_le_n {L' L : List (Option Value)} {x : Option Value} (h : hk_le L' L) : hk_le (none :: L') (x :: L) := fun k v hk => by
  cases k with
  | zero => cases hk
  | succ j => exact h j v hk
/-- the locals at a method's entry -/
def hk_ar : List Value → List (Option Value)
  | [] => []
  | v :: vs => if v.category == 2 then some v :: none :: hk_ar vs else some v :: hk_ar vs
def hk_en (vs : List Value) (n : Nat) : List (Option Value) := hk_ar vs ++ List.replicate (n - (hk_ar vs).length) none
theorem hk_ar_in {G : hk_G} (vs : List Value) : ∀ (i k : Nat) (v : Value), (hk_ar vs)[k]? = some (some v) → (i + k, hk_cv G v) ∈ lv_args i (vs.map (hk_cv G)) := by
  induction vs with
  | nil => intro i k v h; simp [hk_ar] at h
  | cons w ws ih =>
    intro i k v h
    unfold hk_ar at h
    rw [List.map_cons]
    unfold lv_args
    rw [hk_cat]
    by_cases c : w.category = 2
    · rw [if_pos (by simp [c])] at h
      rw [if_pos c]
      match k, h with
      | 0, h => cases h; exact List.mem_cons_self
      | 1, h => cases h
      | k + 2, h =>
        have := ih (i + 2) k v h
        rw [show i + (k + 2) = i + 2 + k by omega]
        exact List.mem_cons_of_mem _ this
    · rw [if_neg (by simp [c])] at h
      rw [if_neg c]
      match k, h with
      | 0, h => cases h; exact List.mem_cons_self
      | k + 1, h =>
        have := ih (i + 1) k v h
        rw [show i + (k + 1) = i + 1 + k by omega]
        exact List.mem_cons_of_mem _ this
theorem hk_ar_len {G : hk_G} (vs : List Value) : (lg_sl (vs.map (hk_cv G))).length = (hk_ar vs).length := by
  induction vs with
  | nil => rfl
  | cons w ws ih =>
    unfold lg_sl at ih ⊢
    rw [List.map_cons, List.flatMap_cons, List.length_append, ih, hk_cat, show hk_ar (w :: ws) = if w.category == 2 then some w :: none :: hk_ar ws else some w :: hk_ar ws from rfl]
    by_cases c : w.category = 2
    · rw [if_pos c, if_pos (by simp [c])]; simp; omega
    · rw [if_neg c, if_neg (by simp [c])]; simp; omega
theorem hk_entry {G : hk_G} (vs : List Value) {n : Nat} (h : (hk_ar vs).length ≤ n) : hk_L G ((lg_sl (vs.map (hk_cv G)) ++ List.replicate (n - (lg_sl (vs.map (hk_cv G))).length) Slot.unset).toArray) n (hk_en vs n) := by
  obtain ⟨h1, h2, h3⟩ := lv_entry (vs.map (hk_cv G)) (n := n) (by rw [hk_ar_len]; exact h)
  refine ⟨h1, h2, fun k v hk => ?_⟩
  unfold hk_en at hk
  by_cases hl : k < (hk_ar vs).length
  · rw [List.getElem?_append_left hl] at hk
    have := hk_ar_in (G := G) vs 0 k v hk
    rw [Nat.zero_add] at this
    exact h3 _ this
  · rw [List.getElem?_append_right (by omega)] at hk
    rw [List.getElem?_replicate] at hk
    split at hk <;> cases hk
