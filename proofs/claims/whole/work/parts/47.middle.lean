section SM
variable {G : hk_G} {h : hk_H} {n m w : Nat} {num : Nat → Int} {pw : Nat → Int32} {d q k : Nat} {R : hr_R} {ef pf : Nat → Int32}
/-- how many of the first k have the value e, are below e -/
def hr_eq (t : Nat → Nat) (e k : Nat) : Int := hr_to (fun i => if t i = e then 1 else 0) k
def hr_lt (t : Nat → Nat) (e k : Nat) : Int := hr_to (fun i => if t i < e then 1 else 0) k
theorem hr_lt_eq (t : Nat → Nat) (e k : Nat) : hr_lt t e k + hr_eq t e k = hr_to (fun i => if t i ≤ e then 1 else 0) k := by
  unfold hr_lt hr_eq
  induction k with
  | zero => rfl
  | succ k ih =>
    unfold hr_to
    rw [← ih]
    rcases Nat.lt_trichotomy (t k) e with h | h | h
    · rw [if_pos h, if_neg (by omega), if_pos (by omega)]; omega
    · rw [if_neg (by omega), if_pos h, if_pos (by omega)]; omega
    · rw [if_neg (by omega), if_neg (by omega), if_neg (by omega)]; omega
theorem hr_lt_succ (t : Nat → Nat) (e k : Nat) : hr_lt t (e + 1) k = hr_to (fun i => if t i ≤ e then 1 else 0) k := by
  unfold hr_lt
  exact hr_to_congr fun i _ => by
    by_cases c : t i ≤ e
    · rw [if_pos c, if_pos (by omega)]
    · rw [if_neg c, if_neg (by omega)]
theorem hr_lt_0 (t : Nat → Nat) (k : Nat) : hr_lt t 0 k = 0 := by
  unfold hr_lt
  induction k with
  | zero => rfl
  | succ k ih => unfold hr_to; rw [ih, if_neg (by omega)]; omega
theorem hr_01 (p : Nat → Prop) [DecidablePred p] (k : Nat) : 0 ≤ hr_to (fun i => if p i then 1 else 0) k ∧ hr_to (fun i => if p i then 1 else 0) k ≤ (k : Int) := by
  induction k with
  | zero => exact ⟨Int.le_refl _, Int.le_refl _⟩
  | succ k ih => unfold hr_to; split <;> omega
theorem hw_top_lt {num : Nat → Int} {m : Nat} (hm : 2 ≤ m) (a : Nat) : hw_top num m a < m := by
  have := hw_best_le (fun e => num (a * 5 + e)) (m - 1)
  unfold hw_top
  omega
set_option maxHeartbeats 2000000 in
theorem s_middleOf (HW : hW h n m w num pw) (H : hRu h q k n m w num R ef pf) (hkd : R.1 = 3) (hw : 1 ≤ w) {r : Nat} (hr : r < hw_pow w n) {K : Int32 → hk_H → Prop} (hk : ∀ sf : Nat → Int32, K (hI (hr_mid n m w num R r)) (hk_set h (q + 3) (hc_i32 5 sf))) : hk_Ci G m_X2_middleOf (d + 2) 0 0 [.ref q, .int (hI r)] h K := by
  obtain ⟨w1, w2, w3, w4, w5, w6, w7, w8⟩ := id HW
  obtain ⟨h1, h2, h3, h4, h5, h6, h7, h8⟩ := id H
  have hrow := hw_pow_lt (i := n) w7 (by omega)
  rw [hkd] at h3
  obtain ⟨g1, sf0, g2⟩ := h7 hkd
  have o : ∀ sf, (hk_set h (q + 3) (hc_i32 5 sf)).2 q = some (.inr (2, hr_fs 3 q k)) := fun sf => by rw [hk_set_ne (by omega)]; exact h3
  have o2 : ∀ sf, (hk_set h (q + 3) (hc_i32 5 sf)).2 (q + 2) = some (hc_i32 3 (fun i => hI (R.2.2.2.2.2 i))) := fun sf => by rw [hk_set_ne (by omega)]; exact g1
  have oW : ∀ sf, hW (hk_set h (q + 3) (hc_i32 5 sf)) n m w num pw := fun sf => HW.set (by omega)
  refine ⟨Nat.le_of_ble_eq_true rfl, ?_⟩
  refine b_X2_middleOf_0 h3 rfl (s_fill g2 (by omega) (by omega) fun sf hsf => ?_)
  refine b_X2_middleOf_8 ?_
  -- the count over the ends
  have fin : ∀ (sf : Nat → Int32), (∀ e, e < m → sf e = hI (hr_eq (fun i => hw_top num m (hw_in w r i)) e n + hr_eq R.2.2.2.2.2 e (n - 1))) → ∀ (c e : Nat), m - e = c → e ≤ m → hr_midFrom n m w num R r c e = hr_mid n m w num R r → hk_S G m_X2_middleOf (d + 2) 0 0 92 [some (.ref q), some (.int (hI (r : Int))), some (.int (hI (hr_lt (fun i => hw_top num m (hw_in w r i)) e n + hr_lt R.2.2.2.2.2 e (n - 1)))), some (.int (hI (e : Int)))] [] (hk_set h (q + 3) (hc_i32 5 sf)) (fun o h' => ∃ x, o = .inl (some (.int x)) ∧ K x h') := by
    intro sf hsf c
    induction c with
    | zero =>
      intro e hc0 he hmid
      have hem : e = m := by omega
      subst hem
      refine b_X2_middleOf_92 (o sf) rfl (oW sf).1 rfl (fun _ => ?_) (fun c => ?_)
      · refine b_X2_middleOf_131 (o sf) rfl (oW sf).1 rfl ⟨_, rfl, ?_⟩
        have hk' := hk sf
        rw [← hmid] at hk'
        rw [show (1 : Int32) = hI 1 from rfl, hI_sub]
        have e1 : ((e : Int) - 1) = ((e - 1 : Nat) : Int) := by omega
        rw [e1]
        exact hk'
      · rw [hI_le ⟨by omega, by omega⟩ ⟨by omega, by omega⟩] at c
        omega
    | succ c ih =>
      intro e hc0 he hmid
      have b1 := hr_01 (fun i => hw_top num m (hw_in w r i) ≤ e) n
      have b2 := hr_01 (fun i => R.2.2.2.2.2 i ≤ e) (n - 1)
      have s1 := hr_lt_eq (fun i => hw_top num m (hw_in w r i)) e n
      have s2 := hr_lt_eq R.2.2.2.2.2 e (n - 1)
      have s3 := hr_lt_succ (fun i => hw_top num m (hw_in w r i)) e n
      have s4 := hr_lt_succ R.2.2.2.2.2 e (n - 1)
      refine b_X2_middleOf_92 (o sf) rfl (oW sf).1 rfl (fun c => ?_) (fun _ => ?_)
      · rw [hI_le ⟨by omega, by omega⟩ ⟨by omega, by omega⟩] at c
        omega
      have ecnt : hr_lt (fun i => hw_top num m (hw_in w r i)) e n + hr_lt R.2.2.2.2.2 e (n - 1) + (hr_eq (fun i => hw_top num m (hw_in w r i)) e n + hr_eq R.2.2.2.2.2 e (n - 1)) = hr_cnt n m w num R r e := by
        unfold hr_cnt
        omega
      have bc : 0 ≤ hr_cnt n m w num R r e ∧ hr_cnt n m w num R r e ≤ 8 := by
        unfold hr_cnt
        omega
      have stp : hr_midFrom n m w num R r (c + 1) e = if (n : Int) ≤ hr_cnt n m w num R r e then e else hr_midFrom n m w num R r c (e + 1) := rfl
      rw [stp] at hmid
      refine b_X2_middleOf_103 (o sf) rfl hk_set_eq e (hI_at rfl (by omega)) (by omega) rfl (oW sf).1 rfl (fun c => ?_) (fun c => ?_)
      · rw [hsf e (by omega), hI_add, ecnt] at c ⊢
        rw [hI_lt ⟨by omega, by omega⟩ ⟨by omega, by omega⟩] at c
        rw [if_neg (by omega)] at hmid
        refine b_X2_middleOf_125 ?_
        rw [hI_1]
        have := ih (e + 1) (by omega) (by omega) hmid
        rw [s3, s4] at this
        unfold hr_cnt
        exact this
      · rw [hsf e (by omega), hI_add, ecnt] at c
        rw [hI_lt ⟨by omega, by omega⟩ ⟨by omega, by omega⟩] at c
        rw [if_pos (by omega)] at hmid
        refine b_X2_middleOf_123 ⟨_, rfl, ?_⟩
        rw [hmid]
        exact hk sf
  -- the places
  have places : ∀ (c p : Nat) (sf : Nat → Int32) (o3 : Option Value), n - 1 - p = c → p ≤ n - 1 → (∀ e, e < m → sf e = hI (hr_eq (fun i => hw_top num m (hw_in w r i)) e n + hr_eq R.2.2.2.2.2 e p)) → hk_S G m_X2_middleOf (d + 2) 0 0 54 [some (.ref q), some (.int (hI (r : Int))), some (.int (hI (p : Int))), o3] [] (hk_set h (q + 3) (hc_i32 5 sf)) (fun o h' => ∃ x, o = .inl (some (.int x)) ∧ K x h') := by
    intro c
    induction c with
    | zero =>
      intro p sf o3 hc0 hp hsf
      have hpn : p = n - 1 := by omega
      subst hpn
      refine b_X2_middleOf_54 (o sf) rfl (oW sf).1 rfl (fun _ => ?_) (fun c => ?_)
      · refine b_X2_middleOf_88 ?_
        have := fin sf hsf m 0 (by omega) (by omega) rfl
        rw [hr_lt_0, hr_lt_0] at this
        exact this
      · rw [hI_1, hI_le ⟨by omega, by omega⟩ ⟨by omega, by omega⟩] at c
        omega
    | succ c ih =>
      intro p sf o3 hc0 hp hsf
      have hpl := h1.2.2.2.2.2 p (by omega)
      refine b_X2_middleOf_54 (o sf) rfl (oW sf).1 rfl (fun c => ?_) (fun _ => ?_)
      · rw [hI_1, hI_le ⟨by omega, by omega⟩ ⟨by omega, by omega⟩] at c
        omega
      refine b_X2_middleOf_67 (o sf) rfl rfl (o2 sf) p (hI_at rfl (by omega)) (by omega) hk_set_eq (R.2.2.2.2.2 p) (hI_at rfl (by omega)) (by omega) (by omega) hk_set_set ?_
      rw [hI_1]
      refine ih (p + 1) _ _ (by omega) (by omega) (fun e he => ?_)
      have stp : hr_eq R.2.2.2.2.2 e (p + 1) = hr_eq R.2.2.2.2.2 e p + (if R.2.2.2.2.2 p = e then 1 else 0) := rfl
      rw [stp]
      by_cases ee : e = R.2.2.2.2.2 p
      · subst ee
        simp only [upd, if_true]
        rw [hsf _ hpl, show (1 : Int32) = hI 1 from rfl, hI_add]
        congr 1
        omega
      · simp only [upd, ee, if_false]
        rw [hsf e he, if_neg (fun q9 => ee q9.symm)]
        congr 1
        omega
  -- the tops
  have tops : ∀ (c p : Nat) (sf : Nat → Int32) (o3 : Option Value), n - p = c → p ≤ n → (∀ e, e < m → sf e = hI (hr_eq (fun i => hw_top num m (hw_in w r i)) e p)) → hk_S G m_X2_middleOf (d + 2) 0 0 10 [some (.ref q), some (.int (hI (r : Int))), some (.int (hI (p : Int))), o3] [] (hk_set h (q + 3) (hc_i32 5 sf)) (fun o h' => ∃ x, o = .inl (some (.int x)) ∧ K x h') := by
    intro c
    induction c with
    | zero =>
      intro p sf o3 hc0 hp hsf
      have hpn : p = n := by omega
      subst hpn
      refine b_X2_middleOf_10 (o sf) rfl (oW sf).1 rfl (fun _ => ?_) (fun c => ?_)
      · refine b_X2_middleOf_52 ?_
        refine places (p - 1) 0 sf _ (by omega) (by omega) (fun e he => ?_)
        rw [hsf e he]
        congr 1
        show _ = _ + 0
        omega
      · rw [hI_le ⟨by omega, by omega⟩ ⟨by omega, by omega⟩] at c
        omega
    | succ c ih =>
      intro p sf o3 hc0 hp hsf
      have hwi := hw_in_lt hw r p
      have htl := hw_top_lt (num := num) w6.1 (hw_in w r p)
      refine b_X2_middleOf_10 (o sf) rfl (oW sf).1 rfl (fun c => ?_) (fun _ => ?_)
      · rw [hI_le ⟨by omega, by omega⟩ ⟨by omega, by omega⟩] at c
        omega
      refine b_X2_middleOf_21 (o sf) rfl rfl (oW sf).1 (s_wishIn (oW sf) hw (by omega) (by omega) ?_)
      refine b_X2_middleOf_38 (oW sf).1 (s_top (oW sf) (by omega) ?_)
      refine b_X2_middleOf_41 hk_set_eq (hw_top num m (hw_in w r p)) (hI_at rfl (by omega)) (by omega) (by omega) hk_set_set ?_
      rw [hI_1]
      refine ih (p + 1) _ _ (by omega) (by omega) (fun e he => ?_)
      have stp : hr_eq (fun i => hw_top num m (hw_in w r i)) e (p + 1) = hr_eq (fun i => hw_top num m (hw_in w r i)) e p + (if hw_top num m (hw_in w r p) = e then 1 else 0) := rfl
      rw [stp]
      by_cases ee : e = hw_top num m (hw_in w r p)
      · subst ee
        simp only [upd, if_true]
        rw [hsf _ htl, show (1 : Int32) = hI 1 from rfl, hI_add]
      · simp only [upd, ee, if_false]
        rw [hsf e he, if_neg (fun q9 => ee q9.symm)]
        congr 1
        omega
  exact tops n 0 sf _ (by omega) (by omega) (fun e he => by rw [hsf e (by omega)]; rfl)
end SM
