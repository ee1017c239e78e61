def hr_mH (kd : Nat) : hk_M := if kd = 0 then m_X5_heft else if kd = 1 then m_X3_heft else if kd = 2 then m_X7_heft else m_X2_heft
theorem hr_dH {kd : Nat} (h : kd ≤ 3) : hk_dis yX5_heft (hr_ci kd) (hr_mH kd) 0 := by
  rcases hr_kd h with rfl | rfl | rfl | rfl
  · exact di_X5_heft_5
  · exact di_X5_heft_3
  · exact di_X5_heft_7
  · exact di_X5_heft_2
/-- the WEIGHT of rule number k -/
def hr_heft (n k : Nat) (R : hr_R) : Int := if R.1 = 0 then k + 10 else if R.1 = 1 then k + 110 else if R.1 = 2 then 2 * (k + 110) else k + 510 + hr_to (fun i => ((R.2.2.2.2.2 i : Nat) : Int)) (n - 1)
section SH
variable {G : hk_G} {h : hk_H} {n m w : Nat} {num : Nat → Int} {pw : Nat → Int32} {d q k : Nat} {R : hr_R} {ef pf : Nat → Int32}
theorem s_heft5 (H : hRu h q k n m w num R ef pf) {K : Int32 → hk_H → Prop} (hk : K (hI (k + 10)) h) : hk_Ci G m_X5_heft d 0 0 [.ref q] h K := by
  obtain ⟨h1, h2, h3, h4, h5, h6, h7, h8⟩ := id H
  have fin : ∀ x : Int32, x = hI (k : Int) → K (x + 10) h := fun x hx => by
    rw [hx, show (10 : Int32) = hI 10 from rfl, hI_add]
    exact hk
  rcases hr_kd h1.1 with e | e | e | e <;> rw [e] at h3
  · exact ⟨Nat.le_of_ble_eq_true rfl, b_X5_heft_0 h3 fl_X5_9_5 rfl ⟨_, rfl, fin _ rfl⟩⟩
  · exact ⟨Nat.le_of_ble_eq_true rfl, b_X5_heft_0 h3 fl_X5_9_3 rfl ⟨_, rfl, fin _ rfl⟩⟩
  · exact ⟨Nat.le_of_ble_eq_true rfl, b_X5_heft_0 h3 fl_X5_9_7 rfl ⟨_, rfl, fin _ rfl⟩⟩
  · exact ⟨Nat.le_of_ble_eq_true rfl, b_X5_heft_0 h3 fl_X5_9_2 rfl ⟨_, rfl, fin _ rfl⟩⟩
theorem s_heft3 (H : hRu h q k n m w num R ef pf) (hkd : R.1 = 1 ∨ R.1 = 2) {K : Int32 → hk_H → Prop} (hk : K (hI (k + 110)) h) : hk_Ci G m_X3_heft (d + 1) 0 0 [.ref q] h K := by
  obtain ⟨h1, h2, h3, h4, h5, h6, h7, h8⟩ := id H
  have e9 : hI ((k : Int) + 10) + 100 = hI ((k : Int) + 110) := by
    rw [show (100 : Int32) = hI 100 from rfl, hI_add, Int.add_assoc]
    rfl
  refine ⟨Nat.le_of_ble_eq_true rfl, ?_⟩
  rcases hkd with e | e <;> rw [e] at h3
  · refine b_X3_heft_0 (rr := (RX3, TX3, 4)) rfl h3 (s_heft5 H ?_)
    refine b_X3_heft_4 ⟨_, rfl, ?_⟩
    rw [e9]; exact hk
  · refine b_X3_heft_0 (rr := (RX7, TX7, 7)) rfl h3 (s_heft5 H ?_)
    refine b_X3_heft_4 ⟨_, rfl, ?_⟩
    rw [e9]; exact hk
theorem s_heft (HW : hW h n m w num pw) (H : hRu h q k n m w num R ef pf) {K : Int32 → hk_H → Prop} (hk : K (hI (hr_heft n k R)) h) : hk_Ci G (hr_mH R.1) (d + 2) 0 0 [.ref q] h K := by
  obtain ⟨w1, w2, w3, w4, w5, w6, w7, w8⟩ := id HW
  obtain ⟨h1, h2, h3, h4, h5, h6, h7, h8⟩ := id H
  rcases hr_kd h1.1 with e | e | e | e
  · rw [e]
    refine s_heft5 H ?_
    rw [show hr_heft n k R = k + 10 from if_pos e] at hk
    exact hk
  · rw [e]
    refine s_heft3 H (Or.inl e) ?_
    rw [show hr_heft n k R = k + 110 by unfold hr_heft; rw [if_neg (by omega), if_pos e]] at hk
    exact hk
  · have h3' := h3
    rw [e] at h3'
    have em : hr_mH R.1 = m_X7_heft := by rw [e]; rfl
    rw [em]
    refine ⟨Nat.le_of_ble_eq_true rfl, ?_⟩
    refine b_X7_heft_0 (rr := (RX7, TX7, 7)) rfl h3' (s_heft3 H (Or.inr e) ?_)
    refine b_X7_heft_5 ⟨_, rfl, ?_⟩
    rw [show (2 : Int32) = hI 2 from rfl, hI_mul]
    rw [show hr_heft n k R = 2 * (k + 110) by unfold hr_heft; rw [if_neg (by omega), if_neg (by omega), if_pos e]] at hk
    exact hk
  · have h3' := h3
    rw [e] at h3'
    obtain ⟨g1, sf0, g2⟩ := h7 e
    have em : hr_mH R.1 = m_X2_heft := by rw [e]; rfl
    rw [em]
    rw [show hr_heft n k R = k + 510 + hr_to (fun i => ((R.2.2.2.2.2 i : Nat) : Int)) (n - 1) by unfold hr_heft; rw [if_neg (by omega), if_neg (by omega), if_neg (by omega)]] at hk
    refine ⟨Nat.le_of_ble_eq_true rfl, ?_⟩
    refine b_X2_heft_0 (rr := (RX2, TX2, 5)) rfl h3' (s_heft5 H ?_)
    refine b_X2_heft_4 ?_
    have loop : ∀ (c i : Nat), n - 1 - i = c → i ≤ n - 1 → hk_S G m_X2_heft (d + 2) 0 0 11 [some (.ref q), some (.int (hI ((k : Int) + 510 + hr_to (fun i => ((R.2.2.2.2.2 i : Nat) : Int)) i))), some (.int (hI (i : Int)))] [] h (fun o h' => ∃ x, o = .inl (some (.int x)) ∧ K x h') := by
      intro c
      induction c with
      | zero =>
        intro i hc0 hi
        have hin : i = n - 1 := by omega
        subst hin
        refine b_X2_heft_11 h3' rfl w1 rfl (fun _ => b_X2_heft_39 ⟨_, rfl, hk⟩) (fun c => ?_)
        rw [hI_1, hI_le ⟨by omega, by omega⟩ ⟨by omega, by omega⟩] at c
        omega
      | succ c ih =>
        intro i hc0 hi
        refine b_X2_heft_11 h3' rfl w1 rfl (fun c => ?_) (fun _ => ?_)
        · rw [hI_1, hI_le ⟨by omega, by omega⟩ ⟨by omega, by omega⟩] at c
          omega
        refine b_X2_heft_24 h3' rfl g1 i (hI_at rfl (by omega)) (by omega) ?_
        rw [hI_1, hI_add]
        have := ih (i + 1) (by omega) (by omega)
        rw [show hr_to (fun i => ((R.2.2.2.2.2 i : Nat) : Int)) (i + 1) = hr_to (fun i => ((R.2.2.2.2.2 i : Nat) : Int)) i + ((R.2.2.2.2.2 i : Nat) : Int) from rfl, ← Int.add_assoc] at this
        exact this
    have h0 := loop (n - 1) 0 (by omega) (by omega)
    have e9 : hI ((k : Int) + 10) + 500 = hI ((k : Int) + 510 + hr_to (fun i => ((R.2.2.2.2.2 i : Nat) : Int)) 0) := by
      rw [show (500 : Int32) = hI 500 from rfl, hI_add, Int.add_assoc]
      show hI ((k : Int) + 510) = hI ((k : Int) + 510 + 0)
      rw [Int.add_zero]
    rw [e9]
    exact h0
end SH
