/-! The reference: wrong, count. -/
section RW
variable {G : hk_G} {h h' : hk_H} {n m w rc th : Nat} {num : Nat → Int} {Rs : Nat → hr_R} {P : Nat → Nat → Nat} {c : Nat → Nat → Int32} {d : Nat}
theorem r_wrong (A : hBA h n m w rc num Rs th P) {x : Int32} {K : Int32 → hk_H → Prop} (hk : ∀ h', hBA h' n m w rc num Rs th P → hRf hP57 h h' → K (hI (hq_wrong n P x)) h') : hk_Ci G m_X10_wrong (d + 2) 0 0 [.ref 43, .int x] h K := by
  obtain ⟨c, N⟩ := A.N
  have hn := N.nn
  have hP := N.ok
  have hlast := (hm_b13 ⟨n, by omega⟩ hn.1).1
  simp only at hlast
  unfold hq_wrong at hk
  refine ⟨Nat.le_of_ble_eq_true rfl, ?_⟩
  refine b_X10_wrong_0 N.o rfl (r_isIn (by omega) (fun i hi hxi => ?_) (fun z => b_X10_wrong_8 (fun z2 => absurd rfl z2) (fun _ => b_X10_wrong_11 ⟨_, rfl, ?_⟩)))
  · rw [hxi, hx_some hi (by omega)] at hk
    simp only at hk
    unfold hm_lie at hk
    have hf0 := hm_fin_lt (by omega) hP hi
    have hpl0 := (hm_pl_lt hn.2 (hP i hi) hf0).1
    refine b_X10_wrong_8 (fun _ => ?_) (fun z => absurd z (by decide))
    refine b_X10_wrong_13 N.o (r_ring N fun h1 c1 N1 F1 _ _ _ D1 => ?_)
    rw [hxi]
    refine b_X10_wrong_17 N1.o rfl (N1.at (x := 0) (by omega)) i (hI_at rfl (by omega)) (by omega) ?_
    rw [(D1 i hi).1]
    refine r_place N1 hi hf0 ?_
    refine b_X10_wrong_28 ?_
    refine hk_upto (P := fun k => ∀ h' c' (z : Int32), hN h' n m w rc th P c' → hRf hP57 h h' → (∀ k', k' < k → c' 4 k' = hI (P i k' : Nat)) → hk_S G m_X10_wrong (d + 2) 0 0 34 [some (.ref 43), some (.int (hI (i : Int))), some (.int (hI (hm_pl n P i (hm_fin n P i).1 : Nat))), some (.int z), some (.int (hI (k : Int))), none, none, none] [] h' (fun o h' => ∃ x, o = .inl (some (.int x)) ∧ K x h')) n (fun k hkn ih h' c' z N' F' T' => ?_) h1 c1 0 N1 F1 (fun k' hk' => by omega)
    obtain ⟨tf, t1, t2⟩ := N'.2.1
    refine b_X10_wrong_34 N'.o rfl (fun cc => ?_) (fun cc => ?_)
    · rw [hN_le (by omega) (by omega)] at cc
      have ekn : k = n := by omega
      subst ekn
      refine b_X10_wrong_80 ?_
      clear ih N1 F1 D1 t1 t2
      refine hk_upto (P := fun v => ∀ h' c' j (o6 o7 : Option Value), hk_c1 o6 → hm_ix k v j → hN h' k m w rc th P c' → hRf hP57 h h' → (∀ k', k' < k → c' 4 k' = hI (P i k' : Nat)) → (∀ j', j' < j → ¬ hm_pl k P i (hm_fin k (hm_up P i (hm_dg k (hm_at k j'))) i).1 < hm_pl k P i (hm_fin k P i).1) → hk_S G m_X10_wrong (d + 2) 0 0 87 [some (.ref 43), some (.int (hI (i : Int))), some (.int (hI (hm_pl k P i (hm_fin k P i).1 : Nat))), some (.int z), some (.int (-2)), some (.int (hI (v : Int))), o6, o7] [] h' (fun o h' => ∃ x, o = .inl (some (.int x)) ∧ K x h')) (hm_last k + 1) (fun v hv ih h' c' j o6 o7 q6 J N' F' T' no => ?_) h' c' 0 none none hk_c10 hm_ix_0 N' F' T' (fun j' hj' => by omega)
      refine b_X10_wrong_87 N'.o (r_last N' ?_)
      refine b_X10_wrong_93 (fun c2 => ?_) (fun c2 => ?_)
      · rw [hN_lt (by omega) (by omega)] at c2
        have ej := hm_ix_end hn J c2
        subst ej
        rw [hf_no.mpr fun j' hj' => if_neg (no j' hj')] at hk
        exact b_X10_wrong_224 ⟨_, rfl, hk h' (A.out N' F') F'⟩
      · rw [hN_lt (by omega) (by omega)] at c2
        refine b_X10_wrong_96 (fun z => absurd rfl z) (fun _ => ?_)
        refine b_X10_wrong_103 N'.o rfl (r_digitsN N' (y := 1) (by omega) J (by omega) (fun h2 f hj ev J2 N2 F2 D2 => ?_) (fun h2 f J2 N2 F2 => ?_))
        · obtain ⟨op, ob, -⟩ := hm_at_ok hn hj
          refine b_X10_wrong_113 (fun _ => ?_) (fun z => absurd z (by decide))
          refine b_X10_wrong_119 ?_
          refine hk_upto (P := fun q => ∀ h3, hN0 h3 k m w rc th (hm_pt P i (hm_dg k (hm_at k j)) q) (hm_c c' 1 f) → hRf hP57 h h3 → hk_S G m_X10_wrong (d + 2) 0 0 122 [some (.ref 43), some (.int (hI (i : Int))), some (.int (hI (hm_pl k P i (hm_fin k P i).1 : Nat))), some (.int z), some (.int (-2)), some (.int (hI (v : Int))), some (.int (hI (q : Int))), o7] [] h3 (fun o h' => ∃ x, o = .inl (some (.int x)) ∧ K x h')) k (fun q hq ih2 h3 M3 F3 => ?_) h2 (by rw [hm_pt_0]; exact N2.mid) (F'.tr F2)
          refine b_X10_wrong_122 M3.1 rfl (fun c3 => ?_) (fun c3 => ?_)
          · rw [hN_le (by omega) (by omega)] at c3
            have eq : q = k := by omega
            subst eq
            have N3 := M3.up (hm_up_ok hP op) hm_pt_n
            refine b_X10_wrong_155 N3.o (r_ring N3 fun h4 c4 N4 F4 e1 e3 e4 D4 => ?_)
            have hfl := hm_fin_lt (by omega) N3.ok hi
            have hpl := (hm_pl_lt hn.2 (hP i hi) hfl).1
            have T4 : ∀ k', k' < q → c4 4 k' = hI (P i k' : Nat) := fun k' hk' => by rw [e4, hm_c_ne (by omega)]; exact T' k' hk'
            refine b_X10_wrong_159 N4.o rfl (N4.at (x := 0) (by omega)) i (hI_at rfl (by omega)) (by omega) ?_
            rw [(D4 i hi).1]
            clear ih2 N3 M3 D4
            refine hk_upto (P := fun p => ∀ h5, hN0 h5 q m w rc th (hm_pt (hm_up P i (hm_dg q (hm_at q j))) i (P i) p) c4 → hRf hP57 h h5 → hk_S G m_X10_wrong (d + 2) 0 0 170 [some (.ref 43), some (.int (hI (i : Int))), some (.int (hI (hm_pl q P i (hm_fin q P i).1 : Nat))), some (.int z), some (.int (-2)), some (.int (hI (v : Int))), some (.int (hI ((hm_fin q (hm_up P i (hm_dg q (hm_at q j))) i).1 : Nat))), some (.int (hI (p : Int)))] [] h5 (fun o h' => ∃ x, o = .inl (some (.int x)) ∧ K x h')) q (fun p hp ih3 h5 M5 F5 => ?_) h4 (by rw [hm_pt_0]; exact N4.mid) (F3.tr F4)
            refine b_X10_wrong_170 M5.1 rfl (fun c4 => ?_) (fun c4 => ?_)
            · rw [hN_le (by omega) (by omega)] at c4
              have ep : p = q := by omega
              subst ep
              have N5 : hN h5 p m w rc th P _ := M5.up hP fun i' k' h1 h2 => by
                rw [hm_pt_n i' k' h1 h2]
                unfold hm_up
                by_cases e : i' = i
                · rw [if_pos e, e]
                · rw [if_neg e, if_neg e]
              refine b_X10_wrong_203 N5.o (r_place N5 hi hfl ?_)
              refine b_X10_wrong_210 (fun c5 => ?_) (fun c5 => ?_)
              · rw [hN_le (by omega) (by omega)] at c5
                refine b_X10_wrong_218 ?_
                rw [hI_1]
                refine ih (by omega) h5 _ (j + 1) _ _ hk_c1i J2 N5 F5 T4 fun j' hj' => ?_
                by_cases e : j' = j
                · subst e; omega
                · exact no j' (by omega)
              · rw [hN_le (by omega) (by omega)] at c5
                have ehf : hf (fun j => if hm_pl p P i (hm_fin p (hm_up P i (hm_dg p (hm_at p j))) i).1 < hm_pl p P i (hm_fin p P i).1 then some (hm_at p j : Int) else none) (hm_len p) = some (hm_at p j : Int) := hf_is.mpr ⟨j, hj, if_pos (by omega), fun j' hj' => if_neg (no j' hj')⟩
                rw [ehf, ev] at hk
                refine b_X10_wrong_214 ?_
                refine b_X10_wrong_87 N5.o (r_last N5 ?_)
                have fin : ∀ (a b c : Option Value), hk_S G m_X10_wrong (d + 2) 0 0 224 [some (.ref 43), some (.int (hI (i : Int))), some (.int (hI (hm_pl p P i (hm_fin p P i).1 : Nat))), some (.int z), some (.int (hI (v : Int))), a, b, c] [] h5 (fun o h' => ∃ x, o = .inl (some (.int x)) ∧ K x h') := fun a b c => b_X10_wrong_224 ⟨_, rfl, hk h5 (A.out N5 F5) F5⟩
                refine b_X10_wrong_93 (fun _ => fin _ _ _) (fun _ => ?_)
                refine b_X10_wrong_96 (fun _ => fin _ _ _) (fun y => ?_)
                rw [show (-2 : Int32) = hI (-2) from rfl, hI_eq (by omega) (by omega)] at y
                omega
            · rw [hN_le (by omega) (by omega)] at c4
              obtain ⟨tf, t1, t2⟩ := M5.2.1
              have a4 := M5.2.2.1 4 (by omega)
              refine b_X10_wrong_179 M5.1 rfl rfl a4 p (hI_at rfl (by omega)) (by omega) t1 (by omega) (4 * i + p) (hI_ji (q := 4) (by omega)) (by omega) rfl ?_
              rw [hI_1]
              exact ih3 (by omega) _ (M5.put hi (by omega) t1 t2 (T4 p (by omega))) (F5.set (by unfold hP57; omega))
          · rw [hN_le (by omega) (by omega)] at c3
            obtain ⟨tf, t1, t2⟩ := M3.2.1
            have a1 := M3.2.2.1 1 (by omega)
            rw [hm_c_eq] at a1
            refine b_X10_wrong_131 M3.1 rfl rfl a1 q (hI_at rfl (by omega)) (by omega) t1 (by omega) (4 * i + q) (hI_ji (q := 4) (by omega)) (by omega) rfl ?_
            rw [hI_1]
            exact ih2 (by omega) _ (M3.put hi (by omega) t1 t2 (D2 q (by omega))) (F3.set (by unfold hP57; omega))
        · refine b_X10_wrong_113 (fun z => absurd rfl z) (fun _ => ?_)
          refine b_X10_wrong_116 ?_
          rw [hI_1]
          exact ih (by omega) h2 _ j _ _ q6 J2 N2 (F'.tr F2) (fun k' hk' => by rw [hm_c_ne (by omega)]; exact T' k' hk') no
    · rw [hN_le (by omega) (by omega)] at cc
      have a4 := N'.at (x := 4) (by omega)
      have N2 := N'.set (x := 4) (by omega) (f := upd (c' 4) k (tf (4 * i + k)))
      have b4 := N2.at (x := 4) (by omega)
      rw [hm_c_eq] at b4
      refine b_X10_wrong_43 N'.o rfl rfl t1 (4 * i + k) (hI_ji (q := 4) (by omega)) (by omega) a4 (by omega) k (hI_at rfl (by omega)) (by omega) rfl N2.o rfl b4 (by omega) ?_
      rw [hI_1]
      refine ih (by omega) _ _ _ N2 (F'.set (by unfold hP57; omega)) fun k' hk' => ?_
      rw [hm_c_eq]
      unfold upd
      by_cases e : k' = k
      · rw [if_pos e, t2 i k hi (by omega), e]
      · rw [if_neg e]; exact T' k' (by omega)
  · rw [hx_none z] at hk
    exact hk h A hRf.rf
theorem r_count (A : hBA h n m w rc num Rs th P) {x : Int32} {K : Int32 → hk_H → Prop} (hk : ∀ h', hBA h' n m w rc num Rs th P → hRf hP57 h h' → K (hI (hq_count n m w rc P x)) h') : hk_Ci G m_X10_count (d + 4) 0 0 [.ref 43, .int x] h K := by
  obtain ⟨c, N⟩ := A.N
  have hn := N.nn
  have h2n : 1 ≤ 2 ^ n := Nat.pow_pos (by omega)
  have h216 := hm_16 hn
  have hlast := (hm_b13 ⟨n, by omega⟩ hn.1).1
  simp only at hlast
  unfold hq_count at hk
  have hk0 := hk h A hRf.rf
  have loop : ∀ (cnt : Nat → Nat), cnt 0 = 0 → (∀ h', hBA h' n m w rc num Rs th P → hRf hP57 h h' → K (hI (cnt (hm_len n) : Nat)) h') → (∀ h2 c2 j v (z : Nat) (o4 : Option Value), j < hm_len n → hN h2 n m w rc th P c2 → (∀ k, k < n → c2 4 k = hI (hm_dg n (hm_at n j) k : Nat)) → (∀ h3 c3 o4, hN h3 n m w rc th P c3 → hRf hP57 h2 h3 → hk_S G m_X10_count (d + 4) 0 0 71 [some (.ref 43), some (.int x), some (.int (hI (cnt (j + 1) : Nat))), some (.int (hI ((v + 1 : Nat) : Int))), o4] [] h3 (fun o h' => ∃ x, o = .inl (some (.int x)) ∧ K x h')) → hk_S G m_X10_count (d + 4) 0 0 94 [some (.ref 43), some (.int x), some (.int (hI (cnt j : Nat))), some (.int (hI (v : Int))), o4] [] h2 (fun o h' => ∃ x, o = .inl (some (.int x)) ∧ K x h')) → hk_S G m_X10_count (d + 4) 0 0 69 [some (.ref 43), some (.int x), some (.int 0), none, none] [] h (fun o h' => ∃ x, o = .inl (some (.int x)) ∧ K x h') := by
    intro cnt cnt0 hkf step
    refine b_X10_count_69 ?_
    have key : hk_S G m_X10_count (d + 4) 0 0 71 [some (.ref 43), some (.int x), some (.int (hI (cnt 0 : Nat))), some (.int (hI ((0 : Nat) : Int))), none] [] h (fun o h' => ∃ x, o = .inl (some (.int x)) ∧ K x h') := by
      refine hk_upto (P := fun v => ∀ h' c' j (o4 : Option Value), hm_ix n v j → hN h' n m w rc th P c' → hRf hP57 h h' → hk_S G m_X10_count (d + 4) 0 0 71 [some (.ref 43), some (.int x), some (.int (hI (cnt j : Nat))), some (.int (hI (v : Int))), o4] [] h' (fun o h' => ∃ x, o = .inl (some (.int x)) ∧ K x h')) (hm_last n + 1) (fun v hv ih h' c' j o4 J N' F' => ?_) h c 0 none hm_ix_0 N hRf.rf
      refine b_X10_count_71 N'.o (r_last N' ?_)
      refine b_X10_count_76 (fun c2 => ?_) (fun c2 => ?_)
      · rw [hN_lt (by omega) (by omega)] at c2
        have ej := hm_ix_end hn J c2
        subst ej
        exact b_X10_count_165 ⟨_, rfl, hkf h' (A.out N' F') F'⟩
      · rw [hN_lt (by omega) (by omega)] at c2
        refine b_X10_count_79 N'.o rfl (r_digitsN N' (y := 4) (by omega) J (by omega) (fun h2 f hj ev J2 N2 F2 D2 => ?_) (fun h2 f J2 N2 F2 => ?_))
        · refine b_X10_count_88 (fun _ => ?_) (fun z => absurd z (by decide))
          exact step h2 _ j v 0 _ hj N2 (fun k hk => by rw [hm_c_eq]; exact D2 k hk) fun h3 c3 o4 N3 F3 => ih (by omega) h3 c3 (j + 1) o4 J2 N3 ((F'.tr F2).tr F3)
        · refine b_X10_count_88 (fun z => absurd rfl z) (fun _ => ?_)
          refine b_X10_count_91 ?_
          rw [hI_1]
          exact ih (by omega) h2 _ j _ J2 N2 (F'.tr F2)
    rw [cnt0] at key
    exact key
  refine ⟨Nat.le_of_ble_eq_true rfl, ?_⟩
  refine b_X10_count_0 (fun q => ?_) (fun q => ?_) (fun q => ?_) (fun q => ?_) (fun q => ?_) (fun q => ?_) (fun q => ?_) (fun q0 q1 q2 q3 q4 q5 q6 => ?_)
  · rw [if_pos q] at hk0
    exact b_X10_count_44 N.o rfl ⟨_, rfl, hk0⟩
  · rw [if_neg (by rw [q]; decide), if_pos q] at hk0
    exact b_X10_count_49 N.o rfl ⟨_, rfl, hk0⟩
  · rw [if_neg (by rw [q]; decide), if_neg (by rw [q]; decide), if_pos q] at hk0
    exact b_X10_count_54 N.o rfl ⟨_, rfl, hk0⟩
  · rw [if_neg (by rw [q]; decide), if_neg (by rw [q]; decide), if_neg (by rw [q]; decide), if_pos q] at hk0
    exact b_X10_count_59 N.o rfl ⟨_, rfl, hk0⟩
  · rw [if_neg (by rw [q]; decide), if_neg (by rw [q]; decide), if_neg (by rw [q]; decide), if_neg (by rw [q]; decide), if_pos q] at hk0
    exact b_X10_count_64 N.o rfl ⟨_, rfl, hk0⟩
  · rw [if_neg (by rw [q]; decide), if_neg (by rw [q]; decide), if_neg (by rw [q]; decide), if_neg (by rw [q]; decide), if_neg (by rw [q]; decide), if_pos q] at hk
    refine loop (hm_goodN n P) rfl hk fun h2 c2 j v z o4 hj N2 D2 next => ?_
    obtain ⟨op, ob, -⟩ := hm_at_ok hn hj
    refine b_X10_count_94 (fun y => absurd q y) (fun _ => ?_)
    refine b_X10_count_99 N2.o rfl rfl ?_
    rw [hh_full hn, show ((2 ^ n : Nat) : Int) - 1 = ((2 ^ n - 1 : Nat) : Int) by omega]
    refine r_isBeaten N2 (by omega) op.1 D2 fun h3 c3 N3 F3 _ => ?_
    have next := fun o4 => next h3 c3 o4 N3 F3
    unfold hm_goodN at next
    by_cases k2 : hm_beat n P (2 ^ n - 1) (hm_dg n (hm_at n j)) = true
    · rw [k2]
      refine b_X10_count_115 (fun _ => ?_) (fun z => absurd z (by decide))
      refine b_X10_count_122 (fun _ => ?_) (fun z => absurd rfl z)
      refine b_X10_count_156 ?_
      rw [hI_1, hI_0]
      simp only [if_pos k2] at next
      exact next _
    · have k3 := k2
      rw [Bool.not_eq_true] at k2
      rw [k2]
      refine b_X10_count_115 (fun z => absurd rfl z) (fun _ => ?_)
      refine b_X10_count_118 (fun z => absurd z (by decide)) (fun _ => ?_)
      refine b_X10_count_152 ?_
      rw [hI_1, hI_1]
      simp only [if_neg k3] at next
      exact next _
  · rw [if_neg (by rw [q]; decide), if_neg (by rw [q]; decide), if_neg (by rw [q]; decide), if_neg (by rw [q]; decide), if_neg (by rw [q]; decide), if_neg (by rw [q]; decide), if_pos q] at hk
    refine loop (hm_coreN n P) rfl hk fun h2 c2 j v z o4 hj N2 D2 next => ?_
    obtain ⟨op, ob, -⟩ := hm_at_ok hn hj
    have z0 := hm_blk_2 (P := P) (t := hm_dg n (hm_at n j)) hn.2
    refine b_X10_count_94 (fun _ => ?_) (fun y => absurd (q.symm.trans y) (by decide))
    refine b_X10_count_126 N2.o rfl (r_blocking N2 op.1 D2 fun h3 c3 N3 F3 _ => ?_)
    have next := fun o4 => next h3 c3 o4 N3 F3
    unfold hm_coreN at next
    refine b_X10_count_134 (fun y => ?_) (fun y => ?_)
    · simp only [if_neg (mt z0.mpr y)] at next
      refine b_X10_count_143 (fun _ => ?_) (fun z => absurd rfl z)
      refine b_X10_count_156 ?_
      rw [hI_1, hI_0]
      exact next _
    · simp only [if_pos (z0.mp y)] at next
      refine b_X10_count_139 (fun z => absurd z (by decide)) (fun _ => ?_)
      refine b_X10_count_152 ?_
      rw [hI_1, hI_1]
      exact next _
  · rw [if_neg q0, if_neg q1, if_neg q2, if_neg q3, if_neg q4, if_neg q5, if_neg q6] at hk0
    exact b_X10_count_167 ⟨_, rfl, hk0⟩
end RW
