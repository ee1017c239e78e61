-- HonestHouse$Heap.<init>(LHonestHouse$Wishes;)V
theorem b_X0_init_0 {G : hk_G} {d cb sb : Nat} {h : hk_H} {Q : hk_O → hk_H → Prop} {r0 : Nat} {r1 : Nat} {fs1 : List Value} {h_1 : hk_H} {h_2 : hk_H} {fs4 : List Value} {h_3 : hk_H} {h_4 : hk_H} {fs7 : List Value} {h_5 : hk_H} {h_6 : hk_H} {fs10 : List Value} {h_7 : hk_H} (hg2 : h.2 r0 = some (.inr (0, fs1))) (h4_r0 : 4 ≤ r0) (e_1 : (hk_set h r0 (.inr (0, fs1.set 0 (.ref r1)))) = h_1) (e_2 : (hk_new h_1 (.inl (0, 20, .inl (fun _ => 0)))) = h_2) (hg5 : h_2.2 r0 = some (.inr (0, fs4))) (e_3 : (hk_set h_2 r0 (.inr (0, fs4.set 1 (.ref h_1.1)))) = h_3) (e_4 : (hk_new h_3 (.inl (0, 4, .inl (fun _ => 0)))) = h_4) (hg8 : h_4.2 r0 = some (.inr (0, fs7))) (e_5 : (hk_set h_4 r0 (.inr (0, fs7.set 2 (.ref h_3.1)))) = h_5) (e_6 : (hk_new h_5 (.inl (0, 4, .inl (fun _ => 0)))) = h_6) (hg11 : h_6.2 r0 = some (.inr (0, fs10))) (e_7 : (hk_set h_6 r0 (.inr (0, fs10.set 3 (.ref h_5.1)))) = h_7) (hq : Q (.inl none) h_7) (hl3 : 0 < fs1.length := by exact Nat.le_of_ble_eq_true rfl) (hl6 : 1 < fs4.length := by exact Nat.le_of_ble_eq_true rfl) (hl9 : 2 < fs7.length := by exact Nat.le_of_ble_eq_true rfl) (hl12 : 3 < fs10.length := by exact Nat.le_of_ble_eq_true rfl) : hk_S G m_X0_init d (((cb + 1) + 1) + 1) (((sb + 4) + 4) + 20) 0 [some (.ref r0), some (.ref r1)] [] h Q := by
  subst e_1
  subst e_2
  subst e_3
  subst e_4
  subst e_5
  subst e_6
  subst e_7
  refine hs_aload_n dX0_init_0 rfl ?_
  refine hs_objInit (a := r0) dX0_init_1 ⟨wd_81, oi_.1, oi_.2⟩ (Nat.le_of_ble_eq_true rfl) ?_
  refine hs_aload_n dX0_init_4 rfl ?_
  refine hs_aload_n dX0_init_5 rfl ?_
  refine hs_putF (t := .object "HonestHouse$Wishes") dX0_init_6 rfl fw_X0_9_0 hg2 h4_r0 hl3 rfl rfl ?_
  refine hs_aload_n dX0_init_9 rfl ?_
  refine hs_bipush (v := 20) dX0_init_10 (by decide) ?_
  refine hs_newi (N := 20) dX0_init_12 (by decide) (by decide) ?_
  refine hs_putF (t := .array .int) dX0_init_14 rfl fw_X0_15_0 hg5 h4_r0 hl6 rfl rfl ?_
  refine hs_aload_n dX0_init_17 rfl ?_
  refine hs_iconst (v := 4) dX0_init_18 (by decide) ?_
  refine hs_newi (N := 4) dX0_init_19 (by decide) (by decide) ?_
  refine hs_putF (t := .array .int) dX0_init_21 rfl fw_X0_19_0 hg8 h4_r0 hl9 rfl rfl ?_
  refine hs_aload_n dX0_init_24 rfl ?_
  refine hs_iconst (v := 4) dX0_init_25 (by decide) ?_
  refine hs_newi (N := 4) dX0_init_26 (by decide) (by decide) ?_
  refine hs_putF (t := .array .int) dX0_init_28 rfl fw_X0_22_0 hg11 h4_r0 hl12 rfl rfl ?_
  exact hs_vret dX0_init_31 rfl hq
-- HonestHouse$Heap.firstRow(LHonestHouse$Table;I)I
theorem b_X0_firstRow_0 {G : hk_G} {d cb sb : Nat} {h : hk_H} {Q : hk_O → hk_H → Prop} {r0 : Nat} {x2 : Int32} {fs1 : List Value} {h_1 : hk_H} {fs4 : List Value} {v6 : Nat} {fs8 : List Value} {v10 : Nat} {o1 : Option Value} {o3 : Option Value} {o4 : Option Value} (hg2 : h.2 r0 = some (.inr (0, fs1))) (h4_r0 : 4 ≤ r0) (e_1 : (hk_set h r0 (.inr (0, fs1.set 4 (.int x2)))) = h_1) (hg5 : h_1.2 r0 = some (.inr (0, fs4))) (hv7 : fs4[0]? = some (.ref v6)) (hg9 : h_1.2 v6 = some (.inr (8, fs8))) (hv11 : fs8[3]? = some (.ref v10)) (hc : hk_Ci G m_J6_bitCount_0f7a4 d 0 0 [.int x2] h_1 (fun z h' => hk_S G m_X0_firstRow (d + 1) cb sb 17 [some (.ref r0), o1, some (.int x2), o3, o4] [.int z, .ref v10, .ref r0] h' Q)) (hl3 : 4 < fs1.length := by exact Nat.le_of_ble_eq_true rfl) : hk_S G m_X0_firstRow (d + 1) cb sb 0 [some (.ref r0), o1, some (.int x2), o3, o4] [] h Q := by
  subst e_1
  refine hs_aload_n dX0_firstRow_0 rfl ?_
  refine hs_iload_n dX0_firstRow_1 rfl ?_
  refine hs_put (t := .int) dX0_firstRow_2 fw_X0_25_0 hg2 h4_r0 hl3 rfl rfl ?_
  refine hs_aload_n dX0_firstRow_5 rfl ?_
  refine hs_aload_n dX0_firstRow_6 rfl ?_
  refine hs_get dX0_firstRow_7 fl_X0_9_0 hg5 hv7 ?_
  refine hs_get dX0_firstRow_10 fl_X0_29_8 hg9 hv11 ?_
  refine hs_iload_n dX0_firstRow_13 rfl ?_
  exact hk_z0 (hs_sta (M' := m_J6_bitCount_0f7a4) (vs := [.int x2]) (c1 := 0) (s1 := 0) dX0_firstRow_14 wd_548 st_J6_bitCount_0f7a4 rfl (Nat.le_of_ble_eq_true rfl) hc hq_i (hc_i (fun z h9 k9 => k9)))
theorem b_X0_firstRow_17 {G : hk_G} {d cb sb : Nat} {h : hk_H} {Q : hk_O → hk_H → Prop} {s0 : Nat} {s1 : Nat} {s2 : Int32} {r0 : Nat} {fs1 : List Value} {v3 : Nat} {fs5 : List Value} {v7 : Int32} {o1 : Option Value} {o2 : Option Value} {o3 : Option Value} {o4 : Option Value} (hg2 : h.2 r0 = some (.inr (0, fs1))) (hv4 : fs1[0]? = some (.ref v3)) (hg6 : h.2 v3 = some (.inr (8, fs5))) (hv8 : fs5[0]? = some (.int v7)) (hc : hk_Ci G m_J9_min_7cf53 d 0 0 [.int s2, .int v7] h (fun z h' => hk_S G m_X0_firstRow (d + 1) cb sb 27 [some (.ref r0), o1, o2, o3, o4] [.int z, .ref s1, .ref s0] h' Q)) : hk_S G m_X0_firstRow (d + 1) cb sb 17 [some (.ref r0), o1, o2, o3, o4] [.int s2, .ref s1, .ref s0] h Q := by
  refine hs_aload_n dX0_firstRow_17 rfl ?_
  refine hs_get dX0_firstRow_18 fl_X0_9_0 hg2 hv4 ?_
  refine hs_get dX0_firstRow_21 fl_X0_40_8 hg6 hv8 ?_
  exact hk_z0 (hs_sta (M' := m_J9_min_7cf53) (vs := [.int s2, .int v7]) (c1 := 0) (s1 := 0) dX0_firstRow_24 wd_554 st_J9_min_7cf53 rfl (Nat.le_of_ble_eq_true rfl) hc hq_i (hc_i (fun z h9 k9 => k9)))
theorem b_X0_firstRow_27 {G : hk_G} {d cb sb : Nat} {h : hk_H} {Q : hk_O → hk_H → Prop} {s0 : Nat} {s1 : Nat} {s2 : Int32} {n1 : Nat} {f2 : Nat → Int32} {fs7 : List Value} {h_1 : hk_H} {r0 : Nat} {fs10 : List Value} {v12 : Nat} {fs14 : List Value} {v16 : Int32} {o1 : Option Value} {o2 : Option Value} {o3 : Option Value} {o4 : Option Value} (ha3 : h.2 s1 = some (.inl (0, n1, .inl f2))) (j4 : Nat) (hi5 : (s2 : Int32).toInt = (j4 : Int)) (hj6 : j4 < n1) (hg8 : h.2 s0 = some (.inr (0, fs7))) (h4_s0 : 4 ≤ s0) (e_1 : (hk_set h s0 (.inr (0, fs7.set 5 (.int (f2 j4))))) = h_1) (hg11 : h_1.2 r0 = some (.inr (0, fs10))) (hv13 : fs10[0]? = some (.ref v12)) (hg15 : h_1.2 v12 = some (.inr (8, fs14))) (hv17 : fs14[5]? = some (.int v16)) (k : hk_S G m_X0_firstRow (d + 1) cb sb 42 [some (.ref r0), o1, o2, some (.int v16), some (.int 0)] [] h_1 Q) (ho2 : hk_c1 o2 := by first | exact hk_c1i | exact hk_c1r | exact hk_c10 | exact hk_c1n) (hl9 : 5 < fs7.length := by exact Nat.le_of_ble_eq_true rfl) : hk_S G m_X0_firstRow (d + 1) cb sb 27 [some (.ref r0), o1, o2, o3, o4] [.int s2, .ref s1, .ref s0] h Q := by
  subst e_1
  refine hs_iald j4 dX0_firstRow_27 ha3 hi5 hj6 ?_
  refine hs_put (t := .int) dX0_firstRow_28 fw_X0_49_0 hg8 h4_s0 hl9 rfl rfl ?_
  refine hs_aload_n dX0_firstRow_31 rfl ?_
  refine hs_get dX0_firstRow_32 fl_X0_9_0 hg11 hv13 ?_
  refine hs_get dX0_firstRow_35 fl_X0_52_8 hg15 hv17 ?_
  refine hs_istK_n dX0_firstRow_38 (by decide) (hk_nk1 rfl ho2) rfl ?_
  refine hs_iconst (v := 0) dX0_firstRow_39 (by decide) ?_
  refine hs_istK dX0_firstRow_40 (by decide) (hk_nk1 rfl hk_c1i) rfl ?_
  exact k
theorem b_X0_firstRow_42 {G : hk_G} {d cb sb : Nat} {h : hk_H} {Q : hk_O → hk_H → Prop} {x4 : Int32} {r0 : Nat} {fs1 : List Value} {v3 : Nat} {fs5 : List Value} {v7 : Int32} {o1 : Option Value} {o2 : Option Value} {o3 : Option Value} (hg2 : h.2 r0 = some (.inr (0, fs1))) (hv4 : fs1[0]? = some (.ref v3)) (hg6 : h.2 v3 = some (.inr (8, fs5))) (hv8 : fs5[5]? = some (.int v7)) (kt : v7 ≤ x4 → hk_S G m_X0_firstRow (d + 1) cb sb 80 [some (.ref r0), o1, o2, o3, some (.int x4)] [] h Q) (kf : ¬ v7 ≤ x4 → hk_S G m_X0_firstRow (d + 1) cb sb 54 [some (.ref r0), o1, o2, o3, some (.int x4)] [] h Q) : hk_S G m_X0_firstRow (d + 1) cb sb 42 [some (.ref r0), o1, o2, o3, some (.int x4)] [] h Q := by
  refine hs_iload dX0_firstRow_42 rfl ?_
  refine hs_aload_n dX0_firstRow_44 rfl ?_
  refine hs_get dX0_firstRow_45 fl_X0_9_0 hg2 hv4 ?_
  refine hs_get dX0_firstRow_48 fl_X0_52_8 hg6 hv8 ?_
  exact hs_icmp_ge dX0_firstRow_51 (by decide) kt kf
theorem b_X0_firstRow_54 {G : hk_G} {d cb sb : Nat} {h : hk_H} {Q : hk_O → hk_H → Prop} {r0 : Nat} {x4 : Int32} {fs_ : List Value} {o1 : Option Value} {o2 : Option Value} {o3 : Option Value} (hrec : h.2 r0 = some (.inr (0, fs_))) (hc : hk_Ci G m_X0_startOf d 0 0 [.ref r0, .int x4] h (fun z h' => hk_S G m_X0_firstRow (d + 1) cb sb 60 [some (.ref r0), o1, o2, o3, some (.int x4)] [.int z] h' Q)) : hk_S G m_X0_firstRow (d + 1) cb sb 54 [some (.ref r0), o1, o2, o3, some (.int x4)] [] h Q := by
  refine hs_aload_n dX0_firstRow_54 rfl ?_
  refine hs_iload dX0_firstRow_55 rfl ?_
  exact hk_z0 (hs_vir (M' := m_X0_startOf) (vs := [.int x4]) (c1 := 0) (s1 := 0) dX0_firstRow_57 wd_557 vi_X0_startOf hrec rfl (Nat.le_of_ble_eq_true rfl) hc hq_i (hc_i (fun z h9 k9 => k9)))
theorem b_X0_firstRow_60 {G : hk_G} {d cb sb : Nat} {h : hk_H} {Q : hk_O → hk_H → Prop} {s0 : Int32} {x4 : Int32} {o0 : Option Value} {o1 : Option Value} {o2 : Option Value} {o3 : Option Value} (kt : ¬ s0 = x4 → hk_S G m_X0_firstRow (d + 1) cb sb 74 [o0, o1, o2, o3, some (.int x4)] [] h Q) (kf : s0 = x4 → hk_S G m_X0_firstRow (d + 1) cb sb 65 [o0, o1, o2, o3, some (.int x4)] [] h Q) : hk_S G m_X0_firstRow (d + 1) cb sb 60 [o0, o1, o2, o3, some (.int x4)] [.int s0] h Q := by
  refine hs_iload dX0_firstRow_60 rfl ?_
  exact hs_icmp_ne dX0_firstRow_62 (by decide) kt kf
theorem b_X0_firstRow_65 {G : hk_G} {d cb sb : Nat} {h : hk_H} {Q : hk_O → hk_H → Prop} {r0 : Nat} {r1 : Nat} {x4 : Int32} {x3 : Int32} {fs_ : List Value} {o2 : Option Value} (hrec : h.2 r0 = some (.inr (0, fs_))) (hc : hk_Ci G m_X0_firstRowFrom d 0 0 [.ref r0, .ref r1, .int x4, .int x3] h (fun z h' => hk_S G m_X0_firstRow (d + 1) cb sb 73 [some (.ref r0), some (.ref r1), o2, some (.int x3), some (.int x4)] [.int z] h' Q)) : hk_S G m_X0_firstRow (d + 1) cb sb 65 [some (.ref r0), some (.ref r1), o2, some (.int x3), some (.int x4)] [] h Q := by
  refine hs_aload_n dX0_firstRow_65 rfl ?_
  refine hs_aload_n dX0_firstRow_66 rfl ?_
  refine hs_iload dX0_firstRow_67 rfl ?_
  refine hs_iload_n dX0_firstRow_69 rfl ?_
  exact hk_z0 (hs_vir (M' := m_X0_firstRowFrom) (vs := [.ref r1, .int x4, .int x3]) (c1 := 0) (s1 := 0) dX0_firstRow_70 wd_566 vi_X0_firstRowFrom hrec rfl (Nat.le_of_ble_eq_true rfl) hc hq_i (hc_i (fun z h9 k9 => k9)))
theorem b_X0_firstRow_73 {G : hk_G} {d cb sb : Nat} {h : hk_H} {Q : hk_O → hk_H → Prop} {s0 : Int32} {x4 : Int32} {o0 : Option Value} {o1 : Option Value} {o2 : Option Value} {o3 : Option Value} (k : hk_S G m_X0_firstRow (d + 1) cb sb 42 [o0, o1, o2, some (.int s0), some (.int (x4 + 1))] [] h Q) (ho2 : hk_c1 o2 := by first | exact hk_c1i | exact hk_c1r | exact hk_c10 | exact hk_c1n) : hk_S G m_X0_firstRow (d + 1) cb sb 73 [o0, o1, o2, o3, some (.int x4)] [.int s0] h Q := by
  refine hs_istK_n dX0_firstRow_73 (by decide) (hk_nk1 rfl ho2) rfl ?_
  refine hs_iincK (v := 1) dX0_firstRow_74 rfl (by decide) (by decide) (hk_nk1 rfl hk_c1i) rfl ?_
  refine hs_goto dX0_firstRow_77 (tgt := 42) (by decide) ?_
  exact k
theorem b_X0_firstRow_74 {G : hk_G} {d cb sb : Nat} {h : hk_H} {Q : hk_O → hk_H → Prop} {x4 : Int32} {o0 : Option Value} {o1 : Option Value} {o2 : Option Value} {o3 : Option Value} (k : hk_S G m_X0_firstRow (d + 1) cb sb 42 [o0, o1, o2, o3, some (.int (x4 + 1))] [] h Q) (ho3 : hk_c1 o3 := by first | exact hk_c1i | exact hk_c1r | exact hk_c10 | exact hk_c1n) : hk_S G m_X0_firstRow (d + 1) cb sb 74 [o0, o1, o2, o3, some (.int x4)] [] h Q := by
  refine hs_iincK (v := 1) dX0_firstRow_74 rfl (by decide) (by decide) (hk_nk1 rfl ho3) rfl ?_
  refine hs_goto dX0_firstRow_77 (tgt := 42) (by decide) ?_
  exact k
theorem b_X0_firstRow_80 {G : hk_G} {d cb sb : Nat} {h : hk_H} {Q : hk_O → hk_H → Prop} {x3 : Int32} {o0 : Option Value} {o1 : Option Value} {o2 : Option Value} {o4 : Option Value} (hq : Q (.inl (some (.int x3))) h) : hk_S G m_X0_firstRow (d + 1) cb sb 80 [o0, o1, o2, some (.int x3), o4] [] h Q := by
  refine hs_iload_n dX0_firstRow_80 rfl ?_
  exact hs_iret dX0_firstRow_81 rfl hq
-- HonestHouse$Heap.firstRowFrom(LHonestHouse$Table;II)I
theorem b_X0_firstRowFrom_0 {G : hk_G} {d cb sb : Nat} {h : hk_H} {Q : hk_O → hk_H → Prop} {r0 : Nat} {r1 : Nat} {x2 : Int32} {fs_ : List Value} {o3 : Option Value} {o4 : Option Value} {o5 : Option Value} (hrec : h.2 r0 = some (.inr (0, fs_))) (hc : hk_Cv G m_X0_findCheapest d 0 0 [.ref r0, .ref r1, .int x2] h (fun h' => hk_S G m_X0_firstRowFrom (d + 1) cb sb 6 [some (.ref r0), some (.ref r1), some (.int x2), o3, o4, o5] [] h' Q)) : hk_S G m_X0_firstRowFrom (d + 1) cb sb 0 [some (.ref r0), some (.ref r1), some (.int x2), o3, o4, o5] [] h Q := by
  refine hs_aload_n dX0_firstRowFrom_0 rfl ?_
  refine hs_aload_n dX0_firstRowFrom_1 rfl ?_
  refine hs_iload_n dX0_firstRowFrom_2 rfl ?_
  exact hk_z0 (hs_vir (M' := m_X0_findCheapest) (vs := [.ref r1, .int x2]) (c1 := 0) (s1 := 0) dX0_firstRowFrom_3 wd_570 vi_X0_findCheapest hrec rfl (Nat.le_of_ble_eq_true rfl) hc hq_v (hc_v (fun h9 k9 => k9)))
theorem b_X0_firstRowFrom_6 {G : hk_G} {d cb sb : Nat} {h : hk_H} {Q : hk_O → hk_H → Prop} {x2 : Int32} {o0 : Option Value} {o1 : Option Value} {o3 : Option Value} {o4 : Option Value} {o5 : Option Value} (k : hk_S G m_X0_firstRowFrom (d + 1) cb sb 12 [o0, o1, some (.int x2), o3, some (.int x2), some (.int 0)] [] h Q) (ho3 : hk_c1 o3 := by first | exact hk_c1i | exact hk_c1r | exact hk_c10 | exact hk_c1n) : hk_S G m_X0_firstRowFrom (d + 1) cb sb 6 [o0, o1, some (.int x2), o3, o4, o5] [] h Q := by
  refine hs_iload_n dX0_firstRowFrom_6 rfl ?_
  refine hs_istK dX0_firstRowFrom_7 (by decide) (hk_nk1 rfl ho3) rfl ?_
  refine hs_iconst (v := 0) dX0_firstRowFrom_9 (by decide) ?_
  refine hs_istK dX0_firstRowFrom_10 (by decide) (hk_nk1 rfl hk_c1i) rfl ?_
  exact k
theorem b_X0_firstRowFrom_12 {G : hk_G} {d cb sb : Nat} {h : hk_H} {Q : hk_O → hk_H → Prop} {x5 : Int32} {r0 : Nat} {fs1 : List Value} {v3 : Int32} {o1 : Option Value} {o2 : Option Value} {o3 : Option Value} {o4 : Option Value} (hg2 : h.2 r0 = some (.inr (0, fs1))) (hv4 : fs1[5]? = some (.int v3)) (kt : v3 ≤ x5 → hk_S G m_X0_firstRowFrom (d + 1) cb sb 67 [some (.ref r0), o1, o2, o3, o4, some (.int x5)] [] h Q) (kf : ¬ v3 ≤ x5 → hk_S G m_X0_firstRowFrom (d + 1) cb sb 21 [some (.ref r0), o1, o2, o3, o4, some (.int x5)] [] h Q) : hk_S G m_X0_firstRowFrom (d + 1) cb sb 12 [some (.ref r0), o1, o2, o3, o4, some (.int x5)] [] h Q := by
  refine hs_iload dX0_firstRowFrom_12 rfl ?_
  refine hs_aload_n dX0_firstRowFrom_14 rfl ?_
  refine hs_get dX0_firstRowFrom_15 fl_X0_49_0 hg2 hv4 ?_
  exact hs_icmp_ge dX0_firstRowFrom_18 (by decide) kt kf
theorem b_X0_firstRowFrom_21 {G : hk_G} {d cb sb : Nat} {h : hk_H} {Q : hk_O → hk_H → Prop} {x4 : Int32} {x3 : Int32} {o0 : Option Value} {o1 : Option Value} {o2 : Option Value} {o5 : Option Value} (kt : x3 ≤ x4 → hk_S G m_X0_firstRowFrom (d + 1) cb sb 67 [o0, o1, o2, some (.int x3), some (.int x4), o5] [] h Q) (kf : ¬ x3 ≤ x4 → hk_S G m_X0_firstRowFrom (d + 1) cb sb 27 [o0, o1, o2, some (.int x3), some (.int x4), o5] [] h Q) : hk_S G m_X0_firstRowFrom (d + 1) cb sb 21 [o0, o1, o2, some (.int x3), some (.int x4), o5] [] h Q := by
  refine hs_iload dX0_firstRowFrom_21 rfl ?_
  refine hs_iload_n dX0_firstRowFrom_23 rfl ?_
  exact hs_icmp_ge dX0_firstRowFrom_24 (by decide) kt kf
theorem b_X0_firstRowFrom_27 {G : hk_G} {d cb sb : Nat} {h : hk_H} {Q : hk_O → hk_H → Prop} {r0 : Nat} {r1 : Nat} {x4 : Int32} {fs_ : List Value} {o2 : Option Value} {o3 : Option Value} {o5 : Option Value} (hrec : h.2 r0 = some (.inr (0, fs_))) (hc : hk_Cv G m_X0_stand d 0 0 [.ref r0, .ref r1, .int x4] h (fun h' => hk_S G m_X0_firstRowFrom (d + 1) cb sb 34 [some (.ref r0), some (.ref r1), o2, o3, some (.int x4), o5] [] h' Q)) : hk_S G m_X0_firstRowFrom (d + 1) cb sb 27 [some (.ref r0), some (.ref r1), o2, o3, some (.int x4), o5] [] h Q := by
  refine hs_aload_n dX0_firstRowFrom_27 rfl ?_
  refine hs_aload_n dX0_firstRowFrom_28 rfl ?_
  refine hs_iload dX0_firstRowFrom_29 rfl ?_
  exact hk_z0 (hs_vir (M' := m_X0_stand) (vs := [.ref r1, .int x4]) (c1 := 0) (s1 := 0) dX0_firstRowFrom_31 wd_583 vi_X0_stand hrec rfl (Nat.le_of_ble_eq_true rfl) hc hq_v (hc_v (fun h9 k9 => k9)))
theorem b_X0_firstRowFrom_34 {G : hk_G} {d cb sb : Nat} {h : hk_H} {Q : hk_O → hk_H → Prop} {r0 : Nat} {fs_ : List Value} {o1 : Option Value} {o2 : Option Value} {o3 : Option Value} {o4 : Option Value} {o5 : Option Value} (hrec : h.2 r0 = some (.inr (0, fs_))) (hc : hk_Ci G m_X0_mayLie d 0 0 [.ref r0] h (fun z h' => hk_S G m_X0_firstRowFrom (d + 1) cb sb 38 [some (.ref r0), o1, o2, o3, o4, o5] [.int z] h' Q)) : hk_S G m_X0_firstRowFrom (d + 1) cb sb 34 [some (.ref r0), o1, o2, o3, o4, o5] [] h Q := by
  refine hs_aload_n dX0_firstRowFrom_34 rfl ?_
  exact hk_z0 (hs_vir (M' := m_X0_mayLie) (vs := []) (c1 := 0) (s1 := 0) dX0_firstRowFrom_35 wd_588 vi_X0_mayLie hrec rfl (Nat.le_of_ble_eq_true rfl) hc hq_i (hc_i (fun z h9 k9 => k9)))
theorem b_X0_firstRowFrom_38 {G : hk_G} {d cb sb : Nat} {h : hk_H} {Q : hk_O → hk_H → Prop} {s0 : Int32} {o0 : Option Value} {o1 : Option Value} {o2 : Option Value} {o3 : Option Value} {o4 : Option Value} {o5 : Option Value} (kt : s0 = 0 → hk_S G m_X0_firstRowFrom (d + 1) cb sb 53 [o0, o1, o2, o3, o4, o5] [] h Q) (kf : ¬ s0 = 0 → hk_S G m_X0_firstRowFrom (d + 1) cb sb 41 [o0, o1, o2, o3, o4, o5] [] h Q) : hk_S G m_X0_firstRowFrom (d + 1) cb sb 38 [o0, o1, o2, o3, o4, o5] [.int s0] h Q := by
  exact hs_if_eq dX0_firstRowFrom_38 (by decide) kt kf
theorem b_X0_firstRowFrom_41 {G : hk_G} {d cb sb : Nat} {h : hk_H} {Q : hk_O → hk_H → Prop} {r0 : Nat} {r1 : Nat} {x2 : Int32} {fs_ : List Value} {o3 : Option Value} {o4 : Option Value} {o5 : Option Value} (hrec : h.2 r0 = some (.inr (0, fs_))) (hc : hk_Ci G m_X0_leastSaidFrom d 0 0 [.ref r0, .ref r1, .int x2] h (fun z h' => hk_S G m_X0_firstRowFrom (d + 1) cb sb 47 [some (.ref r0), some (.ref r1), some (.int x2), o3, o4, o5] [.int z] h' Q)) : hk_S G m_X0_firstRowFrom (d + 1) cb sb 41 [some (.ref r0), some (.ref r1), some (.int x2), o3, o4, o5] [] h Q := by
  refine hs_aload_n dX0_firstRowFrom_41 rfl ?_
  refine hs_aload_n dX0_firstRowFrom_42 rfl ?_
  refine hs_iload_n dX0_firstRowFrom_43 rfl ?_
  exact hk_z0 (hs_vir (M' := m_X0_leastSaidFrom) (vs := [.ref r1, .int x2]) (c1 := 0) (s1 := 0) dX0_firstRowFrom_44 wd_597 vi_X0_leastSaidFrom hrec rfl (Nat.le_of_ble_eq_true rfl) hc hq_i (hc_i (fun z h9 k9 => k9)))
theorem b_X0_firstRowFrom_47 {G : hk_G} {d cb sb : Nat} {h : hk_H} {Q : hk_O → hk_H → Prop} {s0 : Int32} {o0 : Option Value} {o1 : Option Value} {o2 : Option Value} {o3 : Option Value} {o4 : Option Value} {o5 : Option Value} (kt : s0 < 0 → hk_S G m_X0_firstRowFrom (d + 1) cb sb 53 [o0, o1, o2, o3, o4, o5] [] h Q) (kf : ¬ s0 < 0 → hk_S G m_X0_firstRowFrom (d + 1) cb sb 50 [o0, o1, o2, o3, o4, o5] [] h Q) : hk_S G m_X0_firstRowFrom (d + 1) cb sb 47 [o0, o1, o2, o3, o4, o5] [.int s0] h Q := by
  exact hs_if_lt dX0_firstRowFrom_47 (by decide) kt kf
theorem b_X0_firstRowFrom_50 {G : hk_G} {d cb sb : Nat} {h : hk_H} {Q : hk_O → hk_H → Prop} {x4 : Int32} {o0 : Option Value} {o1 : Option Value} {o2 : Option Value} {o3 : Option Value} {o5 : Option Value} (hq : Q (.inl (some (.int x4))) h) : hk_S G m_X0_firstRowFrom (d + 1) cb sb 50 [o0, o1, o2, o3, some (.int x4), o5] [] h Q := by
  refine hs_iload dX0_firstRowFrom_50 rfl ?_
  exact hs_iret dX0_firstRowFrom_52 rfl hq
theorem b_X0_firstRowFrom_53 {G : hk_G} {d cb sb : Nat} {h : hk_H} {Q : hk_O → hk_H → Prop} {r0 : Nat} {x4 : Int32} {fs_ : List Value} {o1 : Option Value} {o2 : Option Value} {o3 : Option Value} {o5 : Option Value} (hrec : h.2 r0 = some (.inr (0, fs_))) (hc : hk_Ci G m_X0_nextRow d 0 0 [.ref r0, .int x4] h (fun z h' => hk_S G m_X0_firstRowFrom (d + 1) cb sb 59 [some (.ref r0), o1, o2, o3, some (.int x4), o5] [.int z] h' Q)) : hk_S G m_X0_firstRowFrom (d + 1) cb sb 53 [some (.ref r0), o1, o2, o3, some (.int x4), o5] [] h Q := by
  refine hs_aload_n dX0_firstRowFrom_53 rfl ?_
  refine hs_iload dX0_firstRowFrom_54 rfl ?_
  exact hk_z0 (hs_vir (M' := m_X0_nextRow) (vs := [.int x4]) (c1 := 0) (s1 := 0) dX0_firstRowFrom_56 wd_578 vi_X0_nextRow hrec rfl (Nat.le_of_ble_eq_true rfl) hc hq_i (hc_i (fun z h9 k9 => k9)))
theorem b_X0_firstRowFrom_59 {G : hk_G} {d cb sb : Nat} {h : hk_H} {Q : hk_O → hk_H → Prop} {s0 : Int32} {x5 : Int32} {o0 : Option Value} {o1 : Option Value} {o2 : Option Value} {o3 : Option Value} {o4 : Option Value} (k : hk_S G m_X0_firstRowFrom (d + 1) cb sb 12 [o0, o1, o2, o3, some (.int s0), some (.int (x5 + 1))] [] h Q) (ho3 : hk_c1 o3 := by first | exact hk_c1i | exact hk_c1r | exact hk_c10 | exact hk_c1n) : hk_S G m_X0_firstRowFrom (d + 1) cb sb 59 [o0, o1, o2, o3, o4, some (.int x5)] [.int s0] h Q := by
  refine hs_istK dX0_firstRowFrom_59 (by decide) (hk_nk1 rfl ho3) rfl ?_
  refine hs_iincK (v := 1) dX0_firstRowFrom_61 rfl (by decide) (by decide) (hk_nk1 rfl hk_c1i) rfl ?_
  refine hs_goto dX0_firstRowFrom_64 (tgt := 12) (by decide) ?_
  exact k
theorem b_X0_firstRowFrom_67 {G : hk_G} {d cb sb : Nat} {h : hk_H} {Q : hk_O → hk_H → Prop} {x3 : Int32} {o0 : Option Value} {o1 : Option Value} {o2 : Option Value} {o4 : Option Value} {o5 : Option Value} (hq : Q (.inl (some (.int x3))) h) : hk_S G m_X0_firstRowFrom (d + 1) cb sb 67 [o0, o1, o2, some (.int x3), o4, o5] [] h Q := by
  refine hs_iload_n dX0_firstRowFrom_67 rfl ?_
  exact hs_iret dX0_firstRowFrom_68 rfl hq
-- HonestHouse$Heap.leastSaid(LHonestHouse$Table;I)I
theorem b_X0_leastSaid_0 {G : hk_G} {d cb sb : Nat} {h : hk_H} {Q : hk_O → hk_H → Prop} {r0 : Nat} {r1 : Nat} {x2 : Int32} {fs_ : List Value} (hrec : h.2 r0 = some (.inr (0, fs_))) (hc : hk_Cv G m_X0_stand d 0 0 [.ref r0, .ref r1, .int x2] h (fun h' => hk_S G m_X0_leastSaid (d + 1) cb sb 6 [some (.ref r0), some (.ref r1), some (.int x2)] [] h' Q)) : hk_S G m_X0_leastSaid (d + 1) cb sb 0 [some (.ref r0), some (.ref r1), some (.int x2)] [] h Q := by
  refine hs_aload_n dX0_leastSaid_0 rfl ?_
  refine hs_aload_n dX0_leastSaid_1 rfl ?_
  refine hs_iload_n dX0_leastSaid_2 rfl ?_
  exact hk_z0 (hs_vir (M' := m_X0_stand) (vs := [.ref r1, .int x2]) (c1 := 0) (s1 := 0) dX0_leastSaid_3 wd_583 vi_X0_stand hrec rfl (Nat.le_of_ble_eq_true rfl) hc hq_v (hc_v (fun h9 k9 => k9)))
theorem b_X0_leastSaid_6 {G : hk_G} {d cb sb : Nat} {h : hk_H} {Q : hk_O → hk_H → Prop} {r0 : Nat} {r1 : Nat} {x2 : Int32} {fs_ : List Value} (hrec : h.2 r0 = some (.inr (0, fs_))) (hc : hk_Ci G m_X0_startOf d 0 0 [.ref r0, .int x2] h (fun z h' => hk_S G m_X0_leastSaid (d + 1) cb sb 13 [some (.ref r0), some (.ref r1), some (.int x2)] [.int z, .ref r1, .ref r0] h' Q)) : hk_S G m_X0_leastSaid (d + 1) cb sb 6 [some (.ref r0), some (.ref r1), some (.int x2)] [] h Q := by
  refine hs_aload_n dX0_leastSaid_6 rfl ?_
  refine hs_aload_n dX0_leastSaid_7 rfl ?_
  refine hs_aload_n dX0_leastSaid_8 rfl ?_
  refine hs_iload_n dX0_leastSaid_9 rfl ?_
  exact hk_z0 (hs_vir (M' := m_X0_startOf) (vs := [.int x2]) (c1 := 0) (s1 := 0) dX0_leastSaid_10 wd_557 vi_X0_startOf hrec rfl (Nat.le_of_ble_eq_true rfl) hc hq_i (hc_i (fun z h9 k9 => k9)))
theorem b_X0_leastSaid_13 {G : hk_G} {d cb sb : Nat} {h : hk_H} {Q : hk_O → hk_H → Prop} {s0 : Nat} {s1 : Nat} {s2 : Int32} {fs_ : List Value} {o0 : Option Value} {o1 : Option Value} {o2 : Option Value} (hrec : h.2 s0 = some (.inr (0, fs_))) (hc : hk_Ci G m_X0_leastSaidFrom d 0 0 [.ref s0, .ref s1, .int s2] h (fun z h' => hk_S G m_X0_leastSaid (d + 1) cb sb 16 [o0, o1, o2] [.int z] h' Q)) : hk_S G m_X0_leastSaid (d + 1) cb sb 13 [o0, o1, o2] [.int s2, .ref s1, .ref s0] h Q := by
  exact hk_z0 (hs_vir (M' := m_X0_leastSaidFrom) (vs := [.ref s1, .int s2]) (c1 := 0) (s1 := 0) dX0_leastSaid_13 wd_597 vi_X0_leastSaidFrom hrec rfl (Nat.le_of_ble_eq_true rfl) hc hq_i (hc_i (fun z h9 k9 => k9)))
theorem b_X0_leastSaid_16 {G : hk_G} {d cb sb : Nat} {h : hk_H} {Q : hk_O → hk_H → Prop} {s0 : Int32} {o0 : Option Value} {o1 : Option Value} {o2 : Option Value} (hq : Q (.inl (some (.int s0))) h) : hk_S G m_X0_leastSaid (d + 1) cb sb 16 [o0, o1, o2] [.int s0] h Q := by
  exact hs_iret dX0_leastSaid_16 rfl hq
-- HonestHouse$Heap.leastSaidFrom(LHonestHouse$Table;I)I
theorem b_X0_leastSaidFrom_0 {G : hk_G} {d cb sb : Nat} {h : hk_H} {Q : hk_O → hk_H → Prop} {x2 : Int32} {o0 : Option Value} {o1 : Option Value} {o3 : Option Value} {o4 : Option Value} (k : hk_S G m_X0_leastSaidFrom (d + 1) cb sb 5 [o0, o1, some (.int x2), some (.int x2), some (.int 0)] [] h Q) : hk_S G m_X0_leastSaidFrom (d + 1) cb sb 0 [o0, o1, some (.int x2), o3, o4] [] h Q := by
  refine hs_iload_n dX0_leastSaidFrom_0 rfl ?_
  refine hs_istK_n dX0_leastSaidFrom_1 (by decide) (hk_nk1 rfl hk_c1i) rfl ?_
  refine hs_iconst (v := 0) dX0_leastSaidFrom_2 (by decide) ?_
  refine hs_istK dX0_leastSaidFrom_3 (by decide) (hk_nk1 rfl hk_c1i) rfl ?_
  exact k
theorem b_X0_leastSaidFrom_5 {G : hk_G} {d cb sb : Nat} {h : hk_H} {Q : hk_O → hk_H → Prop} {x4 : Int32} {r0 : Nat} {fs1 : List Value} {v3 : Int32} {o1 : Option Value} {o2 : Option Value} {o3 : Option Value} (hg2 : h.2 r0 = some (.inr (0, fs1))) (hv4 : fs1[5]? = some (.int v3)) (kt : v3 ≤ x4 → hk_S G m_X0_leastSaidFrom (d + 1) cb sb 37 [some (.ref r0), o1, o2, o3, some (.int x4)] [] h Q) (kf : ¬ v3 ≤ x4 → hk_S G m_X0_leastSaidFrom (d + 1) cb sb 14 [some (.ref r0), o1, o2, o3, some (.int x4)] [] h Q) : hk_S G m_X0_leastSaidFrom (d + 1) cb sb 5 [some (.ref r0), o1, o2, o3, some (.int x4)] [] h Q := by
  refine hs_iload dX0_leastSaidFrom_5 rfl ?_
  refine hs_aload_n dX0_leastSaidFrom_7 rfl ?_
  refine hs_get dX0_leastSaidFrom_8 fl_X0_49_0 hg2 hv4 ?_
  exact hs_icmp_ge dX0_leastSaidFrom_11 (by decide) kt kf
theorem b_X0_leastSaidFrom_14 {G : hk_G} {d cb sb : Nat} {h : hk_H} {Q : hk_O → hk_H → Prop} {r0 : Nat} {r1 : Nat} {x3 : Int32} {fs_ : List Value} {o2 : Option Value} {o4 : Option Value} (hrec : h.2 r0 = some (.inr (0, fs_))) (hc : hk_Ci G m_X0_allGain d 0 0 [.ref r0, .ref r1, .int x3] h (fun z h' => hk_S G m_X0_leastSaidFrom (d + 1) cb sb 20 [some (.ref r0), some (.ref r1), o2, some (.int x3), o4] [.int z] h' Q)) : hk_S G m_X0_leastSaidFrom (d + 1) cb sb 14 [some (.ref r0), some (.ref r1), o2, some (.int x3), o4] [] h Q := by
  refine hs_aload_n dX0_leastSaidFrom_14 rfl ?_
  refine hs_aload_n dX0_leastSaidFrom_15 rfl ?_
  refine hs_iload_n dX0_leastSaidFrom_16 rfl ?_
  exact hk_z0 (hs_vir (M' := m_X0_allGain) (vs := [.ref r1, .int x3]) (c1 := 0) (s1 := 0) dX0_leastSaidFrom_17 wd_601 vi_X0_allGain hrec rfl (Nat.le_of_ble_eq_true rfl) hc hq_i (hc_i (fun z h9 k9 => k9)))
theorem b_X0_leastSaidFrom_20 {G : hk_G} {d cb sb : Nat} {h : hk_H} {Q : hk_O → hk_H → Prop} {s0 : Int32} {o0 : Option Value} {o1 : Option Value} {o2 : Option Value} {o3 : Option Value} {o4 : Option Value} (kt : s0 = 0 → hk_S G m_X0_leastSaidFrom (d + 1) cb sb 25 [o0, o1, o2, o3, o4] [] h Q) (kf : ¬ s0 = 0 → hk_S G m_X0_leastSaidFrom (d + 1) cb sb 23 [o0, o1, o2, o3, o4] [] h Q) : hk_S G m_X0_leastSaidFrom (d + 1) cb sb 20 [o0, o1, o2, o3, o4] [.int s0] h Q := by
  exact hs_if_eq dX0_leastSaidFrom_20 (by decide) kt kf
theorem b_X0_leastSaidFrom_23 {G : hk_G} {d cb sb : Nat} {h : hk_H} {Q : hk_O → hk_H → Prop} {x3 : Int32} {o0 : Option Value} {o1 : Option Value} {o2 : Option Value} {o4 : Option Value} (hq : Q (.inl (some (.int x3))) h) : hk_S G m_X0_leastSaidFrom (d + 1) cb sb 23 [o0, o1, o2, some (.int x3), o4] [] h Q := by
  refine hs_iload_n dX0_leastSaidFrom_23 rfl ?_
  exact hs_iret dX0_leastSaidFrom_24 rfl hq
theorem b_X0_leastSaidFrom_25 {G : hk_G} {d cb sb : Nat} {h : hk_H} {Q : hk_O → hk_H → Prop} {r0 : Nat} {x3 : Int32} {fs_ : List Value} {o1 : Option Value} {o2 : Option Value} {o4 : Option Value} (hrec : h.2 r0 = some (.inr (0, fs_))) (hc : hk_Ci G m_X0_nextRow d 0 0 [.ref r0, .int x3] h (fun z h' => hk_S G m_X0_leastSaidFrom (d + 1) cb sb 30 [some (.ref r0), o1, o2, some (.int x3), o4] [.int z] h' Q)) : hk_S G m_X0_leastSaidFrom (d + 1) cb sb 25 [some (.ref r0), o1, o2, some (.int x3), o4] [] h Q := by
  refine hs_aload_n dX0_leastSaidFrom_25 rfl ?_
  refine hs_iload_n dX0_leastSaidFrom_26 rfl ?_
  exact hk_z0 (hs_vir (M' := m_X0_nextRow) (vs := [.int x3]) (c1 := 0) (s1 := 0) dX0_leastSaidFrom_27 wd_578 vi_X0_nextRow hrec rfl (Nat.le_of_ble_eq_true rfl) hc hq_i (hc_i (fun z h9 k9 => k9)))
theorem b_X0_leastSaidFrom_30 {G : hk_G} {d cb sb : Nat} {h : hk_H} {Q : hk_O → hk_H → Prop} {s0 : Int32} {x4 : Int32} {o0 : Option Value} {o1 : Option Value} {o2 : Option Value} {o3 : Option Value} (k : hk_S G m_X0_leastSaidFrom (d + 1) cb sb 5 [o0, o1, o2, some (.int s0), some (.int (x4 + 1))] [] h Q) (ho2 : hk_c1 o2 := by first | exact hk_c1i | exact hk_c1r | exact hk_c10 | exact hk_c1n) : hk_S G m_X0_leastSaidFrom (d + 1) cb sb 30 [o0, o1, o2, o3, some (.int x4)] [.int s0] h Q := by
  refine hs_istK_n dX0_leastSaidFrom_30 (by decide) (hk_nk1 rfl ho2) rfl ?_
  refine hs_iincK (v := 1) dX0_leastSaidFrom_31 rfl (by decide) (by decide) (hk_nk1 rfl hk_c1i) rfl ?_
  refine hs_goto dX0_leastSaidFrom_34 (tgt := 5) (by decide) ?_
  exact k
theorem b_X0_leastSaidFrom_37 {G : hk_G} {d cb sb : Nat} {h : hk_H} {Q : hk_O → hk_H → Prop} {o0 : Option Value} {o1 : Option Value} {o2 : Option Value} {o3 : Option Value} {o4 : Option Value} (hq : Q (.inl (some (.int ((-2))))) h) : hk_S G m_X0_leastSaidFrom (d + 1) cb sb 37 [o0, o1, o2, o3, o4] [] h Q := by
  refine hs_bipush (v := (-2)) dX0_leastSaidFrom_37 (by decide) ?_
  exact hs_iret dX0_leastSaidFrom_39 rfl hq
-- HonestHouse$Heap.isMember(I)Z
theorem b_X0_isMember_0 {G : hk_G} {d cb sb : Nat} {h : hk_H} {Q : hk_O → hk_H → Prop} {r0 : Nat} {fs1 : List Value} {v3 : Int32} {x1 : Int32} (hg2 : h.2 r0 = some (.inr (0, fs1))) (hv4 : fs1[4]? = some (.int v3)) (kt : ¬ ((v3 >>> (x1 &&& 31)) &&& 1) = 1 → hk_S G m_X0_isMember d cb sb 16 [some (.ref r0), some (.int x1)] [] h Q) (kf : ((v3 >>> (x1 &&& 31)) &&& 1) = 1 → hk_S G m_X0_isMember d cb sb 12 [some (.ref r0), some (.int x1)] [] h Q) : hk_S G m_X0_isMember d cb sb 0 [some (.ref r0), some (.int x1)] [] h Q := by
  refine hs_aload_n dX0_isMember_0 rfl ?_
  refine hs_get dX0_isMember_1 fl_X0_25_0 hg2 hv4 ?_
  refine hs_iload_n dX0_isMember_4 rfl ?_
  refine hs_ishr dX0_isMember_5 ?_
  refine hs_iconst (v := 1) dX0_isMember_6 (by decide) ?_
  refine hs_iand dX0_isMember_7 ?_
  refine hs_iconst (v := 1) dX0_isMember_8 (by decide) ?_
  exact hs_icmp_ne dX0_isMember_9 (by decide) kt kf
theorem b_X0_isMember_12 {G : hk_G} {d cb sb : Nat} {h : hk_H} {Q : hk_O → hk_H → Prop} {o0 : Option Value} {o1 : Option Value} (hq : Q (.inl (some (.int 1))) h) : hk_S G m_X0_isMember d cb sb 12 [o0, o1] [] h Q := by
  refine hs_iconst (v := 1) dX0_isMember_12 (by decide) ?_
  refine hs_goto dX0_isMember_13 (tgt := 17) (by decide) ?_
  exact hs_zret dX0_isMember_17 rfl (by decide) hq
theorem b_X0_isMember_16 {G : hk_G} {d cb sb : Nat} {h : hk_H} {Q : hk_O → hk_H → Prop} {o0 : Option Value} {o1 : Option Value} (hq : Q (.inl (some (.int 0))) h) : hk_S G m_X0_isMember d cb sb 16 [o0, o1] [] h Q := by
  refine hs_iconst (v := 0) dX0_isMember_16 (by decide) ?_
  exact hs_zret dX0_isMember_17 rfl (by decide) hq
theorem b_X0_isMember_17 {G : hk_G} {d cb sb : Nat} {h : hk_H} {Q : hk_O → hk_H → Prop} {s0 : Int32} {o0 : Option Value} {o1 : Option Value} (hq : Q (.inl (some (.int s0))) h) (hb : s0 = 0 ∨ s0 = 1) : hk_S G m_X0_isMember d cb sb 17 [o0, o1] [.int s0] h Q := by
  exact hs_zret dX0_isMember_17 rfl hb hq
-- HonestHouse$Heap.startOf(I)I
theorem b_X0_startOf_0 {G : hk_G} {d cb sb : Nat} {h : hk_H} {Q : hk_O → hk_H → Prop} {x1 : Int32} {o0 : Option Value} {o2 : Option Value} {o3 : Option Value} (k : hk_S G m_X0_startOf (d + 1) cb sb 4 [o0, some (.int x1), some (.int x1), some (.int 0)] [] h Q) : hk_S G m_X0_startOf (d + 1) cb sb 0 [o0, some (.int x1), o2, o3] [] h Q := by
  refine hs_iload_n dX0_startOf_0 rfl ?_
  refine hs_istK_n dX0_startOf_1 (by decide) (hk_nk1 rfl hk_c1i) rfl ?_
  refine hs_iconst (v := 0) dX0_startOf_2 (by decide) ?_
  refine hs_istK_n dX0_startOf_3 (by decide) (hk_nk1 rfl hk_c1i) rfl ?_
  exact k
theorem b_X0_startOf_4 {G : hk_G} {d cb sb : Nat} {h : hk_H} {Q : hk_O → hk_H → Prop} {x3 : Int32} {r0 : Nat} {fs1 : List Value} {v3 : Nat} {fs5 : List Value} {v7 : Int32} {o1 : Option Value} {o2 : Option Value} (hg2 : h.2 r0 = some (.inr (0, fs1))) (hv4 : fs1[0]? = some (.ref v3)) (hg6 : h.2 v3 = some (.inr (8, fs5))) (hv8 : fs5[0]? = some (.int v7)) (kt : v7 ≤ x3 → hk_S G m_X0_startOf (d + 1) cb sb 40 [some (.ref r0), o1, o2, some (.int x3)] [] h Q) (kf : ¬ v7 ≤ x3 → hk_S G m_X0_startOf (d + 1) cb sb 15 [some (.ref r0), o1, o2, some (.int x3)] [] h Q) : hk_S G m_X0_startOf (d + 1) cb sb 4 [some (.ref r0), o1, o2, some (.int x3)] [] h Q := by
  refine hs_iload_n dX0_startOf_4 rfl ?_
  refine hs_aload_n dX0_startOf_5 rfl ?_
  refine hs_get dX0_startOf_6 fl_X0_9_0 hg2 hv4 ?_
  refine hs_get dX0_startOf_9 fl_X0_40_8 hg6 hv8 ?_
  exact hs_icmp_ge dX0_startOf_12 (by decide) kt kf
theorem b_X0_startOf_15 {G : hk_G} {d cb sb : Nat} {h : hk_H} {Q : hk_O → hk_H → Prop} {r0 : Nat} {x3 : Int32} {fs_ : List Value} {o1 : Option Value} {o2 : Option Value} (hrec : h.2 r0 = some (.inr (0, fs_))) (hc : hk_Ci G m_X0_isMember d 0 0 [.ref r0, .int x3] h (fun z h' => hk_S G m_X0_startOf (d + 1) cb sb 20 [some (.ref r0), o1, o2, some (.int x3)] [.int z] h' Q)) : hk_S G m_X0_startOf (d + 1) cb sb 15 [some (.ref r0), o1, o2, some (.int x3)] [] h Q := by
  refine hs_aload_n dX0_startOf_15 rfl ?_
  refine hs_iload_n dX0_startOf_16 rfl ?_
  exact hk_z0 (hs_vir (M' := m_X0_isMember) (vs := [.int x3]) (c1 := 0) (s1 := 0) dX0_startOf_17 wd_561 vi_X0_isMember hrec rfl (Nat.le_of_ble_eq_true rfl) hc hq_i (hc_i (fun z h9 k9 => k9)))
theorem b_X0_startOf_20 {G : hk_G} {d cb sb : Nat} {h : hk_H} {Q : hk_O → hk_H → Prop} {s0 : Int32} {o0 : Option Value} {o1 : Option Value} {o2 : Option Value} {o3 : Option Value} (kt : s0 = 0 → hk_S G m_X0_startOf (d + 1) cb sb 34 [o0, o1, o2, o3] [] h Q) (kf : ¬ s0 = 0 → hk_S G m_X0_startOf (d + 1) cb sb 23 [o0, o1, o2, o3] [] h Q) : hk_S G m_X0_startOf (d + 1) cb sb 20 [o0, o1, o2, o3] [.int s0] h Q := by
  exact hs_if_eq dX0_startOf_20 (by decide) kt kf
theorem b_X0_startOf_23 {G : hk_G} {d cb sb : Nat} {h : hk_H} {Q : hk_O → hk_H → Prop} {r0 : Nat} {fs1 : List Value} {v3 : Nat} {x2 : Int32} {x3 : Int32} {fs_ : List Value} {o1 : Option Value} (hg2 : h.2 r0 = some (.inr (0, fs1))) (hv4 : fs1[0]? = some (.ref v3)) (hrec : h.2 v3 = some (.inr (8, fs_))) (hc : hk_Ci G m_X8_rowSaying d 0 0 [.ref v3, .int x2, .int x3, .int 0] h (fun z h' => hk_S G m_X0_startOf (d + 1) cb sb 33 [some (.ref r0), o1, some (.int x2), some (.int x3)] [.int z] h' Q)) : hk_S G m_X0_startOf (d + 1) cb sb 23 [some (.ref r0), o1, some (.int x2), some (.int x3)] [] h Q := by
  refine hs_aload_n dX0_startOf_23 rfl ?_
  refine hs_get dX0_startOf_24 fl_X0_9_0 hg2 hv4 ?_
  refine hs_iload_n dX0_startOf_27 rfl ?_
  refine hs_iload_n dX0_startOf_28 rfl ?_
  refine hs_iconst (v := 0) dX0_startOf_29 (by decide) ?_
  exact hk_z0 (hs_vir (M' := m_X8_rowSaying) (vs := [.int x2, .int x3, .int 0]) (c1 := 0) (s1 := 0) dX0_startOf_30 wd_565 vi_X8_rowSaying hrec rfl (Nat.le_of_ble_eq_true rfl) hc hq_i (hc_i (fun z h9 k9 => k9)))
theorem b_X0_startOf_33 {G : hk_G} {d cb sb : Nat} {h : hk_H} {Q : hk_O → hk_H → Prop} {s0 : Int32} {x3 : Int32} {o0 : Option Value} {o1 : Option Value} {o2 : Option Value} (k : hk_S G m_X0_startOf (d + 1) cb sb 4 [o0, o1, some (.int s0), some (.int (x3 + 1))] [] h Q) (ho1 : hk_c1 o1 := by first | exact hk_c1i | exact hk_c1r | exact hk_c10 | exact hk_c1n) : hk_S G m_X0_startOf (d + 1) cb sb 33 [o0, o1, o2, some (.int x3)] [.int s0] h Q := by
  refine hs_istK_n dX0_startOf_33 (by decide) (hk_nk1 rfl ho1) rfl ?_
  refine hs_iincK (v := 1) dX0_startOf_34 rfl (by decide) (by decide) (hk_nk1 rfl hk_c1i) rfl ?_
  refine hs_goto dX0_startOf_37 (tgt := 4) (by decide) ?_
  exact k
theorem b_X0_startOf_34 {G : hk_G} {d cb sb : Nat} {h : hk_H} {Q : hk_O → hk_H → Prop} {x3 : Int32} {o0 : Option Value} {o1 : Option Value} {o2 : Option Value} (k : hk_S G m_X0_startOf (d + 1) cb sb 4 [o0, o1, o2, some (.int (x3 + 1))] [] h Q) (ho2 : hk_c1 o2 := by first | exact hk_c1i | exact hk_c1r | exact hk_c10 | exact hk_c1n) : hk_S G m_X0_startOf (d + 1) cb sb 34 [o0, o1, o2, some (.int x3)] [] h Q := by
  refine hs_iincK (v := 1) dX0_startOf_34 rfl (by decide) (by decide) (hk_nk1 rfl ho2) rfl ?_
  refine hs_goto dX0_startOf_37 (tgt := 4) (by decide) ?_
  exact k
theorem b_X0_startOf_40 {G : hk_G} {d cb sb : Nat} {h : hk_H} {Q : hk_O → hk_H → Prop} {x2 : Int32} {o0 : Option Value} {o1 : Option Value} {o3 : Option Value} (hq : Q (.inl (some (.int x2))) h) : hk_S G m_X0_startOf (d + 1) cb sb 40 [o0, o1, some (.int x2), o3] [] h Q := by
  refine hs_iload_n dX0_startOf_40 rfl ?_
  exact hs_iret dX0_startOf_41 rfl hq
-- HonestHouse$Heap.nextRow(I)I
theorem b_X0_nextRow_0 {G : hk_G} {d cb sb : Nat} {h : hk_H} {Q : hk_O → hk_H → Prop} {x1 : Int32} {o0 : Option Value} {o2 : Option Value} {o3 : Option Value} {o4 : Option Value} (k : hk_S G m_X0_nextRow (d + 1) cb sb 4 [o0, some (.int x1), some (.int x1), some (.int 0), o4] [] h Q) : hk_S G m_X0_nextRow (d + 1) cb sb 0 [o0, some (.int x1), o2, o3, o4] [] h Q := by
  refine hs_iload_n dX0_nextRow_0 rfl ?_
  refine hs_istK_n dX0_nextRow_1 (by decide) (hk_nk1 rfl hk_c1i) rfl ?_
  refine hs_iconst (v := 0) dX0_nextRow_2 (by decide) ?_
  refine hs_istK_n dX0_nextRow_3 (by decide) (hk_nk1 rfl hk_c1i) rfl ?_
  exact k
theorem b_X0_nextRow_4 {G : hk_G} {d cb sb : Nat} {h : hk_H} {Q : hk_O → hk_H → Prop} {x3 : Int32} {r0 : Nat} {fs1 : List Value} {v3 : Nat} {fs5 : List Value} {v7 : Int32} {o1 : Option Value} {o2 : Option Value} {o4 : Option Value} (hg2 : h.2 r0 = some (.inr (0, fs1))) (hv4 : fs1[0]? = some (.ref v3)) (hg6 : h.2 v3 = some (.inr (8, fs5))) (hv8 : fs5[0]? = some (.int v7)) (kt : v7 ≤ x3 → hk_S G m_X0_nextRow (d + 1) cb sb 79 [some (.ref r0), o1, o2, some (.int x3), o4] [] h Q) (kf : ¬ v7 ≤ x3 → hk_S G m_X0_nextRow (d + 1) cb sb 15 [some (.ref r0), o1, o2, some (.int x3), o4] [] h Q) : hk_S G m_X0_nextRow (d + 1) cb sb 4 [some (.ref r0), o1, o2, some (.int x3), o4] [] h Q := by
  refine hs_iload_n dX0_nextRow_4 rfl ?_
  refine hs_aload_n dX0_nextRow_5 rfl ?_
  refine hs_get dX0_nextRow_6 fl_X0_9_0 hg2 hv4 ?_
  refine hs_get dX0_nextRow_9 fl_X0_40_8 hg6 hv8 ?_
  exact hs_icmp_ge dX0_nextRow_12 (by decide) kt kf
theorem b_X0_nextRow_15 {G : hk_G} {d cb sb : Nat} {h : hk_H} {Q : hk_O → hk_H → Prop} {r0 : Nat} {x3 : Int32} {fs_ : List Value} {o1 : Option Value} {o2 : Option Value} {o4 : Option Value} (hrec : h.2 r0 = some (.inr (0, fs_))) (hc : hk_Ci G m_X0_isMember d 0 0 [.ref r0, .int x3] h (fun z h' => hk_S G m_X0_nextRow (d + 1) cb sb 20 [some (.ref r0), o1, o2, some (.int x3), o4] [.int z] h' Q)) : hk_S G m_X0_nextRow (d + 1) cb sb 15 [some (.ref r0), o1, o2, some (.int x3), o4] [] h Q := by
  refine hs_aload_n dX0_nextRow_15 rfl ?_
  refine hs_iload_n dX0_nextRow_16 rfl ?_
  exact hk_z0 (hs_vir (M' := m_X0_isMember) (vs := [.int x3]) (c1 := 0) (s1 := 0) dX0_nextRow_17 wd_561 vi_X0_isMember hrec rfl (Nat.le_of_ble_eq_true rfl) hc hq_i (hc_i (fun z h9 k9 => k9)))
theorem b_X0_nextRow_20 {G : hk_G} {d cb sb : Nat} {h : hk_H} {Q : hk_O → hk_H → Prop} {s0 : Int32} {o0 : Option Value} {o1 : Option Value} {o2 : Option Value} {o3 : Option Value} {o4 : Option Value} (kt : s0 = 0 → hk_S G m_X0_nextRow (d + 1) cb sb 73 [o0, o1, o2, o3, o4] [] h Q) (kf : ¬ s0 = 0 → hk_S G m_X0_nextRow (d + 1) cb sb 23 [o0, o1, o2, o3, o4] [] h Q) : hk_S G m_X0_nextRow (d + 1) cb sb 20 [o0, o1, o2, o3, o4] [.int s0] h Q := by
  exact hs_if_eq dX0_nextRow_20 (by decide) kt kf
theorem b_X0_nextRow_23 {G : hk_G} {d cb sb : Nat} {h : hk_H} {Q : hk_O → hk_H → Prop} {r0 : Nat} {fs1 : List Value} {v3 : Nat} {x2 : Int32} {x3 : Int32} {fs_ : List Value} {o1 : Option Value} {o4 : Option Value} (hg2 : h.2 r0 = some (.inr (0, fs1))) (hv4 : fs1[0]? = some (.ref v3)) (hrec : h.2 v3 = some (.inr (8, fs_))) (hc : hk_Ci G m_X8_wishIn d 0 0 [.ref v3, .int x2, .int x3] h (fun z h' => hk_S G m_X0_nextRow (d + 1) cb sb 32 [some (.ref r0), o1, some (.int x2), some (.int x3), o4] [.int z] h' Q)) : hk_S G m_X0_nextRow (d + 1) cb sb 23 [some (.ref r0), o1, some (.int x2), some (.int x3), o4] [] h Q := by
  refine hs_aload_n dX0_nextRow_23 rfl ?_
  refine hs_get dX0_nextRow_24 fl_X0_9_0 hg2 hv4 ?_
  refine hs_iload_n dX0_nextRow_27 rfl ?_
  refine hs_iload_n dX0_nextRow_28 rfl ?_
  exact hk_z0 (hs_vir (M' := m_X8_wishIn) (vs := [.int x2, .int x3]) (c1 := 0) (s1 := 0) dX0_nextRow_29 wd_582 vi_X8_wishIn hrec rfl (Nat.le_of_ble_eq_true rfl) hc hq_i (hc_i (fun z h9 k9 => k9)))
theorem b_X0_nextRow_32 {G : hk_G} {d cb sb : Nat} {h : hk_H} {Q : hk_O → hk_H → Prop} {s0 : Int32} {r0 : Nat} {fs1 : List Value} {v3 : Nat} {fs5 : List Value} {v7 : Int32} {o1 : Option Value} {o2 : Option Value} {o3 : Option Value} {o4 : Option Value} (hg2 : h.2 r0 = some (.inr (0, fs1))) (hv4 : fs1[0]? = some (.ref v3)) (hg6 : h.2 v3 = some (.inr (8, fs5))) (hv8 : fs5[4]? = some (.int v7)) (kt : v7 ≤ (s0 + 1) → hk_S G m_X0_nextRow (d + 1) cb sb 62 [some (.ref r0), o1, o2, o3, some (.int s0)] [] h Q) (kf : ¬ v7 ≤ (s0 + 1) → hk_S G m_X0_nextRow (d + 1) cb sb 48 [some (.ref r0), o1, o2, o3, some (.int s0)] [] h Q) (ho3 : hk_c1 o3 := by first | exact hk_c1i | exact hk_c1r | exact hk_c10 | exact hk_c1n) : hk_S G m_X0_nextRow (d + 1) cb sb 32 [some (.ref r0), o1, o2, o3, o4] [.int s0] h Q := by
  refine hs_istK dX0_nextRow_32 (by decide) (hk_nk1 rfl ho3) rfl ?_
  refine hs_iload dX0_nextRow_34 rfl ?_
  refine hs_iconst (v := 1) dX0_nextRow_36 (by decide) ?_
  refine hs_iadd dX0_nextRow_37 ?_
  refine hs_aload_n dX0_nextRow_38 rfl ?_
  refine hs_get dX0_nextRow_39 fl_X0_9_0 hg2 hv4 ?_
  refine hs_get dX0_nextRow_42 fl_X0_95_8 hg6 hv8 ?_
  exact hs_icmp_ge dX0_nextRow_45 (by decide) kt kf
theorem b_X0_nextRow_48 {G : hk_G} {d cb sb : Nat} {h : hk_H} {Q : hk_O → hk_H → Prop} {r0 : Nat} {fs1 : List Value} {v3 : Nat} {x2 : Int32} {x3 : Int32} {x4 : Int32} {fs_ : List Value} {o1 : Option Value} (hg2 : h.2 r0 = some (.inr (0, fs1))) (hv4 : fs1[0]? = some (.ref v3)) (hrec : h.2 v3 = some (.inr (8, fs_))) (hc : hk_Ci G m_X8_rowSaying d 0 0 [.ref v3, .int x2, .int x3, .int (x4 + 1)] h (fun z h' => hk_S G m_X0_nextRow (d + 1) cb sb 61 [some (.ref r0), o1, some (.int x2), some (.int x3), some (.int x4)] [.int z] h' Q)) : hk_S G m_X0_nextRow (d + 1) cb sb 48 [some (.ref r0), o1, some (.int x2), some (.int x3), some (.int x4)] [] h Q := by
  refine hs_aload_n dX0_nextRow_48 rfl ?_
  refine hs_get dX0_nextRow_49 fl_X0_9_0 hg2 hv4 ?_
  refine hs_iload_n dX0_nextRow_52 rfl ?_
  refine hs_iload_n dX0_nextRow_53 rfl ?_
  refine hs_iload dX0_nextRow_54 rfl ?_
  refine hs_iconst (v := 1) dX0_nextRow_56 (by decide) ?_
  refine hs_iadd dX0_nextRow_57 ?_
  exact hk_z0 (hs_vir (M' := m_X8_rowSaying) (vs := [.int x2, .int x3, .int (x4 + 1)]) (c1 := 0) (s1 := 0) dX0_nextRow_58 wd_565 vi_X8_rowSaying hrec rfl (Nat.le_of_ble_eq_true rfl) hc hq_i (hc_i (fun z h9 k9 => k9)))
theorem b_X0_nextRow_61 {G : hk_G} {d cb sb : Nat} {h : hk_H} {Q : hk_O → hk_H → Prop} {s0 : Int32} {o0 : Option Value} {o1 : Option Value} {o2 : Option Value} {o3 : Option Value} {o4 : Option Value} (hq : Q (.inl (some (.int s0))) h) : hk_S G m_X0_nextRow (d + 1) cb sb 61 [o0, o1, o2, o3, o4] [.int s0] h Q := by
  exact hs_iret dX0_nextRow_61 rfl hq
theorem b_X0_nextRow_62 {G : hk_G} {d cb sb : Nat} {h : hk_H} {Q : hk_O → hk_H → Prop} {r0 : Nat} {fs1 : List Value} {v3 : Nat} {x2 : Int32} {x3 : Int32} {fs_ : List Value} {o1 : Option Value} {o4 : Option Value} (hg2 : h.2 r0 = some (.inr (0, fs1))) (hv4 : fs1[0]? = some (.ref v3)) (hrec : h.2 v3 = some (.inr (8, fs_))) (hc : hk_Ci G m_X8_rowSaying d 0 0 [.ref v3, .int x2, .int x3, .int 0] h (fun z h' => hk_S G m_X0_nextRow (d + 1) cb sb 72 [some (.ref r0), o1, some (.int x2), some (.int x3), o4] [.int z] h' Q)) : hk_S G m_X0_nextRow (d + 1) cb sb 62 [some (.ref r0), o1, some (.int x2), some (.int x3), o4] [] h Q := by
  refine hs_aload_n dX0_nextRow_62 rfl ?_
  refine hs_get dX0_nextRow_63 fl_X0_9_0 hg2 hv4 ?_
  refine hs_iload_n dX0_nextRow_66 rfl ?_
  refine hs_iload_n dX0_nextRow_67 rfl ?_
  refine hs_iconst (v := 0) dX0_nextRow_68 (by decide) ?_
  exact hk_z0 (hs_vir (M' := m_X8_rowSaying) (vs := [.int x2, .int x3, .int 0]) (c1 := 0) (s1 := 0) dX0_nextRow_69 wd_565 vi_X8_rowSaying hrec rfl (Nat.le_of_ble_eq_true rfl) hc hq_i (hc_i (fun z h9 k9 => k9)))
theorem b_X0_nextRow_72 {G : hk_G} {d cb sb : Nat} {h : hk_H} {Q : hk_O → hk_H → Prop} {s0 : Int32} {x3 : Int32} {o0 : Option Value} {o1 : Option Value} {o2 : Option Value} {o4 : Option Value} (k : hk_S G m_X0_nextRow (d + 1) cb sb 4 [o0, o1, some (.int s0), some (.int (x3 + 1)), o4] [] h Q) (ho1 : hk_c1 o1 := by first | exact hk_c1i | exact hk_c1r | exact hk_c10 | exact hk_c1n) : hk_S G m_X0_nextRow (d + 1) cb sb 72 [o0, o1, o2, some (.int x3), o4] [.int s0] h Q := by
  refine hs_istK_n dX0_nextRow_72 (by decide) (hk_nk1 rfl ho1) rfl ?_
  refine hs_iincK (v := 1) dX0_nextRow_73 rfl (by decide) (by decide) (hk_nk1 rfl hk_c1i) rfl ?_
  refine hs_goto dX0_nextRow_76 (tgt := 4) (by decide) ?_
  exact k
theorem b_X0_nextRow_73 {G : hk_G} {d cb sb : Nat} {h : hk_H} {Q : hk_O → hk_H → Prop} {x3 : Int32} {o0 : Option Value} {o1 : Option Value} {o2 : Option Value} {o4 : Option Value} (k : hk_S G m_X0_nextRow (d + 1) cb sb 4 [o0, o1, o2, some (.int (x3 + 1)), o4] [] h Q) (ho2 : hk_c1 o2 := by first | exact hk_c1i | exact hk_c1r | exact hk_c10 | exact hk_c1n) : hk_S G m_X0_nextRow (d + 1) cb sb 73 [o0, o1, o2, some (.int x3), o4] [] h Q := by
  refine hs_iincK (v := 1) dX0_nextRow_73 rfl (by decide) (by decide) (hk_nk1 rfl ho2) rfl ?_
  refine hs_goto dX0_nextRow_76 (tgt := 4) (by decide) ?_
  exact k
theorem b_X0_nextRow_79 {G : hk_G} {d cb sb : Nat} {h : hk_H} {Q : hk_O → hk_H → Prop} {x2 : Int32} {o0 : Option Value} {o1 : Option Value} {o3 : Option Value} {o4 : Option Value} (hq : Q (.inl (some (.int x2))) h) : hk_S G m_X0_nextRow (d + 1) cb sb 79 [o0, o1, some (.int x2), o3, o4] [] h Q := by
  refine hs_iload_n dX0_nextRow_79 rfl ?_
  exact hs_iret dX0_nextRow_80 rfl hq
-- HonestHouse$Heap.findCheapest(LHonestHouse$Table;I)V
theorem b_X0_findCheapest_0 {G : hk_G} {d cb sb : Nat} {h : hk_H} {Q : hk_O → hk_H → Prop} {r0 : Nat} {fs1 : List Value} {v3 : Nat} {o1 : Option Value} {o2 : Option Value} {o3 : Option Value} {o4 : Option Value} {o5 : Option Value} {o6 : Option Value} {o7 : Option Value} (hg2 : h.2 r0 = some (.inr (0, fs1))) (hv4 : fs1[1]? = some (.ref v3)) (hc : hk_Cv G m_J7_fill_53178 d 0 0 [.ref v3, .int 1000000] h (fun h' => hk_S G m_X0_findCheapest (d + 1) cb sb 9 [some (.ref r0), o1, o2, o3, o4, o5, o6, o7] [] h' Q)) : hk_S G m_X0_findCheapest (d + 1) cb sb 0 [some (.ref r0), o1, o2, o3, o4, o5, o6, o7] [] h Q := by
  refine hs_aload_n dX0_findCheapest_0 rfl ?_
  refine hs_get dX0_findCheapest_1 fl_X0_15_0 hg2 hv4 ?_
  refine hs_ldc (v := 1000000) dX0_findCheapest_4 wd_574 ?_
  exact hk_z0 (hs_sta (M' := m_J7_fill_53178) (vs := [.ref v3, .int 1000000]) (c1 := 0) (s1 := 0) dX0_findCheapest_6 wd_575 st_J7_fill_53178 rfl (Nat.le_of_ble_eq_true rfl) hc hq_v (hc_v (fun h9 k9 => k9)))
theorem b_X0_findCheapest_9 {G : hk_G} {d cb sb : Nat} {h : hk_H} {Q : hk_O → hk_H → Prop} {x2 : Int32} {o0 : Option Value} {o1 : Option Value} {o3 : Option Value} {o4 : Option Value} {o5 : Option Value} {o6 : Option Value} {o7 : Option Value} (k : hk_S G m_X0_findCheapest (d + 1) cb sb 14 [o0, o1, some (.int x2), some (.int x2), some (.int 0), o5, o6, o7] [] h Q) : hk_S G m_X0_findCheapest (d + 1) cb sb 9 [o0, o1, some (.int x2), o3, o4, o5, o6, o7] [] h Q := by
  refine hs_iload_n dX0_findCheapest_9 rfl ?_
  refine hs_istK_n dX0_findCheapest_10 (by decide) (hk_nk1 rfl hk_c1i) rfl ?_
  refine hs_iconst (v := 0) dX0_findCheapest_11 (by decide) ?_
  refine hs_istK dX0_findCheapest_12 (by decide) (hk_nk1 rfl hk_c1i) rfl ?_
  exact k
theorem b_X0_findCheapest_14 {G : hk_G} {d cb sb : Nat} {h : hk_H} {Q : hk_O → hk_H → Prop} {x4 : Int32} {r0 : Nat} {fs1 : List Value} {v3 : Int32} {o1 : Option Value} {o2 : Option Value} {o3 : Option Value} {o5 : Option Value} {o6 : Option Value} {o7 : Option Value} (hg2 : h.2 r0 = some (.inr (0, fs1))) (hv4 : fs1[5]? = some (.int v3)) (kt : v3 ≤ x4 → hk_S G m_X0_findCheapest (d + 1) cb sb 96 [some (.ref r0), o1, o2, o3, some (.int x4), o5, o6, o7] [] h Q) (kf : ¬ v3 ≤ x4 → hk_S G m_X0_findCheapest (d + 1) cb sb 23 [some (.ref r0), o1, o2, o3, some (.int x4), o5, o6, o7] [] h Q) : hk_S G m_X0_findCheapest (d + 1) cb sb 14 [some (.ref r0), o1, o2, o3, some (.int x4), o5, o6, o7] [] h Q := by
  refine hs_iload dX0_findCheapest_14 rfl ?_
  refine hs_aload_n dX0_findCheapest_16 rfl ?_
  refine hs_get dX0_findCheapest_17 fl_X0_49_0 hg2 hv4 ?_
  exact hs_icmp_ge dX0_findCheapest_20 (by decide) kt kf
theorem b_X0_findCheapest_23 {G : hk_G} {d cb sb : Nat} {h : hk_H} {Q : hk_O → hk_H → Prop} {r1 : Nat} {x3 : Int32} {M' : hk_M} {ci_ : Nat} {fs_ : List Value} {o0 : Option Value} {o2 : Option Value} {o4 : Option Value} {o5 : Option Value} {o6 : Option Value} {o7 : Option Value} (hdis : hk_dis yX5_endAt ci_ M' 1) (hrec : h.2 r1 = some (.inr (ci_, fs_))) (hc : hk_Ci G M' d 0 0 [.ref r1, .int x3] h (fun z h' => hk_S G m_X0_findCheapest (d + 1) cb sb 28 [o0, some (.ref r1), o2, some (.int x3), o4, o5, o6, o7] [.int z] h' Q)) : hk_S G m_X0_findCheapest (d + 1) cb sb 23 [o0, some (.ref r1), o2, some (.int x3), o4, o5, o6, o7] [] h Q := by
  refine hs_aload_n dX0_findCheapest_23 rfl ?_
  refine hs_iload_n dX0_findCheapest_24 rfl ?_
  exact hk_z0 (hs_dis (x := yX5_endAt) (vs := [.int x3]) (c1 := 0) (s1 := 0) dX0_findCheapest_25 wd_576 hdis hrec rfl (Nat.le_of_ble_eq_true rfl) hc hq_i (hc_i (fun z h9 k9 => k9)))
theorem b_X0_findCheapest_28 {G : hk_G} {d cb sb : Nat} {h : hk_H} {Q : hk_O → hk_H → Prop} {s0 : Int32} {o0 : Option Value} {o1 : Option Value} {o2 : Option Value} {o3 : Option Value} {o4 : Option Value} {o5 : Option Value} {o6 : Option Value} {o7 : Option Value} (k : hk_S G m_X0_findCheapest (d + 1) cb sb 33 [o0, o1, o2, o3, o4, some (.int s0), some (.int 0), o7] [] h Q) (ho4 : hk_c1 o4 := by first | exact hk_c1i | exact hk_c1r | exact hk_c10 | exact hk_c1n) : hk_S G m_X0_findCheapest (d + 1) cb sb 28 [o0, o1, o2, o3, o4, o5, o6, o7] [.int s0] h Q := by
  refine hs_istK dX0_findCheapest_28 (by decide) (hk_nk1 rfl ho4) rfl ?_
  refine hs_iconst (v := 0) dX0_findCheapest_30 (by decide) ?_
  refine hs_istK dX0_findCheapest_31 (by decide) (hk_nk1 rfl hk_c1i) rfl ?_
  exact k
theorem b_X0_findCheapest_33 {G : hk_G} {d cb sb : Nat} {h : hk_H} {Q : hk_O → hk_H → Prop} {x6 : Int32} {r0 : Nat} {fs1 : List Value} {v3 : Nat} {fs5 : List Value} {v7 : Int32} {o1 : Option Value} {o2 : Option Value} {o3 : Option Value} {o4 : Option Value} {o5 : Option Value} {o7 : Option Value} (hg2 : h.2 r0 = some (.inr (0, fs1))) (hv4 : fs1[0]? = some (.ref v3)) (hg6 : h.2 v3 = some (.inr (8, fs5))) (hv8 : fs5[0]? = some (.int v7)) (kt : v7 ≤ x6 → hk_S G m_X0_findCheapest (d + 1) cb sb 84 [some (.ref r0), o1, o2, o3, o4, o5, some (.int x6), o7] [] h Q) (kf : ¬ v7 ≤ x6 → hk_S G m_X0_findCheapest (d + 1) cb sb 45 [some (.ref r0), o1, o2, o3, o4, o5, some (.int x6), o7] [] h Q) : hk_S G m_X0_findCheapest (d + 1) cb sb 33 [some (.ref r0), o1, o2, o3, o4, o5, some (.int x6), o7] [] h Q := by
  refine hs_iload dX0_findCheapest_33 rfl ?_
  refine hs_aload_n dX0_findCheapest_35 rfl ?_
  refine hs_get dX0_findCheapest_36 fl_X0_9_0 hg2 hv4 ?_
  refine hs_get dX0_findCheapest_39 fl_X0_40_8 hg6 hv8 ?_
  exact hs_icmp_ge dX0_findCheapest_42 (by decide) kt kf
theorem b_X0_findCheapest_45 {G : hk_G} {d cb sb : Nat} {h : hk_H} {Q : hk_O → hk_H → Prop} {x5 : Int32} {x6 : Int32} {r0 : Nat} {fs1 : List Value} {v3 : Nat} {n5 : Nat} {f6 : Nat → Int32} {r1 : Nat} {x3 : Int32} {M' : hk_M} {ci_ : Nat} {fs_ : List Value} {o2 : Option Value} {o4 : Option Value} {o7 : Option Value} (hg2 : h.2 r0 = some (.inr (0, fs1))) (hv4 : fs1[1]? = some (.ref v3)) (ha7 : h.2 v3 = some (.inl (0, n5, .inl f6))) (j8 : Nat) (hi9 : ((x5 * 4) + x6 : Int32).toInt = (j8 : Int)) (hj10 : j8 < n5) (hdis : hk_dis yX5_paymentAt ci_ M' 2) (hrec : h.2 r1 = some (.inr (ci_, fs_))) (hc : hk_Ci G M' d 0 0 [.ref r1, .int x3, .int x6] h (fun z h' => hk_S G m_X0_findCheapest (d + 1) cb sb 74 [some (.ref r0), some (.ref r1), o2, some (.int x3), o4, some (.int x5), some (.int x6), some (.int ((x5 * 4) + x6))] [.int z, .int (f6 j8), .int ((x5 * 4) + x6), .ref v3] h' Q)) : hk_S G m_X0_findCheapest (d + 1) cb sb 45 [some (.ref r0), some (.ref r1), o2, some (.int x3), o4, some (.int x5), some (.int x6), o7] [] h Q := by
  refine hs_iload dX0_findCheapest_45 rfl ?_
  refine hs_iconst (v := 4) dX0_findCheapest_47 (by decide) ?_
  refine hs_imul dX0_findCheapest_48 ?_
  refine hs_iload dX0_findCheapest_49 rfl ?_
  refine hs_iadd dX0_findCheapest_51 ?_
  refine hs_istK dX0_findCheapest_52 (by decide) (hk_nk1 rfl hk_c1i) rfl ?_
  refine hs_aload_n dX0_findCheapest_54 rfl ?_
  refine hs_get dX0_findCheapest_55 fl_X0_15_0 hg2 hv4 ?_
  refine hs_iload dX0_findCheapest_58 rfl ?_
  refine hs_aload_n dX0_findCheapest_60 rfl ?_
  refine hs_get dX0_findCheapest_61 fl_X0_15_0 hg2 hv4 ?_
  refine hs_iload dX0_findCheapest_64 rfl ?_
  refine hs_iald j8 dX0_findCheapest_66 ha7 hi9 hj10 ?_
  refine hs_aload_n dX0_findCheapest_67 rfl ?_
  refine hs_iload_n dX0_findCheapest_68 rfl ?_
  refine hs_iload dX0_findCheapest_69 rfl ?_
  exact hk_z0 (hs_dis (x := yX5_paymentAt) (vs := [.int x3, .int x6]) (c1 := 0) (s1 := 0) dX0_findCheapest_71 wd_577 hdis hrec rfl (Nat.le_of_ble_eq_true rfl) hc hq_i (hc_i (fun z h9 k9 => k9)))
theorem b_X0_findCheapest_74 {G : hk_G} {d cb sb : Nat} {h : hk_H} {Q : hk_O → hk_H → Prop} {s0 : Nat} {s1 : Int32} {s2 : Int32} {s3 : Int32} {o0 : Option Value} {o1 : Option Value} {o2 : Option Value} {o3 : Option Value} {o4 : Option Value} {o5 : Option Value} {o6 : Option Value} {o7 : Option Value} (hc : hk_Ci G m_J9_min_7cf53 d 0 0 [.int s2, .int s3] h (fun z h' => hk_S G m_X0_findCheapest (d + 1) cb sb 77 [o0, o1, o2, o3, o4, o5, o6, o7] [.int z, .int s1, .ref s0] h' Q)) : hk_S G m_X0_findCheapest (d + 1) cb sb 74 [o0, o1, o2, o3, o4, o5, o6, o7] [.int s3, .int s2, .int s1, .ref s0] h Q := by
  exact hk_z0 (hs_sta (M' := m_J9_min_7cf53) (vs := [.int s2, .int s3]) (c1 := 0) (s1 := 0) dX0_findCheapest_74 wd_554 st_J9_min_7cf53 rfl (Nat.le_of_ble_eq_true rfl) hc hq_i (hc_i (fun z h9 k9 => k9)))
theorem b_X0_findCheapest_77 {G : hk_G} {d cb sb : Nat} {h : hk_H} {Q : hk_O → hk_H → Prop} {s0 : Nat} {s1 : Int32} {s2 : Int32} {n1 : Nat} {f2 : Nat → Int32} {h_1 : hk_H} {x6 : Int32} {o0 : Option Value} {o1 : Option Value} {o2 : Option Value} {o3 : Option Value} {o4 : Option Value} {o5 : Option Value} {o7 : Option Value} (ha3 : h.2 s0 = some (.inl (0, n1, .inl f2))) (h4_s0 : 4 ≤ s0) (j4 : Nat) (hi5 : (s1 : Int32).toInt = (j4 : Int)) (hj6 : j4 < n1) (e_1 : (hk_set h s0 (.inl (0, n1, .inl (upd f2 j4 s2)))) = h_1) (k : hk_S G m_X0_findCheapest (d + 1) cb sb 33 [o0, o1, o2, o3, o4, o5, some (.int (x6 + 1)), o7] [] h_1 Q) (ho5 : hk_c1 o5 := by first | exact hk_c1i | exact hk_c1r | exact hk_c10 | exact hk_c1n) : hk_S G m_X0_findCheapest (d + 1) cb sb 77 [o0, o1, o2, o3, o4, o5, some (.int x6), o7] [.int s2, .int s1, .ref s0] h Q := by
  subst e_1
  refine hs_iast j4 dX0_findCheapest_77 ha3 h4_s0 hi5 hj6 ?_
  refine hs_iincK (v := 1) dX0_findCheapest_78 rfl (by decide) (by decide) (hk_nk1 rfl ho5) rfl ?_
  refine hs_goto dX0_findCheapest_81 (tgt := 33) (by decide) ?_
  exact k
theorem b_X0_findCheapest_84 {G : hk_G} {d cb sb : Nat} {h : hk_H} {Q : hk_O → hk_H → Prop} {r0 : Nat} {x3 : Int32} {fs_ : List Value} {o1 : Option Value} {o2 : Option Value} {o4 : Option Value} {o5 : Option Value} {o6 : Option Value} {o7 : Option Value} (hrec : h.2 r0 = some (.inr (0, fs_))) (hc : hk_Ci G m_X0_nextRow d 0 0 [.ref r0, .int x3] h (fun z h' => hk_S G m_X0_findCheapest (d + 1) cb sb 89 [some (.ref r0), o1, o2, some (.int x3), o4, o5, o6, o7] [.int z] h' Q)) : hk_S G m_X0_findCheapest (d + 1) cb sb 84 [some (.ref r0), o1, o2, some (.int x3), o4, o5, o6, o7] [] h Q := by
  refine hs_aload_n dX0_findCheapest_84 rfl ?_
  refine hs_iload_n dX0_findCheapest_85 rfl ?_
  exact hk_z0 (hs_vir (M' := m_X0_nextRow) (vs := [.int x3]) (c1 := 0) (s1 := 0) dX0_findCheapest_86 wd_578 vi_X0_nextRow hrec rfl (Nat.le_of_ble_eq_true rfl) hc hq_i (hc_i (fun z h9 k9 => k9)))
theorem b_X0_findCheapest_89 {G : hk_G} {d cb sb : Nat} {h : hk_H} {Q : hk_O → hk_H → Prop} {s0 : Int32} {x4 : Int32} {o0 : Option Value} {o1 : Option Value} {o2 : Option Value} {o3 : Option Value} {o5 : Option Value} {o6 : Option Value} {o7 : Option Value} (k : hk_S G m_X0_findCheapest (d + 1) cb sb 14 [o0, o1, o2, some (.int s0), some (.int (x4 + 1)), o5, o6, o7] [] h Q) (ho2 : hk_c1 o2 := by first | exact hk_c1i | exact hk_c1r | exact hk_c10 | exact hk_c1n) : hk_S G m_X0_findCheapest (d + 1) cb sb 89 [o0, o1, o2, o3, some (.int x4), o5, o6, o7] [.int s0] h Q := by
  refine hs_istK_n dX0_findCheapest_89 (by decide) (hk_nk1 rfl ho2) rfl ?_
  refine hs_iincK (v := 1) dX0_findCheapest_90 rfl (by decide) (by decide) (hk_nk1 rfl hk_c1i) rfl ?_
  refine hs_goto dX0_findCheapest_93 (tgt := 14) (by decide) ?_
  exact k
theorem b_X0_findCheapest_96 {G : hk_G} {d cb sb : Nat} {h : hk_H} {Q : hk_O → hk_H → Prop} {o0 : Option Value} {o1 : Option Value} {o2 : Option Value} {o3 : Option Value} {o4 : Option Value} {o5 : Option Value} {o6 : Option Value} {o7 : Option Value} (hq : Q (.inl none) h) : hk_S G m_X0_findCheapest (d + 1) cb sb 96 [o0, o1, o2, o3, o4, o5, o6, o7] [] h Q := by
  exact hs_vret dX0_findCheapest_96 rfl hq
-- HonestHouse$Heap.stand(LHonestHouse$Table;I)V
theorem b_X0_stand_0 {G : hk_G} {d cb sb : Nat} {h : hk_H} {Q : hk_O → hk_H → Prop} {o0 : Option Value} {o1 : Option Value} {o2 : Option Value} {o3 : Option Value} (k : hk_S G m_X0_stand (d + 1) cb sb 2 [o0, o1, o2, some (.int 0)] [] h Q) (ho2 : hk_c1 o2 := by first | exact hk_c1i | exact hk_c1r | exact hk_c10 | exact hk_c1n) : hk_S G m_X0_stand (d + 1) cb sb 0 [o0, o1, o2, o3] [] h Q := by
  refine hs_iconst (v := 0) dX0_stand_0 (by decide) ?_
  refine hs_istK_n dX0_stand_1 (by decide) (hk_nk1 rfl ho2) rfl ?_
  exact k
theorem b_X0_stand_2 {G : hk_G} {d cb sb : Nat} {h : hk_H} {Q : hk_O → hk_H → Prop} {x3 : Int32} {r0 : Nat} {fs1 : List Value} {v3 : Nat} {fs5 : List Value} {v7 : Int32} {o1 : Option Value} {o2 : Option Value} (hg2 : h.2 r0 = some (.inr (0, fs1))) (hv4 : fs1[0]? = some (.ref v3)) (hg6 : h.2 v3 = some (.inr (8, fs5))) (hv8 : fs5[0]? = some (.int v7)) (kt : v7 ≤ x3 → hk_S G m_X0_stand (d + 1) cb sb 52 [some (.ref r0), o1, o2, some (.int x3)] [] h Q) (kf : ¬ v7 ≤ x3 → hk_S G m_X0_stand (d + 1) cb sb 13 [some (.ref r0), o1, o2, some (.int x3)] [] h Q) : hk_S G m_X0_stand (d + 1) cb sb 2 [some (.ref r0), o1, o2, some (.int x3)] [] h Q := by
  refine hs_iload_n dX0_stand_2 rfl ?_
  refine hs_aload_n dX0_stand_3 rfl ?_
  refine hs_get dX0_stand_4 fl_X0_9_0 hg2 hv4 ?_
  refine hs_get dX0_stand_7 fl_X0_40_8 hg6 hv8 ?_
  exact hs_icmp_ge dX0_stand_10 (by decide) kt kf
theorem b_X0_stand_13 {G : hk_G} {d cb sb : Nat} {h : hk_H} {Q : hk_O → hk_H → Prop} {r0 : Nat} {fs1 : List Value} {v3 : Nat} {x3 : Int32} {v5 : Nat} {x2 : Int32} {fs_ : List Value} {o1 : Option Value} (hg2 : h.2 r0 = some (.inr (0, fs1))) (hv4 : fs1[2]? = some (.ref v3)) (hv6 : fs1[0]? = some (.ref v5)) (hrec : h.2 v5 = some (.inr (8, fs_))) (hc : hk_Ci G m_X8_wishIn d 0 0 [.ref v5, .int x2, .int x3] h (fun z h' => hk_S G m_X0_stand (d + 1) cb sb 27 [some (.ref r0), o1, some (.int x2), some (.int x3)] [.int z, .int x3, .ref v3] h' Q)) : hk_S G m_X0_stand (d + 1) cb sb 13 [some (.ref r0), o1, some (.int x2), some (.int x3)] [] h Q := by
  refine hs_aload_n dX0_stand_13 rfl ?_
  refine hs_get dX0_stand_14 fl_X0_19_0 hg2 hv4 ?_
  refine hs_iload_n dX0_stand_17 rfl ?_
  refine hs_aload_n dX0_stand_18 rfl ?_
  refine hs_get dX0_stand_19 fl_X0_9_0 hg2 hv6 ?_
  refine hs_iload_n dX0_stand_22 rfl ?_
  refine hs_iload_n dX0_stand_23 rfl ?_
  exact hk_z0 (hs_vir (M' := m_X8_wishIn) (vs := [.int x2, .int x3]) (c1 := 0) (s1 := 0) dX0_stand_24 wd_582 vi_X8_wishIn hrec rfl (Nat.le_of_ble_eq_true rfl) hc hq_i (hc_i (fun z h9 k9 => k9)))
theorem b_X0_stand_27 {G : hk_G} {d cb sb : Nat} {h : hk_H} {Q : hk_O → hk_H → Prop} {s0 : Nat} {s1 : Int32} {s2 : Int32} {n1 : Nat} {f2 : Nat → Int32} {h_1 : hk_H} {r0 : Nat} {fs7 : List Value} {v9 : Nat} {x3 : Int32} {r1 : Nat} {x2 : Int32} {v11 : Nat} {n13 : Nat} {f14 : Nat → Int32} {M' : hk_M} {ci_ : Nat} {fs_ : List Value} (ha3 : h.2 s0 = some (.inl (0, n1, .inl f2))) (h4_s0 : 4 ≤ s0) (j4 : Nat) (hi5 : (s1 : Int32).toInt = (j4 : Int)) (hj6 : j4 < n1) (e_1 : (hk_set h s0 (.inl (0, n1, .inl (upd f2 j4 s2)))) = h_1) (hg8 : h_1.2 r0 = some (.inr (0, fs7))) (hv10 : fs7[3]? = some (.ref v9)) (hv12 : fs7[2]? = some (.ref v11)) (ha15 : h_1.2 v11 = some (.inl (0, n13, .inl f14))) (j16 : Nat) (hi17 : (x3 : Int32).toInt = (j16 : Int)) (hj18 : j16 < n13) (hdis : hk_dis yX5_profit ci_ M' 3) (hrec : h_1.2 r1 = some (.inr (ci_, fs_))) (hc : hk_Ci G M' d 0 0 [.ref r1, .int x2, .int x3, .int (f14 j16)] h_1 (fun z h' => hk_S G m_X0_stand (d + 1) cb sb 45 [some (.ref r0), some (.ref r1), some (.int x2), some (.int x3)] [.int z, .int x3, .ref v9] h' Q)) : hk_S G m_X0_stand (d + 1) cb sb 27 [some (.ref r0), some (.ref r1), some (.int x2), some (.int x3)] [.int s2, .int s1, .ref s0] h Q := by
  subst e_1
  refine hs_iast j4 dX0_stand_27 ha3 h4_s0 hi5 hj6 ?_
  refine hs_aload_n dX0_stand_28 rfl ?_
  refine hs_get dX0_stand_29 fl_X0_22_0 hg8 hv10 ?_
  refine hs_iload_n dX0_stand_32 rfl ?_
  refine hs_aload_n dX0_stand_33 rfl ?_
  refine hs_iload_n dX0_stand_34 rfl ?_
  refine hs_iload_n dX0_stand_35 rfl ?_
  refine hs_aload_n dX0_stand_36 rfl ?_
  refine hs_get dX0_stand_37 fl_X0_19_0 hg8 hv12 ?_
  refine hs_iload_n dX0_stand_40 rfl ?_
  refine hs_iald j16 dX0_stand_41 ha15 hi17 hj18 ?_
  exact hk_z0 (hs_dis (x := yX5_profit) (vs := [.int x2, .int x3, .int (f14 j16)]) (c1 := 0) (s1 := 0) dX0_stand_42 wd_587 hdis hrec rfl (Nat.le_of_ble_eq_true rfl) hc hq_i (hc_i (fun z h9 k9 => k9)))
theorem b_X0_stand_45 {G : hk_G} {d cb sb : Nat} {h : hk_H} {Q : hk_O → hk_H → Prop} {s0 : Nat} {s1 : Int32} {s2 : Int32} {n1 : Nat} {f2 : Nat → Int32} {h_1 : hk_H} {x3 : Int32} {o0 : Option Value} {o1 : Option Value} {o2 : Option Value} (ha3 : h.2 s0 = some (.inl (0, n1, .inl f2))) (h4_s0 : 4 ≤ s0) (j4 : Nat) (hi5 : (s1 : Int32).toInt = (j4 : Int)) (hj6 : j4 < n1) (e_1 : (hk_set h s0 (.inl (0, n1, .inl (upd f2 j4 s2)))) = h_1) (k : hk_S G m_X0_stand (d + 1) cb sb 2 [o0, o1, o2, some (.int (x3 + 1))] [] h_1 Q) (ho2 : hk_c1 o2 := by first | exact hk_c1i | exact hk_c1r | exact hk_c10 | exact hk_c1n) : hk_S G m_X0_stand (d + 1) cb sb 45 [o0, o1, o2, some (.int x3)] [.int s2, .int s1, .ref s0] h Q := by
  subst e_1
  refine hs_iast j4 dX0_stand_45 ha3 h4_s0 hi5 hj6 ?_
  refine hs_iincK (v := 1) dX0_stand_46 rfl (by decide) (by decide) (hk_nk1 rfl ho2) rfl ?_
  refine hs_goto dX0_stand_49 (tgt := 2) (by decide) ?_
  exact k
theorem b_X0_stand_52 {G : hk_G} {d cb sb : Nat} {h : hk_H} {Q : hk_O → hk_H → Prop} {o0 : Option Value} {o1 : Option Value} {o2 : Option Value} {o3 : Option Value} (hq : Q (.inl none) h) : hk_S G m_X0_stand (d + 1) cb sb 52 [o0, o1, o2, o3] [] h Q := by
  exact hs_vret dX0_stand_52 rfl hq
-- HonestHouse$Heap.mayLie()Z
theorem b_X0_mayLie_0 {G : hk_G} {d cb sb : Nat} {h : hk_H} {Q : hk_O → hk_H → Prop} {o0 : Option Value} {o1 : Option Value} (k : hk_S G m_X0_mayLie (d + 1) cb sb 2 [o0, some (.int 0)] [] h Q) (ho0 : hk_c1 o0 := by first | exact hk_c1i | exact hk_c1r | exact hk_c10 | exact hk_c1n) : hk_S G m_X0_mayLie (d + 1) cb sb 0 [o0, o1] [] h Q := by
  refine hs_iconst (v := 0) dX0_mayLie_0 (by decide) ?_
  refine hs_istK_n dX0_mayLie_1 (by decide) (hk_nk1 rfl ho0) rfl ?_
  exact k
theorem b_X0_mayLie_2 {G : hk_G} {d cb sb : Nat} {h : hk_H} {Q : hk_O → hk_H → Prop} {x1 : Int32} {r0 : Nat} {fs1 : List Value} {v3 : Nat} {fs5 : List Value} {v7 : Int32} (hg2 : h.2 r0 = some (.inr (0, fs1))) (hv4 : fs1[0]? = some (.ref v3)) (hg6 : h.2 v3 = some (.inr (8, fs5))) (hv8 : fs5[1]? = some (.int v7)) (kt : v7 ≤ x1 → hk_S G m_X0_mayLie (d + 1) cb sb 29 [some (.ref r0), some (.int x1)] [] h Q) (kf : ¬ v7 ≤ x1 → hk_S G m_X0_mayLie (d + 1) cb sb 13 [some (.ref r0), some (.int x1)] [] h Q) : hk_S G m_X0_mayLie (d + 1) cb sb 2 [some (.ref r0), some (.int x1)] [] h Q := by
  refine hs_iload_n dX0_mayLie_2 rfl ?_
  refine hs_aload_n dX0_mayLie_3 rfl ?_
  refine hs_get dX0_mayLie_4 fl_X0_9_0 hg2 hv4 ?_
  refine hs_get dX0_mayLie_7 fl_X0_116_8 hg6 hv8 ?_
  exact hs_icmp_ge dX0_mayLie_10 (by decide) kt kf
theorem b_X0_mayLie_13 {G : hk_G} {d cb sb : Nat} {h : hk_H} {Q : hk_O → hk_H → Prop} {r0 : Nat} {x1 : Int32} {fs_ : List Value} (hrec : h.2 r0 = some (.inr (0, fs_))) (hc : hk_Ci G m_X0_mayLieFor d 0 0 [.ref r0, .int x1] h (fun z h' => hk_S G m_X0_mayLie (d + 1) cb sb 18 [some (.ref r0), some (.int x1)] [.int z] h' Q)) : hk_S G m_X0_mayLie (d + 1) cb sb 13 [some (.ref r0), some (.int x1)] [] h Q := by
  refine hs_aload_n dX0_mayLie_13 rfl ?_
  refine hs_iload_n dX0_mayLie_14 rfl ?_
  exact hk_z0 (hs_vir (M' := m_X0_mayLieFor) (vs := [.int x1]) (c1 := 0) (s1 := 0) dX0_mayLie_15 wd_592 vi_X0_mayLieFor hrec rfl (Nat.le_of_ble_eq_true rfl) hc hq_i (hc_i (fun z h9 k9 => k9)))
theorem b_X0_mayLie_18 {G : hk_G} {d cb sb : Nat} {h : hk_H} {Q : hk_O → hk_H → Prop} {s0 : Int32} {o0 : Option Value} {o1 : Option Value} (kt : s0 = 0 → hk_S G m_X0_mayLie (d + 1) cb sb 23 [o0, o1] [] h Q) (kf : ¬ s0 = 0 → hk_S G m_X0_mayLie (d + 1) cb sb 21 [o0, o1] [] h Q) : hk_S G m_X0_mayLie (d + 1) cb sb 18 [o0, o1] [.int s0] h Q := by
  exact hs_if_eq dX0_mayLie_18 (by decide) kt kf
theorem b_X0_mayLie_21 {G : hk_G} {d cb sb : Nat} {h : hk_H} {Q : hk_O → hk_H → Prop} {o0 : Option Value} {o1 : Option Value} (hq : Q (.inl (some (.int 1))) h) : hk_S G m_X0_mayLie (d + 1) cb sb 21 [o0, o1] [] h Q := by
  refine hs_iconst (v := 1) dX0_mayLie_21 (by decide) ?_
  exact hs_zret dX0_mayLie_22 rfl (by decide) hq
theorem b_X0_mayLie_23 {G : hk_G} {d cb sb : Nat} {h : hk_H} {Q : hk_O → hk_H → Prop} {x1 : Int32} {o0 : Option Value} (k : hk_S G m_X0_mayLie (d + 1) cb sb 2 [o0, some (.int (x1 + 1))] [] h Q) (ho0 : hk_c1 o0 := by first | exact hk_c1i | exact hk_c1r | exact hk_c10 | exact hk_c1n) : hk_S G m_X0_mayLie (d + 1) cb sb 23 [o0, some (.int x1)] [] h Q := by
  refine hs_iincK (v := 1) dX0_mayLie_23 rfl (by decide) (by decide) (hk_nk1 rfl ho0) rfl ?_
  refine hs_goto dX0_mayLie_26 (tgt := 2) (by decide) ?_
  exact k
theorem b_X0_mayLie_29 {G : hk_G} {d cb sb : Nat} {h : hk_H} {Q : hk_O → hk_H → Prop} {o0 : Option Value} {o1 : Option Value} (hq : Q (.inl (some (.int 0))) h) : hk_S G m_X0_mayLie (d + 1) cb sb 29 [o0, o1] [] h Q := by
  refine hs_iconst (v := 0) dX0_mayLie_29 (by decide) ?_
  exact hs_zret dX0_mayLie_30 rfl (by decide) hq
-- HonestHouse$Heap.mayLieFor(I)Z
theorem b_X0_mayLieFor_0 {G : hk_G} {d cb sb : Nat} {h : hk_H} {Q : hk_O → hk_H → Prop} {o0 : Option Value} {o1 : Option Value} {o2 : Option Value} {o3 : Option Value} (k : hk_S G m_X0_mayLieFor (d + 1) cb sb 2 [o0, o1, some (.int 0), o3] [] h Q) (ho1 : hk_c1 o1 := by first | exact hk_c1i | exact hk_c1r | exact hk_c10 | exact hk_c1n) : hk_S G m_X0_mayLieFor (d + 1) cb sb 0 [o0, o1, o2, o3] [] h Q := by
  refine hs_iconst (v := 0) dX0_mayLieFor_0 (by decide) ?_
  refine hs_istK_n dX0_mayLieFor_1 (by decide) (hk_nk1 rfl ho1) rfl ?_
  exact k
theorem b_X0_mayLieFor_2 {G : hk_G} {d cb sb : Nat} {h : hk_H} {Q : hk_O → hk_H → Prop} {x2 : Int32} {r0 : Nat} {fs1 : List Value} {v3 : Nat} {fs5 : List Value} {v7 : Int32} {o1 : Option Value} {o3 : Option Value} (hg2 : h.2 r0 = some (.inr (0, fs1))) (hv4 : fs1[0]? = some (.ref v3)) (hg6 : h.2 v3 = some (.inr (8, fs5))) (hv8 : fs5[0]? = some (.int v7)) (kt : v7 ≤ x2 → hk_S G m_X0_mayLieFor (d + 1) cb sb 65 [some (.ref r0), o1, some (.int x2), o3] [] h Q) (kf : ¬ v7 ≤ x2 → hk_S G m_X0_mayLieFor (d + 1) cb sb 13 [some (.ref r0), o1, some (.int x2), o3] [] h Q) : hk_S G m_X0_mayLieFor (d + 1) cb sb 2 [some (.ref r0), o1, some (.int x2), o3] [] h Q := by
  refine hs_iload_n dX0_mayLieFor_2 rfl ?_
  refine hs_aload_n dX0_mayLieFor_3 rfl ?_
  refine hs_get dX0_mayLieFor_4 fl_X0_9_0 hg2 hv4 ?_
  refine hs_get dX0_mayLieFor_7 fl_X0_40_8 hg6 hv8 ?_
  exact hs_icmp_ge dX0_mayLieFor_10 (by decide) kt kf
theorem b_X0_mayLieFor_13 {G : hk_G} {d cb sb : Nat} {h : hk_H} {Q : hk_O → hk_H → Prop} {r0 : Nat} {fs1 : List Value} {v3 : Nat} {v5 : Nat} {x2 : Int32} {n7 : Nat} {f8 : Nat → Int32} {x1 : Int32} {fs_ : List Value} {o3 : Option Value} (hg2 : h.2 r0 = some (.inr (0, fs1))) (hv4 : fs1[0]? = some (.ref v3)) (hv6 : fs1[2]? = some (.ref v5)) (ha9 : h.2 v5 = some (.inl (0, n7, .inl f8))) (j10 : Nat) (hi11 : (x2 : Int32).toInt = (j10 : Int)) (hj12 : j10 < n7) (hrec : h.2 v3 = some (.inr (8, fs_))) (hc : hk_Ci G m_X8_number d 0 0 [.ref v3, .int (f8 j10), .int x1] h (fun z h' => hk_S G m_X0_mayLieFor (d + 1) cb sb 27 [some (.ref r0), some (.int x1), some (.int x2), o3] [.int z] h' Q)) : hk_S G m_X0_mayLieFor (d + 1) cb sb 13 [some (.ref r0), some (.int x1), some (.int x2), o3] [] h Q := by
  refine hs_aload_n dX0_mayLieFor_13 rfl ?_
  refine hs_get dX0_mayLieFor_14 fl_X0_9_0 hg2 hv4 ?_
  refine hs_aload_n dX0_mayLieFor_17 rfl ?_
  refine hs_get dX0_mayLieFor_18 fl_X0_19_0 hg2 hv6 ?_
  refine hs_iload_n dX0_mayLieFor_21 rfl ?_
  refine hs_iald j10 dX0_mayLieFor_22 ha9 hi11 hj12 ?_
  refine hs_iload_n dX0_mayLieFor_23 rfl ?_
  exact hk_z0 (hs_vir (M' := m_X8_number) (vs := [.int (f8 j10), .int x1]) (c1 := 0) (s1 := 0) dX0_mayLieFor_24 wd_596 vi_X8_number hrec rfl (Nat.le_of_ble_eq_true rfl) hc hq_i (hc_i (fun z h9 k9 => k9)))
theorem b_X0_mayLieFor_27 {G : hk_G} {d cb sb : Nat} {h : hk_H} {Q : hk_O → hk_H → Prop} {s0 : Int32} {r0 : Nat} {fs1 : List Value} {v3 : Nat} {x1 : Int32} {x2 : Int32} {n5 : Nat} {f6 : Nat → Int32} {o3 : Option Value} (hg2 : h.2 r0 = some (.inr (0, fs1))) (hv4 : fs1[1]? = some (.ref v3)) (ha7 : h.2 v3 = some (.inl (0, n5, .inl f6))) (j8 : Nat) (hi9 : ((x1 * 4) + x2 : Int32).toInt = (j8 : Int)) (hj10 : j8 < n5) (hc : hk_Ci G m_X0_isMember d 0 0 [.ref r0, .int x2] h (fun z h' => hk_S G m_X0_mayLieFor (d + 1) cb sb 44 [some (.ref r0), some (.int x1), some (.int x2), some (.int (s0 - (f6 j8)))] [.int z] h' Q)) : hk_S G m_X0_mayLieFor (d + 1) cb sb 27 [some (.ref r0), some (.int x1), some (.int x2), o3] [.int s0] h Q := by
  refine hs_aload_n dX0_mayLieFor_27 rfl ?_
  refine hs_get dX0_mayLieFor_28 fl_X0_15_0 hg2 hv4 ?_
  refine hs_iload_n dX0_mayLieFor_31 rfl ?_
  refine hs_iconst (v := 4) dX0_mayLieFor_32 (by decide) ?_
  refine hs_imul dX0_mayLieFor_33 ?_
  refine hs_iload_n dX0_mayLieFor_34 rfl ?_
  refine hs_iadd dX0_mayLieFor_35 ?_
  refine hs_iald j8 dX0_mayLieFor_36 ha7 hi9 hj10 ?_
  refine hs_isub dX0_mayLieFor_37 ?_
  refine hs_istK_n dX0_mayLieFor_38 (by decide) (hk_nk1 rfl hk_c1i) rfl ?_
  refine hs_aload_n dX0_mayLieFor_39 rfl ?_
  refine hs_iload_n dX0_mayLieFor_40 rfl ?_
  exact hk_z0 (hs_vir (M' := m_X0_isMember) (vs := [.int x2]) (c1 := 0) (s1 := 0) dX0_mayLieFor_41 wd_561 vi_X0_isMember hg2 rfl (Nat.le_of_ble_eq_true rfl) hc hq_i (hc_i (fun z h9 k9 => k9)))
theorem b_X0_mayLieFor_44 {G : hk_G} {d cb sb : Nat} {h : hk_H} {Q : hk_O → hk_H → Prop} {s0 : Int32} {o0 : Option Value} {o1 : Option Value} {o2 : Option Value} {o3 : Option Value} (kt : s0 = 0 → hk_S G m_X0_mayLieFor (d + 1) cb sb 59 [o0, o1, o2, o3] [] h Q) (kf : ¬ s0 = 0 → hk_S G m_X0_mayLieFor (d + 1) cb sb 47 [o0, o1, o2, o3] [] h Q) : hk_S G m_X0_mayLieFor (d + 1) cb sb 44 [o0, o1, o2, o3] [.int s0] h Q := by
  exact hs_if_eq dX0_mayLieFor_44 (by decide) kt kf
theorem b_X0_mayLieFor_47 {G : hk_G} {d cb sb : Nat} {h : hk_H} {Q : hk_O → hk_H → Prop} {x3 : Int32} {r0 : Nat} {fs1 : List Value} {v3 : Nat} {x2 : Int32} {n5 : Nat} {f6 : Nat → Int32} {o1 : Option Value} (hg2 : h.2 r0 = some (.inr (0, fs1))) (hv4 : fs1[3]? = some (.ref v3)) (ha7 : h.2 v3 = some (.inl (0, n5, .inl f6))) (j8 : Nat) (hi9 : (x2 : Int32).toInt = (j8 : Int)) (hj10 : j8 < n5) (kt : (f6 j8) < x3 → hk_S G m_X0_mayLieFor (d + 1) cb sb 59 [some (.ref r0), o1, some (.int x2), some (.int x3)] [] h Q) (kf : ¬ (f6 j8) < x3 → hk_S G m_X0_mayLieFor (d + 1) cb sb 57 [some (.ref r0), o1, some (.int x2), some (.int x3)] [] h Q) : hk_S G m_X0_mayLieFor (d + 1) cb sb 47 [some (.ref r0), o1, some (.int x2), some (.int x3)] [] h Q := by
  refine hs_iload_n dX0_mayLieFor_47 rfl ?_
  refine hs_aload_n dX0_mayLieFor_48 rfl ?_
  refine hs_get dX0_mayLieFor_49 fl_X0_22_0 hg2 hv4 ?_
  refine hs_iload_n dX0_mayLieFor_52 rfl ?_
  refine hs_iald j8 dX0_mayLieFor_53 ha7 hi9 hj10 ?_
  exact hs_icmp_gt dX0_mayLieFor_54 (by decide) kt kf
theorem b_X0_mayLieFor_57 {G : hk_G} {d cb sb : Nat} {h : hk_H} {Q : hk_O → hk_H → Prop} {o0 : Option Value} {o1 : Option Value} {o2 : Option Value} {o3 : Option Value} (hq : Q (.inl (some (.int 0))) h) : hk_S G m_X0_mayLieFor (d + 1) cb sb 57 [o0, o1, o2, o3] [] h Q := by
  refine hs_iconst (v := 0) dX0_mayLieFor_57 (by decide) ?_
  exact hs_zret dX0_mayLieFor_58 rfl (by decide) hq
theorem b_X0_mayLieFor_59 {G : hk_G} {d cb sb : Nat} {h : hk_H} {Q : hk_O → hk_H → Prop} {x2 : Int32} {o0 : Option Value} {o1 : Option Value} {o3 : Option Value} (k : hk_S G m_X0_mayLieFor (d + 1) cb sb 2 [o0, o1, some (.int (x2 + 1)), o3] [] h Q) (ho1 : hk_c1 o1 := by first | exact hk_c1i | exact hk_c1r | exact hk_c10 | exact hk_c1n) : hk_S G m_X0_mayLieFor (d + 1) cb sb 59 [o0, o1, some (.int x2), o3] [] h Q := by
  refine hs_iincK (v := 1) dX0_mayLieFor_59 rfl (by decide) (by decide) (hk_nk1 rfl ho1) rfl ?_
  refine hs_goto dX0_mayLieFor_62 (tgt := 2) (by decide) ?_
  exact k
theorem b_X0_mayLieFor_65 {G : hk_G} {d cb sb : Nat} {h : hk_H} {Q : hk_O → hk_H → Prop} {o0 : Option Value} {o1 : Option Value} {o2 : Option Value} {o3 : Option Value} (hq : Q (.inl (some (.int 1))) h) : hk_S G m_X0_mayLieFor (d + 1) cb sb 65 [o0, o1, o2, o3] [] h Q := by
  refine hs_iconst (v := 1) dX0_mayLieFor_65 (by decide) ?_
  exact hs_zret dX0_mayLieFor_66 rfl (by decide) hq
-- HonestHouse$Heap.allGain(LHonestHouse$Table;I)Z
theorem b_X0_allGain_0 {G : hk_G} {d cb sb : Nat} {h : hk_H} {Q : hk_O → hk_H → Prop} {o0 : Option Value} {o1 : Option Value} {o2 : Option Value} {o3 : Option Value} (k : hk_S G m_X0_allGain (d + 1) cb sb 2 [o0, o1, o2, some (.int 0)] [] h Q) (ho2 : hk_c1 o2 := by first | exact hk_c1i | exact hk_c1r | exact hk_c10 | exact hk_c1n) : hk_S G m_X0_allGain (d + 1) cb sb 0 [o0, o1, o2, o3] [] h Q := by
  refine hs_iconst (v := 0) dX0_allGain_0 (by decide) ?_
  refine hs_istK_n dX0_allGain_1 (by decide) (hk_nk1 rfl ho2) rfl ?_
  exact k
theorem b_X0_allGain_2 {G : hk_G} {d cb sb : Nat} {h : hk_H} {Q : hk_O → hk_H → Prop} {x3 : Int32} {r0 : Nat} {fs1 : List Value} {v3 : Nat} {fs5 : List Value} {v7 : Int32} {o1 : Option Value} {o2 : Option Value} (hg2 : h.2 r0 = some (.inr (0, fs1))) (hv4 : fs1[0]? = some (.ref v3)) (hg6 : h.2 v3 = some (.inr (8, fs5))) (hv8 : fs5[0]? = some (.int v7)) (kt : v7 ≤ x3 → hk_S G m_X0_allGain (d + 1) cb sb 50 [some (.ref r0), o1, o2, some (.int x3)] [] h Q) (kf : ¬ v7 ≤ x3 → hk_S G m_X0_allGain (d + 1) cb sb 13 [some (.ref r0), o1, o2, some (.int x3)] [] h Q) : hk_S G m_X0_allGain (d + 1) cb sb 2 [some (.ref r0), o1, o2, some (.int x3)] [] h Q := by
  refine hs_iload_n dX0_allGain_2 rfl ?_
  refine hs_aload_n dX0_allGain_3 rfl ?_
  refine hs_get dX0_allGain_4 fl_X0_9_0 hg2 hv4 ?_
  refine hs_get dX0_allGain_7 fl_X0_40_8 hg6 hv8 ?_
  exact hs_icmp_ge dX0_allGain_10 (by decide) kt kf
theorem b_X0_allGain_13 {G : hk_G} {d cb sb : Nat} {h : hk_H} {Q : hk_O → hk_H → Prop} {r0 : Nat} {x3 : Int32} {fs_ : List Value} {o1 : Option Value} {o2 : Option Value} (hrec : h.2 r0 = some (.inr (0, fs_))) (hc : hk_Ci G m_X0_isMember d 0 0 [.ref r0, .int x3] h (fun z h' => hk_S G m_X0_allGain (d + 1) cb sb 18 [some (.ref r0), o1, o2, some (.int x3)] [.int z] h' Q)) : hk_S G m_X0_allGain (d + 1) cb sb 13 [some (.ref r0), o1, o2, some (.int x3)] [] h Q := by
  refine hs_aload_n dX0_allGain_13 rfl ?_
  refine hs_iload_n dX0_allGain_14 rfl ?_
  exact hk_z0 (hs_vir (M' := m_X0_isMember) (vs := [.int x3]) (c1 := 0) (s1 := 0) dX0_allGain_15 wd_561 vi_X0_isMember hrec rfl (Nat.le_of_ble_eq_true rfl) hc hq_i (hc_i (fun z h9 k9 => k9)))
theorem b_X0_allGain_18 {G : hk_G} {d cb sb : Nat} {h : hk_H} {Q : hk_O → hk_H → Prop} {s0 : Int32} {o0 : Option Value} {o1 : Option Value} {o2 : Option Value} {o3 : Option Value} (kt : s0 = 0 → hk_S G m_X0_allGain (d + 1) cb sb 44 [o0, o1, o2, o3] [] h Q) (kf : ¬ s0 = 0 → hk_S G m_X0_allGain (d + 1) cb sb 21 [o0, o1, o2, o3] [] h Q) : hk_S G m_X0_allGain (d + 1) cb sb 18 [o0, o1, o2, o3] [.int s0] h Q := by
  exact hs_if_eq dX0_allGain_18 (by decide) kt kf
theorem b_X0_allGain_21 {G : hk_G} {d cb sb : Nat} {h : hk_H} {Q : hk_O → hk_H → Prop} {r1 : Nat} {x2 : Int32} {x3 : Int32} {r0 : Nat} {fs1 : List Value} {v3 : Nat} {n5 : Nat} {f6 : Nat → Int32} {M' : hk_M} {ci_ : Nat} {fs_ : List Value} (hg2 : h.2 r0 = some (.inr (0, fs1))) (hv4 : fs1[2]? = some (.ref v3)) (ha7 : h.2 v3 = some (.inl (0, n5, .inl f6))) (j8 : Nat) (hi9 : (x3 : Int32).toInt = (j8 : Int)) (hj10 : j8 < n5) (hdis : hk_dis yX5_profit ci_ M' 3) (hrec : h.2 r1 = some (.inr (ci_, fs_))) (hc : hk_Ci G M' d 0 0 [.ref r1, .int x2, .int x3, .int (f6 j8)] h (fun z h' => hk_S G m_X0_allGain (d + 1) cb sb 33 [some (.ref r0), some (.ref r1), some (.int x2), some (.int x3)] [.int z] h' Q)) : hk_S G m_X0_allGain (d + 1) cb sb 21 [some (.ref r0), some (.ref r1), some (.int x2), some (.int x3)] [] h Q := by
  refine hs_aload_n dX0_allGain_21 rfl ?_
  refine hs_iload_n dX0_allGain_22 rfl ?_
  refine hs_iload_n dX0_allGain_23 rfl ?_
  refine hs_aload_n dX0_allGain_24 rfl ?_
  refine hs_get dX0_allGain_25 fl_X0_19_0 hg2 hv4 ?_
  refine hs_iload_n dX0_allGain_28 rfl ?_
  refine hs_iald j8 dX0_allGain_29 ha7 hi9 hj10 ?_
  exact hk_z0 (hs_dis (x := yX5_profit) (vs := [.int x2, .int x3, .int (f6 j8)]) (c1 := 0) (s1 := 0) dX0_allGain_30 wd_587 hdis hrec rfl (Nat.le_of_ble_eq_true rfl) hc hq_i (hc_i (fun z h9 k9 => k9)))
theorem b_X0_allGain_33 {G : hk_G} {d cb sb : Nat} {h : hk_H} {Q : hk_O → hk_H → Prop} {s0 : Int32} {r0 : Nat} {fs1 : List Value} {v3 : Nat} {x3 : Int32} {n5 : Nat} {f6 : Nat → Int32} {o1 : Option Value} {o2 : Option Value} (hg2 : h.2 r0 = some (.inr (0, fs1))) (hv4 : fs1[3]? = some (.ref v3)) (ha7 : h.2 v3 = some (.inl (0, n5, .inl f6))) (j8 : Nat) (hi9 : (x3 : Int32).toInt = (j8 : Int)) (hj10 : j8 < n5) (kt : (f6 j8) < s0 → hk_S G m_X0_allGain (d + 1) cb sb 44 [some (.ref r0), o1, o2, some (.int x3)] [] h Q) (kf : ¬ (f6 j8) < s0 → hk_S G m_X0_allGain (d + 1) cb sb 42 [some (.ref r0), o1, o2, some (.int x3)] [] h Q) : hk_S G m_X0_allGain (d + 1) cb sb 33 [some (.ref r0), o1, o2, some (.int x3)] [.int s0] h Q := by
  refine hs_aload_n dX0_allGain_33 rfl ?_
  refine hs_get dX0_allGain_34 fl_X0_22_0 hg2 hv4 ?_
  refine hs_iload_n dX0_allGain_37 rfl ?_
  refine hs_iald j8 dX0_allGain_38 ha7 hi9 hj10 ?_
  exact hs_icmp_gt dX0_allGain_39 (by decide) kt kf
theorem b_X0_allGain_42 {G : hk_G} {d cb sb : Nat} {h : hk_H} {Q : hk_O → hk_H → Prop} {o0 : Option Value} {o1 : Option Value} {o2 : Option Value} {o3 : Option Value} (hq : Q (.inl (some (.int 0))) h) : hk_S G m_X0_allGain (d + 1) cb sb 42 [o0, o1, o2, o3] [] h Q := by
  refine hs_iconst (v := 0) dX0_allGain_42 (by decide) ?_
  exact hs_zret dX0_allGain_43 rfl (by decide) hq
theorem b_X0_allGain_44 {G : hk_G} {d cb sb : Nat} {h : hk_H} {Q : hk_O → hk_H → Prop} {x3 : Int32} {o0 : Option Value} {o1 : Option Value} {o2 : Option Value} (k : hk_S G m_X0_allGain (d + 1) cb sb 2 [o0, o1, o2, some (.int (x3 + 1))] [] h Q) (ho2 : hk_c1 o2 := by first | exact hk_c1i | exact hk_c1r | exact hk_c10 | exact hk_c1n) : hk_S G m_X0_allGain (d + 1) cb sb 44 [o0, o1, o2, some (.int x3)] [] h Q := by
  refine hs_iincK (v := 1) dX0_allGain_44 rfl (by decide) (by decide) (hk_nk1 rfl ho2) rfl ?_
  refine hs_goto dX0_allGain_47 (tgt := 2) (by decide) ?_
  exact k
theorem b_X0_allGain_50 {G : hk_G} {d cb sb : Nat} {h : hk_H} {Q : hk_O → hk_H → Prop} {o0 : Option Value} {o1 : Option Value} {o2 : Option Value} {o3 : Option Value} (hq : Q (.inl (some (.int 1))) h) : hk_S G m_X0_allGain (d + 1) cb sb 50 [o0, o1, o2, o3] [] h Q := by
  refine hs_iconst (v := 1) dX0_allGain_50 (by decide) ?_
  exact hs_zret dX0_allGain_51 rfl (by decide) hq
