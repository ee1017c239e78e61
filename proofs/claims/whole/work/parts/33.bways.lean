-- HonestHouse$Ways.<init>(LHonestHouse$Wishes;)V
theorem b_X6_init_0 {G : hk_G} {d cb sb : Nat} {h : hk_H} {Q : hk_O → hk_H → Prop} {r0 : Nat} {r1 : Nat} {fs1 : List Value} {h_1 : hk_H} {h_2 : hk_H} {fs4 : List Value} {h_3 : hk_H} {h_4 : hk_H} {fs7 : List Value} {h_5 : hk_H} {h_6 : hk_H} {fs10 : List Value} {h_7 : hk_H} {h_8 : hk_H} {fs16 : List Value} {h_9 : hk_H} (hg2 : h.2 r0 = some (.inr (6, fs1))) (h4_r0 : 4 ≤ r0) (e_1 : (hk_set h r0 (.inr (6, fs1.set 0 (.ref r1)))) = h_1) (e_2 : (hk_new h_1 (.inl (2, 5, .inl (fun _ => 0)))) = h_2) (hg5 : h_2.2 r0 = some (.inr (6, fs4))) (e_3 : (hk_set h_2 r0 (.inr (6, fs4.set 1 (.ref h_1.1)))) = h_3) (e_4 : (hk_new h_3 (.inl (0, 25, .inl (fun _ => 0)))) = h_4) (hg8 : h_4.2 r0 = some (.inr (6, fs7))) (e_5 : (hk_set h_4 r0 (.inr (6, fs7.set 2 (.ref h_3.1)))) = h_5) (e_6 : (hk_new h_5 (.inl (0, 25, .inl (fun _ => 0)))) = h_6) (hg11 : h_6.2 r0 = some (.inr (6, fs10))) (e_7 : (hk_set h_6 r0 (.inr (6, fs10.set 3 (.ref h_5.1)))) = h_7) (N13 : Nat) (hn14 : (160 : Int32).toInt = (N13 : Int)) (hb15 : N13 ≤ 1000000) (e_8 : (hk_new h_7 (.inl (0, N13, .inl (fun _ => 0)))) = h_8) (hg17 : h_8.2 r0 = some (.inr (6, fs16))) (e_9 : (hk_set h_8 r0 (.inr (6, fs16.set 4 (.ref h_7.1)))) = h_9) (hq : Q (.inl none) h_9) (hl3 : 0 < fs1.length := by exact Nat.le_of_ble_eq_true rfl) (hl6 : 1 < fs4.length := by exact Nat.le_of_ble_eq_true rfl) (hl9 : 2 < fs7.length := by exact Nat.le_of_ble_eq_true rfl) (hl12 : 3 < fs10.length := by exact Nat.le_of_ble_eq_true rfl) (hl18 : 4 < fs16.length := by exact Nat.le_of_ble_eq_true rfl) : hk_S G m_X6_init d ((((cb + 1) + 1) + 1) + 1) ((((sb + N13) + 25) + 25) + 5) 0 [some (.ref r0), some (.ref r1)] [] h Q := by
  subst e_1
  subst e_2
  subst e_3
  subst e_4
  subst e_5
  subst e_6
  subst e_7
  subst e_8
  subst e_9
  refine hs_aload_n dX6_init_0 rfl ?_
  refine hs_objInit (a := r0) dX6_init_1 ⟨wd_106, oi_.1, oi_.2⟩ (Nat.le_of_ble_eq_true rfl) ?_
  refine hs_aload_n dX6_init_4 rfl ?_
  refine hs_aload_n dX6_init_5 rfl ?_
  refine hs_putF (t := .object "HonestHouse$Wishes") dX6_init_6 rfl fw_X6_9_6 hg2 h4_r0 hl3 rfl rfl ?_
  refine hs_aload_n dX6_init_9 rfl ?_
  refine hs_iconst (v := 5) dX6_init_10 (by decide) ?_
  refine hs_newz (N := 5) dX6_init_11 (by decide) (by decide) ?_
  refine hs_putF (t := .array .boolean) dX6_init_13 rfl fw_X6_15_6 hg5 h4_r0 hl6 rfl rfl ?_
  refine hs_aload_n dX6_init_16 rfl ?_
  refine hs_bipush (v := 25) dX6_init_17 (by decide) ?_
  refine hs_newi (N := 25) dX6_init_19 (by decide) (by decide) ?_
  refine hs_putF (t := .array .int) dX6_init_21 rfl fw_X6_19_6 hg8 h4_r0 hl9 rfl rfl ?_
  refine hs_aload_n dX6_init_24 rfl ?_
  refine hs_bipush (v := 25) dX6_init_25 (by decide) ?_
  refine hs_newi (N := 25) dX6_init_27 (by decide) (by decide) ?_
  refine hs_putF (t := .array .int) dX6_init_29 rfl fw_X6_23_6 hg11 h4_r0 hl12 rfl rfl ?_
  refine hs_aload_n dX6_init_32 rfl ?_
  refine hs_sipush (v := 160) dX6_init_33 (by decide) ?_
  refine hs_newi (N := N13) dX6_init_36 hn14 hb15 ?_
  refine hs_putF (t := .array .int) dX6_init_38 rfl fw_X6_26_6 hg17 h4_r0 hl18 rfl rfl ?_
  exact hs_vret dX6_init_41 rfl hq
-- HonestHouse$Ways.look(LHonestHouse$Table;II)V
theorem b_X6_look_0 {G : hk_G} {d cb sb : Nat} {h : hk_H} {Q : hk_O → hk_H → Prop} {o0 : Option Value} {o1 : Option Value} {o2 : Option Value} {o3 : Option Value} {o4 : Option Value} (k : hk_S G m_X6_look (d + 1) cb sb 3 [o0, o1, o2, o3, some (.int 0)] [] h Q) (ho3 : hk_c1 o3 := by first | exact hk_c1i | exact hk_c1r | exact hk_c10 | exact hk_c1n) : hk_S G m_X6_look (d + 1) cb sb 0 [o0, o1, o2, o3, o4] [] h Q := by
  refine hs_iconst (v := 0) dX6_look_0 (by decide) ?_
  refine hs_istK dX6_look_1 (by decide) (hk_nk1 rfl ho3) rfl ?_
  exact k
theorem b_X6_look_3 {G : hk_G} {d cb sb : Nat} {h : hk_H} {Q : hk_O → hk_H → Prop} {x4 : Int32} {o0 : Option Value} {o1 : Option Value} {o2 : Option Value} {o3 : Option Value} (kt : 5 ≤ x4 → hk_S G m_X6_look (d + 1) cb sb 23 [o0, o1, o2, o3, some (.int x4)] [] h Q) (kf : ¬ 5 ≤ x4 → hk_S G m_X6_look (d + 1) cb sb 9 [o0, o1, o2, o3, some (.int x4)] [] h Q) : hk_S G m_X6_look (d + 1) cb sb 3 [o0, o1, o2, o3, some (.int x4)] [] h Q := by
  refine hs_iload dX6_look_3 rfl ?_
  refine hs_iconst (v := 5) dX6_look_5 (by decide) ?_
  exact hs_icmp_ge dX6_look_6 (by decide) kt kf
theorem b_X6_look_9 {G : hk_G} {d cb sb : Nat} {h : hk_H} {Q : hk_O → hk_H → Prop} {r0 : Nat} {fs1 : List Value} {v3 : Nat} {x4 : Int32} {n5 : Nat} {f6 : Nat → Int32} {h_1 : hk_H} {o1 : Option Value} {o2 : Option Value} {o3 : Option Value} (hg2 : h.2 r0 = some (.inr (6, fs1))) (hv4 : fs1[1]? = some (.ref v3)) (ha7 : h.2 v3 = some (.inl (2, n5, .inl f6))) (h4_v3 : 4 ≤ v3) (j8 : Nat) (hi9 : (x4 : Int32).toInt = (j8 : Int)) (hj10 : j8 < n5) (e_1 : (hk_set h v3 (.inl (2, n5, .inl (upd f6 j8 0)))) = h_1) (k : hk_S G m_X6_look (d + 1) cb sb 3 [some (.ref r0), o1, o2, o3, some (.int (x4 + 1))] [] h_1 Q) (ho3 : hk_c1 o3 := by first | exact hk_c1i | exact hk_c1r | exact hk_c10 | exact hk_c1n) : hk_S G m_X6_look (d + 1) cb sb 9 [some (.ref r0), o1, o2, o3, some (.int x4)] [] h Q := by
  subst e_1
  refine hs_aload_n dX6_look_9 rfl ?_
  refine hs_get dX6_look_10 fl_X6_15_6 hg2 hv4 ?_
  refine hs_iload dX6_look_13 rfl ?_
  refine hs_iconst (v := 0) dX6_look_15 (by decide) ?_
  refine hs_zast j8 dX6_look_16 ha7 h4_v3 hi9 hj10 (by decide) ?_
  refine hs_iincK (v := 1) dX6_look_17 rfl (by decide) (by decide) (hk_nk1 rfl ho3) rfl ?_
  refine hs_goto dX6_look_20 (tgt := 3) (by decide) ?_
  exact k
theorem b_X6_look_23 {G : hk_G} {d cb sb : Nat} {h : hk_H} {Q : hk_O → hk_H → Prop} {o0 : Option Value} {o1 : Option Value} {o2 : Option Value} {o3 : Option Value} {o4 : Option Value} (k : hk_S G m_X6_look (d + 1) cb sb 26 [o0, o1, o2, o3, some (.int 0)] [] h Q) (ho3 : hk_c1 o3 := by first | exact hk_c1i | exact hk_c1r | exact hk_c10 | exact hk_c1n) : hk_S G m_X6_look (d + 1) cb sb 23 [o0, o1, o2, o3, o4] [] h Q := by
  refine hs_iconst (v := 0) dX6_look_23 (by decide) ?_
  refine hs_istK dX6_look_24 (by decide) (hk_nk1 rfl ho3) rfl ?_
  exact k
theorem b_X6_look_26 {G : hk_G} {d cb sb : Nat} {h : hk_H} {Q : hk_O → hk_H → Prop} {x4 : Int32} {r0 : Nat} {fs1 : List Value} {v3 : Nat} {fs5 : List Value} {v7 : Int32} {o1 : Option Value} {o2 : Option Value} {o3 : Option Value} (hg2 : h.2 r0 = some (.inr (6, fs1))) (hv4 : fs1[0]? = some (.ref v3)) (hg6 : h.2 v3 = some (.inr (8, fs5))) (hv8 : fs5[4]? = some (.int v7)) (kt : v7 ≤ x4 → hk_S G m_X6_look (d + 1) cb sb 65 [some (.ref r0), o1, o2, o3, some (.int x4)] [] h Q) (kf : ¬ v7 ≤ x4 → hk_S G m_X6_look (d + 1) cb sb 38 [some (.ref r0), o1, o2, o3, some (.int x4)] [] h Q) : hk_S G m_X6_look (d + 1) cb sb 26 [some (.ref r0), o1, o2, o3, some (.int x4)] [] h Q := by
  refine hs_iload dX6_look_26 rfl ?_
  refine hs_aload_n dX6_look_28 rfl ?_
  refine hs_get dX6_look_29 fl_X6_9_6 hg2 hv4 ?_
  refine hs_get dX6_look_32 fl_X6_29_8 hg6 hv8 ?_
  exact hs_icmp_ge dX6_look_35 (by decide) kt kf
theorem b_X6_look_38 {G : hk_G} {d cb sb : Nat} {h : hk_H} {Q : hk_O → hk_H → Prop} {r0 : Nat} {fs1 : List Value} {v3 : Nat} {r1 : Nat} {v5 : Nat} {x2 : Int32} {x3 : Int32} {x4 : Int32} {fs_ : List Value} (hg2 : h.2 r0 = some (.inr (6, fs1))) (hv4 : fs1[1]? = some (.ref v3)) (hv6 : fs1[0]? = some (.ref v5)) (hrec : h.2 v5 = some (.inr (8, fs_))) (hc : hk_Ci G m_X8_rowSaying d 0 0 [.ref v5, .int x2, .int x3, .int x4] h (fun z h' => hk_S G m_X6_look (d + 1) cb sb 54 [some (.ref r0), some (.ref r1), some (.int x2), some (.int x3), some (.int x4)] [.int z, .ref r1, .ref v3] h' Q)) : hk_S G m_X6_look (d + 1) cb sb 38 [some (.ref r0), some (.ref r1), some (.int x2), some (.int x3), some (.int x4)] [] h Q := by
  refine hs_aload_n dX6_look_38 rfl ?_
  refine hs_get dX6_look_39 fl_X6_15_6 hg2 hv4 ?_
  refine hs_aload_n dX6_look_42 rfl ?_
  refine hs_aload_n dX6_look_43 rfl ?_
  refine hs_get dX6_look_44 fl_X6_9_6 hg2 hv6 ?_
  refine hs_iload_n dX6_look_47 rfl ?_
  refine hs_iload_n dX6_look_48 rfl ?_
  refine hs_iload dX6_look_49 rfl ?_
  exact hk_z0 (hs_vir (M' := m_X8_rowSaying) (vs := [.int x2, .int x3, .int x4]) (c1 := 0) (s1 := 0) dX6_look_51 wd_639 vi_X8_rowSaying hrec rfl (Nat.le_of_ble_eq_true rfl) hc hq_i (hc_i (fun z h9 k9 => k9)))
theorem b_X6_look_54 {G : hk_G} {d cb sb : Nat} {h : hk_H} {Q : hk_O → hk_H → Prop} {s0 : Nat} {s1 : Nat} {s2 : Int32} {M' : hk_M} {ci_ : Nat} {fs_ : List Value} {o0 : Option Value} {o1 : Option Value} {o2 : Option Value} {o3 : Option Value} {o4 : Option Value} (hdis : hk_dis yX5_endAt ci_ M' 1) (hrec : h.2 s1 = some (.inr (ci_, fs_))) (hc : hk_Ci G M' d 0 0 [.ref s1, .int s2] h (fun z h' => hk_S G m_X6_look (d + 1) cb sb 57 [o0, o1, o2, o3, o4] [.int z, .ref s0] h' Q)) : hk_S G m_X6_look (d + 1) cb sb 54 [o0, o1, o2, o3, o4] [.int s2, .ref s1, .ref s0] h Q := by
  exact hk_z0 (hs_dis (x := yX5_endAt) (vs := [.int s2]) (c1 := 0) (s1 := 0) dX6_look_54 wd_640 hdis hrec rfl (Nat.le_of_ble_eq_true rfl) hc hq_i (hc_i (fun z h9 k9 => k9)))
theorem b_X6_look_57 {G : hk_G} {d cb sb : Nat} {h : hk_H} {Q : hk_O → hk_H → Prop} {s0 : Nat} {s1 : Int32} {n1 : Nat} {f2 : Nat → Int32} {h_1 : hk_H} {x4 : Int32} {o0 : Option Value} {o1 : Option Value} {o2 : Option Value} {o3 : Option Value} (ha3 : h.2 s0 = some (.inl (2, n1, .inl f2))) (h4_s0 : 4 ≤ s0) (j4 : Nat) (hi5 : (s1 : Int32).toInt = (j4 : Int)) (hj6 : j4 < n1) (e_1 : (hk_set h s0 (.inl (2, n1, .inl (upd f2 j4 1)))) = h_1) (k : hk_S G m_X6_look (d + 1) cb sb 26 [o0, o1, o2, o3, some (.int (x4 + 1))] [] h_1 Q) (ho3 : hk_c1 o3 := by first | exact hk_c1i | exact hk_c1r | exact hk_c10 | exact hk_c1n) : hk_S G m_X6_look (d + 1) cb sb 57 [o0, o1, o2, o3, some (.int x4)] [.int s1, .ref s0] h Q := by
  subst e_1
  refine hs_iconst (v := 1) dX6_look_57 (by decide) ?_
  refine hs_zast j4 dX6_look_58 ha3 h4_s0 hi5 hj6 (by decide) ?_
  refine hs_iincK (v := 1) dX6_look_59 rfl (by decide) (by decide) (hk_nk1 rfl ho3) rfl ?_
  refine hs_goto dX6_look_62 (tgt := 26) (by decide) ?_
  exact k
theorem b_X6_look_65 {G : hk_G} {d cb sb : Nat} {h : hk_H} {Q : hk_O → hk_H → Prop} {r0 : Nat} {fs1 : List Value} {v3 : Nat} {o1 : Option Value} {o2 : Option Value} {o3 : Option Value} {o4 : Option Value} (hg2 : h.2 r0 = some (.inr (6, fs1))) (hv4 : fs1[2]? = some (.ref v3)) (hc : hk_Cv G m_J7_fill_53178 d 0 0 [.ref v3, .int 1000000] h (fun h' => hk_S G m_X6_look (d + 1) cb sb 74 [some (.ref r0), o1, o2, o3, o4] [] h' Q)) : hk_S G m_X6_look (d + 1) cb sb 65 [some (.ref r0), o1, o2, o3, o4] [] h Q := by
  refine hs_aload_n dX6_look_65 rfl ?_
  refine hs_get dX6_look_66 fl_X6_19_6 hg2 hv4 ?_
  refine hs_ldc (v := 1000000) dX6_look_69 wd_641 ?_
  exact hk_z0 (hs_sta (M' := m_J7_fill_53178) (vs := [.ref v3, .int 1000000]) (c1 := 0) (s1 := 0) dX6_look_71 wd_642 st_J7_fill_53178 rfl (Nat.le_of_ble_eq_true rfl) hc hq_v (hc_v (fun h9 k9 => k9)))
theorem b_X6_look_74 {G : hk_G} {d cb sb : Nat} {h : hk_H} {Q : hk_O → hk_H → Prop} {o0 : Option Value} {o1 : Option Value} {o2 : Option Value} {o3 : Option Value} {o4 : Option Value} (k : hk_S G m_X6_look (d + 1) cb sb 77 [o0, o1, o2, o3, some (.int 0)] [] h Q) (ho3 : hk_c1 o3 := by first | exact hk_c1i | exact hk_c1r | exact hk_c10 | exact hk_c1n) : hk_S G m_X6_look (d + 1) cb sb 74 [o0, o1, o2, o3, o4] [] h Q := by
  refine hs_iconst (v := 0) dX6_look_74 (by decide) ?_
  refine hs_istK dX6_look_75 (by decide) (hk_nk1 rfl ho3) rfl ?_
  exact k
theorem b_X6_look_77 {G : hk_G} {d cb sb : Nat} {h : hk_H} {Q : hk_O → hk_H → Prop} {x4 : Int32} {r0 : Nat} {fs1 : List Value} {v3 : Nat} {fs5 : List Value} {v7 : Int32} {o1 : Option Value} {o2 : Option Value} {o3 : Option Value} (hg2 : h.2 r0 = some (.inr (6, fs1))) (hv4 : fs1[0]? = some (.ref v3)) (hg6 : h.2 v3 = some (.inr (8, fs5))) (hv8 : fs5[4]? = some (.int v7)) (kt : v7 ≤ x4 → hk_S G m_X6_look (d + 1) cb sb 116 [some (.ref r0), o1, o2, o3, some (.int x4)] [] h Q) (kf : ¬ v7 ≤ x4 → hk_S G m_X6_look (d + 1) cb sb 89 [some (.ref r0), o1, o2, o3, some (.int x4)] [] h Q) : hk_S G m_X6_look (d + 1) cb sb 77 [some (.ref r0), o1, o2, o3, some (.int x4)] [] h Q := by
  refine hs_iload dX6_look_77 rfl ?_
  refine hs_aload_n dX6_look_79 rfl ?_
  refine hs_get dX6_look_80 fl_X6_9_6 hg2 hv4 ?_
  refine hs_get dX6_look_83 fl_X6_29_8 hg6 hv8 ?_
  exact hs_icmp_ge dX6_look_86 (by decide) kt kf
theorem b_X6_look_89 {G : hk_G} {d cb sb : Nat} {h : hk_H} {Q : hk_O → hk_H → Prop} {r0 : Nat} {x4 : Int32} {r1 : Nat} {fs1 : List Value} {v3 : Nat} {x2 : Int32} {x3 : Int32} {fs_ : List Value} (hg2 : h.2 r0 = some (.inr (6, fs1))) (hv4 : fs1[0]? = some (.ref v3)) (hrec : h.2 v3 = some (.inr (8, fs_))) (hc : hk_Ci G m_X8_rowSaying d 0 0 [.ref v3, .int x2, .int x3, .int x4] h (fun z h' => hk_S G m_X6_look (d + 1) cb sb 104 [some (.ref r0), some (.ref r1), some (.int x2), some (.int x3), some (.int x4)] [.int z, .ref r1, .int x4, .ref r0] h' Q)) : hk_S G m_X6_look (d + 1) cb sb 89 [some (.ref r0), some (.ref r1), some (.int x2), some (.int x3), some (.int x4)] [] h Q := by
  refine hs_aload_n dX6_look_89 rfl ?_
  refine hs_iload dX6_look_90 rfl ?_
  refine hs_aload_n dX6_look_92 rfl ?_
  refine hs_aload_n dX6_look_93 rfl ?_
  refine hs_get dX6_look_94 fl_X6_9_6 hg2 hv4 ?_
  refine hs_iload_n dX6_look_97 rfl ?_
  refine hs_iload_n dX6_look_98 rfl ?_
  refine hs_iload dX6_look_99 rfl ?_
  exact hk_z0 (hs_vir (M' := m_X8_rowSaying) (vs := [.int x2, .int x3, .int x4]) (c1 := 0) (s1 := 0) dX6_look_101 wd_639 vi_X8_rowSaying hrec rfl (Nat.le_of_ble_eq_true rfl) hc hq_i (hc_i (fun z h9 k9 => k9)))
theorem b_X6_look_104 {G : hk_G} {d cb sb : Nat} {h : hk_H} {Q : hk_O → hk_H → Prop} {s0 : Nat} {s1 : Int32} {s2 : Nat} {s3 : Int32} {M' : hk_M} {ci_ : Nat} {fs_ : List Value} {o0 : Option Value} {o1 : Option Value} {o2 : Option Value} {o3 : Option Value} {o4 : Option Value} (hdis : hk_dis yX5_endAt ci_ M' 1) (hrec : h.2 s2 = some (.inr (ci_, fs_))) (hc : hk_Ci G M' d 0 0 [.ref s2, .int s3] h (fun z h' => hk_S G m_X6_look (d + 1) cb sb 107 [o0, o1, o2, o3, o4] [.int z, .int s1, .ref s0] h' Q)) : hk_S G m_X6_look (d + 1) cb sb 104 [o0, o1, o2, o3, o4] [.int s3, .ref s2, .int s1, .ref s0] h Q := by
  exact hk_z0 (hs_dis (x := yX5_endAt) (vs := [.int s3]) (c1 := 0) (s1 := 0) dX6_look_104 wd_640 hdis hrec rfl (Nat.le_of_ble_eq_true rfl) hc hq_i (hc_i (fun z h9 k9 => k9)))
theorem b_X6_look_107 {G : hk_G} {d cb sb : Nat} {h : hk_H} {Q : hk_O → hk_H → Prop} {s0 : Nat} {s1 : Int32} {s2 : Int32} {fs_ : List Value} {o0 : Option Value} {o1 : Option Value} {o2 : Option Value} {o3 : Option Value} {o4 : Option Value} (hrec : h.2 s0 = some (.inr (6, fs_))) (hc : hk_Cv G m_X6_measure d 0 0 [.ref s0, .int s1, .int s2] h (fun h' => hk_S G m_X6_look (d + 1) cb sb 110 [o0, o1, o2, o3, o4] [] h' Q)) : hk_S G m_X6_look (d + 1) cb sb 107 [o0, o1, o2, o3, o4] [.int s2, .int s1, .ref s0] h Q := by
  exact hk_z0 (hs_vir (M' := m_X6_measure) (vs := [.int s1, .int s2]) (c1 := 0) (s1 := 0) dX6_look_107 wd_643 vi_X6_measure hrec rfl (Nat.le_of_ble_eq_true rfl) hc hq_v (hc_v (fun h9 k9 => k9)))
theorem b_X6_look_110 {G : hk_G} {d cb sb : Nat} {h : hk_H} {Q : hk_O → hk_H → Prop} {x4 : Int32} {o0 : Option Value} {o1 : Option Value} {o2 : Option Value} {o3 : Option Value} (k : hk_S G m_X6_look (d + 1) cb sb 77 [o0, o1, o2, o3, some (.int (x4 + 1))] [] h Q) (ho3 : hk_c1 o3 := by first | exact hk_c1i | exact hk_c1r | exact hk_c10 | exact hk_c1n) : hk_S G m_X6_look (d + 1) cb sb 110 [o0, o1, o2, o3, some (.int x4)] [] h Q := by
  refine hs_iincK (v := 1) dX6_look_110 rfl (by decide) (by decide) (hk_nk1 rfl ho3) rfl ?_
  refine hs_goto dX6_look_113 (tgt := 77) (by decide) ?_
  exact k
theorem b_X6_look_116 {G : hk_G} {d cb sb : Nat} {h : hk_H} {Q : hk_O → hk_H → Prop} {o0 : Option Value} {o1 : Option Value} {o2 : Option Value} {o3 : Option Value} {o4 : Option Value} (hq : Q (.inl none) h) : hk_S G m_X6_look (d + 1) cb sb 116 [o0, o1, o2, o3, o4] [] h Q := by
  exact hs_vret dX6_look_116 rfl hq
-- HonestHouse$Ways.measure(II)V
theorem b_X6_measure_0 {G : hk_G} {d cb sb : Nat} {h : hk_H} {Q : hk_O → hk_H → Prop} {o0 : Option Value} {o1 : Option Value} {o2 : Option Value} {o3 : Option Value} {o4 : Option Value} (k : hk_S G m_X6_measure (d + 1) cb sb 2 [o0, o1, o2, some (.int 0), o4] [] h Q) (ho2 : hk_c1 o2 := by first | exact hk_c1i | exact hk_c1r | exact hk_c10 | exact hk_c1n) : hk_S G m_X6_measure (d + 1) cb sb 0 [o0, o1, o2, o3, o4] [] h Q := by
  refine hs_iconst (v := 0) dX6_measure_0 (by decide) ?_
  refine hs_istK_n dX6_measure_1 (by decide) (hk_nk1 rfl ho2) rfl ?_
  exact k
theorem b_X6_measure_2 {G : hk_G} {d cb sb : Nat} {h : hk_H} {Q : hk_O → hk_H → Prop} {x3 : Int32} {r0 : Nat} {fs1 : List Value} {v3 : Nat} {fs5 : List Value} {v7 : Int32} {o1 : Option Value} {o2 : Option Value} {o4 : Option Value} (hg2 : h.2 r0 = some (.inr (6, fs1))) (hv4 : fs1[0]? = some (.ref v3)) (hg6 : h.2 v3 = some (.inr (8, fs5))) (hv8 : fs5[1]? = some (.int v7)) (kt : v7 ≤ x3 → hk_S G m_X6_measure (d + 1) cb sb 72 [some (.ref r0), o1, o2, some (.int x3), o4] [] h Q) (kf : ¬ v7 ≤ x3 → hk_S G m_X6_measure (d + 1) cb sb 13 [some (.ref r0), o1, o2, some (.int x3), o4] [] h Q) : hk_S G m_X6_measure (d + 1) cb sb 2 [some (.ref r0), o1, o2, some (.int x3), o4] [] h Q := by
  refine hs_iload_n dX6_measure_2 rfl ?_
  refine hs_aload_n dX6_measure_3 rfl ?_
  refine hs_get dX6_measure_4 fl_X6_9_6 hg2 hv4 ?_
  refine hs_get dX6_measure_7 fl_X6_56_8 hg6 hv8 ?_
  exact hs_icmp_ge dX6_measure_10 (by decide) kt kf
theorem b_X6_measure_13 {G : hk_G} {d cb sb : Nat} {h : hk_H} {Q : hk_O → hk_H → Prop} {r0 : Nat} {fs1 : List Value} {v3 : Nat} {x1 : Int32} {x2 : Int32} {fs_ : List Value} {o3 : Option Value} {o4 : Option Value} (hg2 : h.2 r0 = some (.inr (6, fs1))) (hv4 : fs1[0]? = some (.ref v3)) (hrec : h.2 v3 = some (.inr (8, fs_))) (hc : hk_Ci G m_X8_number d 0 0 [.ref v3, .int x1, .int x2] h (fun z h' => hk_S G m_X6_measure (d + 1) cb sb 22 [some (.ref r0), some (.int x1), some (.int x2), o3, o4] [.int z] h' Q)) : hk_S G m_X6_measure (d + 1) cb sb 13 [some (.ref r0), some (.int x1), some (.int x2), o3, o4] [] h Q := by
  refine hs_aload_n dX6_measure_13 rfl ?_
  refine hs_get dX6_measure_14 fl_X6_9_6 hg2 hv4 ?_
  refine hs_iload_n dX6_measure_17 rfl ?_
  refine hs_iload_n dX6_measure_18 rfl ?_
  exact hk_z0 (hs_vir (M' := m_X8_number) (vs := [.int x1, .int x2]) (c1 := 0) (s1 := 0) dX6_measure_19 wd_647 vi_X8_number hrec rfl (Nat.le_of_ble_eq_true rfl) hc hq_i (hc_i (fun z h9 k9 => k9)))
theorem b_X6_measure_22 {G : hk_G} {d cb sb : Nat} {h : hk_H} {Q : hk_O → hk_H → Prop} {s0 : Int32} {r0 : Nat} {fs1 : List Value} {v3 : Nat} {x1 : Int32} {x3 : Int32} {fs_ : List Value} {o2 : Option Value} {o4 : Option Value} (hg2 : h.2 r0 = some (.inr (6, fs1))) (hv4 : fs1[0]? = some (.ref v3)) (hrec : h.2 v3 = some (.inr (8, fs_))) (hc : hk_Ci G m_X8_number d 0 0 [.ref v3, .int x1, .int x3] h (fun z h' => hk_S G m_X6_measure (d + 1) cb sb 31 [some (.ref r0), some (.int x1), o2, some (.int x3), o4] [.int z, .int s0] h' Q)) : hk_S G m_X6_measure (d + 1) cb sb 22 [some (.ref r0), some (.int x1), o2, some (.int x3), o4] [.int s0] h Q := by
  refine hs_aload_n dX6_measure_22 rfl ?_
  refine hs_get dX6_measure_23 fl_X6_9_6 hg2 hv4 ?_
  refine hs_iload_n dX6_measure_26 rfl ?_
  refine hs_iload_n dX6_measure_27 rfl ?_
  exact hk_z0 (hs_vir (M' := m_X8_number) (vs := [.int x1, .int x3]) (c1 := 0) (s1 := 0) dX6_measure_28 wd_647 vi_X8_number hrec rfl (Nat.le_of_ble_eq_true rfl) hc hq_i (hc_i (fun z h9 k9 => k9)))
theorem b_X6_measure_31 {G : hk_G} {d cb sb : Nat} {h : hk_H} {Q : hk_O → hk_H → Prop} {s0 : Int32} {s1 : Int32} {r0 : Nat} {fs1 : List Value} {v3 : Nat} {x3 : Int32} {n5 : Nat} {f6 : Nat → Int32} {o1 : Option Value} {o2 : Option Value} {o4 : Option Value} (hg2 : h.2 r0 = some (.inr (6, fs1))) (hv4 : fs1[1]? = some (.ref v3)) (ha7 : h.2 v3 = some (.inl (2, n5, .inl f6))) (j8 : Nat) (hi9 : (x3 : Int32).toInt = (j8 : Int)) (hj10 : j8 < n5) (kt : (f6 j8) = 0 → hk_S G m_X6_measure (d + 1) cb sb 66 [some (.ref r0), o1, o2, some (.int x3), some (.int (s0 - s1))] [] h Q) (kf : ¬ (f6 j8) = 0 → hk_S G m_X6_measure (d + 1) cb sb 43 [some (.ref r0), o1, o2, some (.int x3), some (.int (s0 - s1))] [] h Q) : hk_S G m_X6_measure (d + 1) cb sb 31 [some (.ref r0), o1, o2, some (.int x3), o4] [.int s1, .int s0] h Q := by
  refine hs_isub dX6_measure_31 ?_
  refine hs_istK dX6_measure_32 (by decide) (hk_nk1 rfl hk_c1i) rfl ?_
  refine hs_aload_n dX6_measure_34 rfl ?_
  refine hs_get dX6_measure_35 fl_X6_15_6 hg2 hv4 ?_
  refine hs_iload_n dX6_measure_38 rfl ?_
  refine hs_zald j8 dX6_measure_39 ha7 hi9 hj10 ?_
  exact hs_if_eq dX6_measure_40 (by decide) kt kf
theorem b_X6_measure_43 {G : hk_G} {d cb sb : Nat} {h : hk_H} {Q : hk_O → hk_H → Prop} {x4 : Int32} {r0 : Nat} {x3 : Int32} {x2 : Int32} {fs_ : List Value} {o1 : Option Value} (hrec : h.2 r0 = some (.inr (6, fs_))) (hc : hk_Ci G m_X6_lengthOf d 0 0 [.ref r0, .int x3, .int x2] h (fun z h' => hk_S G m_X6_measure (d + 1) cb sb 51 [some (.ref r0), o1, some (.int x2), some (.int x3), some (.int x4)] [.int z, .int x4] h' Q)) : hk_S G m_X6_measure (d + 1) cb sb 43 [some (.ref r0), o1, some (.int x2), some (.int x3), some (.int x4)] [] h Q := by
  refine hs_iload dX6_measure_43 rfl ?_
  refine hs_aload_n dX6_measure_45 rfl ?_
  refine hs_iload_n dX6_measure_46 rfl ?_
  refine hs_iload_n dX6_measure_47 rfl ?_
  exact hk_z0 (hs_vir (M' := m_X6_lengthOf) (vs := [.int x3, .int x2]) (c1 := 0) (s1 := 0) dX6_measure_48 wd_648 vi_X6_lengthOf hrec rfl (Nat.le_of_ble_eq_true rfl) hc hq_i (hc_i (fun z h9 k9 => k9)))
theorem b_X6_measure_51 {G : hk_G} {d cb sb : Nat} {h : hk_H} {Q : hk_O → hk_H → Prop} {s0 : Int32} {s1 : Int32} {o0 : Option Value} {o1 : Option Value} {o2 : Option Value} {o3 : Option Value} {o4 : Option Value} (kt : s1 ≤ s0 → hk_S G m_X6_measure (d + 1) cb sb 66 [o0, o1, o2, o3, o4] [] h Q) (kf : ¬ s1 ≤ s0 → hk_S G m_X6_measure (d + 1) cb sb 54 [o0, o1, o2, o3, o4] [] h Q) : hk_S G m_X6_measure (d + 1) cb sb 51 [o0, o1, o2, o3, o4] [.int s1, .int s0] h Q := by
  exact hs_icmp_ge dX6_measure_51 (by decide) kt kf
theorem b_X6_measure_54 {G : hk_G} {d cb sb : Nat} {h : hk_H} {Q : hk_O → hk_H → Prop} {r0 : Nat} {fs1 : List Value} {v3 : Nat} {x3 : Int32} {x2 : Int32} {x4 : Int32} {n5 : Nat} {f6 : Nat → Int32} {h_1 : hk_H} {o1 : Option Value} (hg2 : h.2 r0 = some (.inr (6, fs1))) (hv4 : fs1[2]? = some (.ref v3)) (ha7 : h.2 v3 = some (.inl (0, n5, .inl f6))) (h4_v3 : 4 ≤ v3) (j8 : Nat) (hi9 : ((x3 * 5) + x2 : Int32).toInt = (j8 : Int)) (hj10 : j8 < n5) (e_1 : (hk_set h v3 (.inl (0, n5, .inl (upd f6 j8 x4)))) = h_1) (k : hk_S G m_X6_measure (d + 1) cb sb 2 [some (.ref r0), o1, some (.int x2), some (.int (x3 + 1)), some (.int x4)] [] h_1 Q) : hk_S G m_X6_measure (d + 1) cb sb 54 [some (.ref r0), o1, some (.int x2), some (.int x3), some (.int x4)] [] h Q := by
  subst e_1
  refine hs_aload_n dX6_measure_54 rfl ?_
  refine hs_get dX6_measure_55 fl_X6_19_6 hg2 hv4 ?_
  refine hs_iload_n dX6_measure_58 rfl ?_
  refine hs_iconst (v := 5) dX6_measure_59 (by decide) ?_
  refine hs_imul dX6_measure_60 ?_
  refine hs_iload_n dX6_measure_61 rfl ?_
  refine hs_iadd dX6_measure_62 ?_
  refine hs_iload dX6_measure_63 rfl ?_
  refine hs_iast j8 dX6_measure_65 ha7 h4_v3 hi9 hj10 ?_
  refine hs_iincK (v := 1) dX6_measure_66 rfl (by decide) (by decide) (hk_nk1 rfl hk_c1i) rfl ?_
  refine hs_goto dX6_measure_69 (tgt := 2) (by decide) ?_
  exact k
theorem b_X6_measure_66 {G : hk_G} {d cb sb : Nat} {h : hk_H} {Q : hk_O → hk_H → Prop} {x3 : Int32} {o0 : Option Value} {o1 : Option Value} {o2 : Option Value} {o4 : Option Value} (k : hk_S G m_X6_measure (d + 1) cb sb 2 [o0, o1, o2, some (.int (x3 + 1)), o4] [] h Q) (ho2 : hk_c1 o2 := by first | exact hk_c1i | exact hk_c1r | exact hk_c10 | exact hk_c1n) : hk_S G m_X6_measure (d + 1) cb sb 66 [o0, o1, o2, some (.int x3), o4] [] h Q := by
  refine hs_iincK (v := 1) dX6_measure_66 rfl (by decide) (by decide) (hk_nk1 rfl ho2) rfl ?_
  refine hs_goto dX6_measure_69 (tgt := 2) (by decide) ?_
  exact k
theorem b_X6_measure_72 {G : hk_G} {d cb sb : Nat} {h : hk_H} {Q : hk_O → hk_H → Prop} {o0 : Option Value} {o1 : Option Value} {o2 : Option Value} {o3 : Option Value} {o4 : Option Value} (hq : Q (.inl none) h) : hk_S G m_X6_measure (d + 1) cb sb 72 [o0, o1, o2, o3, o4] [] h Q := by
  exact hs_vret dX6_measure_72 rfl hq
-- HonestHouse$Ways.lengthOf(II)I
theorem b_X6_lengthOf_0 {G : hk_G} {d cb sb : Nat} {h : hk_H} {Q : hk_O → hk_H → Prop} {r0 : Nat} {fs1 : List Value} {v3 : Nat} {x1 : Int32} {x2 : Int32} {n5 : Nat} {f6 : Nat → Int32} (hg2 : h.2 r0 = some (.inr (6, fs1))) (hv4 : fs1[2]? = some (.ref v3)) (ha7 : h.2 v3 = some (.inl (0, n5, .inl f6))) (j8 : Nat) (hi9 : ((x1 * 5) + x2 : Int32).toInt = (j8 : Int)) (hj10 : j8 < n5) (hq : Q (.inl (some (.int (f6 j8)))) h) : hk_S G m_X6_lengthOf d cb sb 0 [some (.ref r0), some (.int x1), some (.int x2)] [] h Q := by
  refine hs_aload_n dX6_lengthOf_0 rfl ?_
  refine hs_get dX6_lengthOf_1 fl_X6_19_6 hg2 hv4 ?_
  refine hs_iload_n dX6_lengthOf_4 rfl ?_
  refine hs_iconst (v := 5) dX6_lengthOf_5 (by decide) ?_
  refine hs_imul dX6_lengthOf_6 ?_
  refine hs_iload_n dX6_lengthOf_7 rfl ?_
  refine hs_iadd dX6_lengthOf_8 ?_
  refine hs_iald j8 dX6_lengthOf_9 ha7 hi9 hj10 ?_
  exact hs_iret dX6_lengthOf_10 rfl hq
-- HonestHouse$Ways.hasRound()Z
theorem b_X6_hasRound_0 {G : hk_G} {d cb sb : Nat} {h : hk_H} {Q : hk_O → hk_H → Prop} {r0 : Nat} {fs_ : List Value} {o1 : Option Value} (hrec : h.2 r0 = some (.inr (6, fs_))) (hc : hk_Cv G m_X6_shorten d 0 0 [.ref r0] h (fun h' => hk_S G m_X6_hasRound (d + 1) cb sb 4 [some (.ref r0), o1] [] h' Q)) : hk_S G m_X6_hasRound (d + 1) cb sb 0 [some (.ref r0), o1] [] h Q := by
  refine hs_aload_n dX6_hasRound_0 rfl ?_
  exact hk_z0 (hs_vir (M' := m_X6_shorten) (vs := []) (c1 := 0) (s1 := 0) dX6_hasRound_1 wd_656 vi_X6_shorten hrec rfl (Nat.le_of_ble_eq_true rfl) hc hq_v (hc_v (fun h9 k9 => k9)))
theorem b_X6_hasRound_4 {G : hk_G} {d cb sb : Nat} {h : hk_H} {Q : hk_O → hk_H → Prop} {o0 : Option Value} {o1 : Option Value} (k : hk_S G m_X6_hasRound (d + 1) cb sb 6 [o0, some (.int 0)] [] h Q) (ho0 : hk_c1 o0 := by first | exact hk_c1i | exact hk_c1r | exact hk_c10 | exact hk_c1n) : hk_S G m_X6_hasRound (d + 1) cb sb 4 [o0, o1] [] h Q := by
  refine hs_iconst (v := 0) dX6_hasRound_4 (by decide) ?_
  refine hs_istK_n dX6_hasRound_5 (by decide) (hk_nk1 rfl ho0) rfl ?_
  exact k
theorem b_X6_hasRound_6 {G : hk_G} {d cb sb : Nat} {h : hk_H} {Q : hk_O → hk_H → Prop} {x1 : Int32} {r0 : Nat} {fs1 : List Value} {v3 : Nat} {fs5 : List Value} {v7 : Int32} (hg2 : h.2 r0 = some (.inr (6, fs1))) (hv4 : fs1[0]? = some (.ref v3)) (hg6 : h.2 v3 = some (.inr (8, fs5))) (hv8 : fs5[1]? = some (.int v7)) (kt : v7 ≤ x1 → hk_S G m_X6_hasRound (d + 1) cb sb 47 [some (.ref r0), some (.int x1)] [] h Q) (kf : ¬ v7 ≤ x1 → hk_S G m_X6_hasRound (d + 1) cb sb 17 [some (.ref r0), some (.int x1)] [] h Q) : hk_S G m_X6_hasRound (d + 1) cb sb 6 [some (.ref r0), some (.int x1)] [] h Q := by
  refine hs_iload_n dX6_hasRound_6 rfl ?_
  refine hs_aload_n dX6_hasRound_7 rfl ?_
  refine hs_get dX6_hasRound_8 fl_X6_9_6 hg2 hv4 ?_
  refine hs_get dX6_hasRound_11 fl_X6_56_8 hg6 hv8 ?_
  exact hs_icmp_ge dX6_hasRound_14 (by decide) kt kf
theorem b_X6_hasRound_17 {G : hk_G} {d cb sb : Nat} {h : hk_H} {Q : hk_O → hk_H → Prop} {r0 : Nat} {fs1 : List Value} {v3 : Nat} {x1 : Int32} {n5 : Nat} {f6 : Nat → Int32} (hg2 : h.2 r0 = some (.inr (6, fs1))) (hv4 : fs1[1]? = some (.ref v3)) (ha7 : h.2 v3 = some (.inl (2, n5, .inl f6))) (j8 : Nat) (hi9 : (x1 : Int32).toInt = (j8 : Int)) (hj10 : j8 < n5) (kt : (f6 j8) = 0 → hk_S G m_X6_hasRound (d + 1) cb sb 41 [some (.ref r0), some (.int x1)] [] h Q) (kf : ¬ (f6 j8) = 0 → hk_S G m_X6_hasRound (d + 1) cb sb 26 [some (.ref r0), some (.int x1)] [] h Q) : hk_S G m_X6_hasRound (d + 1) cb sb 17 [some (.ref r0), some (.int x1)] [] h Q := by
  refine hs_aload_n dX6_hasRound_17 rfl ?_
  refine hs_get dX6_hasRound_18 fl_X6_15_6 hg2 hv4 ?_
  refine hs_iload_n dX6_hasRound_21 rfl ?_
  refine hs_zald j8 dX6_hasRound_22 ha7 hi9 hj10 ?_
  exact hs_if_eq dX6_hasRound_23 (by decide) kt kf
theorem b_X6_hasRound_26 {G : hk_G} {d cb sb : Nat} {h : hk_H} {Q : hk_O → hk_H → Prop} {r0 : Nat} {fs1 : List Value} {v3 : Nat} {x1 : Int32} {n5 : Nat} {f6 : Nat → Int32} (hg2 : h.2 r0 = some (.inr (6, fs1))) (hv4 : fs1[3]? = some (.ref v3)) (ha7 : h.2 v3 = some (.inl (0, n5, .inl f6))) (j8 : Nat) (hi9 : ((x1 * 5) + x1 : Int32).toInt = (j8 : Int)) (hj10 : j8 < n5) (kt : 0 ≤ (f6 j8) → hk_S G m_X6_hasRound (d + 1) cb sb 41 [some (.ref r0), some (.int x1)] [] h Q) (kf : ¬ 0 ≤ (f6 j8) → hk_S G m_X6_hasRound (d + 1) cb sb 39 [some (.ref r0), some (.int x1)] [] h Q) : hk_S G m_X6_hasRound (d + 1) cb sb 26 [some (.ref r0), some (.int x1)] [] h Q := by
  refine hs_aload_n dX6_hasRound_26 rfl ?_
  refine hs_get dX6_hasRound_27 fl_X6_23_6 hg2 hv4 ?_
  refine hs_iload_n dX6_hasRound_30 rfl ?_
  refine hs_iconst (v := 5) dX6_hasRound_31 (by decide) ?_
  refine hs_imul dX6_hasRound_32 ?_
  refine hs_iload_n dX6_hasRound_33 rfl ?_
  refine hs_iadd dX6_hasRound_34 ?_
  refine hs_iald j8 dX6_hasRound_35 ha7 hi9 hj10 ?_
  exact hs_if_ge dX6_hasRound_36 (by decide) kt kf
theorem b_X6_hasRound_39 {G : hk_G} {d cb sb : Nat} {h : hk_H} {Q : hk_O → hk_H → Prop} {o0 : Option Value} {o1 : Option Value} (hq : Q (.inl (some (.int 1))) h) : hk_S G m_X6_hasRound (d + 1) cb sb 39 [o0, o1] [] h Q := by
  refine hs_iconst (v := 1) dX6_hasRound_39 (by decide) ?_
  exact hs_zret dX6_hasRound_40 rfl (by decide) hq
theorem b_X6_hasRound_41 {G : hk_G} {d cb sb : Nat} {h : hk_H} {Q : hk_O → hk_H → Prop} {x1 : Int32} {o0 : Option Value} (k : hk_S G m_X6_hasRound (d + 1) cb sb 6 [o0, some (.int (x1 + 1))] [] h Q) (ho0 : hk_c1 o0 := by first | exact hk_c1i | exact hk_c1r | exact hk_c10 | exact hk_c1n) : hk_S G m_X6_hasRound (d + 1) cb sb 41 [o0, some (.int x1)] [] h Q := by
  refine hs_iincK (v := 1) dX6_hasRound_41 rfl (by decide) (by decide) (hk_nk1 rfl ho0) rfl ?_
  refine hs_goto dX6_hasRound_44 (tgt := 6) (by decide) ?_
  exact k
theorem b_X6_hasRound_47 {G : hk_G} {d cb sb : Nat} {h : hk_H} {Q : hk_O → hk_H → Prop} {o0 : Option Value} {o1 : Option Value} (hq : Q (.inl (some (.int 0))) h) : hk_S G m_X6_hasRound (d + 1) cb sb 47 [o0, o1] [] h Q := by
  refine hs_iconst (v := 0) dX6_hasRound_47 (by decide) ?_
  exact hs_zret dX6_hasRound_48 rfl (by decide) hq
-- HonestHouse$Ways.shorten()V
theorem b_X6_shorten_0 {G : hk_G} {d cb sb : Nat} {h : hk_H} {Q : hk_O → hk_H → Prop} {r0 : Nat} {fs1 : List Value} {v3 : Nat} {v5 : Nat} {n7 : Nat} {t9 : Nat} {x8 : (Nat → Int32) ⊕ (Nat → Int64) ⊕ (Nat → UInt32) ⊕ (Nat → UInt64) ⊕ (Nat → Option Nat)} {n12 : Nat} {n13 : Nat} {f14 : Nat → Int32} {f15 : Nat → Int32} {h_1 : hk_H} {o1 : Option Value} {o2 : Option Value} (hg2 : h.2 r0 = some (.inr (6, fs1))) (hv4 : fs1[2]? = some (.ref v3)) (hv6 : fs1[3]? = some (.ref v5)) (ha10 : h.2 v3 = some (.inl (t9, n7, x8))) (ht11 : t9 < 5) (spN : Nat) (dpN : Nat) (nN : Nat) (hc0 : h.2 v3 = some (.inl (0, n12, .inl f14))) (hc1 : h.2 v5 = some (.inl (0, n13, .inl f15))) (h4c : 4 ≤ v5) (h40 : 4 ≤ v3) (e1 : (0 : Int32).toInt = (spN : Int)) (e2 : (0 : Int32).toInt = (dpN : Int)) (e3 : (Int32.ofNat n7 : Int32).toInt = (nN : Int)) (hle0 : spN + nN ≤ n12) (hle1 : dpN + nN ≤ n13) (e_1 : (hk_set h v5 (.inl (0, n13, .inl (va_cpy f14 f15 spN dpN nN)))) = h_1) (k : hk_S G m_X6_shorten (d + 1) cb sb 20 [some (.ref r0), some (.int 0), o2] [] h_1 Q) : hk_S G m_X6_shorten (d + 1) cb sb 0 [some (.ref r0), o1, o2] [] h Q := by
  subst e_1
  refine hs_aload_n dX6_shorten_0 rfl ?_
  refine hs_get dX6_shorten_1 fl_X6_19_6 hg2 hv4 ?_
  refine hs_iconst (v := 0) dX6_shorten_4 (by decide) ?_
  refine hs_aload_n dX6_shorten_5 rfl ?_
  refine hs_get dX6_shorten_6 fl_X6_23_6 hg2 hv6 ?_
  refine hs_iconst (v := 0) dX6_shorten_9 (by decide) ?_
  refine hs_aload_n dX6_shorten_10 rfl ?_
  refine hs_get dX6_shorten_11 fl_X6_19_6 hg2 hv4 ?_
  refine hs_alen dX6_shorten_14 ha10 ht11 ?_
  refine hs_copyi spN dpN nN dX6_shorten_15 ⟨wd_660, wd_662, wd_661, wd_20⟩ hc0 hc1 h4c h40 e1 e2 e3 hle0 hle1 (Nat.le_of_ble_eq_true rfl) ?_
  refine hs_iconst (v := 0) dX6_shorten_18 (by decide) ?_
  refine hs_istK_n dX6_shorten_19 (by decide) (hk_nk1 rfl hk_c1r) rfl ?_
  exact k
theorem b_X6_shorten_20 {G : hk_G} {d cb sb : Nat} {h : hk_H} {Q : hk_O → hk_H → Prop} {x1 : Int32} {r0 : Nat} {fs1 : List Value} {v3 : Nat} {fs5 : List Value} {v7 : Int32} {o2 : Option Value} (hg2 : h.2 r0 = some (.inr (6, fs1))) (hv4 : fs1[0]? = some (.ref v3)) (hg6 : h.2 v3 = some (.inr (8, fs5))) (hv8 : fs5[1]? = some (.int v7)) (kt : v7 ≤ x1 → hk_S G m_X6_shorten (d + 1) cb sb 80 [some (.ref r0), some (.int x1), o2] [] h Q) (kf : ¬ v7 ≤ x1 → hk_S G m_X6_shorten (d + 1) cb sb 31 [some (.ref r0), some (.int x1), o2] [] h Q) : hk_S G m_X6_shorten (d + 1) cb sb 20 [some (.ref r0), some (.int x1), o2] [] h Q := by
  refine hs_iload_n dX6_shorten_20 rfl ?_
  refine hs_aload_n dX6_shorten_21 rfl ?_
  refine hs_get dX6_shorten_22 fl_X6_9_6 hg2 hv4 ?_
  refine hs_get dX6_shorten_25 fl_X6_56_8 hg6 hv8 ?_
  exact hs_icmp_ge dX6_shorten_28 (by decide) kt kf
theorem b_X6_shorten_31 {G : hk_G} {d cb sb : Nat} {h : hk_H} {Q : hk_O → hk_H → Prop} {o0 : Option Value} {o1 : Option Value} {o2 : Option Value} (k : hk_S G m_X6_shorten (d + 1) cb sb 33 [o0, o1, some (.int 0)] [] h Q) (ho1 : hk_c1 o1 := by first | exact hk_c1i | exact hk_c1r | exact hk_c10 | exact hk_c1n) : hk_S G m_X6_shorten (d + 1) cb sb 31 [o0, o1, o2] [] h Q := by
  refine hs_iconst (v := 0) dX6_shorten_31 (by decide) ?_
  refine hs_istK_n dX6_shorten_32 (by decide) (hk_nk1 rfl ho1) rfl ?_
  exact k
theorem b_X6_shorten_33 {G : hk_G} {d cb sb : Nat} {h : hk_H} {Q : hk_O → hk_H → Prop} {x2 : Int32} {r0 : Nat} {fs1 : List Value} {v3 : Nat} {fs5 : List Value} {v7 : Int32} {o1 : Option Value} (hg2 : h.2 r0 = some (.inr (6, fs1))) (hv4 : fs1[0]? = some (.ref v3)) (hg6 : h.2 v3 = some (.inr (8, fs5))) (hv8 : fs5[1]? = some (.int v7)) (kt : v7 ≤ x2 → hk_S G m_X6_shorten (d + 1) cb sb 74 [some (.ref r0), o1, some (.int x2)] [] h Q) (kf : ¬ v7 ≤ x2 → hk_S G m_X6_shorten (d + 1) cb sb 44 [some (.ref r0), o1, some (.int x2)] [] h Q) : hk_S G m_X6_shorten (d + 1) cb sb 33 [some (.ref r0), o1, some (.int x2)] [] h Q := by
  refine hs_iload_n dX6_shorten_33 rfl ?_
  refine hs_aload_n dX6_shorten_34 rfl ?_
  refine hs_get dX6_shorten_35 fl_X6_9_6 hg2 hv4 ?_
  refine hs_get dX6_shorten_38 fl_X6_56_8 hg6 hv8 ?_
  exact hs_icmp_ge dX6_shorten_41 (by decide) kt kf
theorem b_X6_shorten_44 {G : hk_G} {d cb sb : Nat} {h : hk_H} {Q : hk_O → hk_H → Prop} {r0 : Nat} {fs1 : List Value} {v3 : Nat} {x1 : Int32} {n5 : Nat} {f6 : Nat → Int32} {o2 : Option Value} (hg2 : h.2 r0 = some (.inr (6, fs1))) (hv4 : fs1[1]? = some (.ref v3)) (ha7 : h.2 v3 = some (.inl (2, n5, .inl f6))) (j8 : Nat) (hi9 : (x1 : Int32).toInt = (j8 : Int)) (hj10 : j8 < n5) (kt : (f6 j8) = 0 → hk_S G m_X6_shorten (d + 1) cb sb 68 [some (.ref r0), some (.int x1), o2] [] h Q) (kf : ¬ (f6 j8) = 0 → hk_S G m_X6_shorten (d + 1) cb sb 53 [some (.ref r0), some (.int x1), o2] [] h Q) : hk_S G m_X6_shorten (d + 1) cb sb 44 [some (.ref r0), some (.int x1), o2] [] h Q := by
  refine hs_aload_n dX6_shorten_44 rfl ?_
  refine hs_get dX6_shorten_45 fl_X6_15_6 hg2 hv4 ?_
  refine hs_iload_n dX6_shorten_48 rfl ?_
  refine hs_zald j8 dX6_shorten_49 ha7 hi9 hj10 ?_
  exact hs_if_eq dX6_shorten_50 (by decide) kt kf
theorem b_X6_shorten_53 {G : hk_G} {d cb sb : Nat} {h : hk_H} {Q : hk_O → hk_H → Prop} {r0 : Nat} {fs1 : List Value} {v3 : Nat} {x2 : Int32} {n5 : Nat} {f6 : Nat → Int32} {o1 : Option Value} (hg2 : h.2 r0 = some (.inr (6, fs1))) (hv4 : fs1[1]? = some (.ref v3)) (ha7 : h.2 v3 = some (.inl (2, n5, .inl f6))) (j8 : Nat) (hi9 : (x2 : Int32).toInt = (j8 : Int)) (hj10 : j8 < n5) (kt : (f6 j8) = 0 → hk_S G m_X6_shorten (d + 1) cb sb 68 [some (.ref r0), o1, some (.int x2)] [] h Q) (kf : ¬ (f6 j8) = 0 → hk_S G m_X6_shorten (d + 1) cb sb 62 [some (.ref r0), o1, some (.int x2)] [] h Q) : hk_S G m_X6_shorten (d + 1) cb sb 53 [some (.ref r0), o1, some (.int x2)] [] h Q := by
  refine hs_aload_n dX6_shorten_53 rfl ?_
  refine hs_get dX6_shorten_54 fl_X6_15_6 hg2 hv4 ?_
  refine hs_iload_n dX6_shorten_57 rfl ?_
  refine hs_zald j8 dX6_shorten_58 ha7 hi9 hj10 ?_
  exact hs_if_eq dX6_shorten_59 (by decide) kt kf
theorem b_X6_shorten_62 {G : hk_G} {d cb sb : Nat} {h : hk_H} {Q : hk_O → hk_H → Prop} {r0 : Nat} {x2 : Int32} {x1 : Int32} {fs_ : List Value} (hrec : h.2 r0 = some (.inr (6, fs_))) (hc : hk_Cv G m_X6_shortenFrom d 0 0 [.ref r0, .int x2, .int x1] h (fun h' => hk_S G m_X6_shorten (d + 1) cb sb 68 [some (.ref r0), some (.int x1), some (.int x2)] [] h' Q)) : hk_S G m_X6_shorten (d + 1) cb sb 62 [some (.ref r0), some (.int x1), some (.int x2)] [] h Q := by
  refine hs_aload_n dX6_shorten_62 rfl ?_
  refine hs_iload_n dX6_shorten_63 rfl ?_
  refine hs_iload_n dX6_shorten_64 rfl ?_
  exact hk_z0 (hs_vir (M' := m_X6_shortenFrom) (vs := [.int x2, .int x1]) (c1 := 0) (s1 := 0) dX6_shorten_65 wd_663 vi_X6_shortenFrom hrec rfl (Nat.le_of_ble_eq_true rfl) hc hq_v (hc_v (fun h9 k9 => k9)))
theorem b_X6_shorten_68 {G : hk_G} {d cb sb : Nat} {h : hk_H} {Q : hk_O → hk_H → Prop} {x2 : Int32} {o0 : Option Value} {o1 : Option Value} (k : hk_S G m_X6_shorten (d + 1) cb sb 33 [o0, o1, some (.int (x2 + 1))] [] h Q) (ho1 : hk_c1 o1 := by first | exact hk_c1i | exact hk_c1r | exact hk_c10 | exact hk_c1n) : hk_S G m_X6_shorten (d + 1) cb sb 68 [o0, o1, some (.int x2)] [] h Q := by
  refine hs_iincK (v := 1) dX6_shorten_68 rfl (by decide) (by decide) (hk_nk1 rfl ho1) rfl ?_
  refine hs_goto dX6_shorten_71 (tgt := 33) (by decide) ?_
  exact k
theorem b_X6_shorten_74 {G : hk_G} {d cb sb : Nat} {h : hk_H} {Q : hk_O → hk_H → Prop} {x1 : Int32} {o0 : Option Value} {o2 : Option Value} (k : hk_S G m_X6_shorten (d + 1) cb sb 20 [o0, some (.int (x1 + 1)), o2] [] h Q) (ho0 : hk_c1 o0 := by first | exact hk_c1i | exact hk_c1r | exact hk_c10 | exact hk_c1n) : hk_S G m_X6_shorten (d + 1) cb sb 74 [o0, some (.int x1), o2] [] h Q := by
  refine hs_iincK (v := 1) dX6_shorten_74 rfl (by decide) (by decide) (hk_nk1 rfl ho0) rfl ?_
  refine hs_goto dX6_shorten_77 (tgt := 20) (by decide) ?_
  exact k
theorem b_X6_shorten_80 {G : hk_G} {d cb sb : Nat} {h : hk_H} {Q : hk_O → hk_H → Prop} {o0 : Option Value} {o1 : Option Value} {o2 : Option Value} (hq : Q (.inl none) h) : hk_S G m_X6_shorten (d + 1) cb sb 80 [o0, o1, o2] [] h Q := by
  exact hs_vret dX6_shorten_80 rfl hq
-- HonestHouse$Ways.shortenFrom(II)V
theorem b_X6_shortenFrom_0 {G : hk_G} {d cb sb : Nat} {h : hk_H} {Q : hk_O → hk_H → Prop} {r0 : Nat} {fs1 : List Value} {v3 : Nat} {x1 : Int32} {x2 : Int32} {n5 : Nat} {f6 : Nat → Int32} {o3 : Option Value} {o4 : Option Value} {o5 : Option Value} (hg2 : h.2 r0 = some (.inr (6, fs1))) (hv4 : fs1[3]? = some (.ref v3)) (ha7 : h.2 v3 = some (.inl (0, n5, .inl f6))) (j8 : Nat) (hi9 : ((x1 * 5) + x2 : Int32).toInt = (j8 : Int)) (hj10 : j8 < n5) (k : hk_S G m_X6_shortenFrom d cb sb 14 [some (.ref r0), some (.int x1), some (.int x2), some (.int (f6 j8)), some (.int 0), o5] [] h Q) : hk_S G m_X6_shortenFrom d cb sb 0 [some (.ref r0), some (.int x1), some (.int x2), o3, o4, o5] [] h Q := by
  refine hs_aload_n dX6_shortenFrom_0 rfl ?_
  refine hs_get dX6_shortenFrom_1 fl_X6_23_6 hg2 hv4 ?_
  refine hs_iload_n dX6_shortenFrom_4 rfl ?_
  refine hs_iconst (v := 5) dX6_shortenFrom_5 (by decide) ?_
  refine hs_imul dX6_shortenFrom_6 ?_
  refine hs_iload_n dX6_shortenFrom_7 rfl ?_
  refine hs_iadd dX6_shortenFrom_8 ?_
  refine hs_iald j8 dX6_shortenFrom_9 ha7 hi9 hj10 ?_
  refine hs_istK_n dX6_shortenFrom_10 (by decide) (hk_nk1 rfl hk_c1i) rfl ?_
  refine hs_iconst (v := 0) dX6_shortenFrom_11 (by decide) ?_
  refine hs_istK dX6_shortenFrom_12 (by decide) (hk_nk1 rfl hk_c1i) rfl ?_
  exact k
theorem b_X6_shortenFrom_14 {G : hk_G} {d cb sb : Nat} {h : hk_H} {Q : hk_O → hk_H → Prop} {x4 : Int32} {r0 : Nat} {fs1 : List Value} {v3 : Nat} {fs5 : List Value} {v7 : Int32} {o1 : Option Value} {o2 : Option Value} {o3 : Option Value} {o5 : Option Value} (hg2 : h.2 r0 = some (.inr (6, fs1))) (hv4 : fs1[0]? = some (.ref v3)) (hg6 : h.2 v3 = some (.inr (8, fs5))) (hv8 : fs5[1]? = some (.int v7)) (kt : v7 ≤ x4 → hk_S G m_X6_shortenFrom d cb sb 86 [some (.ref r0), o1, o2, o3, some (.int x4), o5] [] h Q) (kf : ¬ v7 ≤ x4 → hk_S G m_X6_shortenFrom d cb sb 26 [some (.ref r0), o1, o2, o3, some (.int x4), o5] [] h Q) : hk_S G m_X6_shortenFrom d cb sb 14 [some (.ref r0), o1, o2, o3, some (.int x4), o5] [] h Q := by
  refine hs_iload dX6_shortenFrom_14 rfl ?_
  refine hs_aload_n dX6_shortenFrom_16 rfl ?_
  refine hs_get dX6_shortenFrom_17 fl_X6_9_6 hg2 hv4 ?_
  refine hs_get dX6_shortenFrom_20 fl_X6_56_8 hg6 hv8 ?_
  exact hs_icmp_ge dX6_shortenFrom_23 (by decide) kt kf
theorem b_X6_shortenFrom_26 {G : hk_G} {d cb sb : Nat} {h : hk_H} {Q : hk_O → hk_H → Prop} {x3 : Int32} {r0 : Nat} {fs1 : List Value} {v3 : Nat} {x2 : Int32} {x4 : Int32} {n5 : Nat} {f6 : Nat → Int32} {v11 : Nat} {n13 : Nat} {f14 : Nat → Int32} {o1 : Option Value} {o5 : Option Value} (hg2 : h.2 r0 = some (.inr (6, fs1))) (hv4 : fs1[3]? = some (.ref v3)) (ha7 : h.2 v3 = some (.inl (0, n5, .inl f6))) (j8 : Nat) (hi9 : ((x2 * 5) + x4 : Int32).toInt = (j8 : Int)) (hj10 : j8 < n5) (hv12 : fs1[1]? = some (.ref v11)) (ha15 : h.2 v11 = some (.inl (2, n13, .inl f14))) (j16 : Nat) (hi17 : (x4 : Int32).toInt = (j16 : Int)) (hj18 : j16 < n13) (kt : (f14 j16) = 0 → hk_S G m_X6_shortenFrom d cb sb 80 [some (.ref r0), o1, some (.int x2), some (.int x3), some (.int x4), some (.int (x3 + (f6 j8)))] [] h Q) (kf : ¬ (f14 j16) = 0 → hk_S G m_X6_shortenFrom d cb sb 51 [some (.ref r0), o1, some (.int x2), some (.int x3), some (.int x4), some (.int (x3 + (f6 j8)))] [] h Q) : hk_S G m_X6_shortenFrom d cb sb 26 [some (.ref r0), o1, some (.int x2), some (.int x3), some (.int x4), o5] [] h Q := by
  refine hs_iload_n dX6_shortenFrom_26 rfl ?_
  refine hs_aload_n dX6_shortenFrom_27 rfl ?_
  refine hs_get dX6_shortenFrom_28 fl_X6_23_6 hg2 hv4 ?_
  refine hs_iload_n dX6_shortenFrom_31 rfl ?_
  refine hs_iconst (v := 5) dX6_shortenFrom_32 (by decide) ?_
  refine hs_imul dX6_shortenFrom_33 ?_
  refine hs_iload dX6_shortenFrom_34 rfl ?_
  refine hs_iadd dX6_shortenFrom_36 ?_
  refine hs_iald j8 dX6_shortenFrom_37 ha7 hi9 hj10 ?_
  refine hs_iadd dX6_shortenFrom_38 ?_
  refine hs_istK dX6_shortenFrom_39 (by decide) (hk_nk1 rfl hk_c1i) rfl ?_
  refine hs_aload_n dX6_shortenFrom_41 rfl ?_
  refine hs_get dX6_shortenFrom_42 fl_X6_15_6 hg2 hv12 ?_
  refine hs_iload dX6_shortenFrom_45 rfl ?_
  refine hs_zald j16 dX6_shortenFrom_47 ha15 hi17 hj18 ?_
  exact hs_if_eq dX6_shortenFrom_48 (by decide) kt kf
theorem b_X6_shortenFrom_51 {G : hk_G} {d cb sb : Nat} {h : hk_H} {Q : hk_O → hk_H → Prop} {x5 : Int32} {r0 : Nat} {fs1 : List Value} {v3 : Nat} {x1 : Int32} {x4 : Int32} {n5 : Nat} {f6 : Nat → Int32} {o2 : Option Value} {o3 : Option Value} (hg2 : h.2 r0 = some (.inr (6, fs1))) (hv4 : fs1[3]? = some (.ref v3)) (ha7 : h.2 v3 = some (.inl (0, n5, .inl f6))) (j8 : Nat) (hi9 : ((x1 * 5) + x4 : Int32).toInt = (j8 : Int)) (hj10 : j8 < n5) (kt : (f6 j8) ≤ x5 → hk_S G m_X6_shortenFrom d cb sb 80 [some (.ref r0), some (.int x1), o2, o3, some (.int x4), some (.int x5)] [] h Q) (kf : ¬ (f6 j8) ≤ x5 → hk_S G m_X6_shortenFrom d cb sb 67 [some (.ref r0), some (.int x1), o2, o3, some (.int x4), some (.int x5)] [] h Q) : hk_S G m_X6_shortenFrom d cb sb 51 [some (.ref r0), some (.int x1), o2, o3, some (.int x4), some (.int x5)] [] h Q := by
  refine hs_iload dX6_shortenFrom_51 rfl ?_
  refine hs_aload_n dX6_shortenFrom_53 rfl ?_
  refine hs_get dX6_shortenFrom_54 fl_X6_23_6 hg2 hv4 ?_
  refine hs_iload_n dX6_shortenFrom_57 rfl ?_
  refine hs_iconst (v := 5) dX6_shortenFrom_58 (by decide) ?_
  refine hs_imul dX6_shortenFrom_59 ?_
  refine hs_iload dX6_shortenFrom_60 rfl ?_
  refine hs_iadd dX6_shortenFrom_62 ?_
  refine hs_iald j8 dX6_shortenFrom_63 ha7 hi9 hj10 ?_
  exact hs_icmp_ge dX6_shortenFrom_64 (by decide) kt kf
theorem b_X6_shortenFrom_67 {G : hk_G} {d cb sb : Nat} {h : hk_H} {Q : hk_O → hk_H → Prop} {r0 : Nat} {fs1 : List Value} {v3 : Nat} {x1 : Int32} {x4 : Int32} {x5 : Int32} {n5 : Nat} {f6 : Nat → Int32} {h_1 : hk_H} {o2 : Option Value} {o3 : Option Value} (hg2 : h.2 r0 = some (.inr (6, fs1))) (hv4 : fs1[3]? = some (.ref v3)) (ha7 : h.2 v3 = some (.inl (0, n5, .inl f6))) (h4_v3 : 4 ≤ v3) (j8 : Nat) (hi9 : ((x1 * 5) + x4 : Int32).toInt = (j8 : Int)) (hj10 : j8 < n5) (e_1 : (hk_set h v3 (.inl (0, n5, .inl (upd f6 j8 x5)))) = h_1) (k : hk_S G m_X6_shortenFrom d cb sb 14 [some (.ref r0), some (.int x1), o2, o3, some (.int (x4 + 1)), some (.int x5)] [] h_1 Q) (ho3 : hk_c1 o3 := by first | exact hk_c1i | exact hk_c1r | exact hk_c10 | exact hk_c1n) : hk_S G m_X6_shortenFrom d cb sb 67 [some (.ref r0), some (.int x1), o2, o3, some (.int x4), some (.int x5)] [] h Q := by
  subst e_1
  refine hs_aload_n dX6_shortenFrom_67 rfl ?_
  refine hs_get dX6_shortenFrom_68 fl_X6_23_6 hg2 hv4 ?_
  refine hs_iload_n dX6_shortenFrom_71 rfl ?_
  refine hs_iconst (v := 5) dX6_shortenFrom_72 (by decide) ?_
  refine hs_imul dX6_shortenFrom_73 ?_
  refine hs_iload dX6_shortenFrom_74 rfl ?_
  refine hs_iadd dX6_shortenFrom_76 ?_
  refine hs_iload dX6_shortenFrom_77 rfl ?_
  refine hs_iast j8 dX6_shortenFrom_79 ha7 h4_v3 hi9 hj10 ?_
  refine hs_iincK (v := 1) dX6_shortenFrom_80 rfl (by decide) (by decide) (hk_nk1 rfl ho3) rfl ?_
  refine hs_goto dX6_shortenFrom_83 (tgt := 14) (by decide) ?_
  exact k
theorem b_X6_shortenFrom_80 {G : hk_G} {d cb sb : Nat} {h : hk_H} {Q : hk_O → hk_H → Prop} {x4 : Int32} {o0 : Option Value} {o1 : Option Value} {o2 : Option Value} {o3 : Option Value} {o5 : Option Value} (k : hk_S G m_X6_shortenFrom d cb sb 14 [o0, o1, o2, o3, some (.int (x4 + 1)), o5] [] h Q) (ho3 : hk_c1 o3 := by first | exact hk_c1i | exact hk_c1r | exact hk_c10 | exact hk_c1n) : hk_S G m_X6_shortenFrom d cb sb 80 [o0, o1, o2, o3, some (.int x4), o5] [] h Q := by
  refine hs_iincK (v := 1) dX6_shortenFrom_80 rfl (by decide) (by decide) (hk_nk1 rfl ho3) rfl ?_
  refine hs_goto dX6_shortenFrom_83 (tgt := 14) (by decide) ?_
  exact k
theorem b_X6_shortenFrom_86 {G : hk_G} {d cb sb : Nat} {h : hk_H} {Q : hk_O → hk_H → Prop} {o0 : Option Value} {o1 : Option Value} {o2 : Option Value} {o3 : Option Value} {o4 : Option Value} {o5 : Option Value} (hq : Q (.inl none) h) : hk_S G m_X6_shortenFrom d cb sb 86 [o0, o1, o2, o3, o4, o5] [] h Q := by
  exact hs_vret dX6_shortenFrom_86 rfl hq
-- HonestHouse$Ways.priceOf(I)I
theorem b_X6_priceOf_0 {G : hk_G} {d cb sb : Nat} {h : hk_H} {Q : hk_O → hk_H → Prop} {o0 : Option Value} {o1 : Option Value} {o2 : Option Value} (k : hk_S G m_X6_priceOf d cb sb 2 [o0, o1, some (.int 0)] [] h Q) (ho1 : hk_c1 o1 := by first | exact hk_c1i | exact hk_c1r | exact hk_c10 | exact hk_c1n) : hk_S G m_X6_priceOf d cb sb 0 [o0, o1, o2] [] h Q := by
  refine hs_iconst (v := 0) dX6_priceOf_0 (by decide) ?_
  refine hs_istK_n dX6_priceOf_1 (by decide) (hk_nk1 rfl ho1) rfl ?_
  exact k
theorem b_X6_priceOf_2 {G : hk_G} {d cb sb : Nat} {h : hk_H} {Q : hk_O → hk_H → Prop} {x2 : Int32} {r0 : Nat} {fs1 : List Value} {v3 : Nat} {fs5 : List Value} {v7 : Int32} {o1 : Option Value} (hg2 : h.2 r0 = some (.inr (6, fs1))) (hv4 : fs1[0]? = some (.ref v3)) (hg6 : h.2 v3 = some (.inr (8, fs5))) (hv8 : fs5[1]? = some (.int v7)) (kt : v7 ≤ x2 → hk_S G m_X6_priceOf d cb sb 39 [some (.ref r0), o1, some (.int x2)] [] h Q) (kf : ¬ v7 ≤ x2 → hk_S G m_X6_priceOf d cb sb 13 [some (.ref r0), o1, some (.int x2)] [] h Q) : hk_S G m_X6_priceOf d cb sb 2 [some (.ref r0), o1, some (.int x2)] [] h Q := by
  refine hs_iload_n dX6_priceOf_2 rfl ?_
  refine hs_aload_n dX6_priceOf_3 rfl ?_
  refine hs_get dX6_priceOf_4 fl_X6_9_6 hg2 hv4 ?_
  refine hs_get dX6_priceOf_7 fl_X6_56_8 hg6 hv8 ?_
  exact hs_icmp_ge dX6_priceOf_10 (by decide) kt kf
theorem b_X6_priceOf_13 {G : hk_G} {d cb sb : Nat} {h : hk_H} {Q : hk_O → hk_H → Prop} {r0 : Nat} {fs1 : List Value} {v3 : Nat} {x2 : Int32} {n5 : Nat} {f6 : Nat → Int32} {o1 : Option Value} (hg2 : h.2 r0 = some (.inr (6, fs1))) (hv4 : fs1[1]? = some (.ref v3)) (ha7 : h.2 v3 = some (.inl (2, n5, .inl f6))) (j8 : Nat) (hi9 : (x2 : Int32).toInt = (j8 : Int)) (hj10 : j8 < n5) (kt : (f6 j8) = 0 → hk_S G m_X6_priceOf d cb sb 33 [some (.ref r0), o1, some (.int x2)] [] h Q) (kf : ¬ (f6 j8) = 0 → hk_S G m_X6_priceOf d cb sb 22 [some (.ref r0), o1, some (.int x2)] [] h Q) : hk_S G m_X6_priceOf d cb sb 13 [some (.ref r0), o1, some (.int x2)] [] h Q := by
  refine hs_aload_n dX6_priceOf_13 rfl ?_
  refine hs_get dX6_priceOf_14 fl_X6_15_6 hg2 hv4 ?_
  refine hs_iload_n dX6_priceOf_17 rfl ?_
  refine hs_zald j8 dX6_priceOf_18 ha7 hi9 hj10 ?_
  exact hs_if_eq dX6_priceOf_19 (by decide) kt kf
theorem b_X6_priceOf_22 {G : hk_G} {d cb sb : Nat} {h : hk_H} {Q : hk_O → hk_H → Prop} {r0 : Nat} {fs1 : List Value} {v3 : Nat} {x2 : Int32} {x1 : Int32} {n5 : Nat} {f6 : Nat → Int32} (hg2 : h.2 r0 = some (.inr (6, fs1))) (hv4 : fs1[3]? = some (.ref v3)) (ha7 : h.2 v3 = some (.inl (0, n5, .inl f6))) (j8 : Nat) (hi9 : ((x2 * 5) + x1 : Int32).toInt = (j8 : Int)) (hj10 : j8 < n5) (hq : Q (.inl (some (.int (f6 j8)))) h) : hk_S G m_X6_priceOf d cb sb 22 [some (.ref r0), some (.int x1), some (.int x2)] [] h Q := by
  refine hs_aload_n dX6_priceOf_22 rfl ?_
  refine hs_get dX6_priceOf_23 fl_X6_23_6 hg2 hv4 ?_
  refine hs_iload_n dX6_priceOf_26 rfl ?_
  refine hs_iconst (v := 5) dX6_priceOf_27 (by decide) ?_
  refine hs_imul dX6_priceOf_28 ?_
  refine hs_iload_n dX6_priceOf_29 rfl ?_
  refine hs_iadd dX6_priceOf_30 ?_
  refine hs_iald j8 dX6_priceOf_31 ha7 hi9 hj10 ?_
  exact hs_iret dX6_priceOf_32 rfl hq
theorem b_X6_priceOf_33 {G : hk_G} {d cb sb : Nat} {h : hk_H} {Q : hk_O → hk_H → Prop} {x2 : Int32} {o0 : Option Value} {o1 : Option Value} (k : hk_S G m_X6_priceOf d cb sb 2 [o0, o1, some (.int (x2 + 1))] [] h Q) (ho1 : hk_c1 o1 := by first | exact hk_c1i | exact hk_c1r | exact hk_c10 | exact hk_c1n) : hk_S G m_X6_priceOf d cb sb 33 [o0, o1, some (.int x2)] [] h Q := by
  refine hs_iincK (v := 1) dX6_priceOf_33 rfl (by decide) (by decide) (hk_nk1 rfl ho1) rfl ?_
  refine hs_goto dX6_priceOf_36 (tgt := 2) (by decide) ?_
  exact k
theorem b_X6_priceOf_39 {G : hk_G} {d cb sb : Nat} {h : hk_H} {Q : hk_O → hk_H → Prop} {o0 : Option Value} {o1 : Option Value} {o2 : Option Value} (hq : Q (.inl (some (.int 0))) h) : hk_S G m_X6_priceOf d cb sb 39 [o0, o1, o2] [] h Q := by
  refine hs_iconst (v := 0) dX6_priceOf_39 (by decide) ?_
  exact hs_iret dX6_priceOf_40 rfl hq
-- HonestHouse$Ways.leastRound()I
theorem b_X6_leastRound_0 {G : hk_G} {d cb sb : Nat} {h : hk_H} {Q : hk_O → hk_H → Prop} {o0 : Option Value} {o1 : Option Value} {o2 : Option Value} (k : hk_S G m_X6_leastRound (d + 1) cb sb 4 [o0, some (.int 0), some (.int 0)] [] h Q) (ho0 : hk_c1 o0 := by first | exact hk_c1i | exact hk_c1r | exact hk_c10 | exact hk_c1n) : hk_S G m_X6_leastRound (d + 1) cb sb 0 [o0, o1, o2] [] h Q := by
  refine hs_iconst (v := 0) dX6_leastRound_0 (by decide) ?_
  refine hs_istK_n dX6_leastRound_1 (by decide) (hk_nk1 rfl ho0) rfl ?_
  refine hs_iconst (v := 0) dX6_leastRound_2 (by decide) ?_
  refine hs_istK_n dX6_leastRound_3 (by decide) (hk_nk1 rfl hk_c1i) rfl ?_
  exact k
theorem b_X6_leastRound_4 {G : hk_G} {d cb sb : Nat} {h : hk_H} {Q : hk_O → hk_H → Prop} {x2 : Int32} {r0 : Nat} {fs1 : List Value} {v3 : Nat} {fs5 : List Value} {v7 : Int32} {o1 : Option Value} (hg2 : h.2 r0 = some (.inr (6, fs1))) (hv4 : fs1[0]? = some (.ref v3)) (hg6 : h.2 v3 = some (.inr (8, fs5))) (hv8 : fs5[1]? = some (.int v7)) (kt : v7 ≤ x2 → hk_S G m_X6_leastRound (d + 1) cb sb 40 [some (.ref r0), o1, some (.int x2)] [] h Q) (kf : ¬ v7 ≤ x2 → hk_S G m_X6_leastRound (d + 1) cb sb 15 [some (.ref r0), o1, some (.int x2)] [] h Q) : hk_S G m_X6_leastRound (d + 1) cb sb 4 [some (.ref r0), o1, some (.int x2)] [] h Q := by
  refine hs_iload_n dX6_leastRound_4 rfl ?_
  refine hs_aload_n dX6_leastRound_5 rfl ?_
  refine hs_get dX6_leastRound_6 fl_X6_9_6 hg2 hv4 ?_
  refine hs_get dX6_leastRound_9 fl_X6_56_8 hg6 hv8 ?_
  exact hs_icmp_ge dX6_leastRound_12 (by decide) kt kf
theorem b_X6_leastRound_15 {G : hk_G} {d cb sb : Nat} {h : hk_H} {Q : hk_O → hk_H → Prop} {r0 : Nat} {fs1 : List Value} {v3 : Nat} {x2 : Int32} {n5 : Nat} {f6 : Nat → Int32} {o1 : Option Value} (hg2 : h.2 r0 = some (.inr (6, fs1))) (hv4 : fs1[1]? = some (.ref v3)) (ha7 : h.2 v3 = some (.inl (2, n5, .inl f6))) (j8 : Nat) (hi9 : (x2 : Int32).toInt = (j8 : Int)) (hj10 : j8 < n5) (kt : (f6 j8) = 0 → hk_S G m_X6_leastRound (d + 1) cb sb 34 [some (.ref r0), o1, some (.int x2)] [] h Q) (kf : ¬ (f6 j8) = 0 → hk_S G m_X6_leastRound (d + 1) cb sb 24 [some (.ref r0), o1, some (.int x2)] [] h Q) : hk_S G m_X6_leastRound (d + 1) cb sb 15 [some (.ref r0), o1, some (.int x2)] [] h Q := by
  refine hs_aload_n dX6_leastRound_15 rfl ?_
  refine hs_get dX6_leastRound_16 fl_X6_15_6 hg2 hv4 ?_
  refine hs_iload_n dX6_leastRound_19 rfl ?_
  refine hs_zald j8 dX6_leastRound_20 ha7 hi9 hj10 ?_
  exact hs_if_eq dX6_leastRound_21 (by decide) kt kf
theorem b_X6_leastRound_24 {G : hk_G} {d cb sb : Nat} {h : hk_H} {Q : hk_O → hk_H → Prop} {x1 : Int32} {r0 : Nat} {x2 : Int32} {fs_ : List Value} (hrec : h.2 r0 = some (.inr (6, fs_))) (hc : hk_Ci G m_X6_leastRoundFrom d 0 0 [.ref r0, .int x2] h (fun z h' => hk_S G m_X6_leastRound (d + 1) cb sb 30 [some (.ref r0), some (.int x1), some (.int x2)] [.int z, .int x1] h' Q)) : hk_S G m_X6_leastRound (d + 1) cb sb 24 [some (.ref r0), some (.int x1), some (.int x2)] [] h Q := by
  refine hs_iload_n dX6_leastRound_24 rfl ?_
  refine hs_aload_n dX6_leastRound_25 rfl ?_
  refine hs_iload_n dX6_leastRound_26 rfl ?_
  exact hk_z0 (hs_vir (M' := m_X6_leastRoundFrom) (vs := [.int x2]) (c1 := 0) (s1 := 0) dX6_leastRound_27 wd_675 vi_X6_leastRoundFrom hrec rfl (Nat.le_of_ble_eq_true rfl) hc hq_i (hc_i (fun z h9 k9 => k9)))
theorem b_X6_leastRound_30 {G : hk_G} {d cb sb : Nat} {h : hk_H} {Q : hk_O → hk_H → Prop} {s0 : Int32} {s1 : Int32} {o0 : Option Value} {o1 : Option Value} {o2 : Option Value} (hc : hk_Ci G m_J9_min_7cf53 d 0 0 [.int s0, .int s1] h (fun z h' => hk_S G m_X6_leastRound (d + 1) cb sb 33 [o0, o1, o2] [.int z] h' Q)) : hk_S G m_X6_leastRound (d + 1) cb sb 30 [o0, o1, o2] [.int s1, .int s0] h Q := by
  exact hk_z0 (hs_sta (M' := m_J9_min_7cf53) (vs := [.int s0, .int s1]) (c1 := 0) (s1 := 0) dX6_leastRound_30 wd_679 st_J9_min_7cf53 rfl (Nat.le_of_ble_eq_true rfl) hc hq_i (hc_i (fun z h9 k9 => k9)))
theorem b_X6_leastRound_33 {G : hk_G} {d cb sb : Nat} {h : hk_H} {Q : hk_O → hk_H → Prop} {s0 : Int32} {x2 : Int32} {o0 : Option Value} {o1 : Option Value} (k : hk_S G m_X6_leastRound (d + 1) cb sb 4 [o0, some (.int s0), some (.int (x2 + 1))] [] h Q) (ho0 : hk_c1 o0 := by first | exact hk_c1i | exact hk_c1r | exact hk_c10 | exact hk_c1n) : hk_S G m_X6_leastRound (d + 1) cb sb 33 [o0, o1, some (.int x2)] [.int s0] h Q := by
  refine hs_istK_n dX6_leastRound_33 (by decide) (hk_nk1 rfl ho0) rfl ?_
  refine hs_iincK (v := 1) dX6_leastRound_34 rfl (by decide) (by decide) (hk_nk1 rfl hk_c1i) rfl ?_
  refine hs_goto dX6_leastRound_37 (tgt := 4) (by decide) ?_
  exact k
theorem b_X6_leastRound_34 {G : hk_G} {d cb sb : Nat} {h : hk_H} {Q : hk_O → hk_H → Prop} {x2 : Int32} {o0 : Option Value} {o1 : Option Value} (k : hk_S G m_X6_leastRound (d + 1) cb sb 4 [o0, o1, some (.int (x2 + 1))] [] h Q) (ho1 : hk_c1 o1 := by first | exact hk_c1i | exact hk_c1r | exact hk_c10 | exact hk_c1n) : hk_S G m_X6_leastRound (d + 1) cb sb 34 [o0, o1, some (.int x2)] [] h Q := by
  refine hs_iincK (v := 1) dX6_leastRound_34 rfl (by decide) (by decide) (hk_nk1 rfl ho1) rfl ?_
  refine hs_goto dX6_leastRound_37 (tgt := 4) (by decide) ?_
  exact k
theorem b_X6_leastRound_40 {G : hk_G} {d cb sb : Nat} {h : hk_H} {Q : hk_O → hk_H → Prop} {x1 : Int32} {o0 : Option Value} {o2 : Option Value} (hq : Q (.inl (some (.int x1))) h) : hk_S G m_X6_leastRound (d + 1) cb sb 40 [o0, some (.int x1), o2] [] h Q := by
  refine hs_iload_n dX6_leastRound_40 rfl ?_
  exact hs_iret dX6_leastRound_41 rfl hq
-- HonestHouse$Ways.leastRoundFrom(I)I
theorem b_X6_leastRoundFrom_0 {G : hk_G} {d cb sb : Nat} {h : hk_H} {Q : hk_O → hk_H → Prop} {r0 : Nat} {fs1 : List Value} {v3 : Nat} {o1 : Option Value} {o2 : Option Value} {o3 : Option Value} {o4 : Option Value} {o5 : Option Value} (hg2 : h.2 r0 = some (.inr (6, fs1))) (hv4 : fs1[4]? = some (.ref v3)) (hc : hk_Cv G m_J7_fill_53178 d 0 0 [.ref v3, .int 1000000] h (fun h' => hk_S G m_X6_leastRoundFrom (d + 1) cb sb 9 [some (.ref r0), o1, o2, o3, o4, o5] [] h' Q)) : hk_S G m_X6_leastRoundFrom (d + 1) cb sb 0 [some (.ref r0), o1, o2, o3, o4, o5] [] h Q := by
  refine hs_aload_n dX6_leastRoundFrom_0 rfl ?_
  refine hs_get dX6_leastRoundFrom_1 fl_X6_26_6 hg2 hv4 ?_
  refine hs_ldc (v := 1000000) dX6_leastRoundFrom_4 wd_641 ?_
  exact hk_z0 (hs_sta (M' := m_J7_fill_53178) (vs := [.ref v3, .int 1000000]) (c1 := 0) (s1 := 0) dX6_leastRoundFrom_6 wd_642 st_J7_fill_53178 rfl (Nat.le_of_ble_eq_true rfl) hc hq_v (hc_v (fun h9 k9 => k9)))
theorem b_X6_leastRoundFrom_9 {G : hk_G} {d cb sb : Nat} {h : hk_H} {Q : hk_O → hk_H → Prop} {r0 : Nat} {fs1 : List Value} {v3 : Nat} {x1 : Int32} {n5 : Nat} {f6 : Nat → Int32} {h_1 : hk_H} {o2 : Option Value} {o3 : Option Value} {o4 : Option Value} {o5 : Option Value} (hg2 : h.2 r0 = some (.inr (6, fs1))) (hv4 : fs1[4]? = some (.ref v3)) (ha7 : h.2 v3 = some (.inl (0, n5, .inl f6))) (h4_v3 : 4 ≤ v3) (j8 : Nat) (hi9 : (((1 <<< (x1 &&& 31)) * 5) + x1 : Int32).toInt = (j8 : Int)) (hj10 : j8 < n5) (e_1 : (hk_set h v3 (.inl (0, n5, .inl (upd f6 j8 0)))) = h_1) (k : hk_S G m_X6_leastRoundFrom (d + 1) cb sb 28 [some (.ref r0), some (.int x1), some (.int 0), some (.int (1 <<< (x1 &&& 31))), o4, o5] [] h_1 Q) : hk_S G m_X6_leastRoundFrom (d + 1) cb sb 9 [some (.ref r0), some (.int x1), o2, o3, o4, o5] [] h Q := by
  subst e_1
  refine hs_aload_n dX6_leastRoundFrom_9 rfl ?_
  refine hs_get dX6_leastRoundFrom_10 fl_X6_26_6 hg2 hv4 ?_
  refine hs_iconst (v := 1) dX6_leastRoundFrom_13 (by decide) ?_
  refine hs_iload_n dX6_leastRoundFrom_14 rfl ?_
  refine hs_ishl dX6_leastRoundFrom_15 ?_
  refine hs_iconst (v := 5) dX6_leastRoundFrom_16 (by decide) ?_
  refine hs_imul dX6_leastRoundFrom_17 ?_
  refine hs_iload_n dX6_leastRoundFrom_18 rfl ?_
  refine hs_iadd dX6_leastRoundFrom_19 ?_
  refine hs_iconst (v := 0) dX6_leastRoundFrom_20 (by decide) ?_
  refine hs_iast j8 dX6_leastRoundFrom_21 ha7 h4_v3 hi9 hj10 ?_
  refine hs_iconst (v := 0) dX6_leastRoundFrom_22 (by decide) ?_
  refine hs_istK_n dX6_leastRoundFrom_23 (by decide) (hk_nk1 rfl hk_c1i) rfl ?_
  refine hs_iconst (v := 1) dX6_leastRoundFrom_24 (by decide) ?_
  refine hs_iload_n dX6_leastRoundFrom_25 rfl ?_
  refine hs_ishl dX6_leastRoundFrom_26 ?_
  refine hs_istK_n dX6_leastRoundFrom_27 (by decide) (hk_nk1 rfl hk_c1i) rfl ?_
  exact k
theorem b_X6_leastRoundFrom_28 {G : hk_G} {d cb sb : Nat} {h : hk_H} {Q : hk_O → hk_H → Prop} {x3 : Int32} {r0 : Nat} {fs1 : List Value} {v3 : Nat} {fs5 : List Value} {v7 : Int32} {o1 : Option Value} {o2 : Option Value} {o4 : Option Value} {o5 : Option Value} (hg2 : h.2 r0 = some (.inr (6, fs1))) (hv4 : fs1[0]? = some (.ref v3)) (hg6 : h.2 v3 = some (.inr (8, fs5))) (hv8 : fs5[1]? = some (.int v7)) (kt : (1 <<< (v7 &&& 31)) ≤ x3 → hk_S G m_X6_leastRoundFrom (d + 1) cb sb 111 [some (.ref r0), o1, o2, some (.int x3), o4, o5] [] h Q) (kf : ¬ (1 <<< (v7 &&& 31)) ≤ x3 → hk_S G m_X6_leastRoundFrom (d + 1) cb sb 41 [some (.ref r0), o1, o2, some (.int x3), o4, o5] [] h Q) : hk_S G m_X6_leastRoundFrom (d + 1) cb sb 28 [some (.ref r0), o1, o2, some (.int x3), o4, o5] [] h Q := by
  refine hs_iload_n dX6_leastRoundFrom_28 rfl ?_
  refine hs_iconst (v := 1) dX6_leastRoundFrom_29 (by decide) ?_
  refine hs_aload_n dX6_leastRoundFrom_30 rfl ?_
  refine hs_get dX6_leastRoundFrom_31 fl_X6_9_6 hg2 hv4 ?_
  refine hs_get dX6_leastRoundFrom_34 fl_X6_56_8 hg6 hv8 ?_
  refine hs_ishl dX6_leastRoundFrom_37 ?_
  exact hs_icmp_ge dX6_leastRoundFrom_38 (by decide) kt kf
theorem b_X6_leastRoundFrom_41 {G : hk_G} {d cb sb : Nat} {h : hk_H} {Q : hk_O → hk_H → Prop} {x1 : Int32} {o0 : Option Value} {o2 : Option Value} {o3 : Option Value} {o4 : Option Value} {o5 : Option Value} (k : hk_S G m_X6_leastRoundFrom (d + 1) cb sb 44 [o0, some (.int x1), o2, o3, some (.int x1), o5] [] h Q) (ho3 : hk_c1 o3 := by first | exact hk_c1i | exact hk_c1r | exact hk_c10 | exact hk_c1n) : hk_S G m_X6_leastRoundFrom (d + 1) cb sb 41 [o0, some (.int x1), o2, o3, o4, o5] [] h Q := by
  refine hs_iload_n dX6_leastRoundFrom_41 rfl ?_
  refine hs_istK dX6_leastRoundFrom_42 (by decide) (hk_nk1 rfl ho3) rfl ?_
  exact k
theorem b_X6_leastRoundFrom_44 {G : hk_G} {d cb sb : Nat} {h : hk_H} {Q : hk_O → hk_H → Prop} {x4 : Int32} {r0 : Nat} {fs1 : List Value} {v3 : Nat} {fs5 : List Value} {v7 : Int32} {o1 : Option Value} {o2 : Option Value} {o3 : Option Value} {o5 : Option Value} (hg2 : h.2 r0 = some (.inr (6, fs1))) (hv4 : fs1[0]? = some (.ref v3)) (hg6 : h.2 v3 = some (.inr (8, fs5))) (hv8 : fs5[1]? = some (.int v7)) (kt : v7 ≤ x4 → hk_S G m_X6_leastRoundFrom (d + 1) cb sb 105 [some (.ref r0), o1, o2, o3, some (.int x4), o5] [] h Q) (kf : ¬ v7 ≤ x4 → hk_S G m_X6_leastRoundFrom (d + 1) cb sb 56 [some (.ref r0), o1, o2, o3, some (.int x4), o5] [] h Q) : hk_S G m_X6_leastRoundFrom (d + 1) cb sb 44 [some (.ref r0), o1, o2, o3, some (.int x4), o5] [] h Q := by
  refine hs_iload dX6_leastRoundFrom_44 rfl ?_
  refine hs_aload_n dX6_leastRoundFrom_46 rfl ?_
  refine hs_get dX6_leastRoundFrom_47 fl_X6_9_6 hg2 hv4 ?_
  refine hs_get dX6_leastRoundFrom_50 fl_X6_56_8 hg6 hv8 ?_
  exact hs_icmp_ge dX6_leastRoundFrom_53 (by decide) kt kf
theorem b_X6_leastRoundFrom_56 {G : hk_G} {d cb sb : Nat} {h : hk_H} {Q : hk_O → hk_H → Prop} {r0 : Nat} {fs1 : List Value} {v3 : Nat} {x3 : Int32} {x4 : Int32} {n5 : Nat} {f6 : Nat → Int32} {o1 : Option Value} {o2 : Option Value} {o5 : Option Value} (hg2 : h.2 r0 = some (.inr (6, fs1))) (hv4 : fs1[4]? = some (.ref v3)) (ha7 : h.2 v3 = some (.inl (0, n5, .inl f6))) (j8 : Nat) (hi9 : ((x3 * 5) + x4 : Int32).toInt = (j8 : Int)) (hj10 : j8 < n5) (kt : 1000000 ≤ (f6 j8) → hk_S G m_X6_leastRoundFrom (d + 1) cb sb 99 [some (.ref r0), o1, o2, some (.int x3), some (.int x4), some (.int (f6 j8))] [] h Q) (kf : ¬ 1000000 ≤ (f6 j8) → hk_S G m_X6_leastRoundFrom (d + 1) cb sb 76 [some (.ref r0), o1, o2, some (.int x3), some (.int x4), some (.int (f6 j8))] [] h Q) : hk_S G m_X6_leastRoundFrom (d + 1) cb sb 56 [some (.ref r0), o1, o2, some (.int x3), some (.int x4), o5] [] h Q := by
  refine hs_aload_n dX6_leastRoundFrom_56 rfl ?_
  refine hs_get dX6_leastRoundFrom_57 fl_X6_26_6 hg2 hv4 ?_
  refine hs_iload_n dX6_leastRoundFrom_60 rfl ?_
  refine hs_iconst (v := 5) dX6_leastRoundFrom_61 (by decide) ?_
  refine hs_imul dX6_leastRoundFrom_62 ?_
  refine hs_iload dX6_leastRoundFrom_63 rfl ?_
  refine hs_iadd dX6_leastRoundFrom_65 ?_
  refine hs_iald j8 dX6_leastRoundFrom_66 ha7 hi9 hj10 ?_
  refine hs_istK dX6_leastRoundFrom_67 (by decide) (hk_nk1 rfl hk_c1i) rfl ?_
  refine hs_iload dX6_leastRoundFrom_69 rfl ?_
  refine hs_ldc (v := 1000000) dX6_leastRoundFrom_71 wd_641 ?_
  exact hs_icmp_ge dX6_leastRoundFrom_73 (by decide) kt kf
theorem b_X6_leastRoundFrom_76 {G : hk_G} {d cb sb : Nat} {h : hk_H} {Q : hk_O → hk_H → Prop} {x2 : Int32} {x5 : Int32} {r0 : Nat} {x4 : Int32} {x1 : Int32} {fs_ : List Value} {o3 : Option Value} (hrec : h.2 r0 = some (.inr (6, fs_))) (hc : hk_Ci G m_X6_lengthOf d 0 0 [.ref r0, .int x4, .int x1] h (fun z h' => hk_S G m_X6_leastRoundFrom (d + 1) cb sb 86 [some (.ref r0), some (.int x1), some (.int x2), o3, some (.int x4), some (.int x5)] [.int z, .int x5, .int x2] h' Q)) : hk_S G m_X6_leastRoundFrom (d + 1) cb sb 76 [some (.ref r0), some (.int x1), some (.int x2), o3, some (.int x4), some (.int x5)] [] h Q := by
  refine hs_iload_n dX6_leastRoundFrom_76 rfl ?_
  refine hs_iload dX6_leastRoundFrom_77 rfl ?_
  refine hs_aload_n dX6_leastRoundFrom_79 rfl ?_
  refine hs_iload dX6_leastRoundFrom_80 rfl ?_
  refine hs_iload_n dX6_leastRoundFrom_82 rfl ?_
  exact hk_z0 (hs_vir (M' := m_X6_lengthOf) (vs := [.int x4, .int x1]) (c1 := 0) (s1 := 0) dX6_leastRoundFrom_83 wd_648 vi_X6_lengthOf hrec rfl (Nat.le_of_ble_eq_true rfl) hc hq_i (hc_i (fun z h9 k9 => k9)))
theorem b_X6_leastRoundFrom_86 {G : hk_G} {d cb sb : Nat} {h : hk_H} {Q : hk_O → hk_H → Prop} {s0 : Int32} {s1 : Int32} {s2 : Int32} {o0 : Option Value} {o1 : Option Value} {o2 : Option Value} {o3 : Option Value} {o4 : Option Value} {o5 : Option Value} (hc : hk_Ci G m_J9_min_7cf53 d 0 0 [.int s0, .int (s1 + s2)] h (fun z h' => hk_S G m_X6_leastRoundFrom (d + 1) cb sb 90 [o0, o1, o2, o3, o4, o5] [.int z] h' Q)) : hk_S G m_X6_leastRoundFrom (d + 1) cb sb 86 [o0, o1, o2, o3, o4, o5] [.int s2, .int s1, .int s0] h Q := by
  refine hs_iadd dX6_leastRoundFrom_86 ?_
  exact hk_z0 (hs_sta (M' := m_J9_min_7cf53) (vs := [.int s0, .int (s1 + s2)]) (c1 := 0) (s1 := 0) dX6_leastRoundFrom_87 wd_679 st_J9_min_7cf53 rfl (Nat.le_of_ble_eq_true rfl) hc hq_i (hc_i (fun z h9 k9 => k9)))
theorem b_X6_leastRoundFrom_90 {G : hk_G} {d cb sb : Nat} {h : hk_H} {Q : hk_O → hk_H → Prop} {s0 : Int32} {r0 : Nat} {x3 : Int32} {x4 : Int32} {x1 : Int32} {fs_ : List Value} {o2 : Option Value} {o5 : Option Value} (hrec : h.2 r0 = some (.inr (6, fs_))) (hc : hk_Cv G m_X6_goOn d 0 0 [.ref r0, .int x3, .int x4, .int x1] h (fun h' => hk_S G m_X6_leastRoundFrom (d + 1) cb sb 99 [some (.ref r0), some (.int x1), some (.int s0), some (.int x3), some (.int x4), o5] [] h' Q)) : hk_S G m_X6_leastRoundFrom (d + 1) cb sb 90 [some (.ref r0), some (.int x1), o2, some (.int x3), some (.int x4), o5] [.int s0] h Q := by
  refine hs_istK_n dX6_leastRoundFrom_90 (by decide) (hk_nk1 rfl hk_c1i) rfl ?_
  refine hs_aload_n dX6_leastRoundFrom_91 rfl ?_
  refine hs_iload_n dX6_leastRoundFrom_92 rfl ?_
  refine hs_iload dX6_leastRoundFrom_93 rfl ?_
  refine hs_iload_n dX6_leastRoundFrom_95 rfl ?_
  exact hk_z0 (hs_vir (M' := m_X6_goOn) (vs := [.int x3, .int x4, .int x1]) (c1 := 0) (s1 := 0) dX6_leastRoundFrom_96 wd_680 vi_X6_goOn hrec rfl (Nat.le_of_ble_eq_true rfl) hc hq_v (hc_v (fun h9 k9 => k9)))
theorem b_X6_leastRoundFrom_99 {G : hk_G} {d cb sb : Nat} {h : hk_H} {Q : hk_O → hk_H → Prop} {x4 : Int32} {o0 : Option Value} {o1 : Option Value} {o2 : Option Value} {o3 : Option Value} {o5 : Option Value} (k : hk_S G m_X6_leastRoundFrom (d + 1) cb sb 44 [o0, o1, o2, o3, some (.int (x4 + 1)), o5] [] h Q) (ho3 : hk_c1 o3 := by first | exact hk_c1i | exact hk_c1r | exact hk_c10 | exact hk_c1n) : hk_S G m_X6_leastRoundFrom (d + 1) cb sb 99 [o0, o1, o2, o3, some (.int x4), o5] [] h Q := by
  refine hs_iincK (v := 1) dX6_leastRoundFrom_99 rfl (by decide) (by decide) (hk_nk1 rfl ho3) rfl ?_
  refine hs_goto dX6_leastRoundFrom_102 (tgt := 44) (by decide) ?_
  exact k
theorem b_X6_leastRoundFrom_105 {G : hk_G} {d cb sb : Nat} {h : hk_H} {Q : hk_O → hk_H → Prop} {x3 : Int32} {o0 : Option Value} {o1 : Option Value} {o2 : Option Value} {o4 : Option Value} {o5 : Option Value} (k : hk_S G m_X6_leastRoundFrom (d + 1) cb sb 28 [o0, o1, o2, some (.int (x3 + 1)), o4, o5] [] h Q) (ho2 : hk_c1 o2 := by first | exact hk_c1i | exact hk_c1r | exact hk_c10 | exact hk_c1n) : hk_S G m_X6_leastRoundFrom (d + 1) cb sb 105 [o0, o1, o2, some (.int x3), o4, o5] [] h Q := by
  refine hs_iincK (v := 1) dX6_leastRoundFrom_105 rfl (by decide) (by decide) (hk_nk1 rfl ho2) rfl ?_
  refine hs_goto dX6_leastRoundFrom_108 (tgt := 28) (by decide) ?_
  exact k
theorem b_X6_leastRoundFrom_111 {G : hk_G} {d cb sb : Nat} {h : hk_H} {Q : hk_O → hk_H → Prop} {x2 : Int32} {o0 : Option Value} {o1 : Option Value} {o3 : Option Value} {o4 : Option Value} {o5 : Option Value} (hq : Q (.inl (some (.int x2))) h) : hk_S G m_X6_leastRoundFrom (d + 1) cb sb 111 [o0, o1, some (.int x2), o3, o4, o5] [] h Q := by
  refine hs_iload_n dX6_leastRoundFrom_111 rfl ?_
  exact hs_iret dX6_leastRoundFrom_112 rfl hq
-- HonestHouse$Ways.goOn(III)V
theorem b_X6_goOn_0 {G : hk_G} {d cb sb : Nat} {h : hk_H} {Q : hk_O → hk_H → Prop} {r0 : Nat} {fs1 : List Value} {v3 : Nat} {x1 : Int32} {x2 : Int32} {n5 : Nat} {f6 : Nat → Int32} {x3 : Int32} {o4 : Option Value} {o5 : Option Value} {o6 : Option Value} (hg2 : h.2 r0 = some (.inr (6, fs1))) (hv4 : fs1[4]? = some (.ref v3)) (ha7 : h.2 v3 = some (.inl (0, n5, .inl f6))) (j8 : Nat) (hi9 : ((x1 * 5) + x2 : Int32).toInt = (j8 : Int)) (hj10 : j8 < n5) (k : hk_S G m_X6_goOn (d + 1) cb sb 17 [some (.ref r0), some (.int x1), some (.int x2), some (.int x3), some (.int (f6 j8)), some (.int (x3 + 1)), o6] [] h Q) : hk_S G m_X6_goOn (d + 1) cb sb 0 [some (.ref r0), some (.int x1), some (.int x2), some (.int x3), o4, o5, o6] [] h Q := by
  refine hs_aload_n dX6_goOn_0 rfl ?_
  refine hs_get dX6_goOn_1 fl_X6_26_6 hg2 hv4 ?_
  refine hs_iload_n dX6_goOn_4 rfl ?_
  refine hs_iconst (v := 5) dX6_goOn_5 (by decide) ?_
  refine hs_imul dX6_goOn_6 ?_
  refine hs_iload_n dX6_goOn_7 rfl ?_
  refine hs_iadd dX6_goOn_8 ?_
  refine hs_iald j8 dX6_goOn_9 ha7 hi9 hj10 ?_
  refine hs_istK dX6_goOn_10 (by decide) (hk_nk1 rfl hk_c1i) rfl ?_
  refine hs_iload_n dX6_goOn_12 rfl ?_
  refine hs_iconst (v := 1) dX6_goOn_13 (by decide) ?_
  refine hs_iadd dX6_goOn_14 ?_
  refine hs_istK dX6_goOn_15 (by decide) (hk_nk1 rfl hk_c1i) rfl ?_
  exact k
theorem b_X6_goOn_17 {G : hk_G} {d cb sb : Nat} {h : hk_H} {Q : hk_O → hk_H → Prop} {x5 : Int32} {r0 : Nat} {fs1 : List Value} {v3 : Nat} {fs5 : List Value} {v7 : Int32} {o1 : Option Value} {o2 : Option Value} {o3 : Option Value} {o4 : Option Value} {o6 : Option Value} (hg2 : h.2 r0 = some (.inr (6, fs1))) (hv4 : fs1[0]? = some (.ref v3)) (hg6 : h.2 v3 = some (.inr (8, fs5))) (hv8 : fs5[1]? = some (.int v7)) (kt : v7 ≤ x5 → hk_S G m_X6_goOn (d + 1) cb sb 94 [some (.ref r0), o1, o2, o3, o4, some (.int x5), o6] [] h Q) (kf : ¬ v7 ≤ x5 → hk_S G m_X6_goOn (d + 1) cb sb 29 [some (.ref r0), o1, o2, o3, o4, some (.int x5), o6] [] h Q) : hk_S G m_X6_goOn (d + 1) cb sb 17 [some (.ref r0), o1, o2, o3, o4, some (.int x5), o6] [] h Q := by
  refine hs_iload dX6_goOn_17 rfl ?_
  refine hs_aload_n dX6_goOn_19 rfl ?_
  refine hs_get dX6_goOn_20 fl_X6_9_6 hg2 hv4 ?_
  refine hs_get dX6_goOn_23 fl_X6_56_8 hg6 hv8 ?_
  exact hs_icmp_ge dX6_goOn_26 (by decide) kt kf
theorem b_X6_goOn_29 {G : hk_G} {d cb sb : Nat} {h : hk_H} {Q : hk_O → hk_H → Prop} {r0 : Nat} {fs1 : List Value} {v3 : Nat} {x5 : Int32} {n5 : Nat} {f6 : Nat → Int32} {o1 : Option Value} {o2 : Option Value} {o3 : Option Value} {o4 : Option Value} {o6 : Option Value} (hg2 : h.2 r0 = some (.inr (6, fs1))) (hv4 : fs1[1]? = some (.ref v3)) (ha7 : h.2 v3 = some (.inl (2, n5, .inl f6))) (j8 : Nat) (hi9 : (x5 : Int32).toInt = (j8 : Int)) (hj10 : j8 < n5) (kt : (f6 j8) = 0 → hk_S G m_X6_goOn (d + 1) cb sb 88 [some (.ref r0), o1, o2, o3, o4, some (.int x5), o6] [] h Q) (kf : ¬ (f6 j8) = 0 → hk_S G m_X6_goOn (d + 1) cb sb 39 [some (.ref r0), o1, o2, o3, o4, some (.int x5), o6] [] h Q) : hk_S G m_X6_goOn (d + 1) cb sb 29 [some (.ref r0), o1, o2, o3, o4, some (.int x5), o6] [] h Q := by
  refine hs_aload_n dX6_goOn_29 rfl ?_
  refine hs_get dX6_goOn_30 fl_X6_15_6 hg2 hv4 ?_
  refine hs_iload dX6_goOn_33 rfl ?_
  refine hs_zald j8 dX6_goOn_35 ha7 hi9 hj10 ?_
  exact hs_if_eq dX6_goOn_36 (by decide) kt kf
theorem b_X6_goOn_39 {G : hk_G} {d cb sb : Nat} {h : hk_H} {Q : hk_O → hk_H → Prop} {x1 : Int32} {x5 : Int32} {o0 : Option Value} {o2 : Option Value} {o3 : Option Value} {o4 : Option Value} {o6 : Option Value} (kt : ¬ ((x1 >>> (x5 &&& 31)) &&& 1) = 0 → hk_S G m_X6_goOn (d + 1) cb sb 88 [o0, some (.int x1), o2, o3, o4, some (.int x5), o6] [] h Q) (kf : ((x1 >>> (x5 &&& 31)) &&& 1) = 0 → hk_S G m_X6_goOn (d + 1) cb sb 48 [o0, some (.int x1), o2, o3, o4, some (.int x5), o6] [] h Q) : hk_S G m_X6_goOn (d + 1) cb sb 39 [o0, some (.int x1), o2, o3, o4, some (.int x5), o6] [] h Q := by
  refine hs_iload_n dX6_goOn_39 rfl ?_
  refine hs_iload dX6_goOn_40 rfl ?_
  refine hs_ishr dX6_goOn_42 ?_
  refine hs_iconst (v := 1) dX6_goOn_43 (by decide) ?_
  refine hs_iand dX6_goOn_44 ?_
  exact hs_if_ne dX6_goOn_45 (by decide) kt kf
theorem b_X6_goOn_48 {G : hk_G} {d cb sb : Nat} {h : hk_H} {Q : hk_O → hk_H → Prop} {x1 : Int32} {x5 : Int32} {r0 : Nat} {fs1 : List Value} {v3 : Nat} {n5 : Nat} {f6 : Nat → Int32} {x4 : Int32} {x2 : Int32} {o3 : Option Value} {o6 : Option Value} (hg2 : h.2 r0 = some (.inr (6, fs1))) (hv4 : fs1[4]? = some (.ref v3)) (ha7 : h.2 v3 = some (.inl (0, n5, .inl f6))) (j8 : Nat) (hi9 : (((x1 ||| (1 <<< (x5 &&& 31))) * 5) + x5 : Int32).toInt = (j8 : Int)) (hj10 : j8 < n5) (hc : hk_Ci G m_X6_lengthOf d 0 0 [.ref r0, .int x2, .int x5] h (fun z h' => hk_S G m_X6_goOn (d + 1) cb sb 83 [some (.ref r0), some (.int x1), some (.int x2), o3, some (.int x4), some (.int x5), some (.int (((x1 ||| (1 <<< (x5 &&& 31))) * 5) + x5))] [.int z, .int x4, .int (f6 j8), .int (((x1 ||| (1 <<< (x5 &&& 31))) * 5) + x5), .ref v3] h' Q)) : hk_S G m_X6_goOn (d + 1) cb sb 48 [some (.ref r0), some (.int x1), some (.int x2), o3, some (.int x4), some (.int x5), o6] [] h Q := by
  refine hs_iload_n dX6_goOn_48 rfl ?_
  refine hs_iconst (v := 1) dX6_goOn_49 (by decide) ?_
  refine hs_iload dX6_goOn_50 rfl ?_
  refine hs_ishl dX6_goOn_52 ?_
  refine hs_ior dX6_goOn_53 ?_
  refine hs_iconst (v := 5) dX6_goOn_54 (by decide) ?_
  refine hs_imul dX6_goOn_55 ?_
  refine hs_iload dX6_goOn_56 rfl ?_
  refine hs_iadd dX6_goOn_58 ?_
  refine hs_istK dX6_goOn_59 (by decide) (hk_nk1 rfl hk_c1i) rfl ?_
  refine hs_aload_n dX6_goOn_61 rfl ?_
  refine hs_get dX6_goOn_62 fl_X6_26_6 hg2 hv4 ?_
  refine hs_iload dX6_goOn_65 rfl ?_
  refine hs_aload_n dX6_goOn_67 rfl ?_
  refine hs_get dX6_goOn_68 fl_X6_26_6 hg2 hv4 ?_
  refine hs_iload dX6_goOn_71 rfl ?_
  refine hs_iald j8 dX6_goOn_73 ha7 hi9 hj10 ?_
  refine hs_iload dX6_goOn_74 rfl ?_
  refine hs_aload_n dX6_goOn_76 rfl ?_
  refine hs_iload_n dX6_goOn_77 rfl ?_
  refine hs_iload dX6_goOn_78 rfl ?_
  exact hk_z0 (hs_vir (M' := m_X6_lengthOf) (vs := [.int x2, .int x5]) (c1 := 0) (s1 := 0) dX6_goOn_80 wd_648 vi_X6_lengthOf hg2 rfl (Nat.le_of_ble_eq_true rfl) hc hq_i (hc_i (fun z h9 k9 => k9)))
theorem b_X6_goOn_83 {G : hk_G} {d cb sb : Nat} {h : hk_H} {Q : hk_O → hk_H → Prop} {s0 : Nat} {s1 : Int32} {s2 : Int32} {s3 : Int32} {s4 : Int32} {o0 : Option Value} {o1 : Option Value} {o2 : Option Value} {o3 : Option Value} {o4 : Option Value} {o5 : Option Value} {o6 : Option Value} (hc : hk_Ci G m_J9_min_7cf53 d 0 0 [.int s2, .int (s3 + s4)] h (fun z h' => hk_S G m_X6_goOn (d + 1) cb sb 87 [o0, o1, o2, o3, o4, o5, o6] [.int z, .int s1, .ref s0] h' Q)) : hk_S G m_X6_goOn (d + 1) cb sb 83 [o0, o1, o2, o3, o4, o5, o6] [.int s4, .int s3, .int s2, .int s1, .ref s0] h Q := by
  refine hs_iadd dX6_goOn_83 ?_
  exact hk_z0 (hs_sta (M' := m_J9_min_7cf53) (vs := [.int s2, .int (s3 + s4)]) (c1 := 0) (s1 := 0) dX6_goOn_84 wd_679 st_J9_min_7cf53 rfl (Nat.le_of_ble_eq_true rfl) hc hq_i (hc_i (fun z h9 k9 => k9)))
theorem b_X6_goOn_87 {G : hk_G} {d cb sb : Nat} {h : hk_H} {Q : hk_O → hk_H → Prop} {s0 : Nat} {s1 : Int32} {s2 : Int32} {n1 : Nat} {f2 : Nat → Int32} {h_1 : hk_H} {x5 : Int32} {o0 : Option Value} {o1 : Option Value} {o2 : Option Value} {o3 : Option Value} {o4 : Option Value} {o6 : Option Value} (ha3 : h.2 s0 = some (.inl (0, n1, .inl f2))) (h4_s0 : 4 ≤ s0) (j4 : Nat) (hi5 : (s1 : Int32).toInt = (j4 : Int)) (hj6 : j4 < n1) (e_1 : (hk_set h s0 (.inl (0, n1, .inl (upd f2 j4 s2)))) = h_1) (k : hk_S G m_X6_goOn (d + 1) cb sb 17 [o0, o1, o2, o3, o4, some (.int (x5 + 1)), o6] [] h_1 Q) (ho4 : hk_c1 o4 := by first | exact hk_c1i | exact hk_c1r | exact hk_c10 | exact hk_c1n) : hk_S G m_X6_goOn (d + 1) cb sb 87 [o0, o1, o2, o3, o4, some (.int x5), o6] [.int s2, .int s1, .ref s0] h Q := by
  subst e_1
  refine hs_iast j4 dX6_goOn_87 ha3 h4_s0 hi5 hj6 ?_
  refine hs_iincK (v := 1) dX6_goOn_88 rfl (by decide) (by decide) (hk_nk1 rfl ho4) rfl ?_
  refine hs_goto dX6_goOn_91 (tgt := 17) (by decide) ?_
  exact k
theorem b_X6_goOn_88 {G : hk_G} {d cb sb : Nat} {h : hk_H} {Q : hk_O → hk_H → Prop} {x5 : Int32} {o0 : Option Value} {o1 : Option Value} {o2 : Option Value} {o3 : Option Value} {o4 : Option Value} {o6 : Option Value} (k : hk_S G m_X6_goOn (d + 1) cb sb 17 [o0, o1, o2, o3, o4, some (.int (x5 + 1)), o6] [] h Q) (ho4 : hk_c1 o4 := by first | exact hk_c1i | exact hk_c1r | exact hk_c10 | exact hk_c1n) : hk_S G m_X6_goOn (d + 1) cb sb 88 [o0, o1, o2, o3, o4, some (.int x5), o6] [] h Q := by
  refine hs_iincK (v := 1) dX6_goOn_88 rfl (by decide) (by decide) (hk_nk1 rfl ho4) rfl ?_
  refine hs_goto dX6_goOn_91 (tgt := 17) (by decide) ?_
  exact k
theorem b_X6_goOn_94 {G : hk_G} {d cb sb : Nat} {h : hk_H} {Q : hk_O → hk_H → Prop} {o0 : Option Value} {o1 : Option Value} {o2 : Option Value} {o3 : Option Value} {o4 : Option Value} {o5 : Option Value} {o6 : Option Value} (hq : Q (.inl none) h) : hk_S G m_X6_goOn (d + 1) cb sb 94 [o0, o1, o2, o3, o4, o5, o6] [] h Q := by
  exact hs_vret dX6_goOn_94 rfl hq
