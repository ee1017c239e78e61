-- java/lang/Integer.bitCount(I)I
theorem b_J6_bitCount_0f7a4_0 {G : hk_G} {d cb sb : Nat} {h : hk_H} {Q : hk_O → hk_H → Prop} {x0 : Int32} (hq : Q (.inl (some (.int ((((((((x0 - (((x0.toUInt32 >>> (Int32.toUInt32 1 &&& Int32.toUInt32 31)).toInt32) &&& 1431655765)) &&& 858993459) + ((((x0 - (((x0.toUInt32 >>> (Int32.toUInt32 1 &&& Int32.toUInt32 31)).toInt32) &&& 1431655765)).toUInt32 >>> (Int32.toUInt32 2 &&& Int32.toUInt32 31)).toInt32) &&& 858993459)) + (((((x0 - (((x0.toUInt32 >>> (Int32.toUInt32 1 &&& Int32.toUInt32 31)).toInt32) &&& 1431655765)) &&& 858993459) + ((((x0 - (((x0.toUInt32 >>> (Int32.toUInt32 1 &&& Int32.toUInt32 31)).toInt32) &&& 1431655765)).toUInt32 >>> (Int32.toUInt32 2 &&& Int32.toUInt32 31)).toInt32) &&& 858993459)).toUInt32 >>> (Int32.toUInt32 4 &&& Int32.toUInt32 31)).toInt32)) &&& 252645135) + (((((((x0 - (((x0.toUInt32 >>> (Int32.toUInt32 1 &&& Int32.toUInt32 31)).toInt32) &&& 1431655765)) &&& 858993459) + ((((x0 - (((x0.toUInt32 >>> (Int32.toUInt32 1 &&& Int32.toUInt32 31)).toInt32) &&& 1431655765)).toUInt32 >>> (Int32.toUInt32 2 &&& Int32.toUInt32 31)).toInt32) &&& 858993459)) + (((((x0 - (((x0.toUInt32 >>> (Int32.toUInt32 1 &&& Int32.toUInt32 31)).toInt32) &&& 1431655765)) &&& 858993459) + ((((x0 - (((x0.toUInt32 >>> (Int32.toUInt32 1 &&& Int32.toUInt32 31)).toInt32) &&& 1431655765)).toUInt32 >>> (Int32.toUInt32 2 &&& Int32.toUInt32 31)).toInt32) &&& 858993459)).toUInt32 >>> (Int32.toUInt32 4 &&& Int32.toUInt32 31)).toInt32)) &&& 252645135).toUInt32 >>> (Int32.toUInt32 8 &&& Int32.toUInt32 31)).toInt32)) + ((((((((x0 - (((x0.toUInt32 >>> (Int32.toUInt32 1 &&& Int32.toUInt32 31)).toInt32) &&& 1431655765)) &&& 858993459) + ((((x0 - (((x0.toUInt32 >>> (Int32.toUInt32 1 &&& Int32.toUInt32 31)).toInt32) &&& 1431655765)).toUInt32 >>> (Int32.toUInt32 2 &&& Int32.toUInt32 31)).toInt32) &&& 858993459)) + (((((x0 - (((x0.toUInt32 >>> (Int32.toUInt32 1 &&& Int32.toUInt32 31)).toInt32) &&& 1431655765)) &&& 858993459) + ((((x0 - (((x0.toUInt32 >>> (Int32.toUInt32 1 &&& Int32.toUInt32 31)).toInt32) &&& 1431655765)).toUInt32 >>> (Int32.toUInt32 2 &&& Int32.toUInt32 31)).toInt32) &&& 858993459)).toUInt32 >>> (Int32.toUInt32 4 &&& Int32.toUInt32 31)).toInt32)) &&& 252645135) + (((((((x0 - (((x0.toUInt32 >>> (Int32.toUInt32 1 &&& Int32.toUInt32 31)).toInt32) &&& 1431655765)) &&& 858993459) + ((((x0 - (((x0.toUInt32 >>> (Int32.toUInt32 1 &&& Int32.toUInt32 31)).toInt32) &&& 1431655765)).toUInt32 >>> (Int32.toUInt32 2 &&& Int32.toUInt32 31)).toInt32) &&& 858993459)) + (((((x0 - (((x0.toUInt32 >>> (Int32.toUInt32 1 &&& Int32.toUInt32 31)).toInt32) &&& 1431655765)) &&& 858993459) + ((((x0 - (((x0.toUInt32 >>> (Int32.toUInt32 1 &&& Int32.toUInt32 31)).toInt32) &&& 1431655765)).toUInt32 >>> (Int32.toUInt32 2 &&& Int32.toUInt32 31)).toInt32) &&& 858993459)).toUInt32 >>> (Int32.toUInt32 4 &&& Int32.toUInt32 31)).toInt32)) &&& 252645135).toUInt32 >>> (Int32.toUInt32 8 &&& Int32.toUInt32 31)).toInt32)).toUInt32 >>> (Int32.toUInt32 16 &&& Int32.toUInt32 31)).toInt32)) &&& 63)))) h) : hk_S G m_J6_bitCount_0f7a4 d cb sb 0 [some (.int x0)] [] h Q := by
  refine hs_iload_n dJ6_bitCount_0f7a4_0 rfl ?_
  refine hs_iload_n dJ6_bitCount_0f7a4_1 rfl ?_
  refine hs_iconst (v := 1) dJ6_bitCount_0f7a4_2 (by decide) ?_
  refine hs_iushr dJ6_bitCount_0f7a4_3 ?_
  refine hs_ldcw (v := 1431655765) dJ6_bitCount_0f7a4_4 wd_551 ?_
  refine hs_iand dJ6_bitCount_0f7a4_7 ?_
  refine hs_isub dJ6_bitCount_0f7a4_8 ?_
  refine hs_istK_n dJ6_bitCount_0f7a4_9 (by decide) hk_nk0 rfl ?_
  refine hs_iload_n dJ6_bitCount_0f7a4_10 rfl ?_
  refine hs_ldcw (v := 858993459) dJ6_bitCount_0f7a4_11 wd_552 ?_
  refine hs_iand dJ6_bitCount_0f7a4_14 ?_
  refine hs_iload_n dJ6_bitCount_0f7a4_15 rfl ?_
  refine hs_iconst (v := 2) dJ6_bitCount_0f7a4_16 (by decide) ?_
  refine hs_iushr dJ6_bitCount_0f7a4_17 ?_
  refine hs_ldcw (v := 858993459) dJ6_bitCount_0f7a4_18 wd_552 ?_
  refine hs_iand dJ6_bitCount_0f7a4_21 ?_
  refine hs_iadd dJ6_bitCount_0f7a4_22 ?_
  refine hs_istK_n dJ6_bitCount_0f7a4_23 (by decide) hk_nk0 rfl ?_
  refine hs_iload_n dJ6_bitCount_0f7a4_24 rfl ?_
  refine hs_iload_n dJ6_bitCount_0f7a4_25 rfl ?_
  refine hs_iconst (v := 4) dJ6_bitCount_0f7a4_26 (by decide) ?_
  refine hs_iushr dJ6_bitCount_0f7a4_27 ?_
  refine hs_iadd dJ6_bitCount_0f7a4_28 ?_
  refine hs_ldcw (v := 252645135) dJ6_bitCount_0f7a4_29 wd_553 ?_
  refine hs_iand dJ6_bitCount_0f7a4_32 ?_
  refine hs_istK_n dJ6_bitCount_0f7a4_33 (by decide) hk_nk0 rfl ?_
  refine hs_iload_n dJ6_bitCount_0f7a4_34 rfl ?_
  refine hs_iload_n dJ6_bitCount_0f7a4_35 rfl ?_
  refine hs_bipush (v := 8) dJ6_bitCount_0f7a4_36 (by decide) ?_
  refine hs_iushr dJ6_bitCount_0f7a4_38 ?_
  refine hs_iadd dJ6_bitCount_0f7a4_39 ?_
  refine hs_istK_n dJ6_bitCount_0f7a4_40 (by decide) hk_nk0 rfl ?_
  refine hs_iload_n dJ6_bitCount_0f7a4_41 rfl ?_
  refine hs_iload_n dJ6_bitCount_0f7a4_42 rfl ?_
  refine hs_bipush (v := 16) dJ6_bitCount_0f7a4_43 (by decide) ?_
  refine hs_iushr dJ6_bitCount_0f7a4_45 ?_
  refine hs_iadd dJ6_bitCount_0f7a4_46 ?_
  refine hs_istK_n dJ6_bitCount_0f7a4_47 (by decide) hk_nk0 rfl ?_
  refine hs_iload_n dJ6_bitCount_0f7a4_48 rfl ?_
  refine hs_bipush (v := 63) dJ6_bitCount_0f7a4_49 (by decide) ?_
  refine hs_iand dJ6_bitCount_0f7a4_51 ?_
  exact hs_iret dJ6_bitCount_0f7a4_52 rfl hq
-- java/lang/Math.floorMod(II)I
theorem b_J9_floorMod_7cf53_0 {G : hk_G} {d cb sb : Nat} {h : hk_H} {Q : hk_O → hk_H → Prop} {x0 : Int32} {x1 : Int32} {o2 : Option Value} (hz1 : ¬ x1 = 0) (kt : 0 ≤ (x0 ^^^ x1) → hk_S G m_J9_floorMod_7cf53 d cb sb 18 [some (.int x0), some (.int x1), some (.int (x0 - x0 / x1 * x1))] [] h Q) (kf : ¬ 0 ≤ (x0 ^^^ x1) → hk_S G m_J9_floorMod_7cf53 d cb sb 10 [some (.int x0), some (.int x1), some (.int (x0 - x0 / x1 * x1))] [] h Q) : hk_S G m_J9_floorMod_7cf53 d cb sb 0 [some (.int x0), some (.int x1), o2] [] h Q := by
  refine hs_iload_n dJ9_floorMod_7cf53_0 rfl ?_
  refine hs_iload_n dJ9_floorMod_7cf53_1 rfl ?_
  refine hs_irem dJ9_floorMod_7cf53_2 hz1 ?_
  refine hs_istK_n dJ9_floorMod_7cf53_3 (by decide) (hk_nk1 rfl hk_c1i) rfl ?_
  refine hs_iload_n dJ9_floorMod_7cf53_4 rfl ?_
  refine hs_iload_n dJ9_floorMod_7cf53_5 rfl ?_
  refine hs_ixor dJ9_floorMod_7cf53_6 ?_
  exact hs_if_ge dJ9_floorMod_7cf53_7 (by decide) kt kf
theorem b_J9_floorMod_7cf53_10 {G : hk_G} {d cb sb : Nat} {h : hk_H} {Q : hk_O → hk_H → Prop} {x2 : Int32} {o0 : Option Value} {o1 : Option Value} (kt : x2 = 0 → hk_S G m_J9_floorMod_7cf53 d cb sb 18 [o0, o1, some (.int x2)] [] h Q) (kf : ¬ x2 = 0 → hk_S G m_J9_floorMod_7cf53 d cb sb 14 [o0, o1, some (.int x2)] [] h Q) : hk_S G m_J9_floorMod_7cf53 d cb sb 10 [o0, o1, some (.int x2)] [] h Q := by
  refine hs_iload_n dJ9_floorMod_7cf53_10 rfl ?_
  exact hs_if_eq dJ9_floorMod_7cf53_11 (by decide) kt kf
theorem b_J9_floorMod_7cf53_14 {G : hk_G} {d cb sb : Nat} {h : hk_H} {Q : hk_O → hk_H → Prop} {x2 : Int32} {x1 : Int32} {o0 : Option Value} (hq : Q (.inl (some (.int (x2 + x1)))) h) : hk_S G m_J9_floorMod_7cf53 d cb sb 14 [o0, some (.int x1), some (.int x2)] [] h Q := by
  refine hs_iload_n dJ9_floorMod_7cf53_14 rfl ?_
  refine hs_iload_n dJ9_floorMod_7cf53_15 rfl ?_
  refine hs_iadd dJ9_floorMod_7cf53_16 ?_
  exact hs_iret dJ9_floorMod_7cf53_17 rfl hq
theorem b_J9_floorMod_7cf53_18 {G : hk_G} {d cb sb : Nat} {h : hk_H} {Q : hk_O → hk_H → Prop} {x2 : Int32} {o0 : Option Value} {o1 : Option Value} (hq : Q (.inl (some (.int x2))) h) : hk_S G m_J9_floorMod_7cf53 d cb sb 18 [o0, o1, some (.int x2)] [] h Q := by
  refine hs_iload_n dJ9_floorMod_7cf53_18 rfl ?_
  exact hs_iret dJ9_floorMod_7cf53_19 rfl hq
-- java/lang/Math.max(II)I
theorem b_J9_max_7cf53_0 {G : hk_G} {d cb sb : Nat} {h : hk_H} {Q : hk_O → hk_H → Prop} {x0 : Int32} {x1 : Int32} (kt : x0 < x1 → hk_S G m_J9_max_7cf53 d cb sb 9 [some (.int x0), some (.int x1)] [] h Q) (kf : ¬ x0 < x1 → hk_S G m_J9_max_7cf53 d cb sb 5 [some (.int x0), some (.int x1)] [] h Q) : hk_S G m_J9_max_7cf53 d cb sb 0 [some (.int x0), some (.int x1)] [] h Q := by
  refine hs_iload_n dJ9_max_7cf53_0 rfl ?_
  refine hs_iload_n dJ9_max_7cf53_1 rfl ?_
  exact hs_icmp_lt dJ9_max_7cf53_2 (by decide) kt kf
theorem b_J9_max_7cf53_5 {G : hk_G} {d cb sb : Nat} {h : hk_H} {Q : hk_O → hk_H → Prop} {x0 : Int32} {o1 : Option Value} (hq : Q (.inl (some (.int x0))) h) : hk_S G m_J9_max_7cf53 d cb sb 5 [some (.int x0), o1] [] h Q := by
  refine hs_iload_n dJ9_max_7cf53_5 rfl ?_
  refine hs_goto dJ9_max_7cf53_6 (tgt := 10) (by decide) ?_
  exact hs_iret dJ9_max_7cf53_10 rfl hq
theorem b_J9_max_7cf53_9 {G : hk_G} {d cb sb : Nat} {h : hk_H} {Q : hk_O → hk_H → Prop} {x1 : Int32} {o0 : Option Value} (hq : Q (.inl (some (.int x1))) h) : hk_S G m_J9_max_7cf53 d cb sb 9 [o0, some (.int x1)] [] h Q := by
  refine hs_iload_n dJ9_max_7cf53_9 rfl ?_
  exact hs_iret dJ9_max_7cf53_10 rfl hq
theorem b_J9_max_7cf53_10 {G : hk_G} {d cb sb : Nat} {h : hk_H} {Q : hk_O → hk_H → Prop} {s0 : Int32} {o0 : Option Value} {o1 : Option Value} (hq : Q (.inl (some (.int s0))) h) : hk_S G m_J9_max_7cf53 d cb sb 10 [o0, o1] [.int s0] h Q := by
  exact hs_iret dJ9_max_7cf53_10 rfl hq
-- java/lang/Math.min(II)I
theorem b_J9_min_7cf53_0 {G : hk_G} {d cb sb : Nat} {h : hk_H} {Q : hk_O → hk_H → Prop} {x0 : Int32} {x1 : Int32} (kt : x1 < x0 → hk_S G m_J9_min_7cf53 d cb sb 9 [some (.int x0), some (.int x1)] [] h Q) (kf : ¬ x1 < x0 → hk_S G m_J9_min_7cf53 d cb sb 5 [some (.int x0), some (.int x1)] [] h Q) : hk_S G m_J9_min_7cf53 d cb sb 0 [some (.int x0), some (.int x1)] [] h Q := by
  refine hs_iload_n dJ9_min_7cf53_0 rfl ?_
  refine hs_iload_n dJ9_min_7cf53_1 rfl ?_
  exact hs_icmp_gt dJ9_min_7cf53_2 (by decide) kt kf
theorem b_J9_min_7cf53_5 {G : hk_G} {d cb sb : Nat} {h : hk_H} {Q : hk_O → hk_H → Prop} {x0 : Int32} {o1 : Option Value} (hq : Q (.inl (some (.int x0))) h) : hk_S G m_J9_min_7cf53 d cb sb 5 [some (.int x0), o1] [] h Q := by
  refine hs_iload_n dJ9_min_7cf53_5 rfl ?_
  refine hs_goto dJ9_min_7cf53_6 (tgt := 10) (by decide) ?_
  exact hs_iret dJ9_min_7cf53_10 rfl hq
theorem b_J9_min_7cf53_9 {G : hk_G} {d cb sb : Nat} {h : hk_H} {Q : hk_O → hk_H → Prop} {x1 : Int32} {o0 : Option Value} (hq : Q (.inl (some (.int x1))) h) : hk_S G m_J9_min_7cf53 d cb sb 9 [o0, some (.int x1)] [] h Q := by
  refine hs_iload_n dJ9_min_7cf53_9 rfl ?_
  exact hs_iret dJ9_min_7cf53_10 rfl hq
theorem b_J9_min_7cf53_10 {G : hk_G} {d cb sb : Nat} {h : hk_H} {Q : hk_O → hk_H → Prop} {s0 : Int32} {o0 : Option Value} {o1 : Option Value} (hq : Q (.inl (some (.int s0))) h) : hk_S G m_J9_min_7cf53 d cb sb 10 [o0, o1] [.int s0] h Q := by
  exact hs_iret dJ9_min_7cf53_10 rfl hq
-- java/util/Arrays.fill([JJ)V
theorem b_J7_fill_d0a16_0 {G : hk_G} {d cb sb : Nat} {h : hk_H} {Q : hk_O → hk_H → Prop} {r0 : Nat} {n1 : Nat} {t3 : Nat} {x2 : (Nat → Int32) ⊕ (Nat → Int64) ⊕ (Nat → UInt32) ⊕ (Nat → UInt64) ⊕ (Nat → Option Nat)} {o1 : Option Value} {o2 : Option Value} {o3 : Option Value} {o4 : Option Value} (ha4 : h.2 r0 = some (.inl (t3, n1, x2))) (ht5 : t3 < 5) (k : hk_S G m_J7_fill_d0a16 d cb sb 6 [some (.ref r0), o1, o2, some (.int 0), some (.int (Int32.ofNat n1))] [] h Q) (ho2 : hk_c1 o2 := by first | exact hk_c1i | exact hk_c1r | exact hk_c10 | exact hk_c1n) : hk_S G m_J7_fill_d0a16 d cb sb 0 [some (.ref r0), o1, o2, o3, o4] [] h Q := by
  refine hs_iconst (v := 0) dJ7_fill_d0a16_0 (by decide) ?_
  refine hs_istK_n dJ7_fill_d0a16_1 (by decide) (hk_nk1 rfl ho2) rfl ?_
  refine hs_aload_n dJ7_fill_d0a16_2 rfl ?_
  refine hs_alen dJ7_fill_d0a16_3 ha4 ht5 ?_
  refine hs_istK dJ7_fill_d0a16_4 (by decide) (hk_nk1 rfl hk_c1i) rfl ?_
  exact k
theorem b_J7_fill_d0a16_6 {G : hk_G} {d cb sb : Nat} {h : hk_H} {Q : hk_O → hk_H → Prop} {x3 : Int32} {x4 : Int32} {o0 : Option Value} {o1 : Option Value} {o2 : Option Value} (kt : x4 ≤ x3 → hk_S G m_J7_fill_d0a16 d cb sb 22 [o0, o1, o2, some (.int x3), some (.int x4)] [] h Q) (kf : ¬ x4 ≤ x3 → hk_S G m_J7_fill_d0a16 d cb sb 12 [o0, o1, o2, some (.int x3), some (.int x4)] [] h Q) : hk_S G m_J7_fill_d0a16 d cb sb 6 [o0, o1, o2, some (.int x3), some (.int x4)] [] h Q := by
  refine hs_iload_n dJ7_fill_d0a16_6 rfl ?_
  refine hs_iload dJ7_fill_d0a16_7 rfl ?_
  exact hs_icmp_ge dJ7_fill_d0a16_9 (by decide) kt kf
theorem b_J7_fill_d0a16_12 {G : hk_G} {d cb sb : Nat} {h : hk_H} {Q : hk_O → hk_H → Prop} {r0 : Nat} {x3 : Int32} {l1 : Int64} {n1 : Nat} {f2 : Nat → Int64} {h_1 : hk_H} {o2 : Option Value} {o4 : Option Value} (ha3 : h.2 r0 = some (.inl (1, n1, .inr (.inl f2)))) (h4_r0 : 4 ≤ r0) (j4 : Nat) (hi5 : (x3 : Int32).toInt = (j4 : Int)) (hj6 : j4 < n1) (e_1 : (hk_set h r0 (.inl (1, n1, .inr (.inl (vp_updL f2 j4 l1))))) = h_1) (k : hk_S G m_J7_fill_d0a16 d cb sb 6 [some (.ref r0), some (.long l1), o2, some (.int (x3 + 1)), o4] [] h_1 Q) (ho2 : hk_c1 o2 := by first | exact hk_c1i | exact hk_c1r | exact hk_c10 | exact hk_c1n) : hk_S G m_J7_fill_d0a16 d cb sb 12 [some (.ref r0), some (.long l1), o2, some (.int x3), o4] [] h Q := by
  subst e_1
  refine hs_aload_n dJ7_fill_d0a16_12 rfl ?_
  refine hs_iload_n dJ7_fill_d0a16_13 rfl ?_
  refine hs_lload_n dJ7_fill_d0a16_14 rfl ?_
  refine hs_last j4 dJ7_fill_d0a16_15 ha3 h4_r0 hi5 hj6 ?_
  refine hs_iincK (v := 1) dJ7_fill_d0a16_16 rfl (by decide) (by decide) (hk_nk1 rfl ho2) rfl ?_
  refine hs_goto dJ7_fill_d0a16_19 (tgt := 6) (by decide) ?_
  exact k
theorem b_J7_fill_d0a16_22 {G : hk_G} {d cb sb : Nat} {h : hk_H} {Q : hk_O → hk_H → Prop} {o0 : Option Value} {o1 : Option Value} {o2 : Option Value} {o3 : Option Value} {o4 : Option Value} (hq : Q (.inl none) h) : hk_S G m_J7_fill_d0a16 d cb sb 22 [o0, o1, o2, o3, o4] [] h Q := by
  exact hs_vret dJ7_fill_d0a16_22 rfl hq
-- java/util/Arrays.fill([II)V
theorem b_J7_fill_53178_0 {G : hk_G} {d cb sb : Nat} {h : hk_H} {Q : hk_O → hk_H → Prop} {r0 : Nat} {n1 : Nat} {t3 : Nat} {x2 : (Nat → Int32) ⊕ (Nat → Int64) ⊕ (Nat → UInt32) ⊕ (Nat → UInt64) ⊕ (Nat → Option Nat)} {o1 : Option Value} {o2 : Option Value} {o3 : Option Value} (ha4 : h.2 r0 = some (.inl (t3, n1, x2))) (ht5 : t3 < 5) (k : hk_S G m_J7_fill_53178 d cb sb 5 [some (.ref r0), o1, some (.int 0), some (.int (Int32.ofNat n1))] [] h Q) (ho1 : hk_c1 o1 := by first | exact hk_c1i | exact hk_c1r | exact hk_c10 | exact hk_c1n) : hk_S G m_J7_fill_53178 d cb sb 0 [some (.ref r0), o1, o2, o3] [] h Q := by
  refine hs_iconst (v := 0) dJ7_fill_53178_0 (by decide) ?_
  refine hs_istK_n dJ7_fill_53178_1 (by decide) (hk_nk1 rfl ho1) rfl ?_
  refine hs_aload_n dJ7_fill_53178_2 rfl ?_
  refine hs_alen dJ7_fill_53178_3 ha4 ht5 ?_
  refine hs_istK_n dJ7_fill_53178_4 (by decide) (hk_nk1 rfl hk_c1i) rfl ?_
  exact k
theorem b_J7_fill_53178_5 {G : hk_G} {d cb sb : Nat} {h : hk_H} {Q : hk_O → hk_H → Prop} {x2 : Int32} {x3 : Int32} {o0 : Option Value} {o1 : Option Value} (kt : x3 ≤ x2 → hk_S G m_J7_fill_53178 d cb sb 20 [o0, o1, some (.int x2), some (.int x3)] [] h Q) (kf : ¬ x3 ≤ x2 → hk_S G m_J7_fill_53178 d cb sb 10 [o0, o1, some (.int x2), some (.int x3)] [] h Q) : hk_S G m_J7_fill_53178 d cb sb 5 [o0, o1, some (.int x2), some (.int x3)] [] h Q := by
  refine hs_iload_n dJ7_fill_53178_5 rfl ?_
  refine hs_iload_n dJ7_fill_53178_6 rfl ?_
  exact hs_icmp_ge dJ7_fill_53178_7 (by decide) kt kf
theorem b_J7_fill_53178_10 {G : hk_G} {d cb sb : Nat} {h : hk_H} {Q : hk_O → hk_H → Prop} {r0 : Nat} {x2 : Int32} {x1 : Int32} {n1 : Nat} {f2 : Nat → Int32} {h_1 : hk_H} {o3 : Option Value} (ha3 : h.2 r0 = some (.inl (0, n1, .inl f2))) (h4_r0 : 4 ≤ r0) (j4 : Nat) (hi5 : (x2 : Int32).toInt = (j4 : Int)) (hj6 : j4 < n1) (e_1 : (hk_set h r0 (.inl (0, n1, .inl (upd f2 j4 x1)))) = h_1) (k : hk_S G m_J7_fill_53178 d cb sb 5 [some (.ref r0), some (.int x1), some (.int (x2 + 1)), o3] [] h_1 Q) : hk_S G m_J7_fill_53178 d cb sb 10 [some (.ref r0), some (.int x1), some (.int x2), o3] [] h Q := by
  subst e_1
  refine hs_aload_n dJ7_fill_53178_10 rfl ?_
  refine hs_iload_n dJ7_fill_53178_11 rfl ?_
  refine hs_iload_n dJ7_fill_53178_12 rfl ?_
  refine hs_iast j4 dJ7_fill_53178_13 ha3 h4_r0 hi5 hj6 ?_
  refine hs_iincK (v := 1) dJ7_fill_53178_14 rfl (by decide) (by decide) (hk_nk1 rfl hk_c1i) rfl ?_
  refine hs_goto dJ7_fill_53178_17 (tgt := 5) (by decide) ?_
  exact k
theorem b_J7_fill_53178_20 {G : hk_G} {d cb sb : Nat} {h : hk_H} {Q : hk_O → hk_H → Prop} {o0 : Option Value} {o1 : Option Value} {o2 : Option Value} {o3 : Option Value} (hq : Q (.inl none) h) : hk_S G m_J7_fill_53178 d cb sb 20 [o0, o1, o2, o3] [] h Q := by
  exact hs_vret dJ7_fill_53178_20 rfl hq
