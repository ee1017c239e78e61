theorem dX10_priceAll_43 : decode cX10_priceAll 43 = .ok (.iastore, 1) := by decide +kernel
theorem dX10_priceAll_44 : decode cX10_priceAll 44 = .ok (.iinc 2 1, 3) := by decide +kernel
theorem dX10_priceAll_47 : decode cX10_priceAll 47 = .ok (.goto (-28), 3) := by decide +kernel
theorem dX10_priceAll_50 : decode cX10_priceAll 50 = .ok (.iconst 0, 1) := by decide +kernel
theorem dX10_priceAll_51 : decode cX10_priceAll 51 = .ok (.istore_n 2, 1) := by decide +kernel
theorem dX10_priceAll_52 : decode cX10_priceAll 52 = .ok (.iload_n 2, 1) := by decide +kernel
theorem dX10_priceAll_53 : decode cX10_priceAll 53 = .ok (.aload_n 0, 1) := by decide +kernel
theorem dX10_priceAll_54 : decode cX10_priceAll 54 = .ok (.getfield 101, 3) := by decide +kernel
theorem dX10_priceAll_57 : decode cX10_priceAll 57 = .ok (.if_icmp .ge 108, 3) := by decide +kernel
theorem dX10_priceAll_60 : decode cX10_priceAll 60 = .ok (.iconst 0, 1) := by decide +kernel
theorem dX10_priceAll_61 : decode cX10_priceAll 61 = .ok (.istore_n 3, 1) := by decide +kernel
theorem dX10_priceAll_62 : decode cX10_priceAll 62 = .ok (.iload_n 3, 1) := by decide +kernel
theorem dX10_priceAll_63 : decode cX10_priceAll 63 = .ok (.aload_n 0, 1) := by decide +kernel
theorem dX10_priceAll_64 : decode cX10_priceAll 64 = .ok (.getfield 101, 3) := by decide +kernel
theorem dX10_priceAll_67 : decode cX10_priceAll 67 = .ok (.if_icmp .ge 92, 3) := by decide +kernel
theorem dX10_priceAll_70 : decode cX10_priceAll 70 = .ok (.iconst 0, 1) := by decide +kernel
theorem dX10_priceAll_71 : decode cX10_priceAll 71 = .ok (.istore 4, 2) := by decide +kernel
theorem dX10_priceAll_73 : decode cX10_priceAll 73 = .ok (.iload 4, 2) := by decide +kernel
theorem dX10_priceAll_75 : decode cX10_priceAll 75 = .ok (.aload_n 0, 1) := by decide +kernel
theorem dX10_priceAll_76 : decode cX10_priceAll 76 = .ok (.getfield 101, 3) := by decide +kernel
theorem dX10_priceAll_79 : decode cX10_priceAll 79 = .ok (.if_icmp .ge 74, 3) := by decide +kernel
theorem dX10_priceAll_82 : decode cX10_priceAll 82 = .ok (.aload_n 0, 1) := by decide +kernel
theorem dX10_priceAll_83 : decode cX10_priceAll 83 = .ok (.getfield 41, 3) := by decide +kernel
theorem dX10_priceAll_86 : decode cX10_priceAll 86 = .ok (.iload_n 3, 1) := by decide +kernel
theorem dX10_priceAll_87 : decode cX10_priceAll 87 = .ok (.baload, 1) := by decide +kernel
theorem dX10_priceAll_88 : decode cX10_priceAll 88 = .ok (.ifCond .eq 59, 3) := by decide +kernel
theorem dX10_priceAll_91 : decode cX10_priceAll 91 = .ok (.aload_n 0, 1) := by decide +kernel
theorem dX10_priceAll_92 : decode cX10_priceAll 92 = .ok (.getfield 41, 3) := by decide +kernel
theorem dX10_priceAll_95 : decode cX10_priceAll 95 = .ok (.iload 4, 2) := by decide +kernel
theorem dX10_priceAll_97 : decode cX10_priceAll 97 = .ok (.baload, 1) := by decide +kernel
theorem dX10_priceAll_98 : decode cX10_priceAll 98 = .ok (.ifCond .eq 49, 3) := by decide +kernel
theorem dX10_priceAll_101 : decode cX10_priceAll 101 = .ok (.aload_n 0, 1) := by decide +kernel
theorem dX10_priceAll_102 : decode cX10_priceAll 102 = .ok (.getfield 48, 3) := by decide +kernel
theorem dX10_priceAll_105 : decode cX10_priceAll 105 = .ok (.iload_n 3, 1) := by decide +kernel
theorem dX10_priceAll_106 : decode cX10_priceAll 106 = .ok (.iaload, 1) := by decide +kernel
theorem dX10_priceAll_107 : decode cX10_priceAll 107 = .ok (.ldc 170, 2) := by decide +kernel
theorem dX10_priceAll_109 : decode cX10_priceAll 109 = .ok (.if_icmp .ge 38, 3) := by decide +kernel
theorem dX10_priceAll_112 : decode cX10_priceAll 112 = .ok (.aload_n 0, 1) := by decide +kernel
theorem dX10_priceAll_113 : decode cX10_priceAll 113 = .ok (.getfield 48, 3) := by decide +kernel
theorem dX10_priceAll_116 : decode cX10_priceAll 116 = .ok (.iload 4, 2) := by decide +kernel
theorem dX10_priceAll_118 : decode cX10_priceAll 118 = .ok (.aload_n 0, 1) := by decide +kernel
theorem dX10_priceAll_119 : decode cX10_priceAll 119 = .ok (.getfield 48, 3) := by decide +kernel
theorem dX10_priceAll_122 : decode cX10_priceAll 122 = .ok (.iload 4, 2) := by decide +kernel
theorem dX10_priceAll_124 : decode cX10_priceAll 124 = .ok (.iaload, 1) := by decide +kernel
theorem dX10_priceAll_125 : decode cX10_priceAll 125 = .ok (.aload_n 0, 1) := by decide +kernel
theorem dX10_priceAll_126 : decode cX10_priceAll 126 = .ok (.getfield 48, 3) := by decide +kernel
theorem dX10_priceAll_129 : decode cX10_priceAll 129 = .ok (.iload_n 3, 1) := by decide +kernel
theorem dX10_priceAll_130 : decode cX10_priceAll 130 = .ok (.iaload, 1) := by decide +kernel
theorem dX10_priceAll_131 : decode cX10_priceAll 131 = .ok (.aload_n 0, 1) := by decide +kernel
theorem dX10_priceAll_132 : decode cX10_priceAll 132 = .ok (.getfield 45, 3) := by decide +kernel
theorem dX10_priceAll_135 : decode cX10_priceAll 135 = .ok (.iconst 5, 1) := by decide +kernel
theorem dX10_priceAll_136 : decode cX10_priceAll 136 = .ok (.iload_n 3, 1) := by decide +kernel
theorem dX10_priceAll_137 : decode cX10_priceAll 137 = .ok (.imul, 1) := by decide +kernel
theorem dX10_priceAll_138 : decode cX10_priceAll 138 = .ok (.iload 4, 2) := by decide +kernel
theorem dX10_priceAll_140 : decode cX10_priceAll 140 = .ok (.iadd, 1) := by decide +kernel
theorem dX10_priceAll_141 : decode cX10_priceAll 141 = .ok (.iaload, 1) := by decide +kernel
theorem dX10_priceAll_142 : decode cX10_priceAll 142 = .ok (.iadd, 1) := by decide +kernel
theorem dX10_priceAll_143 : decode cX10_priceAll 143 = .ok (.invokestatic 171, 3) := by decide +kernel
theorem dX10_priceAll_146 : decode cX10_priceAll 146 = .ok (.iastore, 1) := by decide +kernel
theorem dX10_priceAll_147 : decode cX10_priceAll 147 = .ok (.iinc 4 1, 3) := by decide +kernel
theorem dX10_priceAll_150 : decode cX10_priceAll 150 = .ok (.goto (-77), 3) := by decide +kernel
theorem dX10_priceAll_153 : decode cX10_priceAll 153 = .ok (.iinc 3 1, 3) := by decide +kernel
theorem dX10_priceAll_156 : decode cX10_priceAll 156 = .ok (.goto (-94), 3) := by decide +kernel
theorem dX10_priceAll_159 : decode cX10_priceAll 159 = .ok (.iinc 2 1, 3) := by decide +kernel
theorem dX10_priceAll_162 : decode cX10_priceAll 162 = .ok (.goto (-110), 3) := by decide +kernel
theorem dX10_priceAll_165 : decode cX10_priceAll 165 = .ok (.return_, 1) := by decide +kernel
theorem dX10_price_0 : decode cX10_price 0 = .ok (.aload_n 0, 1) := by decide +kernel
theorem dX10_price_1 : decode cX10_price 1 = .ok (.iconst 0, 1) := by decide +kernel
theorem dX10_price_2 : decode cX10_price 2 = .ok (.putfield 107, 3) := by decide +kernel
theorem dX10_price_5 : decode cX10_price 5 = .ok (.aload_n 0, 1) := by decide +kernel
theorem dX10_price_6 : decode cX10_price 6 = .ok (.iload_n 1, 1) := by decide +kernel
theorem dX10_price_7 : decode cX10_price 7 = .ok (.iload_n 2, 1) := by decide +kernel
theorem dX10_price_8 : decode cX10_price 8 = .ok (.invokevirtual 123, 3) := by decide +kernel
theorem dX10_price_11 : decode cX10_price 11 = .ok (.ifCond .eq 26, 3) := by decide +kernel
theorem dX10_price_14 : decode cX10_price 14 = .ok (.iload_n 3, 1) := by decide +kernel
theorem dX10_price_15 : decode cX10_price 15 = .ok (.aload_n 0, 1) := by decide +kernel
theorem dX10_price_16 : decode cX10_price 16 = .ok (.getfield 97, 3) := by decide +kernel
theorem dX10_price_19 : decode cX10_price 19 = .ok (.invokestatic 119, 3) := by decide +kernel
theorem dX10_price_22 : decode cX10_price 22 = .ok (.ifCond .eq 15, 3) := by decide +kernel
theorem dX10_price_25 : decode cX10_price 25 = .ok (.iload 4, 2) := by decide +kernel
theorem dX10_price_27 : decode cX10_price 27 = .ok (.aload_n 0, 1) := by decide +kernel
theorem dX10_price_28 : decode cX10_price 28 = .ok (.getfield 101, 3) := by decide +kernel
theorem dX10_price_31 : decode cX10_price 31 = .ok (.invokestatic 119, 3) := by decide +kernel
theorem dX10_price_34 : decode cX10_price 34 = .ok (.ifCond .ne 9, 3) := by decide +kernel
theorem dX10_price_37 : decode cX10_price 37 = .ok (.aload_n 0, 1) := by decide +kernel
theorem dX10_price_38 : decode cX10_price 38 = .ok (.iconst 1, 1) := by decide +kernel
theorem dX10_price_39 : decode cX10_price 39 = .ok (.invokevirtual 147, 3) := by decide +kernel
theorem dX10_price_42 : decode cX10_price 42 = .ok (.ireturn, 1) := by decide +kernel
theorem dX10_price_43 : decode cX10_price 43 = .ok (.aload_n 0, 1) := by decide +kernel
theorem dX10_price_44 : decode cX10_price 44 = .ok (.iload_n 1, 1) := by decide +kernel
theorem dX10_price_45 : decode cX10_price 45 = .ok (.iload_n 2, 1) := by decide +kernel
theorem dX10_price_46 : decode cX10_price 46 = .ok (.iload_n 3, 1) := by decide +kernel
theorem dX10_price_47 : decode cX10_price 47 = .ok (.invokevirtual 177, 3) := by decide +kernel
theorem dX10_price_50 : decode cX10_price 50 = .ok (.aload_n 0, 1) := by decide +kernel
theorem dX10_price_51 : decode cX10_price 51 = .ok (.getfield 41, 3) := by decide +kernel
theorem dX10_price_54 : decode cX10_price 54 = .ok (.iload 4, 2) := by decide +kernel
theorem dX10_price_56 : decode cX10_price 56 = .ok (.baload, 1) := by decide +kernel
theorem dX10_price_57 : decode cX10_price 57 = .ok (.ifCond .eq 10, 3) := by decide +kernel
theorem dX10_price_60 : decode cX10_price 60 = .ok (.aload_n 0, 1) := by decide +kernel
theorem dX10_price_61 : decode cX10_price 61 = .ok (.invokevirtual 181, 3) := by decide +kernel
theorem dX10_price_64 : decode cX10_price 64 = .ok (.ifCond .ge 9, 3) := by decide +kernel
theorem dX10_price_67 : decode cX10_price 67 = .ok (.aload_n 0, 1) := by decide +kernel
theorem dX10_price_68 : decode cX10_price 68 = .ok (.iconst 2, 1) := by decide +kernel
theorem dX10_price_69 : decode cX10_price 69 = .ok (.invokevirtual 147, 3) := by decide +kernel
theorem dX10_price_72 : decode cX10_price 72 = .ok (.ireturn, 1) := by decide +kernel
theorem dX10_price_73 : decode cX10_price 73 = .ok (.aload_n 0, 1) := by decide +kernel
theorem dX10_price_74 : decode cX10_price 74 = .ok (.invokevirtual 185, 3) := by decide +kernel
theorem dX10_price_77 : decode cX10_price 77 = .ok (.aload_n 0, 1) := by decide +kernel
theorem dX10_price_78 : decode cX10_price 78 = .ok (.getfield 48, 3) := by decide +kernel
theorem dX10_price_81 : decode cX10_price 81 = .ok (.iload 4, 2) := by decide +kernel
theorem dX10_price_83 : decode cX10_price 83 = .ok (.iaload, 1) := by decide +kernel
theorem dX10_price_84 : decode cX10_price 84 = .ok (.ireturn, 1) := by decide +kernel
theorem dX10_honest_0 : decode cX10_honest 0 = .ok (.iload_n 1, 1) := by decide +kernel
theorem dX10_honest_1 : decode cX10_honest 1 = .ok (.aload_n 0, 1) := by decide +kernel
theorem dX10_honest_2 : decode cX10_honest 2 = .ok (.getfield 116, 3) := by decide +kernel
theorem dX10_honest_5 : decode cX10_honest 5 = .ok (.invokestatic 119, 3) := by decide +kernel
theorem dX10_honest_8 : decode cX10_honest 8 = .ok (.ifCond .ne 5, 3) := by decide +kernel
theorem dX10_honest_11 : decode cX10_honest 11 = .ok (.iconst (-1), 1) := by decide +kernel
theorem dX10_honest_12 : decode cX10_honest 12 = .ok (.ireturn, 1) := by decide +kernel
theorem dX10_honest_13 : decode cX10_honest 13 = .ok (.aload_n 0, 1) := by decide +kernel
theorem dX10_honest_14 : decode cX10_honest 14 = .ok (.getfield 116, 3) := by decide +kernel
theorem dX10_honest_17 : decode cX10_honest 17 = .ok (.bipush 8, 2) := by decide +kernel
theorem dX10_honest_19 : decode cX10_honest 19 = .ok (.if_icmp .ne 6, 3) := by decide +kernel
theorem dX10_honest_22 : decode cX10_honest 22 = .ok (.bipush (-2), 2) := by decide +kernel
theorem dX10_honest_24 : decode cX10_honest 24 = .ok (.ireturn, 1) := by decide +kernel
theorem dX10_honest_25 : decode cX10_honest 25 = .ok (.aload_n 0, 1) := by decide +kernel
theorem dX10_honest_26 : decode cX10_honest 26 = .ok (.iload_n 1, 1) := by decide +kernel
theorem dX10_honest_27 : decode cX10_honest 27 = .ok (.iconst 0, 1) := by decide +kernel
theorem dX10_honest_28 : decode cX10_honest 28 = .ok (.invokevirtual 188, 3) := by decide +kernel
theorem dX10_honest_31 : decode cX10_honest 31 = .ok (.bipush (-2), 2) := by decide +kernel
theorem dX10_honest_33 : decode cX10_honest 33 = .ok (.if_icmp .eq 6, 3) := by decide +kernel
theorem dX10_honest_36 : decode cX10_honest 36 = .ok (.bipush (-3), 2) := by decide +kernel
theorem dX10_honest_38 : decode cX10_honest 38 = .ok (.ireturn, 1) := by decide +kernel
theorem dX10_honest_39 : decode cX10_honest 39 = .ok (.aload_n 0, 1) := by decide +kernel
theorem dX10_honest_40 : decode cX10_honest 40 = .ok (.iconst 1, 1) := by decide +kernel
theorem dX10_honest_41 : decode cX10_honest 41 = .ok (.invokevirtual 190, 3) := by decide +kernel
theorem dX10_honest_44 : decode cX10_honest 44 = .ok (.istore_n 2, 1) := by decide +kernel
theorem dX10_honest_45 : decode cX10_honest 45 = .ok (.iconst 0, 1) := by decide +kernel
theorem dX10_honest_46 : decode cX10_honest 46 = .ok (.istore_n 3, 1) := by decide +kernel
theorem dX10_honest_47 : decode cX10_honest 47 = .ok (.iload_n 3, 1) := by decide +kernel
theorem dX10_honest_48 : decode cX10_honest 48 = .ok (.aload_n 0, 1) := by decide +kernel
theorem dX10_honest_49 : decode cX10_honest 49 = .ok (.getfield 113, 3) := by decide +kernel
theorem dX10_honest_52 : decode cX10_honest 52 = .ok (.if_icmp .ge 85, 3) := by decide +kernel
theorem dX10_honest_55 : decode cX10_honest 55 = .ok (.aload_n 0, 1) := by decide +kernel
theorem dX10_honest_56 : decode cX10_honest 56 = .ok (.iload_n 1, 1) := by decide +kernel
theorem dX10_honest_57 : decode cX10_honest 57 = .ok (.iload_n 3, 1) := by decide +kernel
theorem dX10_honest_58 : decode cX10_honest 58 = .ok (.invokevirtual 144, 3) := by decide +kernel
theorem dX10_honest_61 : decode cX10_honest 61 = .ok (.istore 4, 2) := by decide +kernel
theorem dX10_honest_63 : decode cX10_honest 63 = .ok (.aload_n 0, 1) := by decide +kernel
theorem dX10_honest_64 : decode cX10_honest 64 = .ok (.getfield 19, 3) := by decide +kernel
theorem dX10_honest_67 : decode cX10_honest 67 = .ok (.sipush 1296, 3) := by decide +kernel
theorem dX10_honest_70 : decode cX10_honest 70 = .ok (.iload_n 2, 1) := by decide +kernel
theorem dX10_honest_71 : decode cX10_honest 71 = .ok (.imul, 1) := by decide +kernel
theorem dX10_honest_72 : decode cX10_honest 72 = .ok (.iload_n 3, 1) := by decide +kernel
theorem dX10_honest_73 : decode cX10_honest 73 = .ok (.iadd, 1) := by decide +kernel
theorem dX10_honest_74 : decode cX10_honest 74 = .ok (.iload 4, 2) := by decide +kernel
theorem dX10_honest_76 : decode cX10_honest 76 = .ok (.iastore, 1) := by decide +kernel
theorem dX10_honest_77 : decode cX10_honest 77 = .ok (.iconst 0, 1) := by decide +kernel
theorem dX10_honest_78 : decode cX10_honest 78 = .ok (.istore 5, 2) := by decide +kernel
theorem dX10_honest_80 : decode cX10_honest 80 = .ok (.iload 5, 2) := by decide +kernel
theorem dX10_honest_82 : decode cX10_honest 82 = .ok (.aload_n 0, 1) := by decide +kernel
theorem dX10_honest_83 : decode cX10_honest 83 = .ok (.getfield 97, 3) := by decide +kernel
theorem dX10_honest_86 : decode cX10_honest 86 = .ok (.if_icmp .ge 45, 3) := by decide +kernel
theorem dX10_honest_89 : decode cX10_honest 89 = .ok (.aload_n 0, 1) := by decide +kernel
theorem dX10_honest_90 : decode cX10_honest 90 = .ok (.iload_n 1, 1) := by decide +kernel
theorem dX10_honest_91 : decode cX10_honest 91 = .ok (.iload_n 3, 1) := by decide +kernel
theorem dX10_honest_92 : decode cX10_honest 92 = .ok (.iload 5, 2) := by decide +kernel
theorem dX10_honest_94 : decode cX10_honest 94 = .ok (.invokevirtual 177, 3) := by decide +kernel
theorem dX10_honest_97 : decode cX10_honest 97 = .ok (.aload_n 0, 1) := by decide +kernel
theorem dX10_honest_98 : decode cX10_honest 98 = .ok (.invokevirtual 185, 3) := by decide +kernel
theorem dX10_honest_101 : decode cX10_honest 101 = .ok (.aload_n 0, 1) := by decide +kernel
theorem dX10_honest_102 : decode cX10_honest 102 = .ok (.getfield 23, 3) := by decide +kernel
theorem dX10_honest_105 : decode cX10_honest 105 = .ok (.iconst 4, 1) := by decide +kernel
theorem dX10_honest_106 : decode cX10_honest 106 = .ok (.sipush 1296, 3) := by decide +kernel
theorem dX10_honest_109 : decode cX10_honest 109 = .ok (.iload_n 2, 1) := by decide +kernel
theorem dX10_honest_110 : decode cX10_honest 110 = .ok (.imul, 1) := by decide +kernel
theorem dX10_honest_111 : decode cX10_honest 111 = .ok (.iload_n 3, 1) := by decide +kernel
theorem dX10_honest_112 : decode cX10_honest 112 = .ok (.iadd, 1) := by decide +kernel
theorem dX10_honest_113 : decode cX10_honest 113 = .ok (.imul, 1) := by decide +kernel
theorem dX10_honest_114 : decode cX10_honest 114 = .ok (.iload 5, 2) := by decide +kernel
theorem dX10_honest_116 : decode cX10_honest 116 = .ok (.iadd, 1) := by decide +kernel
theorem dX10_honest_117 : decode cX10_honest 117 = .ok (.aload_n 0, 1) := by decide +kernel
theorem dX10_honest_118 : decode cX10_honest 118 = .ok (.getfield 48, 3) := by decide +kernel
theorem dX10_honest_121 : decode cX10_honest 121 = .ok (.iload 4, 2) := by decide +kernel
theorem dX10_honest_123 : decode cX10_honest 123 = .ok (.iaload, 1) := by decide +kernel
theorem dX10_honest_124 : decode cX10_honest 124 = .ok (.iastore, 1) := by decide +kernel
theorem dX10_honest_125 : decode cX10_honest 125 = .ok (.iinc 5 1, 3) := by decide +kernel
theorem dX10_honest_128 : decode cX10_honest 128 = .ok (.goto (-48), 3) := by decide +kernel
theorem dX10_honest_131 : decode cX10_honest 131 = .ok (.iinc 3 1, 3) := by decide +kernel
theorem dX10_honest_134 : decode cX10_honest 134 = .ok (.goto (-87), 3) := by decide +kernel
theorem dX10_honest_137 : decode cX10_honest 137 = .ok (.iload_n 2, 1) := by decide +kernel
theorem dX10_honest_138 : decode cX10_honest 138 = .ok (.ireturn, 1) := by decide +kernel
theorem dX10_same_0 : decode cX10_same 0 = .ok (.iload_n 1, 1) := by decide +kernel
theorem dX10_same_1 : decode cX10_same 1 = .ok (.aload_n 0, 1) := by decide +kernel
theorem dX10_same_2 : decode cX10_same 2 = .ok (.getfield 116, 3) := by decide +kernel
theorem dX10_same_5 : decode cX10_same 5 = .ok (.invokestatic 119, 3) := by decide +kernel
theorem dX10_same_8 : decode cX10_same 8 = .ok (.ifCond .eq 14, 3) := by decide +kernel
theorem dX10_same_11 : decode cX10_same 11 = .ok (.iload_n 2, 1) := by decide +kernel
theorem dX10_same_12 : decode cX10_same 12 = .ok (.aload_n 0, 1) := by decide +kernel
theorem dX10_same_13 : decode cX10_same 13 = .ok (.getfield 116, 3) := by decide +kernel
theorem dX10_same_16 : decode cX10_same 16 = .ok (.invokestatic 119, 3) := by decide +kernel
theorem dX10_same_19 : decode cX10_same 19 = .ok (.ifCond .ne 5, 3) := by decide +kernel
theorem dX10_same_22 : decode cX10_same 22 = .ok (.iconst (-1), 1) := by decide +kernel
theorem dX10_same_23 : decode cX10_same 23 = .ok (.ireturn, 1) := by decide +kernel
theorem dX10_same_24 : decode cX10_same 24 = .ok (.iconst 1, 1) := by decide +kernel
theorem dX10_same_25 : decode cX10_same 25 = .ok (.istore_n 3, 1) := by decide +kernel
theorem dX10_same_26 : decode cX10_same 26 = .ok (.iconst 0, 1) := by decide +kernel
theorem dX10_same_27 : decode cX10_same 27 = .ok (.istore 4, 2) := by decide +kernel
theorem dX10_same_29 : decode cX10_same 29 = .ok (.iload 4, 2) := by decide +kernel
theorem dX10_same_31 : decode cX10_same 31 = .ok (.aload_n 0, 1) := by decide +kernel
theorem dX10_same_32 : decode cX10_same 32 = .ok (.getfield 113, 3) := by decide +kernel
theorem dX10_same_35 : decode cX10_same 35 = .ok (.if_icmp .ge 85, 3) := by decide +kernel
theorem dX10_same_38 : decode cX10_same 38 = .ok (.iload_n 3, 1) := by decide +kernel
theorem dX10_same_39 : decode cX10_same 39 = .ok (.ifCond .eq 81, 3) := by decide +kernel
theorem dX10_same_42 : decode cX10_same 42 = .ok (.aload_n 0, 1) := by decide +kernel
theorem dX10_same_43 : decode cX10_same 43 = .ok (.iload_n 1, 1) := by decide +kernel
theorem dX10_same_44 : decode cX10_same 44 = .ok (.iload 4, 2) := by decide +kernel
theorem dX10_same_46 : decode cX10_same 46 = .ok (.invokevirtual 144, 3) := by decide +kernel
theorem dX10_same_49 : decode cX10_same 49 = .ok (.aload_n 0, 1) := by decide +kernel
theorem dX10_same_50 : decode cX10_same 50 = .ok (.iload_n 2, 1) := by decide +kernel
theorem dX10_same_51 : decode cX10_same 51 = .ok (.iload 4, 2) := by decide +kernel
theorem dX10_same_53 : decode cX10_same 53 = .ok (.invokevirtual 144, 3) := by decide +kernel
theorem dX10_same_56 : decode cX10_same 56 = .ok (.if_icmp .ne 7, 3) := by decide +kernel
theorem dX10_same_59 : decode cX10_same 59 = .ok (.iconst 1, 1) := by decide +kernel
theorem dX10_same_60 : decode cX10_same 60 = .ok (.goto 4, 3) := by decide +kernel
theorem dX10_same_63 : decode cX10_same 63 = .ok (.iconst 0, 1) := by decide +kernel
theorem dX10_same_64 : decode cX10_same 64 = .ok (.istore_n 3, 1) := by decide +kernel
theorem dX10_same_65 : decode cX10_same 65 = .ok (.iconst 0, 1) := by decide +kernel
theorem dX10_same_66 : decode cX10_same 66 = .ok (.istore 5, 2) := by decide +kernel
theorem dX10_same_68 : decode cX10_same 68 = .ok (.iload 5, 2) := by decide +kernel
theorem dX10_same_70 : decode cX10_same 70 = .ok (.aload_n 0, 1) := by decide +kernel
theorem dX10_same_71 : decode cX10_same 71 = .ok (.getfield 97, 3) := by decide +kernel
theorem dX10_same_74 : decode cX10_same 74 = .ok (.if_icmp .ge 40, 3) := by decide +kernel
theorem dX10_same_77 : decode cX10_same 77 = .ok (.iload_n 3, 1) := by decide +kernel
theorem dX10_same_78 : decode cX10_same 78 = .ok (.ifCond .eq 36, 3) := by decide +kernel
theorem dX10_same_81 : decode cX10_same 81 = .ok (.aload_n 0, 1) := by decide +kernel
theorem dX10_same_82 : decode cX10_same 82 = .ok (.iload_n 1, 1) := by decide +kernel
theorem dX10_same_83 : decode cX10_same 83 = .ok (.iload 4, 2) := by decide +kernel
theorem dX10_same_85 : decode cX10_same 85 = .ok (.iload 5, 2) := by decide +kernel
theorem dX10_same_87 : decode cX10_same 87 = .ok (.invokevirtual 150, 3) := by decide +kernel
theorem dX10_same_90 : decode cX10_same 90 = .ok (.aload_n 0, 1) := by decide +kernel
theorem dX10_same_91 : decode cX10_same 91 = .ok (.iload_n 2, 1) := by decide +kernel
theorem dX10_same_92 : decode cX10_same 92 = .ok (.iload 4, 2) := by decide +kernel
theorem dX10_same_94 : decode cX10_same 94 = .ok (.iload 5, 2) := by decide +kernel
theorem dX10_same_96 : decode cX10_same 96 = .ok (.invokevirtual 150, 3) := by decide +kernel
theorem dX10_same_99 : decode cX10_same 99 = .ok (.if_icmp .ne 7, 3) := by decide +kernel
theorem dX10_same_102 : decode cX10_same 102 = .ok (.iconst 1, 1) := by decide +kernel
theorem dX10_same_103 : decode cX10_same 103 = .ok (.goto 4, 3) := by decide +kernel
theorem dX10_same_106 : decode cX10_same 106 = .ok (.iconst 0, 1) := by decide +kernel
theorem dX10_same_107 : decode cX10_same 107 = .ok (.istore_n 3, 1) := by decide +kernel
theorem dX10_same_108 : decode cX10_same 108 = .ok (.iinc 5 1, 3) := by decide +kernel
theorem dX10_same_111 : decode cX10_same 111 = .ok (.goto (-43), 3) := by decide +kernel
theorem dX10_same_114 : decode cX10_same 114 = .ok (.iinc 4 1, 3) := by decide +kernel
theorem dX10_same_117 : decode cX10_same 117 = .ok (.goto (-88), 3) := by decide +kernel
theorem dX10_same_120 : decode cX10_same 120 = .ok (.iload_n 3, 1) := by decide +kernel
theorem dX10_same_121 : decode cX10_same 121 = .ok (.ifCond .eq 7, 3) := by decide +kernel
theorem dX10_same_124 : decode cX10_same 124 = .ok (.iconst 1, 1) := by decide +kernel
theorem dX10_same_125 : decode cX10_same 125 = .ok (.goto 4, 3) := by decide +kernel
theorem dX10_same_128 : decode cX10_same 128 = .ok (.iconst 0, 1) := by decide +kernel
theorem dX10_same_129 : decode cX10_same 129 = .ok (.ireturn, 1) := by decide +kernel
theorem dX10_fair_0 : decode cX10_fair 0 = .ok (.iload_n 1, 1) := by decide +kernel
theorem dX10_fair_1 : decode cX10_fair 1 = .ok (.aload_n 0, 1) := by decide +kernel
theorem dX10_fair_2 : decode cX10_fair 2 = .ok (.getfield 116, 3) := by decide +kernel
theorem dX10_fair_5 : decode cX10_fair 5 = .ok (.invokestatic 119, 3) := by decide +kernel
theorem dX10_fair_8 : decode cX10_fair 8 = .ok (.ifCond .ne 5, 3) := by decide +kernel
theorem dX10_fair_11 : decode cX10_fair 11 = .ok (.iconst (-1), 1) := by decide +kernel
theorem dX10_fair_12 : decode cX10_fair 12 = .ok (.ireturn, 1) := by decide +kernel
theorem dX10_fair_13 : decode cX10_fair 13 = .ok (.iconst 1, 1) := by decide +kernel
theorem dX10_fair_14 : decode cX10_fair 14 = .ok (.istore_n 2, 1) := by decide +kernel
theorem dX10_fair_15 : decode cX10_fair 15 = .ok (.iconst 0, 1) := by decide +kernel
theorem dX10_fair_16 : decode cX10_fair 16 = .ok (.istore_n 3, 1) := by decide +kernel
theorem dX10_fair_17 : decode cX10_fair 17 = .ok (.iload_n 3, 1) := by decide +kernel
theorem dX10_fair_18 : decode cX10_fair 18 = .ok (.aload_n 0, 1) := by decide +kernel
theorem dX10_fair_19 : decode cX10_fair 19 = .ok (.getfield 113, 3) := by decide +kernel
theorem dX10_fair_22 : decode cX10_fair 22 = .ok (.if_icmp .ge 92, 3) := by decide +kernel
theorem dX10_fair_25 : decode cX10_fair 25 = .ok (.iload_n 2, 1) := by decide +kernel
theorem dX10_fair_26 : decode cX10_fair 26 = .ok (.ifCond .eq 88, 3) := by decide +kernel
theorem dX10_fair_29 : decode cX10_fair 29 = .ok (.iconst 0, 1) := by decide +kernel
theorem dX10_fair_30 : decode cX10_fair 30 = .ok (.istore 4, 2) := by decide +kernel
theorem dX10_fair_32 : decode cX10_fair 32 = .ok (.iload 4, 2) := by decide +kernel
theorem dX10_fair_34 : decode cX10_fair 34 = .ok (.iconst 1, 1) := by decide +kernel
theorem dX10_fair_35 : decode cX10_fair 35 = .ok (.iadd, 1) := by decide +kernel
theorem dX10_fair_36 : decode cX10_fair 36 = .ok (.aload_n 0, 1) := by decide +kernel
theorem dX10_fair_37 : decode cX10_fair 37 = .ok (.getfield 97, 3) := by decide +kernel
theorem dX10_fair_40 : decode cX10_fair 40 = .ok (.if_icmp .ge 68, 3) := by decide +kernel
theorem dX10_fair_43 : decode cX10_fair 43 = .ok (.iload_n 2, 1) := by decide +kernel
theorem dX10_fair_44 : decode cX10_fair 44 = .ok (.ifCond .eq 64, 3) := by decide +kernel
theorem dX10_fair_47 : decode cX10_fair 47 = .ok (.aload_n 0, 1) := by decide +kernel
theorem dX10_fair_48 : decode cX10_fair 48 = .ok (.aload_n 0, 1) := by decide +kernel
theorem dX10_fair_49 : decode cX10_fair 49 = .ok (.iload_n 3, 1) := by decide +kernel
theorem dX10_fair_50 : decode cX10_fair 50 = .ok (.iload 4, 2) := by decide +kernel
theorem dX10_fair_52 : decode cX10_fair 52 = .ok (.aload_n 0, 1) := by decide +kernel
theorem dX10_fair_53 : decode cX10_fair 53 = .ok (.iload_n 3, 1) := by decide +kernel
theorem dX10_fair_54 : decode cX10_fair 54 = .ok (.iload 4, 2) := by decide +kernel
theorem dX10_fair_56 : decode cX10_fair 56 = .ok (.iconst 1, 1) := by decide +kernel
theorem dX10_fair_57 : decode cX10_fair 57 = .ok (.iadd, 1) := by decide +kernel
theorem dX10_fair_58 : decode cX10_fair 58 = .ok (.invokevirtual 126, 3) := by decide +kernel
theorem dX10_fair_61 : decode cX10_fair 61 = .ok (.invokevirtual 153, 3) := by decide +kernel
theorem dX10_fair_64 : decode cX10_fair 64 = .ok (.iload 4, 2) := by decide +kernel
theorem dX10_fair_66 : decode cX10_fair 66 = .ok (.iconst 1, 1) := by decide +kernel
theorem dX10_fair_67 : decode cX10_fair 67 = .ok (.iadd, 1) := by decide +kernel
theorem dX10_fair_68 : decode cX10_fair 68 = .ok (.aload_n 0, 1) := by decide +kernel
theorem dX10_fair_69 : decode cX10_fair 69 = .ok (.iload_n 3, 1) := by decide +kernel
theorem dX10_fair_70 : decode cX10_fair 70 = .ok (.iload 4, 2) := by decide +kernel
theorem dX10_fair_72 : decode cX10_fair 72 = .ok (.invokevirtual 126, 3) := by decide +kernel
theorem dX10_fair_75 : decode cX10_fair 75 = .ok (.invokevirtual 153, 3) := by decide +kernel
theorem dX10_fair_78 : decode cX10_fair 78 = .ok (.istore 5, 2) := by decide +kernel
theorem dX10_fair_80 : decode cX10_fair 80 = .ok (.aload_n 0, 1) := by decide +kernel
theorem dX10_fair_81 : decode cX10_fair 81 = .ok (.iload_n 1, 1) := by decide +kernel
theorem dX10_fair_82 : decode cX10_fair 82 = .ok (.iload 5, 2) := by decide +kernel
theorem dX10_fair_84 : decode cX10_fair 84 = .ok (.invokevirtual 144, 3) := by decide +kernel
theorem dX10_fair_87 : decode cX10_fair 87 = .ok (.aload_n 0, 1) := by decide +kernel
theorem dX10_fair_88 : decode cX10_fair 88 = .ok (.iload_n 1, 1) := by decide +kernel
theorem dX10_fair_89 : decode cX10_fair 89 = .ok (.iload_n 3, 1) := by decide +kernel
theorem dX10_fair_90 : decode cX10_fair 90 = .ok (.invokevirtual 144, 3) := by decide +kernel
theorem dX10_fair_93 : decode cX10_fair 93 = .ok (.if_icmp .ne 7, 3) := by decide +kernel
theorem dX10_fair_96 : decode cX10_fair 96 = .ok (.iconst 1, 1) := by decide +kernel
theorem dX10_fair_97 : decode cX10_fair 97 = .ok (.goto 4, 3) := by decide +kernel
theorem dX10_fair_100 : decode cX10_fair 100 = .ok (.iconst 0, 1) := by decide +kernel
theorem dX10_fair_101 : decode cX10_fair 101 = .ok (.istore_n 2, 1) := by decide +kernel
theorem dX10_fair_102 : decode cX10_fair 102 = .ok (.iinc 4 1, 3) := by decide +kernel
theorem dX10_fair_105 : decode cX10_fair 105 = .ok (.goto (-73), 3) := by decide +kernel
theorem dX10_fair_108 : decode cX10_fair 108 = .ok (.iinc 3 1, 3) := by decide +kernel
theorem dX10_fair_111 : decode cX10_fair 111 = .ok (.goto (-94), 3) := by decide +kernel
theorem dX10_fair_114 : decode cX10_fair 114 = .ok (.iload_n 2, 1) := by decide +kernel
theorem dX10_fair_115 : decode cX10_fair 115 = .ok (.ifCond .eq 7, 3) := by decide +kernel
theorem dX10_fair_118 : decode cX10_fair 118 = .ok (.iconst 1, 1) := by decide +kernel
theorem dX10_fair_119 : decode cX10_fair 119 = .ok (.goto 4, 3) := by decide +kernel
theorem dX10_fair_122 : decode cX10_fair 122 = .ok (.iconst 0, 1) := by decide +kernel
theorem dX10_fair_123 : decode cX10_fair 123 = .ok (.ireturn, 1) := by decide +kernel
theorem dX10_digits_0 : decode cX10_digits 0 = .ok (.iload_n 1, 1) := by decide +kernel
theorem dX10_digits_1 : decode cX10_digits 1 = .ok (.ifCond .ge 5, 3) := by decide +kernel
theorem dX10_digits_4 : decode cX10_digits 4 = .ok (.iconst 0, 1) := by decide +kernel
theorem dX10_digits_5 : decode cX10_digits 5 = .ok (.ireturn, 1) := by decide +kernel
theorem dX10_digits_6 : decode cX10_digits 6 = .ok (.iload_n 1, 1) := by decide +kernel
theorem dX10_digits_7 : decode cX10_digits 7 = .ok (.istore_n 3, 1) := by decide +kernel
theorem dX10_digits_8 : decode cX10_digits 8 = .ok (.iconst 0, 1) := by decide +kernel
theorem dX10_digits_9 : decode cX10_digits 9 = .ok (.istore 4, 2) := by decide +kernel
theorem dX10_digits_11 : decode cX10_digits 11 = .ok (.aload_n 0, 1) := by decide +kernel
theorem dX10_digits_12 : decode cX10_digits 12 = .ok (.getfield 97, 3) := by decide +kernel
theorem dX10_digits_15 : decode cX10_digits 15 = .ok (.iconst 1, 1) := by decide +kernel
theorem dX10_digits_16 : decode cX10_digits 16 = .ok (.isub, 1) := by decide +kernel
theorem dX10_digits_17 : decode cX10_digits 17 = .ok (.istore 5, 2) := by decide +kernel
theorem dX10_digits_19 : decode cX10_digits 19 = .ok (.iload 5, 2) := by decide +kernel
theorem dX10_digits_21 : decode cX10_digits 21 = .ok (.ifCond .lt 59, 3) := by decide +kernel
theorem dX10_digits_24 : decode cX10_digits 24 = .ok (.aload_n 2, 1) := by decide +kernel
theorem dX10_digits_25 : decode cX10_digits 25 = .ok (.iload 5, 2) := by decide +kernel
theorem dX10_digits_27 : decode cX10_digits 27 = .ok (.iload_n 3, 1) := by decide +kernel
theorem dX10_digits_28 : decode cX10_digits 28 = .ok (.bipush 10, 2) := by decide +kernel
theorem dX10_digits_30 : decode cX10_digits 30 = .ok (.irem, 1) := by decide +kernel
theorem dX10_digits_31 : decode cX10_digits 31 = .ok (.iastore, 1) := by decide +kernel
theorem dX10_digits_32 : decode cX10_digits 32 = .ok (.aload_n 2, 1) := by decide +kernel
theorem dX10_digits_33 : decode cX10_digits 33 = .ok (.iload 5, 2) := by decide +kernel
theorem dX10_digits_35 : decode cX10_digits 35 = .ok (.iaload, 1) := by decide +kernel
theorem dX10_digits_36 : decode cX10_digits 36 = .ok (.aload_n 0, 1) := by decide +kernel
theorem dX10_digits_37 : decode cX10_digits 37 = .ok (.getfield 97, 3) := by decide +kernel
theorem dX10_digits_40 : decode cX10_digits 40 = .ok (.if_icmp .ge 16, 3) := by decide +kernel
theorem dX10_digits_43 : decode cX10_digits 43 = .ok (.iload 4, 2) := by decide +kernel
theorem dX10_digits_45 : decode cX10_digits 45 = .ok (.aload_n 2, 1) := by decide +kernel
theorem dX10_digits_46 : decode cX10_digits 46 = .ok (.iload 5, 2) := by decide +kernel
theorem dX10_digits_48 : decode cX10_digits 48 = .ok (.iaload, 1) := by decide +kernel
theorem dX10_digits_49 : decode cX10_digits 49 = .ok (.ishr, 1) := by decide +kernel
theorem dX10_digits_50 : decode cX10_digits 50 = .ok (.iconst 1, 1) := by decide +kernel
theorem dX10_digits_51 : decode cX10_digits 51 = .ok (.iand, 1) := by decide +kernel
theorem dX10_digits_52 : decode cX10_digits 52 = .ok (.iconst 1, 1) := by decide +kernel
theorem dX10_digits_53 : decode cX10_digits 53 = .ok (.if_icmp .ne 5, 3) := by decide +kernel
theorem dX10_digits_56 : decode cX10_digits 56 = .ok (.iconst 0, 1) := by decide +kernel
theorem dX10_digits_57 : decode cX10_digits 57 = .ok (.ireturn, 1) := by decide +kernel
theorem dX10_digits_58 : decode cX10_digits 58 = .ok (.iload 4, 2) := by decide +kernel
theorem dX10_digits_60 : decode cX10_digits 60 = .ok (.iconst 1, 1) := by decide +kernel
theorem dX10_digits_61 : decode cX10_digits 61 = .ok (.aload_n 2, 1) := by decide +kernel
theorem dX10_digits_62 : decode cX10_digits 62 = .ok (.iload 5, 2) := by decide +kernel
theorem dX10_digits_64 : decode cX10_digits 64 = .ok (.iaload, 1) := by decide +kernel
theorem dX10_digits_65 : decode cX10_digits 65 = .ok (.ishl, 1) := by decide +kernel
theorem dX10_digits_66 : decode cX10_digits 66 = .ok (.ior, 1) := by decide +kernel
theorem dX10_digits_67 : decode cX10_digits 67 = .ok (.istore 4, 2) := by decide +kernel
theorem dX10_digits_69 : decode cX10_digits 69 = .ok (.iload_n 3, 1) := by decide +kernel
theorem dX10_digits_70 : decode cX10_digits 70 = .ok (.bipush 10, 2) := by decide +kernel
theorem dX10_digits_72 : decode cX10_digits 72 = .ok (.idiv, 1) := by decide +kernel
theorem dX10_digits_73 : decode cX10_digits 73 = .ok (.istore_n 3, 1) := by decide +kernel
theorem dX10_digits_74 : decode cX10_digits 74 = .ok (.iinc 5 (-1), 3) := by decide +kernel
theorem dX10_digits_77 : decode cX10_digits 77 = .ok (.goto (-58), 3) := by decide +kernel
theorem dX10_digits_80 : decode cX10_digits 80 = .ok (.iload_n 3, 1) := by decide +kernel
theorem dX10_digits_81 : decode cX10_digits 81 = .ok (.ifCond .ne 7, 3) := by decide +kernel
theorem dX10_digits_84 : decode cX10_digits 84 = .ok (.iconst 1, 1) := by decide +kernel
theorem dX10_digits_85 : decode cX10_digits 85 = .ok (.goto 4, 3) := by decide +kernel
theorem dX10_digits_88 : decode cX10_digits 88 = .ok (.iconst 0, 1) := by decide +kernel
theorem dX10_digits_89 : decode cX10_digits 89 = .ok (.ireturn, 1) := by decide +kernel
theorem dX10_code_0 : decode cX10_code 0 = .ok (.iconst 0, 1) := by decide +kernel
theorem dX10_code_1 : decode cX10_code 1 = .ok (.istore_n 2, 1) := by decide +kernel
theorem dX10_code_2 : decode cX10_code 2 = .ok (.iconst 0, 1) := by decide +kernel
theorem dX10_code_3 : decode cX10_code 3 = .ok (.istore_n 3, 1) := by decide +kernel
theorem dX10_code_4 : decode cX10_code 4 = .ok (.iload_n 3, 1) := by decide +kernel
theorem dX10_code_5 : decode cX10_code 5 = .ok (.aload_n 0, 1) := by decide +kernel
theorem dX10_code_6 : decode cX10_code 6 = .ok (.getfield 97, 3) := by decide +kernel
theorem dX10_code_9 : decode cX10_code 9 = .ok (.if_icmp .ge 18, 3) := by decide +kernel
theorem dX10_code_12 : decode cX10_code 12 = .ok (.bipush 10, 2) := by decide +kernel
theorem dX10_code_14 : decode cX10_code 14 = .ok (.iload_n 2, 1) := by decide +kernel
theorem dX10_code_15 : decode cX10_code 15 = .ok (.imul, 1) := by decide +kernel
theorem dX10_code_16 : decode cX10_code 16 = .ok (.aload_n 1, 1) := by decide +kernel
theorem dX10_code_17 : decode cX10_code 17 = .ok (.iload_n 3, 1) := by decide +kernel
theorem dX10_code_18 : decode cX10_code 18 = .ok (.iaload, 1) := by decide +kernel
theorem dX10_code_19 : decode cX10_code 19 = .ok (.iadd, 1) := by decide +kernel
theorem dX10_code_20 : decode cX10_code 20 = .ok (.istore_n 2, 1) := by decide +kernel
theorem dX10_code_21 : decode cX10_code 21 = .ok (.iinc 3 1, 3) := by decide +kernel
theorem dX10_code_24 : decode cX10_code 24 = .ok (.goto (-20), 3) := by decide +kernel
theorem dX10_code_27 : decode cX10_code 27 = .ok (.iload_n 2, 1) := by decide +kernel
theorem dX10_code_28 : decode cX10_code 28 = .ok (.ireturn, 1) := by decide +kernel
theorem dX10_place_0 : decode cX10_place 0 = .ok (.iconst 0, 1) := by decide +kernel
theorem dX10_place_1 : decode cX10_place 1 = .ok (.istore_n 3, 1) := by decide +kernel
theorem dX10_place_2 : decode cX10_place 2 = .ok (.aload_n 0, 1) := by decide +kernel
theorem dX10_place_3 : decode cX10_place 3 = .ok (.getfield 51, 3) := by decide +kernel
theorem dX10_place_6 : decode cX10_place 6 = .ok (.iconst 4, 1) := by decide +kernel
theorem dX10_place_7 : decode cX10_place 7 = .ok (.iload_n 1, 1) := by decide +kernel
theorem dX10_place_8 : decode cX10_place 8 = .ok (.imul, 1) := by decide +kernel
theorem dX10_place_9 : decode cX10_place 9 = .ok (.iload_n 3, 1) := by decide +kernel
theorem dX10_place_10 : decode cX10_place 10 = .ok (.iadd, 1) := by decide +kernel
theorem dX10_place_11 : decode cX10_place 11 = .ok (.iaload, 1) := by decide +kernel
theorem dX10_place_12 : decode cX10_place 12 = .ok (.iload_n 2, 1) := by decide +kernel
theorem dX10_place_13 : decode cX10_place 13 = .ok (.if_icmp .eq 9, 3) := by decide +kernel
theorem dX10_place_16 : decode cX10_place 16 = .ok (.iinc 3 1, 3) := by decide +kernel
theorem dX10_place_19 : decode cX10_place 19 = .ok (.goto (-17), 3) := by decide +kernel
theorem dX10_place_22 : decode cX10_place 22 = .ok (.iload_n 3, 1) := by decide +kernel
theorem dX10_place_23 : decode cX10_place 23 = .ok (.ireturn, 1) := by decide +kernel
theorem dX10_likes_0 : decode cX10_likes 0 = .ok (.iload_n 1, 1) := by decide +kernel
theorem dX10_likes_1 : decode cX10_likes 1 = .ok (.aload_n 0, 1) := by decide +kernel
theorem dX10_likes_2 : decode cX10_likes 2 = .ok (.getfield 97, 3) := by decide +kernel
theorem dX10_likes_5 : decode cX10_likes 5 = .ok (.invokestatic 119, 3) := by decide +kernel
theorem dX10_likes_8 : decode cX10_likes 8 = .ok (.ifCond .eq 15, 3) := by decide +kernel
theorem dX10_likes_11 : decode cX10_likes 11 = .ok (.aload_n 0, 1) := by decide +kernel
theorem dX10_likes_12 : decode cX10_likes 12 = .ok (.iload_n 2, 1) := by decide +kernel
theorem dX10_likes_13 : decode cX10_likes 13 = .ok (.aload_n 0, 1) := by decide +kernel
theorem dX10_likes_14 : decode cX10_likes 14 = .ok (.getfield 57, 3) := by decide +kernel
theorem dX10_likes_17 : decode cX10_likes 17 = .ok (.invokevirtual 193, 3) := by decide +kernel
theorem dX10_likes_20 : decode cX10_likes 20 = .ok (.ifCond .ne 5, 3) := by decide +kernel
theorem dX10_likes_23 : decode cX10_likes 23 = .ok (.iconst (-1), 1) := by decide +kernel
theorem dX10_likes_24 : decode cX10_likes 24 = .ok (.ireturn, 1) := by decide +kernel
theorem dX10_likes_25 : decode cX10_likes 25 = .ok (.iconst 0, 1) := by decide +kernel
theorem dX10_likes_26 : decode cX10_likes 26 = .ok (.istore_n 3, 1) := by decide +kernel
theorem dX10_likes_27 : decode cX10_likes 27 = .ok (.iload_n 3, 1) := by decide +kernel
theorem dX10_likes_28 : decode cX10_likes 28 = .ok (.aload_n 0, 1) := by decide +kernel
theorem dX10_likes_29 : decode cX10_likes 29 = .ok (.getfield 97, 3) := by decide +kernel
theorem dX10_likes_32 : decode cX10_likes 32 = .ok (.if_icmp .ge 25, 3) := by decide +kernel
theorem dX10_likes_35 : decode cX10_likes 35 = .ok (.aload_n 0, 1) := by decide +kernel
theorem dX10_likes_36 : decode cX10_likes 36 = .ok (.getfield 51, 3) := by decide +kernel
theorem dX10_likes_39 : decode cX10_likes 39 = .ok (.iconst 4, 1) := by decide +kernel
theorem dX10_likes_40 : decode cX10_likes 40 = .ok (.iload_n 1, 1) := by decide +kernel
theorem dX10_likes_41 : decode cX10_likes 41 = .ok (.imul, 1) := by decide +kernel
theorem dX10_likes_42 : decode cX10_likes 42 = .ok (.iload_n 3, 1) := by decide +kernel
theorem dX10_likes_43 : decode cX10_likes 43 = .ok (.iadd, 1) := by decide +kernel
theorem dX10_likes_44 : decode cX10_likes 44 = .ok (.aload_n 0, 1) := by decide +kernel
theorem dX10_likes_45 : decode cX10_likes 45 = .ok (.getfield 57, 3) := by decide +kernel
theorem dX10_likes_48 : decode cX10_likes 48 = .ok (.iload_n 3, 1) := by decide +kernel
theorem dX10_likes_49 : decode cX10_likes 49 = .ok (.iaload, 1) := by decide +kernel
theorem dX10_likes_50 : decode cX10_likes 50 = .ok (.iastore, 1) := by decide +kernel
theorem dX10_likes_51 : decode cX10_likes 51 = .ok (.iinc 3 1, 3) := by decide +kernel
theorem dX10_likes_54 : decode cX10_likes 54 = .ok (.goto (-27), 3) := by decide +kernel
theorem dX10_likes_57 : decode cX10_likes 57 = .ok (.iconst 0, 1) := by decide +kernel
theorem dX10_likes_58 : decode cX10_likes 58 = .ok (.ireturn, 1) := by decide +kernel
theorem dX10_best_0 : decode cX10_best 0 = .ok (.iconst 0, 1) := by decide +kernel
theorem dX10_best_1 : decode cX10_best 1 = .ok (.istore_n 3, 1) := by decide +kernel
theorem dX10_best_2 : decode cX10_best 2 = .ok (.iload_n 2, 1) := by decide +kernel
theorem dX10_best_3 : decode cX10_best 3 = .ok (.aload_n 0, 1) := by decide +kernel
theorem dX10_best_4 : decode cX10_best 4 = .ok (.getfield 51, 3) := by decide +kernel
theorem dX10_best_7 : decode cX10_best 7 = .ok (.iconst 4, 1) := by decide +kernel
theorem dX10_best_8 : decode cX10_best 8 = .ok (.iload_n 1, 1) := by decide +kernel
theorem dX10_best_9 : decode cX10_best 9 = .ok (.imul, 1) := by decide +kernel
theorem dX10_best_10 : decode cX10_best 10 = .ok (.iload_n 3, 1) := by decide +kernel
theorem dX10_best_11 : decode cX10_best 11 = .ok (.iadd, 1) := by decide +kernel
theorem dX10_best_12 : decode cX10_best 12 = .ok (.iaload, 1) := by decide +kernel
theorem dX10_best_13 : decode cX10_best 13 = .ok (.ishr, 1) := by decide +kernel
theorem dX10_best_14 : decode cX10_best 14 = .ok (.iconst 1, 1) := by decide +kernel
theorem dX10_best_15 : decode cX10_best 15 = .ok (.iand, 1) := by decide +kernel
theorem dX10_best_16 : decode cX10_best 16 = .ok (.ifCond .ne 9, 3) := by decide +kernel
theorem dX10_best_19 : decode cX10_best 19 = .ok (.iinc 3 1, 3) := by decide +kernel
theorem dX10_best_22 : decode cX10_best 22 = .ok (.goto (-20), 3) := by decide +kernel
theorem dX10_best_25 : decode cX10_best 25 = .ok (.aload_n 0, 1) := by decide +kernel
theorem dX10_best_26 : decode cX10_best 26 = .ok (.getfield 51, 3) := by decide +kernel
theorem dX10_best_29 : decode cX10_best 29 = .ok (.iconst 4, 1) := by decide +kernel
theorem dX10_best_30 : decode cX10_best 30 = .ok (.iload_n 1, 1) := by decide +kernel
theorem dX10_best_31 : decode cX10_best 31 = .ok (.imul, 1) := by decide +kernel
theorem dX10_best_32 : decode cX10_best 32 = .ok (.iload_n 3, 1) := by decide +kernel
theorem dX10_best_33 : decode cX10_best 33 = .ok (.iadd, 1) := by decide +kernel
theorem dX10_best_34 : decode cX10_best 34 = .ok (.iaload, 1) := by decide +kernel
theorem dX10_best_35 : decode cX10_best 35 = .ok (.ireturn, 1) := by decide +kernel
theorem dX10_ring_0 : decode cX10_ring 0 = .ok (.iconst 1, 1) := by decide +kernel
theorem dX10_ring_1 : decode cX10_ring 1 = .ok (.aload_n 0, 1) := by decide +kernel
theorem dX10_ring_2 : decode cX10_ring 2 = .ok (.getfield 97, 3) := by decide +kernel
theorem dX10_ring_5 : decode cX10_ring 5 = .ok (.ishl, 1) := by decide +kernel
theorem dX10_ring_6 : decode cX10_ring 6 = .ok (.iconst 1, 1) := by decide +kernel
theorem dX10_ring_7 : decode cX10_ring 7 = .ok (.isub, 1) := by decide +kernel
theorem dX10_ring_8 : decode cX10_ring 8 = .ok (.istore_n 1, 1) := by decide +kernel
theorem dX10_ring_9 : decode cX10_ring 9 = .ok (.iconst 1, 1) := by decide +kernel
theorem dX10_ring_10 : decode cX10_ring 10 = .ok (.istore_n 2, 1) := by decide +kernel
theorem dX10_ring_11 : decode cX10_ring 11 = .ok (.iload_n 1, 1) := by decide +kernel
theorem dX10_ring_12 : decode cX10_ring 12 = .ok (.ifCond .eq 129, 3) := by decide +kernel
theorem dX10_ring_15 : decode cX10_ring 15 = .ok (.iconst 0, 1) := by decide +kernel
theorem dX10_ring_16 : decode cX10_ring 16 = .ok (.istore_n 3, 1) := by decide +kernel
theorem dX10_ring_17 : decode cX10_ring 17 = .ok (.iconst 0, 1) := by decide +kernel
theorem dX10_ring_18 : decode cX10_ring 18 = .ok (.istore 4, 2) := by decide +kernel
theorem dX10_ring_20 : decode cX10_ring 20 = .ok (.iload 4, 2) := by decide +kernel
theorem dX10_ring_22 : decode cX10_ring 22 = .ok (.aload_n 0, 1) := by decide +kernel
theorem dX10_ring_23 : decode cX10_ring 23 = .ok (.getfield 97, 3) := by decide +kernel
theorem dX10_ring_26 : decode cX10_ring 26 = .ok (.if_icmp .ge 103, 3) := by decide +kernel
theorem dX10_ring_29 : decode cX10_ring 29 = .ok (.iload_n 1, 1) := by decide +kernel
theorem dX10_ring_30 : decode cX10_ring 30 = .ok (.iload 4, 2) := by decide +kernel
theorem dX10_ring_32 : decode cX10_ring 32 = .ok (.ishr, 1) := by decide +kernel
theorem dX10_ring_33 : decode cX10_ring 33 = .ok (.iconst 1, 1) := by decide +kernel
theorem dX10_ring_34 : decode cX10_ring 34 = .ok (.iand, 1) := by decide +kernel
theorem dX10_ring_35 : decode cX10_ring 35 = .ok (.ifCond .ne 6, 3) := by decide +kernel
theorem dX10_ring_38 : decode cX10_ring 38 = .ok (.goto 85, 3) := by decide +kernel
theorem dX10_ring_41 : decode cX10_ring 41 = .ok (.aload_n 0, 1) := by decide +kernel
theorem dX10_ring_42 : decode cX10_ring 42 = .ok (.iload 4, 2) := by decide +kernel
theorem dX10_ring_44 : decode cX10_ring 44 = .ok (.iload_n 1, 1) := by decide +kernel
theorem dX10_ring_45 : decode cX10_ring 45 = .ok (.invokevirtual 197, 3) := by decide +kernel
theorem dX10_ring_48 : decode cX10_ring 48 = .ok (.istore 5, 2) := by decide +kernel
theorem dX10_ring_50 : decode cX10_ring 50 = .ok (.iconst 0, 1) := by decide +kernel
theorem dX10_ring_51 : decode cX10_ring 51 = .ok (.istore 6, 2) := by decide +kernel
theorem dX10_ring_53 : decode cX10_ring 53 = .ok (.iload 6, 2) := by decide +kernel
theorem dX10_ring_55 : decode cX10_ring 55 = .ok (.aload_n 0, 1) := by decide +kernel
theorem dX10_ring_56 : decode cX10_ring 56 = .ok (.getfield 97, 3) := by decide +kernel
theorem dX10_ring_59 : decode cX10_ring 59 = .ok (.if_icmp .ge 25, 3) := by decide +kernel
theorem dX10_ring_62 : decode cX10_ring 62 = .ok (.iload 5, 2) := by decide +kernel
theorem dX10_ring_64 : decode cX10_ring 64 = .ok (.iload 4, 2) := by decide +kernel
theorem dX10_ring_66 : decode cX10_ring 66 = .ok (.if_icmp .eq 18, 3) := by decide +kernel
theorem dX10_ring_69 : decode cX10_ring 69 = .ok (.aload_n 0, 1) := by decide +kernel
theorem dX10_ring_70 : decode cX10_ring 70 = .ok (.iload 5, 2) := by decide +kernel
theorem dX10_ring_72 : decode cX10_ring 72 = .ok (.iload_n 1, 1) := by decide +kernel
theorem dX10_ring_73 : decode cX10_ring 73 = .ok (.invokevirtual 197, 3) := by decide +kernel
theorem dX10_ring_76 : decode cX10_ring 76 = .ok (.istore 5, 2) := by decide +kernel
theorem dX10_ring_78 : decode cX10_ring 78 = .ok (.iinc 6 1, 3) := by decide +kernel
theorem dX10_ring_81 : decode cX10_ring 81 = .ok (.goto (-28), 3) := by decide +kernel
theorem dX10_ring_84 : decode cX10_ring 84 = .ok (.iload 5, 2) := by decide +kernel
theorem dX10_ring_86 : decode cX10_ring 86 = .ok (.iload 4, 2) := by decide +kernel
theorem dX10_ring_88 : decode cX10_ring 88 = .ok (.if_icmp .eq 6, 3) := by decide +kernel
theorem dX10_ring_91 : decode cX10_ring 91 = .ok (.goto 32, 3) := by decide +kernel
theorem dX10_ring_94 : decode cX10_ring 94 = .ok (.iload_n 3, 1) := by decide +kernel
theorem dX10_ring_95 : decode cX10_ring 95 = .ok (.iconst 1, 1) := by decide +kernel
theorem dX10_ring_96 : decode cX10_ring 96 = .ok (.iload 4, 2) := by decide +kernel
theorem dX10_ring_98 : decode cX10_ring 98 = .ok (.ishl, 1) := by decide +kernel
theorem dX10_ring_99 : decode cX10_ring 99 = .ok (.ior, 1) := by decide +kernel
theorem dX10_ring_100 : decode cX10_ring 100 = .ok (.istore_n 3, 1) := by decide +kernel
theorem dX10_ring_101 : decode cX10_ring 101 = .ok (.aload_n 0, 1) := by decide +kernel
theorem dX10_ring_102 : decode cX10_ring 102 = .ok (.getfield 54, 3) := by decide +kernel
theorem dX10_ring_105 : decode cX10_ring 105 = .ok (.iload 4, 2) := by decide +kernel
theorem dX10_ring_107 : decode cX10_ring 107 = .ok (.aload_n 0, 1) := by decide +kernel
theorem dX10_ring_108 : decode cX10_ring 108 = .ok (.iload 4, 2) := by decide +kernel
theorem dX10_ring_110 : decode cX10_ring 110 = .ok (.iload_n 1, 1) := by decide +kernel
theorem dX10_ring_111 : decode cX10_ring 111 = .ok (.invokevirtual 197, 3) := by decide +kernel
theorem dX10_ring_114 : decode cX10_ring 114 = .ok (.iastore, 1) := by decide +kernel
theorem dX10_ring_115 : decode cX10_ring 115 = .ok (.aload_n 0, 1) := by decide +kernel
theorem dX10_ring_116 : decode cX10_ring 116 = .ok (.getfield 60, 3) := by decide +kernel
theorem dX10_ring_119 : decode cX10_ring 119 = .ok (.iload 4, 2) := by decide +kernel
theorem dX10_ring_121 : decode cX10_ring 121 = .ok (.iload_n 2, 1) := by decide +kernel
theorem dX10_ring_122 : decode cX10_ring 122 = .ok (.iastore, 1) := by decide +kernel
theorem dX10_ring_123 : decode cX10_ring 123 = .ok (.iinc 4 1, 3) := by decide +kernel
theorem dX10_ring_126 : decode cX10_ring 126 = .ok (.goto (-106), 3) := by decide +kernel
theorem dX10_ring_129 : decode cX10_ring 129 = .ok (.iload_n 1, 1) := by decide +kernel
theorem dX10_ring_130 : decode cX10_ring 130 = .ok (.iload_n 3, 1) := by decide +kernel
theorem dX10_ring_131 : decode cX10_ring 131 = .ok (.iconst (-1), 1) := by decide +kernel
theorem dX10_ring_132 : decode cX10_ring 132 = .ok (.ixor, 1) := by decide +kernel
theorem dX10_ring_133 : decode cX10_ring 133 = .ok (.iand, 1) := by decide +kernel
theorem dX10_ring_134 : decode cX10_ring 134 = .ok (.istore_n 1, 1) := by decide +kernel
theorem dX10_ring_135 : decode cX10_ring 135 = .ok (.iinc 2 1, 3) := by decide +kernel
theorem dX10_ring_138 : decode cX10_ring 138 = .ok (.goto (-127), 3) := by decide +kernel
theorem dX10_ring_141 : decode cX10_ring 141 = .ok (.return_, 1) := by decide +kernel
theorem dX10_rings_0 : decode cX10_rings 0 = .ok (.aload_n 0, 1) := by decide +kernel
theorem dX10_rings_1 : decode cX10_rings 1 = .ok (.invokevirtual 200, 3) := by decide +kernel
theorem dX10_rings_4 : decode cX10_rings 4 = .ok (.aload_n 0, 1) := by decide +kernel
theorem dX10_rings_5 : decode cX10_rings 5 = .ok (.aload_n 0, 1) := by decide +kernel
theorem dX10_rings_6 : decode cX10_rings 6 = .ok (.getfield 54, 3) := by decide +kernel
theorem dX10_rings_9 : decode cX10_rings 9 = .ok (.invokevirtual 203, 3) := by decide +kernel
theorem dX10_rings_12 : decode cX10_rings 12 = .ok (.ireturn, 1) := by decide +kernel
theorem dX10_leaves_0 : decode cX10_leaves 0 = .ok (.iload_n 1, 1) := by decide +kernel
theorem dX10_leaves_1 : decode cX10_leaves 1 = .ok (.aload_n 0, 1) := by decide +kernel
theorem dX10_leaves_2 : decode cX10_leaves 2 = .ok (.getfield 97, 3) := by decide +kernel
theorem dX10_leaves_5 : decode cX10_leaves 5 = .ok (.invokestatic 119, 3) := by decide +kernel
theorem dX10_leaves_8 : decode cX10_leaves 8 = .ok (.ifCond .ne 5, 3) := by decide +kernel
theorem dX10_leaves_11 : decode cX10_leaves 11 = .ok (.iconst (-1), 1) := by decide +kernel
theorem dX10_leaves_12 : decode cX10_leaves 12 = .ok (.ireturn, 1) := by decide +kernel
theorem dX10_leaves_13 : decode cX10_leaves 13 = .ok (.aload_n 0, 1) := by decide +kernel
theorem dX10_leaves_14 : decode cX10_leaves 14 = .ok (.invokevirtual 200, 3) := by decide +kernel
theorem dX10_leaves_17 : decode cX10_leaves 17 = .ok (.aload_n 0, 1) := by decide +kernel
theorem dX10_leaves_18 : decode cX10_leaves 18 = .ok (.getfield 60, 3) := by decide +kernel
theorem dX10_leaves_21 : decode cX10_leaves 21 = .ok (.iload_n 1, 1) := by decide +kernel
theorem dX10_leaves_22 : decode cX10_leaves 22 = .ok (.iaload, 1) := by decide +kernel
theorem dX10_leaves_23 : decode cX10_leaves 23 = .ok (.ireturn, 1) := by decide +kernel
theorem dX10_turn_0 : decode cX10_turn 0 = .ok (.iconst 1, 1) := by decide +kernel
theorem dX10_turn_1 : decode cX10_turn 1 = .ok (.aload_n 0, 1) := by decide +kernel
theorem dX10_turn_2 : decode cX10_turn 2 = .ok (.getfield 97, 3) := by decide +kernel
theorem dX10_turn_5 : decode cX10_turn 5 = .ok (.ishl, 1) := by decide +kernel
theorem dX10_turn_6 : decode cX10_turn 6 = .ok (.iconst 1, 1) := by decide +kernel
theorem dX10_turn_7 : decode cX10_turn 7 = .ok (.isub, 1) := by decide +kernel
theorem dX10_turn_8 : decode cX10_turn 8 = .ok (.istore_n 1, 1) := by decide +kernel
theorem dX10_turn_9 : decode cX10_turn 9 = .ok (.iconst 0, 1) := by decide +kernel
theorem dX10_turn_10 : decode cX10_turn 10 = .ok (.istore_n 2, 1) := by decide +kernel
theorem dX10_turn_11 : decode cX10_turn 11 = .ok (.iload_n 2, 1) := by decide +kernel
theorem dX10_turn_12 : decode cX10_turn 12 = .ok (.aload_n 0, 1) := by decide +kernel
theorem dX10_turn_13 : decode cX10_turn 13 = .ok (.getfield 97, 3) := by decide +kernel
theorem dX10_turn_16 : decode cX10_turn 16 = .ok (.if_icmp .ge 49, 3) := by decide +kernel
theorem dX10_turn_19 : decode cX10_turn 19 = .ok (.aload_n 0, 1) := by decide +kernel
theorem dX10_turn_20 : decode cX10_turn 20 = .ok (.getfield 54, 3) := by decide +kernel
theorem dX10_turn_23 : decode cX10_turn 23 = .ok (.aload_n 0, 1) := by decide +kernel
theorem dX10_turn_24 : decode cX10_turn 24 = .ok (.getfield 63, 3) := by decide +kernel
theorem dX10_turn_27 : decode cX10_turn 27 = .ok (.iload_n 2, 1) := by decide +kernel
theorem dX10_turn_28 : decode cX10_turn 28 = .ok (.iaload, 1) := by decide +kernel
theorem dX10_turn_29 : decode cX10_turn 29 = .ok (.aload_n 0, 1) := by decide +kernel
theorem dX10_turn_30 : decode cX10_turn 30 = .ok (.aload_n 0, 1) := by decide +kernel
theorem dX10_turn_31 : decode cX10_turn 31 = .ok (.getfield 63, 3) := by decide +kernel
theorem dX10_turn_34 : decode cX10_turn 34 = .ok (.iload_n 2, 1) := by decide +kernel
theorem dX10_turn_35 : decode cX10_turn 35 = .ok (.iaload, 1) := by decide +kernel
theorem dX10_turn_36 : decode cX10_turn 36 = .ok (.iload_n 1, 1) := by decide +kernel
theorem dX10_turn_37 : decode cX10_turn 37 = .ok (.invokevirtual 197, 3) := by decide +kernel
theorem dX10_turn_40 : decode cX10_turn 40 = .ok (.iastore, 1) := by decide +kernel
theorem dX10_turn_41 : decode cX10_turn 41 = .ok (.iload_n 1, 1) := by decide +kernel
theorem dX10_turn_42 : decode cX10_turn 42 = .ok (.iconst 1, 1) := by decide +kernel
theorem dX10_turn_43 : decode cX10_turn 43 = .ok (.aload_n 0, 1) := by decide +kernel
theorem dX10_turn_44 : decode cX10_turn 44 = .ok (.getfield 54, 3) := by decide +kernel
theorem dX10_turn_47 : decode cX10_turn 47 = .ok (.aload_n 0, 1) := by decide +kernel
theorem dX10_turn_48 : decode cX10_turn 48 = .ok (.getfield 63, 3) := by decide +kernel
theorem dX10_turn_51 : decode cX10_turn 51 = .ok (.iload_n 2, 1) := by decide +kernel
theorem dX10_turn_52 : decode cX10_turn 52 = .ok (.iaload, 1) := by decide +kernel
theorem dX10_turn_53 : decode cX10_turn 53 = .ok (.iaload, 1) := by decide +kernel
theorem dX10_turn_54 : decode cX10_turn 54 = .ok (.ishl, 1) := by decide +kernel
theorem dX10_turn_55 : decode cX10_turn 55 = .ok (.iconst (-1), 1) := by decide +kernel
theorem dX10_turn_56 : decode cX10_turn 56 = .ok (.ixor, 1) := by decide +kernel
theorem dX10_turn_57 : decode cX10_turn 57 = .ok (.iand, 1) := by decide +kernel
theorem dX10_turn_58 : decode cX10_turn 58 = .ok (.istore_n 1, 1) := by decide +kernel
theorem dX10_turn_59 : decode cX10_turn 59 = .ok (.iinc 2 1, 3) := by decide +kernel
theorem dX10_turn_62 : decode cX10_turn 62 = .ok (.goto (-51), 3) := by decide +kernel
theorem dX10_turn_65 : decode cX10_turn 65 = .ok (.return_, 1) := by decide +kernel
theorem dX10_turns_0 : decode cX10_turns 0 = .ok (.aload_n 0, 1) := by decide +kernel
theorem dX10_turns_1 : decode cX10_turns 1 = .ok (.iload_n 1, 1) := by decide +kernel
theorem dX10_turns_2 : decode cX10_turns 2 = .ok (.aload_n 0, 1) := by decide +kernel
theorem dX10_turns_3 : decode cX10_turns 3 = .ok (.getfield 63, 3) := by decide +kernel
theorem dX10_turns_6 : decode cX10_turns 6 = .ok (.invokevirtual 193, 3) := by decide +kernel
theorem dX10_turns_9 : decode cX10_turns 9 = .ok (.ifCond .ne 5, 3) := by decide +kernel
theorem dX10_turns_12 : decode cX10_turns 12 = .ok (.iconst (-1), 1) := by decide +kernel
theorem dX10_turns_13 : decode cX10_turns 13 = .ok (.ireturn, 1) := by decide +kernel
theorem dX10_turns_14 : decode cX10_turns 14 = .ok (.aload_n 0, 1) := by decide +kernel
theorem dX10_turns_15 : decode cX10_turns 15 = .ok (.invokevirtual 207, 3) := by decide +kernel
theorem dX10_turns_18 : decode cX10_turns 18 = .ok (.aload_n 0, 1) := by decide +kernel
theorem dX10_turns_19 : decode cX10_turns 19 = .ok (.aload_n 0, 1) := by decide +kernel
theorem dX10_turns_20 : decode cX10_turns 20 = .ok (.getfield 54, 3) := by decide +kernel
theorem dX10_turns_23 : decode cX10_turns 23 = .ok (.invokevirtual 203, 3) := by decide +kernel
theorem dX10_turns_26 : decode cX10_turns 26 = .ok (.ireturn, 1) := by decide +kernel
theorem dX10_isBetter_0 : decode cX10_isBetter 0 = .ok (.iconst 0, 1) := by decide +kernel
theorem dX10_isBetter_1 : decode cX10_isBetter 1 = .ok (.istore 4, 2) := by decide +kernel
theorem dX10_isBetter_3 : decode cX10_isBetter 3 = .ok (.iconst 0, 1) := by decide +kernel
theorem dX10_isBetter_4 : decode cX10_isBetter 4 = .ok (.istore 5, 2) := by decide +kernel
theorem dX10_isBetter_6 : decode cX10_isBetter 6 = .ok (.iload 5, 2) := by decide +kernel
theorem dX10_isBetter_8 : decode cX10_isBetter 8 = .ok (.aload_n 0, 1) := by decide +kernel
theorem dX10_isBetter_9 : decode cX10_isBetter 9 = .ok (.getfield 97, 3) := by decide +kernel
theorem dX10_isBetter_12 : decode cX10_isBetter 12 = .ok (.if_icmp .ge 92, 3) := by decide +kernel
theorem dX10_isBetter_15 : decode cX10_isBetter 15 = .ok (.iload_n 1, 1) := by decide +kernel
theorem dX10_isBetter_16 : decode cX10_isBetter 16 = .ok (.iload 5, 2) := by decide +kernel
theorem dX10_isBetter_18 : decode cX10_isBetter 18 = .ok (.ishr, 1) := by decide +kernel
theorem dX10_isBetter_19 : decode cX10_isBetter 19 = .ok (.iconst 1, 1) := by decide +kernel
theorem dX10_isBetter_20 : decode cX10_isBetter 20 = .ok (.iand, 1) := by decide +kernel
theorem dX10_isBetter_21 : decode cX10_isBetter 21 = .ok (.ifCond .ne 6, 3) := by decide +kernel
theorem dX10_isBetter_24 : decode cX10_isBetter 24 = .ok (.goto 74, 3) := by decide +kernel
theorem dX10_isBetter_27 : decode cX10_isBetter 27 = .ok (.iload_n 1, 1) := by decide +kernel
theorem dX10_isBetter_28 : decode cX10_isBetter 28 = .ok (.aload_n 3, 1) := by decide +kernel
theorem dX10_isBetter_29 : decode cX10_isBetter 29 = .ok (.iload 5, 2) := by decide +kernel
theorem dX10_isBetter_31 : decode cX10_isBetter 31 = .ok (.iaload, 1) := by decide +kernel
theorem dX10_isBetter_32 : decode cX10_isBetter 32 = .ok (.ishr, 1) := by decide +kernel
theorem dX10_isBetter_33 : decode cX10_isBetter 33 = .ok (.iconst 1, 1) := by decide +kernel
theorem dX10_isBetter_34 : decode cX10_isBetter 34 = .ok (.iand, 1) := by decide +kernel
theorem dX10_isBetter_35 : decode cX10_isBetter 35 = .ok (.ifCond .eq 26, 3) := by decide +kernel
theorem dX10_isBetter_38 : decode cX10_isBetter 38 = .ok (.aload_n 0, 1) := by decide +kernel
theorem dX10_isBetter_39 : decode cX10_isBetter 39 = .ok (.iload 5, 2) := by decide +kernel
theorem dX10_isBetter_41 : decode cX10_isBetter 41 = .ok (.aload_n 3, 1) := by decide +kernel
theorem dX10_isBetter_42 : decode cX10_isBetter 42 = .ok (.iload 5, 2) := by decide +kernel
theorem dX10_isBetter_44 : decode cX10_isBetter 44 = .ok (.iaload, 1) := by decide +kernel
theorem dX10_isBetter_45 : decode cX10_isBetter 45 = .ok (.invokevirtual 210, 3) := by decide +kernel
theorem dX10_isBetter_48 : decode cX10_isBetter 48 = .ok (.aload_n 0, 1) := by decide +kernel
theorem dX10_isBetter_49 : decode cX10_isBetter 49 = .ok (.iload 5, 2) := by decide +kernel
theorem dX10_isBetter_51 : decode cX10_isBetter 51 = .ok (.aload_n 2, 1) := by decide +kernel
theorem dX10_isBetter_52 : decode cX10_isBetter 52 = .ok (.iload 5, 2) := by decide +kernel
theorem dX10_isBetter_54 : decode cX10_isBetter 54 = .ok (.iaload, 1) := by decide +kernel
theorem dX10_isBetter_55 : decode cX10_isBetter 55 = .ok (.invokevirtual 210, 3) := by decide +kernel
theorem dX10_isBetter_58 : decode cX10_isBetter 58 = .ok (.if_icmp .le 5, 3) := by decide +kernel
theorem dX10_isBetter_61 : decode cX10_isBetter 61 = .ok (.iconst 0, 1) := by decide +kernel
theorem dX10_isBetter_62 : decode cX10_isBetter 62 = .ok (.ireturn, 1) := by decide +kernel
theorem dX10_isBetter_63 : decode cX10_isBetter 63 = .ok (.iload 4, 2) := by decide +kernel
theorem dX10_isBetter_65 : decode cX10_isBetter 65 = .ok (.ifCond .ne 26, 3) := by decide +kernel
theorem dX10_isBetter_68 : decode cX10_isBetter 68 = .ok (.aload_n 0, 1) := by decide +kernel
theorem dX10_isBetter_69 : decode cX10_isBetter 69 = .ok (.iload 5, 2) := by decide +kernel
theorem dX10_isBetter_71 : decode cX10_isBetter 71 = .ok (.aload_n 3, 1) := by decide +kernel
theorem dX10_isBetter_72 : decode cX10_isBetter 72 = .ok (.iload 5, 2) := by decide +kernel
theorem dX10_isBetter_74 : decode cX10_isBetter 74 = .ok (.iaload, 1) := by decide +kernel
theorem dX10_isBetter_75 : decode cX10_isBetter 75 = .ok (.invokevirtual 210, 3) := by decide +kernel
theorem dX10_isBetter_78 : decode cX10_isBetter 78 = .ok (.aload_n 0, 1) := by decide +kernel
theorem dX10_isBetter_79 : decode cX10_isBetter 79 = .ok (.iload 5, 2) := by decide +kernel
theorem dX10_isBetter_81 : decode cX10_isBetter 81 = .ok (.aload_n 2, 1) := by decide +kernel
theorem dX10_isBetter_82 : decode cX10_isBetter 82 = .ok (.iload 5, 2) := by decide +kernel
theorem dX10_isBetter_84 : decode cX10_isBetter 84 = .ok (.iaload, 1) := by decide +kernel
theorem dX10_isBetter_85 : decode cX10_isBetter 85 = .ok (.invokevirtual 210, 3) := by decide +kernel
theorem dX10_isBetter_88 : decode cX10_isBetter 88 = .ok (.if_icmp .ge 7, 3) := by decide +kernel
theorem dX10_isBetter_91 : decode cX10_isBetter 91 = .ok (.iconst 1, 1) := by decide +kernel
theorem dX10_isBetter_92 : decode cX10_isBetter 92 = .ok (.goto 4, 3) := by decide +kernel
theorem dX10_isBetter_95 : decode cX10_isBetter 95 = .ok (.iconst 0, 1) := by decide +kernel
theorem dX10_isBetter_96 : decode cX10_isBetter 96 = .ok (.istore 4, 2) := by decide +kernel
theorem dX10_isBetter_98 : decode cX10_isBetter 98 = .ok (.iinc 5 1, 3) := by decide +kernel
theorem dX10_isBetter_101 : decode cX10_isBetter 101 = .ok (.goto (-95), 3) := by decide +kernel
theorem dX10_isBetter_104 : decode cX10_isBetter 104 = .ok (.iload 4, 2) := by decide +kernel
theorem dX10_isBetter_106 : decode cX10_isBetter 106 = .ok (.ireturn, 1) := by decide +kernel
theorem dX10_last_0 : decode cX10_last 0 = .ok (.iconst 0, 1) := by decide +kernel
theorem dX10_last_1 : decode cX10_last 1 = .ok (.istore_n 1, 1) := by decide +kernel
theorem dX10_last_2 : decode cX10_last 2 = .ok (.iconst 0, 1) := by decide +kernel
theorem dX10_last_3 : decode cX10_last 3 = .ok (.istore_n 2, 1) := by decide +kernel
theorem dX10_last_4 : decode cX10_last 4 = .ok (.iload_n 2, 1) := by decide +kernel
theorem dX10_last_5 : decode cX10_last 5 = .ok (.aload_n 0, 1) := by decide +kernel
theorem dX10_last_6 : decode cX10_last 6 = .ok (.getfield 97, 3) := by decide +kernel
theorem dX10_last_9 : decode cX10_last 9 = .ok (.if_icmp .ge 21, 3) := by decide +kernel
theorem dX10_last_12 : decode cX10_last 12 = .ok (.bipush 10, 2) := by decide +kernel
theorem dX10_last_14 : decode cX10_last 14 = .ok (.iload_n 1, 1) := by decide +kernel
theorem dX10_last_15 : decode cX10_last 15 = .ok (.imul, 1) := by decide +kernel
theorem dX10_last_16 : decode cX10_last 16 = .ok (.aload_n 0, 1) := by decide +kernel
theorem dX10_last_17 : decode cX10_last 17 = .ok (.getfield 97, 3) := by decide +kernel
theorem dX10_last_20 : decode cX10_last 20 = .ok (.iadd, 1) := by decide +kernel
theorem dX10_last_21 : decode cX10_last 21 = .ok (.iconst 1, 1) := by decide +kernel
theorem dX10_last_22 : decode cX10_last 22 = .ok (.isub, 1) := by decide +kernel
theorem dX10_last_23 : decode cX10_last 23 = .ok (.istore_n 1, 1) := by decide +kernel
theorem dX10_last_24 : decode cX10_last 24 = .ok (.iinc 2 1, 3) := by decide +kernel
theorem dX10_last_27 : decode cX10_last 27 = .ok (.goto (-23), 3) := by decide +kernel
theorem dX10_last_30 : decode cX10_last 30 = .ok (.iload_n 1, 1) := by decide +kernel
theorem dX10_last_31 : decode cX10_last 31 = .ok (.ireturn, 1) := by decide +kernel
theorem dX10_isBeaten_0 : decode cX10_isBeaten 0 = .ok (.iconst 0, 1) := by decide +kernel
theorem dX10_isBeaten_1 : decode cX10_isBeaten 1 = .ok (.istore_n 3, 1) := by decide +kernel
theorem dX10_isBeaten_2 : decode cX10_isBeaten 2 = .ok (.iload_n 3, 1) := by decide +kernel
theorem dX10_isBeaten_3 : decode cX10_isBeaten 3 = .ok (.aload_n 0, 1) := by decide +kernel
theorem dX10_isBeaten_4 : decode cX10_isBeaten 4 = .ok (.invokevirtual 213, 3) := by decide +kernel
theorem dX10_isBeaten_7 : decode cX10_isBeaten 7 = .ok (.if_icmp .gt 36, 3) := by decide +kernel
theorem dX10_isBeaten_10 : decode cX10_isBeaten 10 = .ok (.aload_n 0, 1) := by decide +kernel
theorem dX10_isBeaten_11 : decode cX10_isBeaten 11 = .ok (.iload_n 3, 1) := by decide +kernel
theorem dX10_isBeaten_12 : decode cX10_isBeaten 12 = .ok (.aload_n 0, 1) := by decide +kernel
theorem dX10_isBeaten_13 : decode cX10_isBeaten 13 = .ok (.getfield 57, 3) := by decide +kernel
theorem dX10_isBeaten_16 : decode cX10_isBeaten 16 = .ok (.invokevirtual 193, 3) := by decide +kernel
theorem dX10_isBeaten_19 : decode cX10_isBeaten 19 = .ok (.ifCond .eq 18, 3) := by decide +kernel
theorem dX10_isBeaten_22 : decode cX10_isBeaten 22 = .ok (.aload_n 0, 1) := by decide +kernel
theorem dX10_isBeaten_23 : decode cX10_isBeaten 23 = .ok (.iload_n 1, 1) := by decide +kernel
theorem dX10_isBeaten_24 : decode cX10_isBeaten 24 = .ok (.aload_n 2, 1) := by decide +kernel
theorem dX10_isBeaten_25 : decode cX10_isBeaten 25 = .ok (.aload_n 0, 1) := by decide +kernel
theorem dX10_isBeaten_26 : decode cX10_isBeaten 26 = .ok (.getfield 57, 3) := by decide +kernel
theorem dX10_isBeaten_29 : decode cX10_isBeaten 29 = .ok (.invokevirtual 216, 3) := by decide +kernel
theorem dX10_isBeaten_32 : decode cX10_isBeaten 32 = .ok (.ifCond .eq 5, 3) := by decide +kernel
theorem dX10_isBeaten_35 : decode cX10_isBeaten 35 = .ok (.iconst 1, 1) := by decide +kernel
theorem dX10_isBeaten_36 : decode cX10_isBeaten 36 = .ok (.ireturn, 1) := by decide +kernel
theorem dX10_isBeaten_37 : decode cX10_isBeaten 37 = .ok (.iinc 3 1, 3) := by decide +kernel
theorem dX10_isBeaten_40 : decode cX10_isBeaten 40 = .ok (.goto (-38), 3) := by decide +kernel
theorem dX10_isBeaten_43 : decode cX10_isBeaten 43 = .ok (.iconst 0, 1) := by decide +kernel
theorem dX10_isBeaten_44 : decode cX10_isBeaten 44 = .ok (.ireturn, 1) := by decide +kernel
theorem dX10_blocking_0 : decode cX10_blocking 0 = .ok (.iconst 1, 1) := by decide +kernel
theorem dX10_blocking_1 : decode cX10_blocking 1 = .ok (.istore_n 2, 1) := by decide +kernel
theorem dX10_blocking_2 : decode cX10_blocking 2 = .ok (.iload_n 2, 1) := by decide +kernel
theorem dX10_blocking_3 : decode cX10_blocking 3 = .ok (.iconst 1, 1) := by decide +kernel
theorem dX10_blocking_4 : decode cX10_blocking 4 = .ok (.aload_n 0, 1) := by decide +kernel
theorem dX10_blocking_5 : decode cX10_blocking 5 = .ok (.getfield 97, 3) := by decide +kernel
theorem dX10_blocking_8 : decode cX10_blocking 8 = .ok (.ishl, 1) := by decide +kernel
theorem dX10_blocking_9 : decode cX10_blocking 9 = .ok (.if_icmp .ge 20, 3) := by decide +kernel
theorem dX10_blocking_12 : decode cX10_blocking 12 = .ok (.aload_n 0, 1) := by decide +kernel
theorem dX10_blocking_13 : decode cX10_blocking 13 = .ok (.iload_n 2, 1) := by decide +kernel
theorem dX10_blocking_14 : decode cX10_blocking 14 = .ok (.aload_n 1, 1) := by decide +kernel
theorem dX10_blocking_15 : decode cX10_blocking 15 = .ok (.invokevirtual 220, 3) := by decide +kernel
theorem dX10_blocking_18 : decode cX10_blocking 18 = .ok (.ifCond .eq 5, 3) := by decide +kernel
theorem dX10_blocking_21 : decode cX10_blocking 21 = .ok (.iload_n 2, 1) := by decide +kernel
theorem dX10_blocking_22 : decode cX10_blocking 22 = .ok (.ireturn, 1) := by decide +kernel
theorem dX10_blocking_23 : decode cX10_blocking 23 = .ok (.iinc 2 1, 3) := by decide +kernel
theorem dX10_blocking_26 : decode cX10_blocking 26 = .ok (.goto (-24), 3) := by decide +kernel
theorem dX10_blocking_29 : decode cX10_blocking 29 = .ok (.bipush (-2), 2) := by decide +kernel
theorem dX10_blocking_31 : decode cX10_blocking 31 = .ok (.ireturn, 1) := by decide +kernel
theorem dX10_blocks_0 : decode cX10_blocks 0 = .ok (.aload_n 0, 1) := by decide +kernel
theorem dX10_blocks_1 : decode cX10_blocks 1 = .ok (.iload_n 1, 1) := by decide +kernel
theorem dX10_blocks_2 : decode cX10_blocks 2 = .ok (.aload_n 0, 1) := by decide +kernel
theorem dX10_blocks_3 : decode cX10_blocks 3 = .ok (.getfield 66, 3) := by decide +kernel
theorem dX10_blocks_6 : decode cX10_blocks 6 = .ok (.invokevirtual 193, 3) := by decide +kernel
theorem dX10_blocks_9 : decode cX10_blocks 9 = .ok (.ifCond .eq 14, 3) := by decide +kernel
theorem dX10_blocks_12 : decode cX10_blocks 12 = .ok (.aload_n 0, 1) := by decide +kernel
theorem dX10_blocks_13 : decode cX10_blocks 13 = .ok (.aload_n 0, 1) := by decide +kernel
theorem dX10_blocks_14 : decode cX10_blocks 14 = .ok (.getfield 66, 3) := by decide +kernel
theorem dX10_blocks_17 : decode cX10_blocks 17 = .ok (.invokevirtual 223, 3) := by decide +kernel
theorem dX10_blocks_20 : decode cX10_blocks 20 = .ok (.goto 4, 3) := by decide +kernel
theorem dX10_blocks_23 : decode cX10_blocks 23 = .ok (.iconst (-1), 1) := by decide +kernel
theorem dX10_blocks_24 : decode cX10_blocks 24 = .ok (.ireturn, 1) := by decide +kernel
theorem dX10_core_0 : decode cX10_core 0 = .ok (.iload_n 1, 1) := by decide +kernel
theorem dX10_core_1 : decode cX10_core 1 = .ok (.ifCond .ge 5, 3) := by decide +kernel
theorem dX10_core_4 : decode cX10_core 4 = .ok (.iconst (-1), 1) := by decide +kernel
theorem dX10_core_5 : decode cX10_core 5 = .ok (.ireturn, 1) := by decide +kernel
theorem dX10_core_6 : decode cX10_core 6 = .ok (.iload_n 1, 1) := by decide +kernel
theorem dX10_core_7 : decode cX10_core 7 = .ok (.istore_n 2, 1) := by decide +kernel
theorem dX10_core_8 : decode cX10_core 8 = .ok (.iconst 0, 1) := by decide +kernel
theorem dX10_core_9 : decode cX10_core 9 = .ok (.istore_n 3, 1) := by decide +kernel
theorem dX10_core_10 : decode cX10_core 10 = .ok (.iload_n 3, 1) := by decide +kernel
theorem dX10_core_11 : decode cX10_core 11 = .ok (.aload_n 0, 1) := by decide +kernel
theorem dX10_core_12 : decode cX10_core 12 = .ok (.invokevirtual 213, 3) := by decide +kernel
theorem dX10_core_15 : decode cX10_core 15 = .ok (.if_icmp .gt 46, 3) := by decide +kernel
theorem dX10_core_18 : decode cX10_core 18 = .ok (.aload_n 0, 1) := by decide +kernel
theorem dX10_core_19 : decode cX10_core 19 = .ok (.iload_n 3, 1) := by decide +kernel
theorem dX10_core_20 : decode cX10_core 20 = .ok (.aload_n 0, 1) := by decide +kernel
theorem dX10_core_21 : decode cX10_core 21 = .ok (.getfield 66, 3) := by decide +kernel
theorem dX10_core_24 : decode cX10_core 24 = .ok (.invokevirtual 193, 3) := by decide +kernel
theorem dX10_core_27 : decode cX10_core 27 = .ok (.ifCond .eq 28, 3) := by decide +kernel
theorem dX10_core_30 : decode cX10_core 30 = .ok (.aload_n 0, 1) := by decide +kernel
theorem dX10_core_31 : decode cX10_core 31 = .ok (.aload_n 0, 1) := by decide +kernel
theorem dX10_core_32 : decode cX10_core 32 = .ok (.getfield 66, 3) := by decide +kernel
theorem dX10_core_35 : decode cX10_core 35 = .ok (.invokevirtual 223, 3) := by decide +kernel
theorem dX10_core_38 : decode cX10_core 38 = .ok (.bipush (-2), 2) := by decide +kernel
theorem dX10_core_40 : decode cX10_core 40 = .ok (.if_icmp .eq 6, 3) := by decide +kernel
theorem dX10_core_43 : decode cX10_core 43 = .ok (.goto 12, 3) := by decide +kernel
theorem dX10_core_46 : decode cX10_core 46 = .ok (.iload_n 2, 1) := by decide +kernel
theorem dX10_core_47 : decode cX10_core 47 = .ok (.ifCond .ne 5, 3) := by decide +kernel
theorem dX10_core_50 : decode cX10_core 50 = .ok (.iload_n 3, 1) := by decide +kernel
theorem dX10_core_51 : decode cX10_core 51 = .ok (.ireturn, 1) := by decide +kernel
theorem dX10_core_52 : decode cX10_core 52 = .ok (.iinc 2 (-1), 3) := by decide +kernel
theorem dX10_core_55 : decode cX10_core 55 = .ok (.iinc 3 1, 3) := by decide +kernel
theorem dX10_core_58 : decode cX10_core 58 = .ok (.goto (-48), 3) := by decide +kernel
theorem dX10_core_61 : decode cX10_core 61 = .ok (.bipush (-2), 2) := by decide +kernel
theorem dX10_core_63 : decode cX10_core 63 = .ok (.ireturn, 1) := by decide +kernel
theorem dX10_good_0 : decode cX10_good 0 = .ok (.aload_n 0, 1) := by decide +kernel
theorem dX10_good_1 : decode cX10_good 1 = .ok (.iload_n 1, 1) := by decide +kernel
theorem dX10_good_2 : decode cX10_good 2 = .ok (.aload_n 0, 1) := by decide +kernel
theorem dX10_good_3 : decode cX10_good 3 = .ok (.getfield 66, 3) := by decide +kernel
theorem dX10_good_6 : decode cX10_good 6 = .ok (.invokevirtual 193, 3) := by decide +kernel
theorem dX10_good_9 : decode cX10_good 9 = .ok (.ifCond .eq 30, 3) := by decide +kernel
theorem dX10_good_12 : decode cX10_good 12 = .ok (.aload_n 0, 1) := by decide +kernel
theorem dX10_good_13 : decode cX10_good 13 = .ok (.iconst 1, 1) := by decide +kernel
theorem dX10_good_14 : decode cX10_good 14 = .ok (.aload_n 0, 1) := by decide +kernel
theorem dX10_good_15 : decode cX10_good 15 = .ok (.getfield 97, 3) := by decide +kernel
theorem dX10_good_18 : decode cX10_good 18 = .ok (.ishl, 1) := by decide +kernel
theorem dX10_good_19 : decode cX10_good 19 = .ok (.iconst 1, 1) := by decide +kernel
theorem dX10_good_20 : decode cX10_good 20 = .ok (.isub, 1) := by decide +kernel
theorem dX10_good_21 : decode cX10_good 21 = .ok (.aload_n 0, 1) := by decide +kernel
theorem dX10_good_22 : decode cX10_good 22 = .ok (.getfield 66, 3) := by decide +kernel
theorem dX10_good_25 : decode cX10_good 25 = .ok (.invokevirtual 220, 3) := by decide +kernel
theorem dX10_good_28 : decode cX10_good 28 = .ok (.ifCond .eq 7, 3) := by decide +kernel
theorem dX10_good_31 : decode cX10_good 31 = .ok (.iconst 0, 1) := by decide +kernel
theorem dX10_good_32 : decode cX10_good 32 = .ok (.goto 8, 3) := by decide +kernel
theorem dX10_good_35 : decode cX10_good 35 = .ok (.iconst 1, 1) := by decide +kernel
theorem dX10_good_36 : decode cX10_good 36 = .ok (.goto 4, 3) := by decide +kernel
theorem dX10_good_39 : decode cX10_good 39 = .ok (.iconst (-1), 1) := by decide +kernel
theorem dX10_good_40 : decode cX10_good 40 = .ok (.ireturn, 1) := by decide +kernel
theorem dX10_by_0 : decode cX10_by 0 = .ok (.aload_n 0, 1) := by decide +kernel
theorem dX10_by_1 : decode cX10_by 1 = .ok (.iload_n 1, 1) := by decide +kernel
theorem dX10_by_2 : decode cX10_by 2 = .ok (.aload_n 0, 1) := by decide +kernel
theorem dX10_by_3 : decode cX10_by 3 = .ok (.getfield 66, 3) := by decide +kernel
theorem dX10_by_6 : decode cX10_by 6 = .ok (.invokevirtual 193, 3) := by decide +kernel
theorem dX10_by_9 : decode cX10_by 9 = .ok (.ifCond .ne 5, 3) := by decide +kernel
theorem dX10_by_12 : decode cX10_by 12 = .ok (.iconst (-1), 1) := by decide +kernel
theorem dX10_by_13 : decode cX10_by 13 = .ok (.ireturn, 1) := by decide +kernel
theorem dX10_by_14 : decode cX10_by 14 = .ok (.iconst 0, 1) := by decide +kernel
theorem dX10_by_15 : decode cX10_by 15 = .ok (.istore_n 2, 1) := by decide +kernel
theorem dX10_by_16 : decode cX10_by 16 = .ok (.iload_n 2, 1) := by decide +kernel
theorem dX10_by_17 : decode cX10_by 17 = .ok (.aload_n 0, 1) := by decide +kernel
theorem dX10_by_18 : decode cX10_by 18 = .ok (.invokevirtual 213, 3) := by decide +kernel
theorem dX10_by_21 : decode cX10_by 21 = .ok (.if_icmp .gt 42, 3) := by decide +kernel
theorem dX10_by_24 : decode cX10_by 24 = .ok (.aload_n 0, 1) := by decide +kernel
theorem dX10_by_25 : decode cX10_by 25 = .ok (.iload_n 2, 1) := by decide +kernel
theorem dX10_by_26 : decode cX10_by 26 = .ok (.aload_n 0, 1) := by decide +kernel
theorem dX10_by_27 : decode cX10_by 27 = .ok (.getfield 63, 3) := by decide +kernel
theorem dX10_by_30 : decode cX10_by 30 = .ok (.invokevirtual 193, 3) := by decide +kernel
theorem dX10_by_33 : decode cX10_by 33 = .ok (.ifCond .ne 6, 3) := by decide +kernel
theorem dX10_by_36 : decode cX10_by 36 = .ok (.goto 21, 3) := by decide +kernel
theorem dX10_by_39 : decode cX10_by 39 = .ok (.aload_n 0, 1) := by decide +kernel
theorem dX10_by_40 : decode cX10_by 40 = .ok (.invokevirtual 207, 3) := by decide +kernel
theorem dX10_by_43 : decode cX10_by 43 = .ok (.aload_n 0, 1) := by decide +kernel
theorem dX10_by_44 : decode cX10_by 44 = .ok (.aload_n 0, 1) := by decide +kernel
theorem dX10_by_45 : decode cX10_by 45 = .ok (.getfield 54, 3) := by decide +kernel
theorem dX10_by_48 : decode cX10_by 48 = .ok (.invokevirtual 203, 3) := by decide +kernel
theorem dX10_by_51 : decode cX10_by 51 = .ok (.iload_n 1, 1) := by decide +kernel
theorem dX10_by_52 : decode cX10_by 52 = .ok (.if_icmp .ne 5, 3) := by decide +kernel
theorem dX10_by_55 : decode cX10_by 55 = .ok (.iload_n 2, 1) := by decide +kernel
theorem dX10_by_56 : decode cX10_by 56 = .ok (.ireturn, 1) := by decide +kernel
theorem dX10_by_57 : decode cX10_by 57 = .ok (.iinc 2 1, 3) := by decide +kernel
theorem dX10_by_60 : decode cX10_by 60 = .ok (.goto (-44), 3) := by decide +kernel
theorem dX10_by_63 : decode cX10_by 63 = .ok (.bipush (-2), 2) := by decide +kernel
theorem dX10_by_65 : decode cX10_by 65 = .ok (.ireturn, 1) := by decide +kernel
theorem dX10_wrong_0 : decode cX10_wrong 0 = .ok (.iload_n 1, 1) := by decide +kernel
theorem dX10_wrong_1 : decode cX10_wrong 1 = .ok (.aload_n 0, 1) := by decide +kernel
theorem dX10_wrong_2 : decode cX10_wrong 2 = .ok (.getfield 97, 3) := by decide +kernel
theorem dX10_wrong_5 : decode cX10_wrong 5 = .ok (.invokestatic 119, 3) := by decide +kernel
theorem dX10_wrong_8 : decode cX10_wrong 8 = .ok (.ifCond .ne 5, 3) := by decide +kernel
theorem dX10_wrong_11 : decode cX10_wrong 11 = .ok (.iconst (-1), 1) := by decide +kernel
theorem dX10_wrong_12 : decode cX10_wrong 12 = .ok (.ireturn, 1) := by decide +kernel
theorem dX10_wrong_13 : decode cX10_wrong 13 = .ok (.aload_n 0, 1) := by decide +kernel
theorem dX10_wrong_14 : decode cX10_wrong 14 = .ok (.invokevirtual 200, 3) := by decide +kernel
theorem dX10_wrong_17 : decode cX10_wrong 17 = .ok (.aload_n 0, 1) := by decide +kernel
theorem dX10_wrong_18 : decode cX10_wrong 18 = .ok (.iload_n 1, 1) := by decide +kernel
theorem dX10_wrong_19 : decode cX10_wrong 19 = .ok (.aload_n 0, 1) := by decide +kernel
theorem dX10_wrong_20 : decode cX10_wrong 20 = .ok (.getfield 54, 3) := by decide +kernel
theorem dX10_wrong_23 : decode cX10_wrong 23 = .ok (.iload_n 1, 1) := by decide +kernel
theorem dX10_wrong_24 : decode cX10_wrong 24 = .ok (.iaload, 1) := by decide +kernel
theorem dX10_wrong_25 : decode cX10_wrong 25 = .ok (.invokevirtual 210, 3) := by decide +kernel
theorem dX10_wrong_28 : decode cX10_wrong 28 = .ok (.istore_n 2, 1) := by decide +kernel
theorem dX10_wrong_29 : decode cX10_wrong 29 = .ok (.iconst 0, 1) := by decide +kernel
theorem dX10_wrong_30 : decode cX10_wrong 30 = .ok (.istore_n 3, 1) := by decide +kernel
theorem dX10_wrong_31 : decode cX10_wrong 31 = .ok (.iconst 0, 1) := by decide +kernel
theorem dX10_wrong_32 : decode cX10_wrong 32 = .ok (.istore 4, 2) := by decide +kernel
theorem dX10_wrong_34 : decode cX10_wrong 34 = .ok (.iload 4, 2) := by decide +kernel
theorem dX10_wrong_36 : decode cX10_wrong 36 = .ok (.aload_n 0, 1) := by decide +kernel
theorem dX10_wrong_37 : decode cX10_wrong 37 = .ok (.getfield 97, 3) := by decide +kernel
theorem dX10_wrong_40 : decode cX10_wrong 40 = .ok (.if_icmp .ge 40, 3) := by decide +kernel
theorem dX10_wrong_43 : decode cX10_wrong 43 = .ok (.aload_n 0, 1) := by decide +kernel
theorem dX10_wrong_44 : decode cX10_wrong 44 = .ok (.getfield 66, 3) := by decide +kernel
theorem dX10_wrong_47 : decode cX10_wrong 47 = .ok (.iload 4, 2) := by decide +kernel
theorem dX10_wrong_49 : decode cX10_wrong 49 = .ok (.aload_n 0, 1) := by decide +kernel
theorem dX10_wrong_50 : decode cX10_wrong 50 = .ok (.getfield 51, 3) := by decide +kernel
theorem dX10_wrong_53 : decode cX10_wrong 53 = .ok (.iconst 4, 1) := by decide +kernel
theorem dX10_wrong_54 : decode cX10_wrong 54 = .ok (.iload_n 1, 1) := by decide +kernel
theorem dX10_wrong_55 : decode cX10_wrong 55 = .ok (.imul, 1) := by decide +kernel
theorem dX10_wrong_56 : decode cX10_wrong 56 = .ok (.iload 4, 2) := by decide +kernel
theorem dX10_wrong_58 : decode cX10_wrong 58 = .ok (.iadd, 1) := by decide +kernel
theorem dX10_wrong_59 : decode cX10_wrong 59 = .ok (.iaload, 1) := by decide +kernel
theorem dX10_wrong_60 : decode cX10_wrong 60 = .ok (.iastore, 1) := by decide +kernel
theorem dX10_wrong_61 : decode cX10_wrong 61 = .ok (.bipush 10, 2) := by decide +kernel
theorem dX10_wrong_63 : decode cX10_wrong 63 = .ok (.iload_n 3, 1) := by decide +kernel
theorem dX10_wrong_64 : decode cX10_wrong 64 = .ok (.imul, 1) := by decide +kernel
theorem dX10_wrong_65 : decode cX10_wrong 65 = .ok (.aload_n 0, 1) := by decide +kernel
theorem dX10_wrong_66 : decode cX10_wrong 66 = .ok (.getfield 66, 3) := by decide +kernel
theorem dX10_wrong_69 : decode cX10_wrong 69 = .ok (.iload 4, 2) := by decide +kernel
theorem dX10_wrong_71 : decode cX10_wrong 71 = .ok (.iaload, 1) := by decide +kernel
theorem dX10_wrong_72 : decode cX10_wrong 72 = .ok (.iadd, 1) := by decide +kernel
theorem dX10_wrong_73 : decode cX10_wrong 73 = .ok (.istore_n 3, 1) := by decide +kernel
theorem dX10_wrong_74 : decode cX10_wrong 74 = .ok (.iinc 4 1, 3) := by decide +kernel
theorem dX10_wrong_77 : decode cX10_wrong 77 = .ok (.goto (-43), 3) := by decide +kernel
theorem dX10_wrong_80 : decode cX10_wrong 80 = .ok (.bipush (-2), 2) := by decide +kernel
theorem dX10_wrong_82 : decode cX10_wrong 82 = .ok (.istore 4, 2) := by decide +kernel
theorem dX10_wrong_84 : decode cX10_wrong 84 = .ok (.iconst 0, 1) := by decide +kernel
theorem dX10_wrong_85 : decode cX10_wrong 85 = .ok (.istore 5, 2) := by decide +kernel
theorem dX10_wrong_87 : decode cX10_wrong 87 = .ok (.iload 5, 2) := by decide +kernel
theorem dX10_wrong_89 : decode cX10_wrong 89 = .ok (.aload_n 0, 1) := by decide +kernel
theorem dX10_wrong_90 : decode cX10_wrong 90 = .ok (.invokevirtual 213, 3) := by decide +kernel
theorem dX10_wrong_93 : decode cX10_wrong 93 = .ok (.if_icmp .gt 131, 3) := by decide +kernel
theorem dX10_wrong_96 : decode cX10_wrong 96 = .ok (.iload 4, 2) := by decide +kernel
theorem dX10_wrong_98 : decode cX10_wrong 98 = .ok (.bipush (-2), 2) := by decide +kernel
theorem dX10_wrong_100 : decode cX10_wrong 100 = .ok (.if_icmp .ne 124, 3) := by decide +kernel
theorem dX10_wrong_103 : decode cX10_wrong 103 = .ok (.aload_n 0, 1) := by decide +kernel
theorem dX10_wrong_104 : decode cX10_wrong 104 = .ok (.iload 5, 2) := by decide +kernel
theorem dX10_wrong_106 : decode cX10_wrong 106 = .ok (.aload_n 0, 1) := by decide +kernel
theorem dX10_wrong_107 : decode cX10_wrong 107 = .ok (.getfield 57, 3) := by decide +kernel
theorem dX10_wrong_110 : decode cX10_wrong 110 = .ok (.invokevirtual 193, 3) := by decide +kernel
theorem dX10_wrong_113 : decode cX10_wrong 113 = .ok (.ifCond .ne 6, 3) := by decide +kernel
theorem dX10_wrong_116 : decode cX10_wrong 116 = .ok (.goto 102, 3) := by decide +kernel
theorem dX10_wrong_119 : decode cX10_wrong 119 = .ok (.iconst 0, 1) := by decide +kernel
theorem dX10_wrong_120 : decode cX10_wrong 120 = .ok (.istore 6, 2) := by decide +kernel
theorem dX10_wrong_122 : decode cX10_wrong 122 = .ok (.iload 6, 2) := by decide +kernel
theorem dX10_wrong_124 : decode cX10_wrong 124 = .ok (.aload_n 0, 1) := by decide +kernel
theorem dX10_wrong_125 : decode cX10_wrong 125 = .ok (.getfield 97, 3) := by decide +kernel
theorem dX10_wrong_128 : decode cX10_wrong 128 = .ok (.if_icmp .ge 27, 3) := by decide +kernel
theorem dX10_wrong_131 : decode cX10_wrong 131 = .ok (.aload_n 0, 1) := by decide +kernel
theorem dX10_wrong_132 : decode cX10_wrong 132 = .ok (.getfield 51, 3) := by decide +kernel
theorem dX10_wrong_135 : decode cX10_wrong 135 = .ok (.iconst 4, 1) := by decide +kernel
theorem dX10_wrong_136 : decode cX10_wrong 136 = .ok (.iload_n 1, 1) := by decide +kernel
theorem dX10_wrong_137 : decode cX10_wrong 137 = .ok (.imul, 1) := by decide +kernel
theorem dX10_wrong_138 : decode cX10_wrong 138 = .ok (.iload 6, 2) := by decide +kernel
theorem dX10_wrong_140 : decode cX10_wrong 140 = .ok (.iadd, 1) := by decide +kernel
theorem dX10_wrong_141 : decode cX10_wrong 141 = .ok (.aload_n 0, 1) := by decide +kernel
theorem dX10_wrong_142 : decode cX10_wrong 142 = .ok (.getfield 57, 3) := by decide +kernel
theorem dX10_wrong_145 : decode cX10_wrong 145 = .ok (.iload 6, 2) := by decide +kernel
theorem dX10_wrong_147 : decode cX10_wrong 147 = .ok (.iaload, 1) := by decide +kernel
theorem dX10_wrong_148 : decode cX10_wrong 148 = .ok (.iastore, 1) := by decide +kernel
theorem dX10_wrong_149 : decode cX10_wrong 149 = .ok (.iinc 6 1, 3) := by decide +kernel
theorem dX10_wrong_152 : decode cX10_wrong 152 = .ok (.goto (-30), 3) := by decide +kernel
theorem dX10_wrong_155 : decode cX10_wrong 155 = .ok (.aload_n 0, 1) := by decide +kernel
theorem dX10_wrong_156 : decode cX10_wrong 156 = .ok (.invokevirtual 200, 3) := by decide +kernel
theorem dX10_wrong_159 : decode cX10_wrong 159 = .ok (.aload_n 0, 1) := by decide +kernel
theorem dX10_wrong_160 : decode cX10_wrong 160 = .ok (.getfield 54, 3) := by decide +kernel
theorem dX10_wrong_163 : decode cX10_wrong 163 = .ok (.iload_n 1, 1) := by decide +kernel
theorem dX10_wrong_164 : decode cX10_wrong 164 = .ok (.iaload, 1) := by decide +kernel
theorem dX10_wrong_165 : decode cX10_wrong 165 = .ok (.istore 6, 2) := by decide +kernel
theorem dX10_wrong_167 : decode cX10_wrong 167 = .ok (.iconst 0, 1) := by decide +kernel
theorem dX10_wrong_168 : decode cX10_wrong 168 = .ok (.istore 7, 2) := by decide +kernel
theorem dX10_wrong_170 : decode cX10_wrong 170 = .ok (.iload 7, 2) := by decide +kernel
theorem dX10_wrong_172 : decode cX10_wrong 172 = .ok (.aload_n 0, 1) := by decide +kernel
theorem dX10_wrong_173 : decode cX10_wrong 173 = .ok (.getfield 97, 3) := by decide +kernel
theorem dX10_wrong_176 : decode cX10_wrong 176 = .ok (.if_icmp .ge 27, 3) := by decide +kernel
theorem dX10_wrong_179 : decode cX10_wrong 179 = .ok (.aload_n 0, 1) := by decide +kernel
theorem dX10_wrong_180 : decode cX10_wrong 180 = .ok (.getfield 51, 3) := by decide +kernel
theorem dX10_wrong_183 : decode cX10_wrong 183 = .ok (.iconst 4, 1) := by decide +kernel
theorem dX10_wrong_184 : decode cX10_wrong 184 = .ok (.iload_n 1, 1) := by decide +kernel
theorem dX10_wrong_185 : decode cX10_wrong 185 = .ok (.imul, 1) := by decide +kernel
theorem dX10_wrong_186 : decode cX10_wrong 186 = .ok (.iload 7, 2) := by decide +kernel
theorem dX10_wrong_188 : decode cX10_wrong 188 = .ok (.iadd, 1) := by decide +kernel
theorem dX10_wrong_189 : decode cX10_wrong 189 = .ok (.aload_n 0, 1) := by decide +kernel
theorem dX10_wrong_190 : decode cX10_wrong 190 = .ok (.getfield 66, 3) := by decide +kernel
theorem dX10_wrong_193 : decode cX10_wrong 193 = .ok (.iload 7, 2) := by decide +kernel
theorem dX10_wrong_195 : decode cX10_wrong 195 = .ok (.iaload, 1) := by decide +kernel
theorem dX10_wrong_196 : decode cX10_wrong 196 = .ok (.iastore, 1) := by decide +kernel
theorem dX10_wrong_197 : decode cX10_wrong 197 = .ok (.iinc 7 1, 3) := by decide +kernel
theorem dX10_wrong_200 : decode cX10_wrong 200 = .ok (.goto (-30), 3) := by decide +kernel
theorem dX10_wrong_203 : decode cX10_wrong 203 = .ok (.aload_n 0, 1) := by decide +kernel
theorem dX10_wrong_204 : decode cX10_wrong 204 = .ok (.iload_n 1, 1) := by decide +kernel
theorem dX10_wrong_205 : decode cX10_wrong 205 = .ok (.iload 6, 2) := by decide +kernel
theorem dX10_wrong_207 : decode cX10_wrong 207 = .ok (.invokevirtual 210, 3) := by decide +kernel
theorem dX10_wrong_210 : decode cX10_wrong 210 = .ok (.iload_n 2, 1) := by decide +kernel
theorem dX10_wrong_211 : decode cX10_wrong 211 = .ok (.if_icmp .ge 7, 3) := by decide +kernel
theorem dX10_wrong_214 : decode cX10_wrong 214 = .ok (.iload 5, 2) := by decide +kernel
theorem dX10_wrong_216 : decode cX10_wrong 216 = .ok (.istore 4, 2) := by decide +kernel
theorem dX10_wrong_218 : decode cX10_wrong 218 = .ok (.iinc 5 1, 3) := by decide +kernel
theorem dX10_wrong_221 : decode cX10_wrong 221 = .ok (.goto (-134), 3) := by decide +kernel
theorem dX10_wrong_224 : decode cX10_wrong 224 = .ok (.iload 4, 2) := by decide +kernel
theorem dX10_wrong_226 : decode cX10_wrong 226 = .ok (.ireturn, 1) := by decide +kernel
theorem dX10_count_0 : decode cX10_count 0 = .ok (.iconst 0, 1) := by decide +kernel
theorem dX10_count_1 : decode cX10_count 1 = .ok (.istore_n 2, 1) := by decide +kernel
theorem dX10_count_2 : decode cX10_count 2 = .ok (.iload_n 1, 1) := by decide +kernel
theorem dX10_count_3 : decode cX10_count 3 = .ok (.tableswitch 164 0 6 #[41, 46, 51, 56, 61, 66, 66], 41) := by decide +kernel
theorem dX10_count_44 : decode cX10_count 44 = .ok (.aload_n 0, 1) := by decide +kernel
theorem dX10_count_45 : decode cX10_count 45 = .ok (.getfield 97, 3) := by decide +kernel
theorem dX10_count_48 : decode cX10_count 48 = .ok (.ireturn, 1) := by decide +kernel
theorem dX10_count_49 : decode cX10_count 49 = .ok (.aload_n 0, 1) := by decide +kernel
theorem dX10_count_50 : decode cX10_count 50 = .ok (.getfield 101, 3) := by decide +kernel
theorem dX10_count_53 : decode cX10_count 53 = .ok (.ireturn, 1) := by decide +kernel
theorem dX10_count_54 : decode cX10_count 54 = .ok (.aload_n 0, 1) := by decide +kernel
theorem dX10_count_55 : decode cX10_count 55 = .ok (.getfield 110, 3) := by decide +kernel
theorem dX10_count_58 : decode cX10_count 58 = .ok (.ireturn, 1) := by decide +kernel
theorem dX10_count_59 : decode cX10_count 59 = .ok (.aload_n 0, 1) := by decide +kernel
theorem dX10_count_60 : decode cX10_count 60 = .ok (.getfield 116, 3) := by decide +kernel
theorem dX10_count_63 : decode cX10_count 63 = .ok (.ireturn, 1) := by decide +kernel
theorem dX10_count_64 : decode cX10_count 64 = .ok (.aload_n 0, 1) := by decide +kernel
theorem dX10_count_65 : decode cX10_count 65 = .ok (.getfield 113, 3) := by decide +kernel
theorem dX10_count_68 : decode cX10_count 68 = .ok (.ireturn, 1) := by decide +kernel
theorem dX10_count_69 : decode cX10_count 69 = .ok (.iconst 0, 1) := by decide +kernel
theorem dX10_count_70 : decode cX10_count 70 = .ok (.istore_n 3, 1) := by decide +kernel
theorem dX10_count_71 : decode cX10_count 71 = .ok (.iload_n 3, 1) := by decide +kernel
theorem dX10_count_72 : decode cX10_count 72 = .ok (.aload_n 0, 1) := by decide +kernel
theorem dX10_count_73 : decode cX10_count 73 = .ok (.invokevirtual 213, 3) := by decide +kernel
theorem dX10_count_76 : decode cX10_count 76 = .ok (.if_icmp .gt 89, 3) := by decide +kernel
theorem dX10_count_79 : decode cX10_count 79 = .ok (.aload_n 0, 1) := by decide +kernel
theorem dX10_count_80 : decode cX10_count 80 = .ok (.iload_n 3, 1) := by decide +kernel
theorem dX10_count_81 : decode cX10_count 81 = .ok (.aload_n 0, 1) := by decide +kernel
theorem dX10_count_82 : decode cX10_count 82 = .ok (.getfield 66, 3) := by decide +kernel
theorem dX10_count_85 : decode cX10_count 85 = .ok (.invokevirtual 193, 3) := by decide +kernel
theorem dX10_count_88 : decode cX10_count 88 = .ok (.ifCond .ne 6, 3) := by decide +kernel
theorem dX10_count_91 : decode cX10_count 91 = .ok (.goto 68, 3) := by decide +kernel
theorem dX10_count_94 : decode cX10_count 94 = .ok (.iload_n 1, 1) := by decide +kernel
theorem dX10_count_95 : decode cX10_count 95 = .ok (.iconst 5, 1) := by decide +kernel
theorem dX10_count_96 : decode cX10_count 96 = .ok (.if_icmp .ne 30, 3) := by decide +kernel
theorem dX10_count_99 : decode cX10_count 99 = .ok (.aload_n 0, 1) := by decide +kernel
theorem dX10_count_100 : decode cX10_count 100 = .ok (.iconst 1, 1) := by decide +kernel
theorem dX10_count_101 : decode cX10_count 101 = .ok (.aload_n 0, 1) := by decide +kernel
theorem dX10_count_102 : decode cX10_count 102 = .ok (.getfield 97, 3) := by decide +kernel
theorem dX10_count_105 : decode cX10_count 105 = .ok (.ishl, 1) := by decide +kernel
theorem dX10_count_106 : decode cX10_count 106 = .ok (.iconst 1, 1) := by decide +kernel
theorem dX10_count_107 : decode cX10_count 107 = .ok (.isub, 1) := by decide +kernel
theorem dX10_count_108 : decode cX10_count 108 = .ok (.aload_n 0, 1) := by decide +kernel
theorem dX10_count_109 : decode cX10_count 109 = .ok (.getfield 66, 3) := by decide +kernel
theorem dX10_count_112 : decode cX10_count 112 = .ok (.invokevirtual 220, 3) := by decide +kernel
theorem dX10_count_115 : decode cX10_count 115 = .ok (.ifCond .ne 7, 3) := by decide +kernel
theorem dX10_count_118 : decode cX10_count 118 = .ok (.iconst 1, 1) := by decide +kernel
theorem dX10_count_119 : decode cX10_count 119 = .ok (.goto 25, 3) := by decide +kernel
theorem dX10_count_122 : decode cX10_count 122 = .ok (.iconst 0, 1) := by decide +kernel
theorem dX10_count_123 : decode cX10_count 123 = .ok (.goto 21, 3) := by decide +kernel
theorem dX10_count_126 : decode cX10_count 126 = .ok (.aload_n 0, 1) := by decide +kernel
theorem dX10_count_127 : decode cX10_count 127 = .ok (.aload_n 0, 1) := by decide +kernel
theorem dX10_count_128 : decode cX10_count 128 = .ok (.getfield 66, 3) := by decide +kernel
theorem dX10_count_131 : decode cX10_count 131 = .ok (.invokevirtual 223, 3) := by decide +kernel
theorem dX10_count_134 : decode cX10_count 134 = .ok (.bipush (-2), 2) := by decide +kernel
theorem dX10_count_136 : decode cX10_count 136 = .ok (.if_icmp .ne 7, 3) := by decide +kernel
theorem dX10_count_139 : decode cX10_count 139 = .ok (.iconst 1, 1) := by decide +kernel
theorem dX10_count_140 : decode cX10_count 140 = .ok (.goto 4, 3) := by decide +kernel
theorem dX10_count_143 : decode cX10_count 143 = .ok (.iconst 0, 1) := by decide +kernel
theorem dX10_count_144 : decode cX10_count 144 = .ok (.istore 4, 2) := by decide +kernel
theorem dX10_count_146 : decode cX10_count 146 = .ok (.iload_n 2, 1) := by decide +kernel
theorem dX10_count_147 : decode cX10_count 147 = .ok (.iload 4, 2) := by decide +kernel
theorem dX10_count_149 : decode cX10_count 149 = .ok (.ifCond .eq 7, 3) := by decide +kernel
theorem dX10_count_152 : decode cX10_count 152 = .ok (.iconst 1, 1) := by decide +kernel
theorem dX10_count_153 : decode cX10_count 153 = .ok (.goto 4, 3) := by decide +kernel
theorem dX10_count_156 : decode cX10_count 156 = .ok (.iconst 0, 1) := by decide +kernel
theorem dX10_count_157 : decode cX10_count 157 = .ok (.iadd, 1) := by decide +kernel
theorem dX10_count_158 : decode cX10_count 158 = .ok (.istore_n 2, 1) := by decide +kernel
theorem dX10_count_159 : decode cX10_count 159 = .ok (.iinc 3 1, 3) := by decide +kernel
theorem dX10_count_162 : decode cX10_count 162 = .ok (.goto (-91), 3) := by decide +kernel
theorem dX10_count_165 : decode cX10_count 165 = .ok (.iload_n 2, 1) := by decide +kernel
theorem dX10_count_166 : decode cX10_count 166 = .ok (.ireturn, 1) := by decide +kernel
theorem dX10_count_167 : decode cX10_count 167 = .ok (.iconst (-1), 1) := by decide +kernel
theorem dX10_count_168 : decode cX10_count 168 = .ok (.ireturn, 1) := by decide +kernel
theorem dX10_keep_0 : decode cX10_keep 0 = .ok (.iload_n 1, 1) := by decide +kernel
theorem dX10_keep_1 : decode cX10_keep 1 = .ok (.bipush 8, 2) := by decide +kernel
theorem dX10_keep_3 : decode cX10_keep 3 = .ok (.invokestatic 119, 3) := by decide +kernel
theorem dX10_keep_6 : decode cX10_keep 6 = .ok (.ifCond .eq 22, 3) := by decide +kernel
theorem dX10_keep_9 : decode cX10_keep 9 = .ok (.iload_n 2, 1) := by decide +kernel
theorem dX10_keep_10 : decode cX10_keep 10 = .ok (.ifCond .eq 20, 3) := by decide +kernel
theorem dX10_keep_13 : decode cX10_keep 13 = .ok (.iload_n 2, 1) := by decide +kernel
theorem dX10_keep_14 : decode cX10_keep 14 = .ok (.iconst 1, 1) := by decide +kernel
theorem dX10_keep_15 : decode cX10_keep 15 = .ok (.if_icmp .eq 15, 3) := by decide +kernel
theorem dX10_keep_18 : decode cX10_keep 18 = .ok (.iload_n 2, 1) := by decide +kernel
theorem dX10_keep_19 : decode cX10_keep 19 = .ok (.iconst 3, 1) := by decide +kernel
theorem dX10_keep_20 : decode cX10_keep 20 = .ok (.if_icmp .eq 10, 3) := by decide +kernel
theorem dX10_keep_23 : decode cX10_keep 23 = .ok (.iload_n 2, 1) := by decide +kernel
theorem dX10_keep_24 : decode cX10_keep 24 = .ok (.iconst 4, 1) := by decide +kernel
theorem dX10_keep_25 : decode cX10_keep 25 = .ok (.if_icmp .eq 5, 3) := by decide +kernel
theorem dX10_keep_28 : decode cX10_keep 28 = .ok (.iconst (-1), 1) := by decide +kernel
theorem dX10_keep_29 : decode cX10_keep 29 = .ok (.ireturn, 1) := by decide +kernel
theorem dX10_keep_30 : decode cX10_keep 30 = .ok (.iload_n 2, 1) := by decide +kernel
theorem dX10_keep_31 : decode cX10_keep 31 = .ok (.iconst 1, 1) := by decide +kernel
theorem dX10_keep_32 : decode cX10_keep 32 = .ok (.if_icmp .eq 8, 3) := by decide +kernel
theorem dX10_keep_35 : decode cX10_keep 35 = .ok (.iload_n 2, 1) := by decide +kernel
theorem dX10_keep_36 : decode cX10_keep 36 = .ok (.iconst 3, 1) := by decide +kernel
theorem dX10_keep_37 : decode cX10_keep 37 = .ok (.if_icmp .ne 14, 3) := by decide +kernel
theorem dX10_keep_40 : decode cX10_keep 40 = .ok (.iload_n 3, 1) := by decide +kernel
theorem dX10_keep_41 : decode cX10_keep 41 = .ok (.aload_n 0, 1) := by decide +kernel
theorem dX10_keep_42 : decode cX10_keep 42 = .ok (.getfield 116, 3) := by decide +kernel
theorem dX10_keep_45 : decode cX10_keep 45 = .ok (.invokestatic 119, 3) := by decide +kernel
theorem dX10_keep_48 : decode cX10_keep 48 = .ok (.ifCond .eq 19, 3) := by decide +kernel
theorem dX10_keep_51 : decode cX10_keep 51 = .ok (.iload_n 2, 1) := by decide +kernel
theorem dX10_keep_52 : decode cX10_keep 52 = .ok (.iconst 4, 1) := by decide +kernel
theorem dX10_keep_53 : decode cX10_keep 53 = .ok (.if_icmp .ne 16, 3) := by decide +kernel
theorem dX10_keep_56 : decode cX10_keep 56 = .ok (.iload_n 3, 1) := by decide +kernel
theorem dX10_keep_57 : decode cX10_keep 57 = .ok (.aload_n 0, 1) := by decide +kernel
theorem dX10_keep_58 : decode cX10_keep 58 = .ok (.getfield 110, 3) := by decide +kernel
theorem dX10_keep_61 : decode cX10_keep 61 = .ok (.invokestatic 119, 3) := by decide +kernel
theorem dX10_keep_64 : decode cX10_keep 64 = .ok (.ifCond .ne 5, 3) := by decide +kernel
theorem dX10_keep_67 : decode cX10_keep 67 = .ok (.iconst (-1), 1) := by decide +kernel
theorem dX10_keep_68 : decode cX10_keep 68 = .ok (.ireturn, 1) := by decide +kernel
theorem dX10_keep_69 : decode cX10_keep 69 = .ok (.aload_n 0, 1) := by decide +kernel
theorem dX10_keep_70 : decode cX10_keep 70 = .ok (.getfield 69, 3) := by decide +kernel
theorem dX10_keep_73 : decode cX10_keep 73 = .ok (.iload_n 1, 1) := by decide +kernel
theorem dX10_keep_74 : decode cX10_keep 74 = .ok (.iload_n 2, 1) := by decide +kernel
theorem dX10_keep_75 : decode cX10_keep 75 = .ok (.iastore, 1) := by decide +kernel
theorem dX10_keep_76 : decode cX10_keep 76 = .ok (.iload_n 2, 1) := by decide +kernel
theorem dX10_keep_77 : decode cX10_keep 77 = .ok (.iconst 1, 1) := by decide +kernel
theorem dX10_keep_78 : decode cX10_keep 78 = .ok (.if_icmp .ne 72, 3) := by decide +kernel
theorem dX10_keep_81 : decode cX10_keep 81 = .ok (.aload_n 0, 1) := by decide +kernel
theorem dX10_keep_82 : decode cX10_keep 82 = .ok (.getfield 75, 3) := by decide +kernel
theorem dX10_keep_85 : decode cX10_keep 85 = .ok (.iload_n 1, 1) := by decide +kernel
theorem dX10_keep_86 : decode cX10_keep 86 = .ok (.aload_n 0, 1) := by decide +kernel
theorem dX10_keep_87 : decode cX10_keep 87 = .ok (.getfield 16, 3) := by decide +kernel
theorem dX10_keep_90 : decode cX10_keep 90 = .ok (.iload_n 3, 1) := by decide +kernel
theorem dX10_keep_91 : decode cX10_keep 91 = .ok (.iaload, 1) := by decide +kernel
theorem dX10_keep_92 : decode cX10_keep 92 = .ok (.iastore, 1) := by decide +kernel
theorem dX10_keep_93 : decode cX10_keep 93 = .ok (.aload_n 0, 1) := by decide +kernel
theorem dX10_keep_94 : decode cX10_keep 94 = .ok (.getfield 78, 3) := by decide +kernel
theorem dX10_keep_97 : decode cX10_keep 97 = .ok (.iload_n 1, 1) := by decide +kernel
theorem dX10_keep_98 : decode cX10_keep 98 = .ok (.iload_n 3, 1) := by decide +kernel
theorem dX10_keep_99 : decode cX10_keep 99 = .ok (.iastore, 1) := by decide +kernel
theorem dX10_keep_100 : decode cX10_keep 100 = .ok (.aload_n 0, 1) := by decide +kernel
theorem dX10_keep_101 : decode cX10_keep 101 = .ok (.getfield 81, 3) := by decide +kernel
theorem dX10_keep_104 : decode cX10_keep 104 = .ok (.iload_n 1, 1) := by decide +kernel
theorem dX10_keep_105 : decode cX10_keep 105 = .ok (.iconst 0, 1) := by decide +kernel
theorem dX10_keep_106 : decode cX10_keep 106 = .ok (.iastore, 1) := by decide +kernel
theorem dX10_keep_107 : decode cX10_keep 107 = .ok (.iconst 0, 1) := by decide +kernel
theorem dX10_keep_108 : decode cX10_keep 108 = .ok (.istore 4, 2) := by decide +kernel
theorem dX10_keep_110 : decode cX10_keep 110 = .ok (.iload 4, 2) := by decide +kernel
theorem dX10_keep_112 : decode cX10_keep 112 = .ok (.aload_n 0, 1) := by decide +kernel
theorem dX10_keep_113 : decode cX10_keep 113 = .ok (.getfield 97, 3) := by decide +kernel
theorem dX10_keep_116 : decode cX10_keep 116 = .ok (.iconst 1, 1) := by decide +kernel
theorem dX10_keep_117 : decode cX10_keep 117 = .ok (.isub, 1) := by decide +kernel
theorem dX10_keep_118 : decode cX10_keep 118 = .ok (.if_icmp .ge 29, 3) := by decide +kernel
theorem dX10_keep_121 : decode cX10_keep 121 = .ok (.aload_n 0, 1) := by decide +kernel
theorem dX10_keep_122 : decode cX10_keep 122 = .ok (.getfield 81, 3) := by decide +kernel
theorem dX10_keep_125 : decode cX10_keep 125 = .ok (.iload_n 1, 1) := by decide +kernel
theorem dX10_keep_126 : decode cX10_keep 126 = .ok (.dup2, 1) := by decide +kernel
theorem dX10_keep_127 : decode cX10_keep 127 = .ok (.iaload, 1) := by decide +kernel
theorem dX10_keep_128 : decode cX10_keep 128 = .ok (.aload_n 0, 1) := by decide +kernel
theorem dX10_keep_129 : decode cX10_keep 129 = .ok (.getfield 32, 3) := by decide +kernel
theorem dX10_keep_132 : decode cX10_keep 132 = .ok (.iconst 4, 1) := by decide +kernel
theorem dX10_keep_133 : decode cX10_keep 133 = .ok (.iload_n 3, 1) := by decide +kernel
theorem dX10_keep_134 : decode cX10_keep 134 = .ok (.imul, 1) := by decide +kernel
theorem dX10_keep_135 : decode cX10_keep 135 = .ok (.iload 4, 2) := by decide +kernel
theorem dX10_keep_137 : decode cX10_keep 137 = .ok (.iadd, 1) := by decide +kernel
theorem dX10_keep_138 : decode cX10_keep 138 = .ok (.iaload, 1) := by decide +kernel
theorem dX10_keep_139 : decode cX10_keep 139 = .ok (.iadd, 1) := by decide +kernel
theorem dX10_keep_140 : decode cX10_keep 140 = .ok (.iastore, 1) := by decide +kernel
theorem dX10_keep_141 : decode cX10_keep 141 = .ok (.iinc 4 1, 3) := by decide +kernel
theorem dX10_keep_144 : decode cX10_keep 144 = .ok (.goto (-34), 3) := by decide +kernel
theorem dX10_keep_147 : decode cX10_keep 147 = .ok (.goto 123, 3) := by decide +kernel
theorem dX10_keep_150 : decode cX10_keep 150 = .ok (.iload_n 2, 1) := by decide +kernel
theorem dX10_keep_151 : decode cX10_keep 151 = .ok (.iconst 3, 1) := by decide +kernel
theorem dX10_keep_152 : decode cX10_keep 152 = .ok (.if_icmp .ne 61, 3) := by decide +kernel
theorem dX10_keep_155 : decode cX10_keep 155 = .ok (.aload_n 0, 1) := by decide +kernel
theorem dX10_keep_156 : decode cX10_keep 156 = .ok (.getfield 72, 3) := by decide +kernel
theorem dX10_keep_159 : decode cX10_keep 159 = .ok (.iload_n 1, 1) := by decide +kernel
theorem dX10_keep_160 : decode cX10_keep 160 = .ok (.aload_n 0, 1) := by decide +kernel
theorem dX10_keep_161 : decode cX10_keep 161 = .ok (.getfield 113, 3) := by decide +kernel
theorem dX10_keep_164 : decode cX10_keep 164 = .ok (.bipush 60, 2) := by decide +kernel
theorem dX10_keep_166 : decode cX10_keep 166 = .ok (.invokestatic 171, 3) := by decide +kernel
theorem dX10_keep_169 : decode cX10_keep 169 = .ok (.iastore, 1) := by decide +kernel
theorem dX10_keep_170 : decode cX10_keep 170 = .ok (.iconst 0, 1) := by decide +kernel
theorem dX10_keep_171 : decode cX10_keep 171 = .ok (.istore 4, 2) := by decide +kernel
theorem dX10_keep_173 : decode cX10_keep 173 = .ok (.iload 4, 2) := by decide +kernel
theorem dX10_keep_175 : decode cX10_keep 175 = .ok (.aload_n 0, 1) := by decide +kernel
theorem dX10_keep_176 : decode cX10_keep 176 = .ok (.getfield 72, 3) := by decide +kernel
theorem dX10_keep_179 : decode cX10_keep 179 = .ok (.iload_n 1, 1) := by decide +kernel
theorem dX10_keep_180 : decode cX10_keep 180 = .ok (.iaload, 1) := by decide +kernel
theorem dX10_keep_181 : decode cX10_keep 181 = .ok (.if_icmp .ge 29, 3) := by decide +kernel
theorem dX10_keep_184 : decode cX10_keep 184 = .ok (.aload_n 0, 1) := by decide +kernel
theorem dX10_keep_185 : decode cX10_keep 185 = .ok (.getfield 84, 3) := by decide +kernel
theorem dX10_keep_188 : decode cX10_keep 188 = .ok (.bipush 60, 2) := by decide +kernel
theorem dX10_keep_190 : decode cX10_keep 190 = .ok (.iload_n 1, 1) := by decide +kernel
theorem dX10_keep_191 : decode cX10_keep 191 = .ok (.imul, 1) := by decide +kernel
theorem dX10_keep_192 : decode cX10_keep 192 = .ok (.iload 4, 2) := by decide +kernel
theorem dX10_keep_194 : decode cX10_keep 194 = .ok (.iadd, 1) := by decide +kernel
theorem dX10_keep_195 : decode cX10_keep 195 = .ok (.aload_n 0, 1) := by decide +kernel
theorem dX10_keep_196 : decode cX10_keep 196 = .ok (.iload_n 3, 1) := by decide +kernel
theorem dX10_keep_197 : decode cX10_keep 197 = .ok (.iload 4, 2) := by decide +kernel
theorem dX10_keep_199 : decode cX10_keep 199 = .ok (.invokevirtual 144, 3) := by decide +kernel
theorem dX10_keep_202 : decode cX10_keep 202 = .ok (.i2l, 1) := by decide +kernel
theorem dX10_keep_203 : decode cX10_keep 203 = .ok (.lastore, 1) := by decide +kernel
theorem dX10_keep_204 : decode cX10_keep 204 = .ok (.iinc 4 1, 3) := by decide +kernel
theorem dX10_keep_207 : decode cX10_keep 207 = .ok (.goto (-34), 3) := by decide +kernel
theorem dX10_keep_210 : decode cX10_keep 210 = .ok (.goto 60, 3) := by decide +kernel
theorem dX10_keep_213 : decode cX10_keep 213 = .ok (.iload_n 2, 1) := by decide +kernel
theorem dX10_keep_214 : decode cX10_keep 214 = .ok (.iconst 4, 1) := by decide +kernel
theorem dX10_keep_215 : decode cX10_keep 215 = .ok (.if_icmp .ne 55, 3) := by decide +kernel
theorem dX10_keep_218 : decode cX10_keep 218 = .ok (.aload_n 0, 1) := by decide +kernel
theorem dX10_keep_219 : decode cX10_keep 219 = .ok (.getfield 72, 3) := by decide +kernel
theorem dX10_keep_222 : decode cX10_keep 222 = .ok (.iload_n 1, 1) := by decide +kernel
theorem dX10_keep_223 : decode cX10_keep 223 = .ok (.aload_n 0, 1) := by decide +kernel
theorem dX10_keep_224 : decode cX10_keep 224 = .ok (.getfield 101, 3) := by decide +kernel
theorem dX10_keep_227 : decode cX10_keep 227 = .ok (.iastore, 1) := by decide +kernel
theorem dX10_keep_228 : decode cX10_keep 228 = .ok (.iconst 0, 1) := by decide +kernel
theorem dX10_keep_229 : decode cX10_keep 229 = .ok (.istore 4, 2) := by decide +kernel
theorem dX10_keep_231 : decode cX10_keep 231 = .ok (.iload 4, 2) := by decide +kernel
theorem dX10_keep_233 : decode cX10_keep 233 = .ok (.aload_n 0, 1) := by decide +kernel
theorem dX10_keep_234 : decode cX10_keep 234 = .ok (.getfield 101, 3) := by decide +kernel
theorem dX10_keep_237 : decode cX10_keep 237 = .ok (.if_icmp .ge 33, 3) := by decide +kernel
theorem dX10_keep_240 : decode cX10_keep 240 = .ok (.aload_n 0, 1) := by decide +kernel
theorem dX10_keep_241 : decode cX10_keep 241 = .ok (.getfield 84, 3) := by decide +kernel
theorem dX10_keep_244 : decode cX10_keep 244 = .ok (.bipush 60, 2) := by decide +kernel
theorem dX10_keep_246 : decode cX10_keep 246 = .ok (.iload_n 1, 1) := by decide +kernel
theorem dX10_keep_247 : decode cX10_keep 247 = .ok (.imul, 1) := by decide +kernel
theorem dX10_keep_248 : decode cX10_keep 248 = .ok (.iload 4, 2) := by decide +kernel
theorem dX10_keep_250 : decode cX10_keep 250 = .ok (.iadd, 1) := by decide +kernel
theorem dX10_keep_251 : decode cX10_keep 251 = .ok (.aload_n 0, 1) := by decide +kernel
theorem dX10_keep_252 : decode cX10_keep 252 = .ok (.getfield 9, 3) := by decide +kernel
theorem dX10_keep_255 : decode cX10_keep 255 = .ok (.iconst 5, 1) := by decide +kernel
theorem dX10_keep_256 : decode cX10_keep 256 = .ok (.iload_n 3, 1) := by decide +kernel
theorem dX10_keep_257 : decode cX10_keep 257 = .ok (.imul, 1) := by decide +kernel
theorem dX10_keep_258 : decode cX10_keep 258 = .ok (.iload 4, 2) := by decide +kernel
theorem dX10_keep_260 : decode cX10_keep 260 = .ok (.iadd, 1) := by decide +kernel
theorem dX10_keep_261 : decode cX10_keep 261 = .ok (.iaload, 1) := by decide +kernel
theorem dX10_keep_262 : decode cX10_keep 262 = .ok (.i2l, 1) := by decide +kernel
theorem dX10_keep_263 : decode cX10_keep 263 = .ok (.lastore, 1) := by decide +kernel
theorem dX10_keep_264 : decode cX10_keep 264 = .ok (.iinc 4 1, 3) := by decide +kernel
theorem dX10_keep_267 : decode cX10_keep 267 = .ok (.goto (-36), 3) := by decide +kernel
theorem dX10_keep_270 : decode cX10_keep 270 = .ok (.iconst 0, 1) := by decide +kernel
theorem dX10_keep_271 : decode cX10_keep 271 = .ok (.ireturn, 1) := by decide +kernel
theorem dX10_make_0 : decode cX10_make 0 = .ok (.iload_n 1, 1) := by decide +kernel
theorem dX10_make_1 : decode cX10_make 1 = .ok (.bipush 8, 2) := by decide +kernel
theorem dX10_make_3 : decode cX10_make 3 = .ok (.invokestatic 119, 3) := by decide +kernel
theorem dX10_make_6 : decode cX10_make 6 = .ok (.ifCond .eq 19, 3) := by decide +kernel
theorem dX10_make_9 : decode cX10_make 9 = .ok (.iload_n 2, 1) := by decide +kernel
theorem dX10_make_10 : decode cX10_make 10 = .ok (.iconst 3, 1) := by decide +kernel
theorem dX10_make_11 : decode cX10_make 11 = .ok (.if_icmp .eq 8, 3) := by decide +kernel
theorem dX10_make_14 : decode cX10_make 14 = .ok (.iload_n 2, 1) := by decide +kernel
theorem dX10_make_15 : decode cX10_make 15 = .ok (.iconst 4, 1) := by decide +kernel
theorem dX10_make_16 : decode cX10_make 16 = .ok (.if_icmp .ne 9, 3) := by decide +kernel
theorem dX10_make_19 : decode cX10_make 19 = .ok (.iload_n 3, 1) := by decide +kernel
theorem dX10_make_20 : decode cX10_make 20 = .ok (.bipush 60, 2) := by decide +kernel
theorem dX10_make_22 : decode cX10_make 22 = .ok (.if_icmp .le 5, 3) := by decide +kernel
theorem dX10_make_25 : decode cX10_make 25 = .ok (.iconst (-1), 1) := by decide +kernel
theorem dX10_make_26 : decode cX10_make 26 = .ok (.ireturn, 1) := by decide +kernel
theorem dX10_make_27 : decode cX10_make 27 = .ok (.iload_n 3, 1) := by decide +kernel
theorem dX10_make_28 : decode cX10_make 28 = .ok (.ifCond .ge 6, 3) := by decide +kernel
theorem dX10_make_31 : decode cX10_make 31 = .ok (.bipush (-14), 2) := by decide +kernel
theorem dX10_make_33 : decode cX10_make 33 = .ok (.ireturn, 1) := by decide +kernel
theorem dX10_make_34 : decode cX10_make 34 = .ok (.aload_n 0, 1) := by decide +kernel
theorem dX10_make_35 : decode cX10_make 35 = .ok (.getfield 69, 3) := by decide +kernel
theorem dX10_make_38 : decode cX10_make 38 = .ok (.iload_n 1, 1) := by decide +kernel
theorem dX10_make_39 : decode cX10_make 39 = .ok (.iload_n 2, 1) := by decide +kernel
theorem dX10_make_40 : decode cX10_make 40 = .ok (.iastore, 1) := by decide +kernel
theorem dX10_make_41 : decode cX10_make 41 = .ok (.aload_n 0, 1) := by decide +kernel
theorem dX10_make_42 : decode cX10_make 42 = .ok (.getfield 72, 3) := by decide +kernel
theorem dX10_make_45 : decode cX10_make 45 = .ok (.iload_n 1, 1) := by decide +kernel
theorem dX10_make_46 : decode cX10_make 46 = .ok (.iload_n 3, 1) := by decide +kernel
theorem dX10_make_47 : decode cX10_make 47 = .ok (.iastore, 1) := by decide +kernel
theorem dX10_make_48 : decode cX10_make 48 = .ok (.iconst 0, 1) := by decide +kernel
theorem dX10_make_49 : decode cX10_make 49 = .ok (.istore 4, 2) := by decide +kernel
theorem dX10_make_51 : decode cX10_make 51 = .ok (.iload 4, 2) := by decide +kernel
theorem dX10_make_53 : decode cX10_make 53 = .ok (.iload_n 3, 1) := by decide +kernel
theorem dX10_make_54 : decode cX10_make 54 = .ok (.if_icmp .ge 22, 3) := by decide +kernel
theorem dX10_make_57 : decode cX10_make 57 = .ok (.aload_n 0, 1) := by decide +kernel
theorem dX10_make_58 : decode cX10_make 58 = .ok (.getfield 84, 3) := by decide +kernel
theorem dX10_make_61 : decode cX10_make 61 = .ok (.bipush 60, 2) := by decide +kernel
theorem dX10_make_63 : decode cX10_make 63 = .ok (.iload_n 1, 1) := by decide +kernel
theorem dX10_make_64 : decode cX10_make 64 = .ok (.imul, 1) := by decide +kernel
theorem dX10_make_65 : decode cX10_make 65 = .ok (.iload 4, 2) := by decide +kernel
theorem dX10_make_67 : decode cX10_make 67 = .ok (.iadd, 1) := by decide +kernel
theorem dX10_make_68 : decode cX10_make 68 = .ok (.lconst 0, 1) := by decide +kernel
theorem dX10_make_69 : decode cX10_make 69 = .ok (.lastore, 1) := by decide +kernel
theorem dX10_make_70 : decode cX10_make 70 = .ok (.iinc 4 1, 3) := by decide +kernel
theorem dX10_make_73 : decode cX10_make 73 = .ok (.goto (-22), 3) := by decide +kernel
theorem dX10_make_76 : decode cX10_make 76 = .ok (.iconst 0, 1) := by decide +kernel
theorem dX10_make_77 : decode cX10_make 77 = .ok (.ireturn, 1) := by decide +kernel
theorem dX10_element_0 : decode cX10_element 0 = .ok (.aload_n 0, 1) := by decide +kernel
theorem dX10_element_1 : decode cX10_element 1 = .ok (.iconst 0, 1) := by decide +kernel
theorem dX10_element_2 : decode cX10_element 2 = .ok (.putfield 107, 3) := by decide +kernel
theorem dX10_element_5 : decode cX10_element 5 = .ok (.iload_n 1, 1) := by decide +kernel
theorem dX10_element_6 : decode cX10_element 6 = .ok (.bipush 8, 2) := by decide +kernel
theorem dX10_element_8 : decode cX10_element 8 = .ok (.invokestatic 119, 3) := by decide +kernel
theorem dX10_element_11 : decode cX10_element 11 = .ok (.ifCond .ne 10, 3) := by decide +kernel
theorem dX10_element_14 : decode cX10_element 14 = .ok (.aload_n 0, 1) := by decide +kernel
theorem dX10_element_15 : decode cX10_element 15 = .ok (.iconst 1, 1) := by decide +kernel
theorem dX10_element_16 : decode cX10_element 16 = .ok (.invokevirtual 147, 3) := by decide +kernel
theorem dX10_element_19 : decode cX10_element 19 = .ok (.i2l, 1) := by decide +kernel
theorem dX10_element_20 : decode cX10_element 20 = .ok (.lreturn, 1) := by decide +kernel
theorem dX10_element_21 : decode cX10_element 21 = .ok (.aload_n 0, 1) := by decide +kernel
theorem dX10_element_22 : decode cX10_element 22 = .ok (.getfield 69, 3) := by decide +kernel
theorem dX10_element_25 : decode cX10_element 25 = .ok (.iload_n 1, 1) := by decide +kernel
theorem dX10_element_26 : decode cX10_element 26 = .ok (.iaload, 1) := by decide +kernel
theorem dX10_element_27 : decode cX10_element 27 = .ok (.iconst 3, 1) := by decide +kernel
theorem dX10_element_28 : decode cX10_element 28 = .ok (.if_icmp .lt 16, 3) := by decide +kernel
theorem dX10_element_31 : decode cX10_element 31 = .ok (.iload_n 2, 1) := by decide +kernel
theorem dX10_element_32 : decode cX10_element 32 = .ok (.aload_n 0, 1) := by decide +kernel
theorem dX10_element_33 : decode cX10_element 33 = .ok (.getfield 72, 3) := by decide +kernel
theorem dX10_element_36 : decode cX10_element 36 = .ok (.iload_n 1, 1) := by decide +kernel
theorem dX10_element_37 : decode cX10_element 37 = .ok (.iaload, 1) := by decide +kernel
theorem dX10_element_38 : decode cX10_element 38 = .ok (.invokestatic 119, 3) := by decide +kernel
theorem dX10_element_41 : decode cX10_element 41 = .ok (.ifCond .ne 10, 3) := by decide +kernel
theorem dX10_element_44 : decode cX10_element 44 = .ok (.aload_n 0, 1) := by decide +kernel
theorem dX10_element_45 : decode cX10_element 45 = .ok (.iconst 2, 1) := by decide +kernel
theorem dX10_element_46 : decode cX10_element 46 = .ok (.invokevirtual 147, 3) := by decide +kernel
theorem dX10_element_49 : decode cX10_element 49 = .ok (.i2l, 1) := by decide +kernel
theorem dX10_element_50 : decode cX10_element 50 = .ok (.lreturn, 1) := by decide +kernel
theorem dX10_element_51 : decode cX10_element 51 = .ok (.aload_n 0, 1) := by decide +kernel
theorem dX10_element_52 : decode cX10_element 52 = .ok (.getfield 84, 3) := by decide +kernel
theorem dX10_element_55 : decode cX10_element 55 = .ok (.bipush 60, 2) := by decide +kernel
theorem dX10_element_57 : decode cX10_element 57 = .ok (.iload_n 1, 1) := by decide +kernel
theorem dX10_element_58 : decode cX10_element 58 = .ok (.imul, 1) := by decide +kernel
theorem dX10_element_59 : decode cX10_element 59 = .ok (.iload_n 2, 1) := by decide +kernel
theorem dX10_element_60 : decode cX10_element 60 = .ok (.iadd, 1) := by decide +kernel
theorem dX10_element_61 : decode cX10_element 61 = .ok (.laload, 1) := by decide +kernel
theorem dX10_element_62 : decode cX10_element 62 = .ok (.lreturn, 1) := by decide +kernel
theorem dX10_copy_0 : decode cX10_copy 0 = .ok (.iload_n 1, 1) := by decide +kernel
theorem dX10_copy_1 : decode cX10_copy 1 = .ok (.bipush 8, 2) := by decide +kernel
theorem dX10_copy_3 : decode cX10_copy 3 = .ok (.invokestatic 119, 3) := by decide +kernel
theorem dX10_copy_6 : decode cX10_copy 6 = .ok (.ifCond .eq 12, 3) := by decide +kernel
theorem dX10_copy_9 : decode cX10_copy 9 = .ok (.iload_n 3, 1) := by decide +kernel
theorem dX10_copy_10 : decode cX10_copy 10 = .ok (.bipush 8, 2) := by decide +kernel
theorem dX10_copy_12 : decode cX10_copy 12 = .ok (.invokestatic 119, 3) := by decide +kernel
theorem dX10_copy_15 : decode cX10_copy 15 = .ok (.ifCond .ne 5, 3) := by decide +kernel
theorem dX10_copy_18 : decode cX10_copy 18 = .ok (.iconst (-1), 1) := by decide +kernel
theorem dX10_copy_19 : decode cX10_copy 19 = .ok (.ireturn, 1) := by decide +kernel
theorem dX10_copy_20 : decode cX10_copy 20 = .ok (.aload_n 0, 1) := by decide +kernel
theorem dX10_copy_21 : decode cX10_copy 21 = .ok (.getfield 69, 3) := by decide +kernel
theorem dX10_copy_24 : decode cX10_copy 24 = .ok (.iload_n 1, 1) := by decide +kernel
theorem dX10_copy_25 : decode cX10_copy 25 = .ok (.iaload, 1) := by decide +kernel
theorem dX10_copy_26 : decode cX10_copy 26 = .ok (.ifCond .eq 12, 3) := by decide +kernel
theorem dX10_copy_29 : decode cX10_copy 29 = .ok (.aload_n 0, 1) := by decide +kernel
theorem dX10_copy_30 : decode cX10_copy 30 = .ok (.getfield 69, 3) := by decide +kernel
theorem dX10_copy_33 : decode cX10_copy 33 = .ok (.iload_n 3, 1) := by decide +kernel
theorem dX10_copy_34 : decode cX10_copy 34 = .ok (.iaload, 1) := by decide +kernel
theorem dX10_copy_35 : decode cX10_copy 35 = .ok (.ifCond .ne 6, 3) := by decide +kernel
theorem dX10_copy_38 : decode cX10_copy 38 = .ok (.bipush (-11), 2) := by decide +kernel
theorem dX10_copy_40 : decode cX10_copy 40 = .ok (.ireturn, 1) := by decide +kernel
theorem dX10_copy_41 : decode cX10_copy 41 = .ok (.aload_n 0, 1) := by decide +kernel
theorem dX10_copy_42 : decode cX10_copy 42 = .ok (.getfield 69, 3) := by decide +kernel
theorem dX10_copy_45 : decode cX10_copy 45 = .ok (.iload_n 1, 1) := by decide +kernel
theorem dX10_copy_46 : decode cX10_copy 46 = .ok (.iaload, 1) := by decide +kernel
theorem dX10_copy_47 : decode cX10_copy 47 = .ok (.iconst 3, 1) := by decide +kernel
theorem dX10_copy_48 : decode cX10_copy 48 = .ok (.if_icmp .lt 18, 3) := by decide +kernel
theorem dX10_copy_51 : decode cX10_copy 51 = .ok (.aload_n 0, 1) := by decide +kernel
theorem dX10_copy_52 : decode cX10_copy 52 = .ok (.getfield 69, 3) := by decide +kernel
theorem dX10_copy_55 : decode cX10_copy 55 = .ok (.iload_n 1, 1) := by decide +kernel
theorem dX10_copy_56 : decode cX10_copy 56 = .ok (.iaload, 1) := by decide +kernel
theorem dX10_copy_57 : decode cX10_copy 57 = .ok (.aload_n 0, 1) := by decide +kernel
theorem dX10_copy_58 : decode cX10_copy 58 = .ok (.getfield 69, 3) := by decide +kernel
theorem dX10_copy_61 : decode cX10_copy 61 = .ok (.iload_n 3, 1) := by decide +kernel
theorem dX10_copy_62 : decode cX10_copy 62 = .ok (.iaload, 1) := by decide +kernel
theorem dX10_copy_63 : decode cX10_copy 63 = .ok (.if_icmp .eq 6, 3) := by decide +kernel
theorem dX10_copy_66 : decode cX10_copy 66 = .ok (.bipush (-12), 2) := by decide +kernel
theorem dX10_copy_68 : decode cX10_copy 68 = .ok (.ireturn, 1) := by decide +kernel
theorem dX10_copy_69 : decode cX10_copy 69 = .ok (.iload 5, 2) := by decide +kernel
theorem dX10_copy_71 : decode cX10_copy 71 = .ok (.ifCond .lt 47, 3) := by decide +kernel
theorem dX10_copy_74 : decode cX10_copy 74 = .ok (.iload_n 2, 1) := by decide +kernel
theorem dX10_copy_75 : decode cX10_copy 75 = .ok (.ifCond .lt 43, 3) := by decide +kernel
theorem dX10_copy_78 : decode cX10_copy 78 = .ok (.iload 4, 2) := by decide +kernel
theorem dX10_copy_80 : decode cX10_copy 80 = .ok (.ifCond .lt 38, 3) := by decide +kernel
theorem dX10_copy_83 : decode cX10_copy 83 = .ok (.iload_n 2, 1) := by decide +kernel
theorem dX10_copy_84 : decode cX10_copy 84 = .ok (.i2l, 1) := by decide +kernel
theorem dX10_copy_85 : decode cX10_copy 85 = .ok (.iload 5, 2) := by decide +kernel
theorem dX10_copy_87 : decode cX10_copy 87 = .ok (.i2l, 1) := by decide +kernel
theorem dX10_copy_88 : decode cX10_copy 88 = .ok (.ladd, 1) := by decide +kernel
theorem dX10_copy_89 : decode cX10_copy 89 = .ok (.aload_n 0, 1) := by decide +kernel
theorem dX10_copy_90 : decode cX10_copy 90 = .ok (.getfield 72, 3) := by decide +kernel
theorem dX10_copy_93 : decode cX10_copy 93 = .ok (.iload_n 1, 1) := by decide +kernel
theorem dX10_copy_94 : decode cX10_copy 94 = .ok (.iaload, 1) := by decide +kernel
theorem dX10_copy_95 : decode cX10_copy 95 = .ok (.i2l, 1) := by decide +kernel
theorem dX10_copy_96 : decode cX10_copy 96 = .ok (.lcmp, 1) := by decide +kernel
theorem dX10_copy_97 : decode cX10_copy 97 = .ok (.ifCond .gt 21, 3) := by decide +kernel
theorem dX10_copy_100 : decode cX10_copy 100 = .ok (.iload 4, 2) := by decide +kernel
theorem dX10_copy_102 : decode cX10_copy 102 = .ok (.i2l, 1) := by decide +kernel
theorem dX10_copy_103 : decode cX10_copy 103 = .ok (.iload 5, 2) := by decide +kernel
theorem dX10_copy_105 : decode cX10_copy 105 = .ok (.i2l, 1) := by decide +kernel
theorem dX10_copy_106 : decode cX10_copy 106 = .ok (.ladd, 1) := by decide +kernel
theorem dX10_copy_107 : decode cX10_copy 107 = .ok (.aload_n 0, 1) := by decide +kernel
theorem dX10_copy_108 : decode cX10_copy 108 = .ok (.getfield 72, 3) := by decide +kernel
theorem dX10_copy_111 : decode cX10_copy 111 = .ok (.iload_n 3, 1) := by decide +kernel
theorem dX10_copy_112 : decode cX10_copy 112 = .ok (.iaload, 1) := by decide +kernel
theorem dX10_copy_113 : decode cX10_copy 113 = .ok (.i2l, 1) := by decide +kernel
theorem dX10_copy_114 : decode cX10_copy 114 = .ok (.lcmp, 1) := by decide +kernel
theorem dX10_copy_115 : decode cX10_copy 115 = .ok (.ifCond .le 6, 3) := by decide +kernel
theorem dX10_copy_118 : decode cX10_copy 118 = .ok (.bipush (-13), 2) := by decide +kernel
theorem dX10_copy_120 : decode cX10_copy 120 = .ok (.ireturn, 1) := by decide +kernel
theorem dX10_copy_121 : decode cX10_copy 121 = .ok (.iconst 0, 1) := by decide +kernel
theorem dX10_copy_122 : decode cX10_copy 122 = .ok (.istore 6, 2) := by decide +kernel
theorem dX10_copy_124 : decode cX10_copy 124 = .ok (.iload 6, 2) := by decide +kernel
theorem dX10_copy_126 : decode cX10_copy 126 = .ok (.iload 5, 2) := by decide +kernel
theorem dX10_copy_128 : decode cX10_copy 128 = .ok (.if_icmp .ge 30, 3) := by decide +kernel
theorem dX10_copy_131 : decode cX10_copy 131 = .ok (.aload_n 0, 1) := by decide +kernel
theorem dX10_copy_132 : decode cX10_copy 132 = .ok (.getfield 88, 3) := by decide +kernel
theorem dX10_copy_135 : decode cX10_copy 135 = .ok (.iload 6, 2) := by decide +kernel
theorem dX10_copy_137 : decode cX10_copy 137 = .ok (.aload_n 0, 1) := by decide +kernel
theorem dX10_copy_138 : decode cX10_copy 138 = .ok (.getfield 84, 3) := by decide +kernel
theorem dX10_copy_141 : decode cX10_copy 141 = .ok (.bipush 60, 2) := by decide +kernel
theorem dX10_copy_143 : decode cX10_copy 143 = .ok (.iload_n 1, 1) := by decide +kernel
theorem dX10_copy_144 : decode cX10_copy 144 = .ok (.imul, 1) := by decide +kernel
theorem dX10_copy_145 : decode cX10_copy 145 = .ok (.iload_n 2, 1) := by decide +kernel
theorem dX10_copy_146 : decode cX10_copy 146 = .ok (.iadd, 1) := by decide +kernel
theorem dX10_copy_147 : decode cX10_copy 147 = .ok (.iload 6, 2) := by decide +kernel
theorem dX10_copy_149 : decode cX10_copy 149 = .ok (.iadd, 1) := by decide +kernel
theorem dX10_copy_150 : decode cX10_copy 150 = .ok (.laload, 1) := by decide +kernel
theorem dX10_copy_151 : decode cX10_copy 151 = .ok (.lastore, 1) := by decide +kernel
theorem dX10_copy_152 : decode cX10_copy 152 = .ok (.iinc 6 1, 3) := by decide +kernel
theorem dX10_copy_155 : decode cX10_copy 155 = .ok (.goto (-31), 3) := by decide +kernel
theorem dX10_copy_158 : decode cX10_copy 158 = .ok (.iconst 0, 1) := by decide +kernel
theorem dX10_copy_159 : decode cX10_copy 159 = .ok (.istore 6, 2) := by decide +kernel
theorem dX10_copy_161 : decode cX10_copy 161 = .ok (.iload 6, 2) := by decide +kernel
theorem dX10_copy_163 : decode cX10_copy 163 = .ok (.iload 5, 2) := by decide +kernel
theorem dX10_copy_165 : decode cX10_copy 165 = .ok (.if_icmp .ge 31, 3) := by decide +kernel
theorem dX10_copy_168 : decode cX10_copy 168 = .ok (.aload_n 0, 1) := by decide +kernel
theorem dX10_copy_169 : decode cX10_copy 169 = .ok (.getfield 84, 3) := by decide +kernel
theorem dX10_copy_172 : decode cX10_copy 172 = .ok (.bipush 60, 2) := by decide +kernel
theorem dX10_copy_174 : decode cX10_copy 174 = .ok (.iload_n 3, 1) := by decide +kernel
theorem dX10_copy_175 : decode cX10_copy 175 = .ok (.imul, 1) := by decide +kernel
theorem dX10_copy_176 : decode cX10_copy 176 = .ok (.iload 4, 2) := by decide +kernel
theorem dX10_copy_178 : decode cX10_copy 178 = .ok (.iadd, 1) := by decide +kernel
theorem dX10_copy_179 : decode cX10_copy 179 = .ok (.iload 6, 2) := by decide +kernel
theorem dX10_copy_181 : decode cX10_copy 181 = .ok (.iadd, 1) := by decide +kernel
theorem dX10_copy_182 : decode cX10_copy 182 = .ok (.aload_n 0, 1) := by decide +kernel
theorem dX10_copy_183 : decode cX10_copy 183 = .ok (.getfield 88, 3) := by decide +kernel
theorem dX10_copy_186 : decode cX10_copy 186 = .ok (.iload 6, 2) := by decide +kernel
theorem dX10_copy_188 : decode cX10_copy 188 = .ok (.laload, 1) := by decide +kernel
theorem dX10_copy_189 : decode cX10_copy 189 = .ok (.lastore, 1) := by decide +kernel
theorem dX10_copy_190 : decode cX10_copy 190 = .ok (.iinc 6 1, 3) := by decide +kernel
theorem dX10_copy_193 : decode cX10_copy 193 = .ok (.goto (-32), 3) := by decide +kernel
theorem dX10_copy_196 : decode cX10_copy 196 = .ok (.iload 5, 2) := by decide +kernel
theorem dX10_copy_198 : decode cX10_copy 198 = .ok (.ireturn, 1) := by decide +kernel
theorem dX10_wrongShelf_0 : decode cX10_wrongShelf 0 = .ok (.iload_n 1, 1) := by decide +kernel
theorem dX10_wrongShelf_1 : decode cX10_wrongShelf 1 = .ok (.bipush 8, 2) := by decide +kernel
theorem dX10_wrongShelf_3 : decode cX10_wrongShelf 3 = .ok (.invokestatic 119, 3) := by decide +kernel
theorem dX10_wrongShelf_6 : decode cX10_wrongShelf 6 = .ok (.ifCond .ne 7, 3) := by decide +kernel
theorem dX10_wrongShelf_9 : decode cX10_wrongShelf 9 = .ok (.iconst (-1), 1) := by decide +kernel
theorem dX10_wrongShelf_10 : decode cX10_wrongShelf 10 = .ok (.goto 33, 3) := by decide +kernel
theorem dX10_wrongShelf_13 : decode cX10_wrongShelf 13 = .ok (.aload_n 0, 1) := by decide +kernel
theorem dX10_wrongShelf_14 : decode cX10_wrongShelf 14 = .ok (.getfield 69, 3) := by decide +kernel
theorem dX10_wrongShelf_17 : decode cX10_wrongShelf 17 = .ok (.iload_n 1, 1) := by decide +kernel
theorem dX10_wrongShelf_18 : decode cX10_wrongShelf 18 = .ok (.iaload, 1) := by decide +kernel
theorem dX10_wrongShelf_19 : decode cX10_wrongShelf 19 = .ok (.ifCond .ne 8, 3) := by decide +kernel
theorem dX10_wrongShelf_22 : decode cX10_wrongShelf 22 = .ok (.bipush (-11), 2) := by decide +kernel
theorem dX10_wrongShelf_24 : decode cX10_wrongShelf 24 = .ok (.goto 19, 3) := by decide +kernel
theorem dX10_wrongShelf_27 : decode cX10_wrongShelf 27 = .ok (.aload_n 0, 1) := by decide +kernel
theorem dX10_wrongShelf_28 : decode cX10_wrongShelf 28 = .ok (.getfield 69, 3) := by decide +kernel
theorem dX10_wrongShelf_31 : decode cX10_wrongShelf 31 = .ok (.iload_n 1, 1) := by decide +kernel
theorem dX10_wrongShelf_32 : decode cX10_wrongShelf 32 = .ok (.iaload, 1) := by decide +kernel
theorem dX10_wrongShelf_33 : decode cX10_wrongShelf 33 = .ok (.iconst 1, 1) := by decide +kernel
theorem dX10_wrongShelf_34 : decode cX10_wrongShelf 34 = .ok (.if_icmp .eq 8, 3) := by decide +kernel
theorem dX10_wrongShelf_37 : decode cX10_wrongShelf 37 = .ok (.bipush (-12), 2) := by decide +kernel
theorem dX10_wrongShelf_39 : decode cX10_wrongShelf 39 = .ok (.goto 4, 3) := by decide +kernel
theorem dX10_wrongShelf_42 : decode cX10_wrongShelf 42 = .ok (.iconst 0, 1) := by decide +kernel
theorem dX10_wrongShelf_43 : decode cX10_wrongShelf 43 = .ok (.ireturn, 1) := by decide +kernel
theorem dX10_weight_0 : decode cX10_weight 0 = .ok (.aload_n 0, 1) := by decide +kernel
theorem dX10_weight_1 : decode cX10_weight 1 = .ok (.iload_n 1, 1) := by decide +kernel
theorem dX10_weight_2 : decode cX10_weight 2 = .ok (.invokevirtual 226, 3) := by decide +kernel
theorem dX10_weight_5 : decode cX10_weight 5 = .ok (.istore_n 2, 1) := by decide +kernel
theorem dX10_weight_6 : decode cX10_weight 6 = .ok (.iload_n 2, 1) := by decide +kernel
theorem dX10_weight_7 : decode cX10_weight 7 = .ok (.ifCond .eq 5, 3) := by decide +kernel
theorem dX10_weight_10 : decode cX10_weight 10 = .ok (.iload_n 2, 1) := by decide +kernel
theorem dX10_weight_11 : decode cX10_weight 11 = .ok (.ireturn, 1) := by decide +kernel
theorem dX10_weight_12 : decode cX10_weight 12 = .ok (.aload_n 0, 1) := by decide +kernel
theorem dX10_weight_13 : decode cX10_weight 13 = .ok (.getfield 78, 3) := by decide +kernel
theorem dX10_weight_16 : decode cX10_weight 16 = .ok (.iload_n 1, 1) := by decide +kernel
theorem dX10_weight_17 : decode cX10_weight 17 = .ok (.iaload, 1) := by decide +kernel
theorem dX10_weight_18 : decode cX10_weight 18 = .ok (.bipush 10, 2) := by decide +kernel
theorem dX10_weight_20 : decode cX10_weight 20 = .ok (.iadd, 1) := by decide +kernel
theorem dX10_weight_21 : decode cX10_weight 21 = .ok (.istore_n 3, 1) := by decide +kernel
theorem dX10_weight_22 : decode cX10_weight 22 = .ok (.aload_n 0, 1) := by decide +kernel
theorem dX10_weight_23 : decode cX10_weight 23 = .ok (.getfield 75, 3) := by decide +kernel
theorem dX10_weight_26 : decode cX10_weight 26 = .ok (.iload_n 1, 1) := by decide +kernel
theorem dX10_weight_27 : decode cX10_weight 27 = .ok (.iaload, 1) := by decide +kernel
theorem dX10_weight_28 : decode cX10_weight 28 = .ok (.tableswitch 42 0 2 #[28, 30, 35], 28) := by decide +kernel
theorem dX10_weight_56 : decode cX10_weight 56 = .ok (.iload_n 3, 1) := by decide +kernel
theorem dX10_weight_57 : decode cX10_weight 57 = .ok (.ireturn, 1) := by decide +kernel
theorem dX10_weight_58 : decode cX10_weight 58 = .ok (.iload_n 3, 1) := by decide +kernel
theorem dX10_weight_59 : decode cX10_weight 59 = .ok (.bipush 100, 2) := by decide +kernel
theorem dX10_weight_61 : decode cX10_weight 61 = .ok (.iadd, 1) := by decide +kernel
theorem dX10_weight_62 : decode cX10_weight 62 = .ok (.ireturn, 1) := by decide +kernel
theorem dX10_weight_63 : decode cX10_weight 63 = .ok (.iconst 2, 1) := by decide +kernel
theorem dX10_weight_64 : decode cX10_weight 64 = .ok (.iload_n 3, 1) := by decide +kernel
theorem dX10_weight_65 : decode cX10_weight 65 = .ok (.bipush 100, 2) := by decide +kernel
theorem dX10_weight_67 : decode cX10_weight 67 = .ok (.iadd, 1) := by decide +kernel
theorem dX10_weight_68 : decode cX10_weight 68 = .ok (.imul, 1) := by decide +kernel
theorem dX10_weight_69 : decode cX10_weight 69 = .ok (.ireturn, 1) := by decide +kernel
theorem dX10_weight_70 : decode cX10_weight 70 = .ok (.iload_n 3, 1) := by decide +kernel
theorem dX10_weight_71 : decode cX10_weight 71 = .ok (.sipush 500, 3) := by decide +kernel
theorem dX10_weight_74 : decode cX10_weight 74 = .ok (.iadd, 1) := by decide +kernel
theorem dX10_weight_75 : decode cX10_weight 75 = .ok (.aload_n 0, 1) := by decide +kernel
theorem dX10_weight_76 : decode cX10_weight 76 = .ok (.getfield 81, 3) := by decide +kernel
theorem dX10_weight_79 : decode cX10_weight 79 = .ok (.iload_n 1, 1) := by decide +kernel
theorem dX10_weight_80 : decode cX10_weight 80 = .ok (.iaload, 1) := by decide +kernel
theorem dX10_weight_81 : decode cX10_weight 81 = .ok (.iadd, 1) := by decide +kernel
theorem dX10_weight_82 : decode cX10_weight 82 = .ok (.ireturn, 1) := by decide +kernel
theorem dX10_toss_0 : decode cX10_toss 0 = .ok (.aload_n 0, 1) := by decide +kernel
theorem dX10_toss_1 : decode cX10_toss 1 = .ok (.iload_n 1, 1) := by decide +kernel
theorem dX10_toss_2 : decode cX10_toss 2 = .ok (.invokevirtual 226, 3) := by decide +kernel
theorem dX10_toss_5 : decode cX10_toss 5 = .ok (.istore_n 2, 1) := by decide +kernel
theorem dX10_toss_6 : decode cX10_toss 6 = .ok (.iload_n 2, 1) := by decide +kernel
theorem dX10_toss_7 : decode cX10_toss 7 = .ok (.ifCond .eq 7, 3) := by decide +kernel
theorem dX10_toss_10 : decode cX10_toss 10 = .ok (.iload_n 2, 1) := by decide +kernel
theorem dX10_toss_11 : decode cX10_toss 11 = .ok (.goto 23, 3) := by decide +kernel
theorem dX10_toss_14 : decode cX10_toss 14 = .ok (.aload_n 0, 1) := by decide +kernel
theorem dX10_toss_15 : decode cX10_toss 15 = .ok (.getfield 75, 3) := by decide +kernel
theorem dX10_toss_18 : decode cX10_toss 18 = .ok (.iload_n 1, 1) := by decide +kernel
theorem dX10_toss_19 : decode cX10_toss 19 = .ok (.iaload, 1) := by decide +kernel
theorem dX10_toss_20 : decode cX10_toss 20 = .ok (.ifCond .ne 8, 3) := by decide +kernel
theorem dX10_toss_23 : decode cX10_toss 23 = .ok (.bipush (-15), 2) := by decide +kernel
theorem dX10_toss_25 : decode cX10_toss 25 = .ok (.goto 9, 3) := by decide +kernel
theorem dX10_toss_28 : decode cX10_toss 28 = .ok (.aload_n 0, 1) := by decide +kernel
theorem dX10_toss_29 : decode cX10_toss 29 = .ok (.getfield 78, 3) := by decide +kernel
theorem dX10_toss_32 : decode cX10_toss 32 = .ok (.iload_n 1, 1) := by decide +kernel
theorem dX10_toss_33 : decode cX10_toss 33 = .ok (.iaload, 1) := by decide +kernel
theorem dX10_toss_34 : decode cX10_toss 34 = .ok (.ireturn, 1) := by decide +kernel
theorem dJ6_bitCount_0f7a4_0 : decode cJ6_bitCount_0f7a4 0 = .ok (.iload_n 0, 1) := by decide +kernel
theorem dJ6_bitCount_0f7a4_1 : decode cJ6_bitCount_0f7a4 1 = .ok (.iload_n 0, 1) := by decide +kernel
theorem dJ6_bitCount_0f7a4_2 : decode cJ6_bitCount_0f7a4 2 = .ok (.iconst 1, 1) := by decide +kernel
theorem dJ6_bitCount_0f7a4_3 : decode cJ6_bitCount_0f7a4 3 = .ok (.iushr, 1) := by decide +kernel
theorem dJ6_bitCount_0f7a4_4 : decode cJ6_bitCount_0f7a4 4 = .ok (.ldc_w 265, 3) := by decide +kernel
theorem dJ6_bitCount_0f7a4_7 : decode cJ6_bitCount_0f7a4 7 = .ok (.iand, 1) := by decide +kernel
theorem dJ6_bitCount_0f7a4_8 : decode cJ6_bitCount_0f7a4 8 = .ok (.isub, 1) := by decide +kernel
theorem dJ6_bitCount_0f7a4_9 : decode cJ6_bitCount_0f7a4 9 = .ok (.istore_n 0, 1) := by decide +kernel
theorem dJ6_bitCount_0f7a4_10 : decode cJ6_bitCount_0f7a4 10 = .ok (.iload_n 0, 1) := by decide +kernel
theorem dJ6_bitCount_0f7a4_11 : decode cJ6_bitCount_0f7a4 11 = .ok (.ldc_w 266, 3) := by decide +kernel
theorem dJ6_bitCount_0f7a4_14 : decode cJ6_bitCount_0f7a4 14 = .ok (.iand, 1) := by decide +kernel
theorem dJ6_bitCount_0f7a4_15 : decode cJ6_bitCount_0f7a4 15 = .ok (.iload_n 0, 1) := by decide +kernel
theorem dJ6_bitCount_0f7a4_16 : decode cJ6_bitCount_0f7a4 16 = .ok (.iconst 2, 1) := by decide +kernel
theorem dJ6_bitCount_0f7a4_17 : decode cJ6_bitCount_0f7a4 17 = .ok (.iushr, 1) := by decide +kernel
theorem dJ6_bitCount_0f7a4_18 : decode cJ6_bitCount_0f7a4 18 = .ok (.ldc_w 266, 3) := by decide +kernel
theorem dJ6_bitCount_0f7a4_21 : decode cJ6_bitCount_0f7a4 21 = .ok (.iand, 1) := by decide +kernel
theorem dJ6_bitCount_0f7a4_22 : decode cJ6_bitCount_0f7a4 22 = .ok (.iadd, 1) := by decide +kernel
theorem dJ6_bitCount_0f7a4_23 : decode cJ6_bitCount_0f7a4 23 = .ok (.istore_n 0, 1) := by decide +kernel
theorem dJ6_bitCount_0f7a4_24 : decode cJ6_bitCount_0f7a4 24 = .ok (.iload_n 0, 1) := by decide +kernel
theorem dJ6_bitCount_0f7a4_25 : decode cJ6_bitCount_0f7a4 25 = .ok (.iload_n 0, 1) := by decide +kernel
theorem dJ6_bitCount_0f7a4_26 : decode cJ6_bitCount_0f7a4 26 = .ok (.iconst 4, 1) := by decide +kernel
theorem dJ6_bitCount_0f7a4_27 : decode cJ6_bitCount_0f7a4 27 = .ok (.iushr, 1) := by decide +kernel
theorem dJ6_bitCount_0f7a4_28 : decode cJ6_bitCount_0f7a4 28 = .ok (.iadd, 1) := by decide +kernel
theorem dJ6_bitCount_0f7a4_29 : decode cJ6_bitCount_0f7a4 29 = .ok (.ldc_w 267, 3) := by decide +kernel
theorem dJ6_bitCount_0f7a4_32 : decode cJ6_bitCount_0f7a4 32 = .ok (.iand, 1) := by decide +kernel
theorem dJ6_bitCount_0f7a4_33 : decode cJ6_bitCount_0f7a4 33 = .ok (.istore_n 0, 1) := by decide +kernel
theorem dJ6_bitCount_0f7a4_34 : decode cJ6_bitCount_0f7a4 34 = .ok (.iload_n 0, 1) := by decide +kernel
theorem dJ6_bitCount_0f7a4_35 : decode cJ6_bitCount_0f7a4 35 = .ok (.iload_n 0, 1) := by decide +kernel
theorem dJ6_bitCount_0f7a4_36 : decode cJ6_bitCount_0f7a4 36 = .ok (.bipush 8, 2) := by decide +kernel
theorem dJ6_bitCount_0f7a4_38 : decode cJ6_bitCount_0f7a4 38 = .ok (.iushr, 1) := by decide +kernel
theorem dJ6_bitCount_0f7a4_39 : decode cJ6_bitCount_0f7a4 39 = .ok (.iadd, 1) := by decide +kernel
theorem dJ6_bitCount_0f7a4_40 : decode cJ6_bitCount_0f7a4 40 = .ok (.istore_n 0, 1) := by decide +kernel
theorem dJ6_bitCount_0f7a4_41 : decode cJ6_bitCount_0f7a4 41 = .ok (.iload_n 0, 1) := by decide +kernel
theorem dJ6_bitCount_0f7a4_42 : decode cJ6_bitCount_0f7a4 42 = .ok (.iload_n 0, 1) := by decide +kernel
theorem dJ6_bitCount_0f7a4_43 : decode cJ6_bitCount_0f7a4 43 = .ok (.bipush 16, 2) := by decide +kernel
theorem dJ6_bitCount_0f7a4_45 : decode cJ6_bitCount_0f7a4 45 = .ok (.iushr, 1) := by decide +kernel
theorem dJ6_bitCount_0f7a4_46 : decode cJ6_bitCount_0f7a4 46 = .ok (.iadd, 1) := by decide +kernel
theorem dJ6_bitCount_0f7a4_47 : decode cJ6_bitCount_0f7a4 47 = .ok (.istore_n 0, 1) := by decide +kernel
theorem dJ6_bitCount_0f7a4_48 : decode cJ6_bitCount_0f7a4 48 = .ok (.iload_n 0, 1) := by decide +kernel
theorem dJ6_bitCount_0f7a4_49 : decode cJ6_bitCount_0f7a4 49 = .ok (.bipush 63, 2) := by decide +kernel
theorem dJ6_bitCount_0f7a4_51 : decode cJ6_bitCount_0f7a4 51 = .ok (.iand, 1) := by decide +kernel
theorem dJ6_bitCount_0f7a4_52 : decode cJ6_bitCount_0f7a4 52 = .ok (.ireturn, 1) := by decide +kernel
theorem dJ9_floorMod_7cf53_0 : decode cJ9_floorMod_7cf53 0 = .ok (.iload_n 0, 1) := by decide +kernel
theorem dJ9_floorMod_7cf53_1 : decode cJ9_floorMod_7cf53 1 = .ok (.iload_n 1, 1) := by decide +kernel
theorem dJ9_floorMod_7cf53_2 : decode cJ9_floorMod_7cf53 2 = .ok (.irem, 1) := by decide +kernel
theorem dJ9_floorMod_7cf53_3 : decode cJ9_floorMod_7cf53 3 = .ok (.istore_n 2, 1) := by decide +kernel
theorem dJ9_floorMod_7cf53_4 : decode cJ9_floorMod_7cf53 4 = .ok (.iload_n 0, 1) := by decide +kernel
theorem dJ9_floorMod_7cf53_5 : decode cJ9_floorMod_7cf53 5 = .ok (.iload_n 1, 1) := by decide +kernel
theorem dJ9_floorMod_7cf53_6 : decode cJ9_floorMod_7cf53 6 = .ok (.ixor, 1) := by decide +kernel
theorem dJ9_floorMod_7cf53_7 : decode cJ9_floorMod_7cf53 7 = .ok (.ifCond .ge 11, 3) := by decide +kernel
theorem dJ9_floorMod_7cf53_10 : decode cJ9_floorMod_7cf53 10 = .ok (.iload_n 2, 1) := by decide +kernel
theorem dJ9_floorMod_7cf53_11 : decode cJ9_floorMod_7cf53 11 = .ok (.ifCond .eq 7, 3) := by decide +kernel
theorem dJ9_floorMod_7cf53_14 : decode cJ9_floorMod_7cf53 14 = .ok (.iload_n 2, 1) := by decide +kernel
theorem dJ9_floorMod_7cf53_15 : decode cJ9_floorMod_7cf53 15 = .ok (.iload_n 1, 1) := by decide +kernel
theorem dJ9_floorMod_7cf53_16 : decode cJ9_floorMod_7cf53 16 = .ok (.iadd, 1) := by decide +kernel
theorem dJ9_floorMod_7cf53_17 : decode cJ9_floorMod_7cf53 17 = .ok (.ireturn, 1) := by decide +kernel
theorem dJ9_floorMod_7cf53_18 : decode cJ9_floorMod_7cf53 18 = .ok (.iload_n 2, 1) := by decide +kernel
theorem dJ9_floorMod_7cf53_19 : decode cJ9_floorMod_7cf53 19 = .ok (.ireturn, 1) := by decide +kernel
theorem dJ9_max_7cf53_0 : decode cJ9_max_7cf53 0 = .ok (.iload_n 0, 1) := by decide +kernel
theorem dJ9_max_7cf53_1 : decode cJ9_max_7cf53 1 = .ok (.iload_n 1, 1) := by decide +kernel
theorem dJ9_max_7cf53_2 : decode cJ9_max_7cf53 2 = .ok (.if_icmp .lt 7, 3) := by decide +kernel
theorem dJ9_max_7cf53_5 : decode cJ9_max_7cf53 5 = .ok (.iload_n 0, 1) := by decide +kernel
theorem dJ9_max_7cf53_6 : decode cJ9_max_7cf53 6 = .ok (.goto 4, 3) := by decide +kernel
theorem dJ9_max_7cf53_9 : decode cJ9_max_7cf53 9 = .ok (.iload_n 1, 1) := by decide +kernel
theorem dJ9_max_7cf53_10 : decode cJ9_max_7cf53 10 = .ok (.ireturn, 1) := by decide +kernel
theorem dJ9_min_7cf53_0 : decode cJ9_min_7cf53 0 = .ok (.iload_n 0, 1) := by decide +kernel
theorem dJ9_min_7cf53_1 : decode cJ9_min_7cf53 1 = .ok (.iload_n 1, 1) := by decide +kernel
theorem dJ9_min_7cf53_2 : decode cJ9_min_7cf53 2 = .ok (.if_icmp .gt 7, 3) := by decide +kernel
theorem dJ9_min_7cf53_5 : decode cJ9_min_7cf53 5 = .ok (.iload_n 0, 1) := by decide +kernel
theorem dJ9_min_7cf53_6 : decode cJ9_min_7cf53 6 = .ok (.goto 4, 3) := by decide +kernel
theorem dJ9_min_7cf53_9 : decode cJ9_min_7cf53 9 = .ok (.iload_n 1, 1) := by decide +kernel
theorem dJ9_min_7cf53_10 : decode cJ9_min_7cf53 10 = .ok (.ireturn, 1) := by decide +kernel
theorem dJ7_fill_d0a16_0 : decode cJ7_fill_d0a16 0 = .ok (.iconst 0, 1) := by decide +kernel
theorem dJ7_fill_d0a16_1 : decode cJ7_fill_d0a16 1 = .ok (.istore_n 3, 1) := by decide +kernel
theorem dJ7_fill_d0a16_2 : decode cJ7_fill_d0a16 2 = .ok (.aload_n 0, 1) := by decide +kernel
theorem dJ7_fill_d0a16_3 : decode cJ7_fill_d0a16 3 = .ok (.arraylength, 1) := by decide +kernel
theorem dJ7_fill_d0a16_4 : decode cJ7_fill_d0a16 4 = .ok (.istore 4, 2) := by decide +kernel
theorem dJ7_fill_d0a16_6 : decode cJ7_fill_d0a16 6 = .ok (.iload_n 3, 1) := by decide +kernel
theorem dJ7_fill_d0a16_7 : decode cJ7_fill_d0a16 7 = .ok (.iload 4, 2) := by decide +kernel
theorem dJ7_fill_d0a16_9 : decode cJ7_fill_d0a16 9 = .ok (.if_icmp .ge 13, 3) := by decide +kernel
theorem dJ7_fill_d0a16_12 : decode cJ7_fill_d0a16 12 = .ok (.aload_n 0, 1) := by decide +kernel
theorem dJ7_fill_d0a16_13 : decode cJ7_fill_d0a16 13 = .ok (.iload_n 3, 1) := by decide +kernel
theorem dJ7_fill_d0a16_14 : decode cJ7_fill_d0a16 14 = .ok (.lload_n 1, 1) := by decide +kernel
theorem dJ7_fill_d0a16_15 : decode cJ7_fill_d0a16 15 = .ok (.lastore, 1) := by decide +kernel
theorem dJ7_fill_d0a16_16 : decode cJ7_fill_d0a16 16 = .ok (.iinc 3 1, 3) := by decide +kernel
theorem dJ7_fill_d0a16_19 : decode cJ7_fill_d0a16 19 = .ok (.goto (-13), 3) := by decide +kernel
theorem dJ7_fill_d0a16_22 : decode cJ7_fill_d0a16 22 = .ok (.return_, 1) := by decide +kernel
theorem dJ7_fill_53178_0 : decode cJ7_fill_53178 0 = .ok (.iconst 0, 1) := by decide +kernel
theorem dJ7_fill_53178_1 : decode cJ7_fill_53178 1 = .ok (.istore_n 2, 1) := by decide +kernel
theorem dJ7_fill_53178_2 : decode cJ7_fill_53178 2 = .ok (.aload_n 0, 1) := by decide +kernel
theorem dJ7_fill_53178_3 : decode cJ7_fill_53178 3 = .ok (.arraylength, 1) := by decide +kernel
theorem dJ7_fill_53178_4 : decode cJ7_fill_53178 4 = .ok (.istore_n 3, 1) := by decide +kernel
theorem dJ7_fill_53178_5 : decode cJ7_fill_53178 5 = .ok (.iload_n 2, 1) := by decide +kernel
theorem dJ7_fill_53178_6 : decode cJ7_fill_53178 6 = .ok (.iload_n 3, 1) := by decide +kernel
theorem dJ7_fill_53178_7 : decode cJ7_fill_53178 7 = .ok (.if_icmp .ge 13, 3) := by decide +kernel
theorem dJ7_fill_53178_10 : decode cJ7_fill_53178 10 = .ok (.aload_n 0, 1) := by decide +kernel
theorem dJ7_fill_53178_11 : decode cJ7_fill_53178 11 = .ok (.iload_n 2, 1) := by decide +kernel
theorem dJ7_fill_53178_12 : decode cJ7_fill_53178 12 = .ok (.iload_n 1, 1) := by decide +kernel
theorem dJ7_fill_53178_13 : decode cJ7_fill_53178 13 = .ok (.iastore, 1) := by decide +kernel
theorem dJ7_fill_53178_14 : decode cJ7_fill_53178 14 = .ok (.iinc 2 1, 3) := by decide +kernel
theorem dJ7_fill_53178_17 : decode cJ7_fill_53178 17 = .ok (.goto (-12), 3) := by decide +kernel
theorem dJ7_fill_53178_20 : decode cJ7_fill_53178 20 = .ok (.return_, 1) := by decide +kernel
