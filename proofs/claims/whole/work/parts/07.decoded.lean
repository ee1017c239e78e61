theorem dX10_rule_198 : decode cX10_rule 198 = .ok (.dup, 1) := by decide +kernel
theorem dX10_rule_199 : decode cX10_rule 199 = .ok (.getfield 116, 3) := by decide +kernel
theorem dX10_rule_202 : decode cX10_rule 202 = .ok (.iconst 1, 1) := by decide +kernel
theorem dX10_rule_203 : decode cX10_rule 203 = .ok (.iadd, 1) := by decide +kernel
theorem dX10_rule_204 : decode cX10_rule 204 = .ok (.putfield 116, 3) := by decide +kernel
theorem dX10_rule_207 : decode cX10_rule 207 = .ok (.aload_n 0, 1) := by decide +kernel
theorem dX10_rule_208 : decode cX10_rule 208 = .ok (.getfield 116, 3) := by decide +kernel
theorem dX10_rule_211 : decode cX10_rule 211 = .ok (.iconst 1, 1) := by decide +kernel
theorem dX10_rule_212 : decode cX10_rule 212 = .ok (.isub, 1) := by decide +kernel
theorem dX10_rule_213 : decode cX10_rule 213 = .ok (.ireturn, 1) := by decide +kernel
theorem dX10_isRow_0 : decode cX10_isRow 0 = .ok (.iload_n 1, 1) := by decide +kernel
theorem dX10_isRow_1 : decode cX10_isRow 1 = .ok (.aload_n 0, 1) := by decide +kernel
theorem dX10_isRow_2 : decode cX10_isRow 2 = .ok (.getfield 116, 3) := by decide +kernel
theorem dX10_isRow_5 : decode cX10_isRow 5 = .ok (.invokestatic 119, 3) := by decide +kernel
theorem dX10_isRow_8 : decode cX10_isRow 8 = .ok (.ifCond .eq 18, 3) := by decide +kernel
theorem dX10_isRow_11 : decode cX10_isRow 11 = .ok (.iload_n 2, 1) := by decide +kernel
theorem dX10_isRow_12 : decode cX10_isRow 12 = .ok (.aload_n 0, 1) := by decide +kernel
theorem dX10_isRow_13 : decode cX10_isRow 13 = .ok (.getfield 113, 3) := by decide +kernel
theorem dX10_isRow_16 : decode cX10_isRow 16 = .ok (.invokestatic 119, 3) := by decide +kernel
theorem dX10_isRow_19 : decode cX10_isRow 19 = .ok (.ifCond .eq 7, 3) := by decide +kernel
theorem dX10_isRow_22 : decode cX10_isRow 22 = .ok (.iconst 1, 1) := by decide +kernel
theorem dX10_isRow_23 : decode cX10_isRow 23 = .ok (.goto 4, 3) := by decide +kernel
theorem dX10_isRow_26 : decode cX10_isRow 26 = .ok (.iconst 0, 1) := by decide +kernel
theorem dX10_isRow_27 : decode cX10_isRow 27 = .ok (.ireturn, 1) := by decide +kernel
theorem dX10_put_0 : decode cX10_put 0 = .ok (.aload_n 0, 1) := by decide +kernel
theorem dX10_put_1 : decode cX10_put 1 = .ok (.iload_n 1, 1) := by decide +kernel
theorem dX10_put_2 : decode cX10_put 2 = .ok (.iload_n 2, 1) := by decide +kernel
theorem dX10_put_3 : decode cX10_put 3 = .ok (.invokevirtual 123, 3) := by decide +kernel
theorem dX10_put_6 : decode cX10_put 6 = .ok (.ifCond .eq 14, 3) := by decide +kernel
theorem dX10_put_9 : decode cX10_put 9 = .ok (.iload_n 3, 1) := by decide +kernel
theorem dX10_put_10 : decode cX10_put 10 = .ok (.aload_n 0, 1) := by decide +kernel
theorem dX10_put_11 : decode cX10_put 11 = .ok (.getfield 101, 3) := by decide +kernel
theorem dX10_put_14 : decode cX10_put 14 = .ok (.invokestatic 119, 3) := by decide +kernel
theorem dX10_put_17 : decode cX10_put 17 = .ok (.ifCond .ne 5, 3) := by decide +kernel
theorem dX10_put_20 : decode cX10_put 20 = .ok (.iconst (-1), 1) := by decide +kernel
theorem dX10_put_21 : decode cX10_put 21 = .ok (.ireturn, 1) := by decide +kernel
theorem dX10_put_22 : decode cX10_put 22 = .ok (.aload_n 0, 1) := by decide +kernel
theorem dX10_put_23 : decode cX10_put 23 = .ok (.getfield 16, 3) := by decide +kernel
theorem dX10_put_26 : decode cX10_put 26 = .ok (.iload_n 1, 1) := by decide +kernel
theorem dX10_put_27 : decode cX10_put 27 = .ok (.iaload, 1) := by decide +kernel
theorem dX10_put_28 : decode cX10_put 28 = .ok (.iconst 1, 1) := by decide +kernel
theorem dX10_put_29 : decode cX10_put 29 = .ok (.if_icmp .le 6, 3) := by decide +kernel
theorem dX10_put_32 : decode cX10_put 32 = .ok (.bipush (-4), 2) := by decide +kernel
theorem dX10_put_34 : decode cX10_put 34 = .ok (.ireturn, 1) := by decide +kernel
theorem dX10_put_35 : decode cX10_put 35 = .ok (.aload_n 0, 1) := by decide +kernel
theorem dX10_put_36 : decode cX10_put 36 = .ok (.getfield 19, 3) := by decide +kernel
theorem dX10_put_39 : decode cX10_put 39 = .ok (.sipush 1296, 3) := by decide +kernel
theorem dX10_put_42 : decode cX10_put 42 = .ok (.iload_n 1, 1) := by decide +kernel
theorem dX10_put_43 : decode cX10_put 43 = .ok (.imul, 1) := by decide +kernel
theorem dX10_put_44 : decode cX10_put 44 = .ok (.iload_n 2, 1) := by decide +kernel
theorem dX10_put_45 : decode cX10_put 45 = .ok (.iadd, 1) := by decide +kernel
theorem dX10_put_46 : decode cX10_put 46 = .ok (.iaload, 1) := by decide +kernel
theorem dX10_put_47 : decode cX10_put 47 = .ok (.istore 4, 2) := by decide +kernel
theorem dX10_put_49 : decode cX10_put 49 = .ok (.aload_n 0, 1) := by decide +kernel
theorem dX10_put_50 : decode cX10_put 50 = .ok (.getfield 19, 3) := by decide +kernel
theorem dX10_put_53 : decode cX10_put 53 = .ok (.sipush 1296, 3) := by decide +kernel
theorem dX10_put_56 : decode cX10_put 56 = .ok (.iload_n 1, 1) := by decide +kernel
theorem dX10_put_57 : decode cX10_put 57 = .ok (.imul, 1) := by decide +kernel
theorem dX10_put_58 : decode cX10_put 58 = .ok (.iload_n 2, 1) := by decide +kernel
theorem dX10_put_59 : decode cX10_put 59 = .ok (.iadd, 1) := by decide +kernel
theorem dX10_put_60 : decode cX10_put 60 = .ok (.iload_n 3, 1) := by decide +kernel
theorem dX10_put_61 : decode cX10_put 61 = .ok (.iastore, 1) := by decide +kernel
theorem dX10_put_62 : decode cX10_put 62 = .ok (.iload 4, 2) := by decide +kernel
theorem dX10_put_64 : decode cX10_put 64 = .ok (.ireturn, 1) := by decide +kernel
theorem dX10_pay_0 : decode cX10_pay 0 = .ok (.aload_n 0, 1) := by decide +kernel
theorem dX10_pay_1 : decode cX10_pay 1 = .ok (.iload_n 1, 1) := by decide +kernel
theorem dX10_pay_2 : decode cX10_pay 2 = .ok (.iload_n 2, 1) := by decide +kernel
theorem dX10_pay_3 : decode cX10_pay 3 = .ok (.invokevirtual 123, 3) := by decide +kernel
theorem dX10_pay_6 : decode cX10_pay 6 = .ok (.ifCond .eq 30, 3) := by decide +kernel
theorem dX10_pay_9 : decode cX10_pay 9 = .ok (.iload_n 3, 1) := by decide +kernel
theorem dX10_pay_10 : decode cX10_pay 10 = .ok (.aload_n 0, 1) := by decide +kernel
theorem dX10_pay_11 : decode cX10_pay 11 = .ok (.getfield 97, 3) := by decide +kernel
theorem dX10_pay_14 : decode cX10_pay 14 = .ok (.invokestatic 119, 3) := by decide +kernel
theorem dX10_pay_17 : decode cX10_pay 17 = .ok (.ifCond .eq 19, 3) := by decide +kernel
theorem dX10_pay_20 : decode cX10_pay 20 = .ok (.iload 4, 2) := by decide +kernel
theorem dX10_pay_22 : decode cX10_pay 22 = .ok (.sipush (-9999), 3) := by decide +kernel
theorem dX10_pay_25 : decode cX10_pay 25 = .ok (.if_icmp .lt 11, 3) := by decide +kernel
theorem dX10_pay_28 : decode cX10_pay 28 = .ok (.iload 4, 2) := by decide +kernel
theorem dX10_pay_30 : decode cX10_pay 30 = .ok (.sipush 9999, 3) := by decide +kernel
theorem dX10_pay_33 : decode cX10_pay 33 = .ok (.if_icmp .le 5, 3) := by decide +kernel
theorem dX10_pay_36 : decode cX10_pay 36 = .ok (.iconst (-1), 1) := by decide +kernel
theorem dX10_pay_37 : decode cX10_pay 37 = .ok (.ireturn, 1) := by decide +kernel
theorem dX10_pay_38 : decode cX10_pay 38 = .ok (.aload_n 0, 1) := by decide +kernel
theorem dX10_pay_39 : decode cX10_pay 39 = .ok (.getfield 16, 3) := by decide +kernel
theorem dX10_pay_42 : decode cX10_pay 42 = .ok (.iload_n 1, 1) := by decide +kernel
theorem dX10_pay_43 : decode cX10_pay 43 = .ok (.iaload, 1) := by decide +kernel
theorem dX10_pay_44 : decode cX10_pay 44 = .ok (.iconst 1, 1) := by decide +kernel
theorem dX10_pay_45 : decode cX10_pay 45 = .ok (.if_icmp .eq 6, 3) := by decide +kernel
theorem dX10_pay_48 : decode cX10_pay 48 = .ok (.bipush (-4), 2) := by decide +kernel
theorem dX10_pay_50 : decode cX10_pay 50 = .ok (.ireturn, 1) := by decide +kernel
theorem dX10_pay_51 : decode cX10_pay 51 = .ok (.iconst 4, 1) := by decide +kernel
theorem dX10_pay_52 : decode cX10_pay 52 = .ok (.sipush 1296, 3) := by decide +kernel
theorem dX10_pay_55 : decode cX10_pay 55 = .ok (.iload_n 1, 1) := by decide +kernel
theorem dX10_pay_56 : decode cX10_pay 56 = .ok (.imul, 1) := by decide +kernel
theorem dX10_pay_57 : decode cX10_pay 57 = .ok (.iload_n 2, 1) := by decide +kernel
theorem dX10_pay_58 : decode cX10_pay 58 = .ok (.iadd, 1) := by decide +kernel
theorem dX10_pay_59 : decode cX10_pay 59 = .ok (.imul, 1) := by decide +kernel
theorem dX10_pay_60 : decode cX10_pay 60 = .ok (.iload_n 3, 1) := by decide +kernel
theorem dX10_pay_61 : decode cX10_pay 61 = .ok (.iadd, 1) := by decide +kernel
theorem dX10_pay_62 : decode cX10_pay 62 = .ok (.istore 5, 2) := by decide +kernel
theorem dX10_pay_64 : decode cX10_pay 64 = .ok (.aload_n 0, 1) := by decide +kernel
theorem dX10_pay_65 : decode cX10_pay 65 = .ok (.getfield 23, 3) := by decide +kernel
theorem dX10_pay_68 : decode cX10_pay 68 = .ok (.iload 5, 2) := by decide +kernel
theorem dX10_pay_70 : decode cX10_pay 70 = .ok (.iaload, 1) := by decide +kernel
theorem dX10_pay_71 : decode cX10_pay 71 = .ok (.istore 6, 2) := by decide +kernel
theorem dX10_pay_73 : decode cX10_pay 73 = .ok (.aload_n 0, 1) := by decide +kernel
theorem dX10_pay_74 : decode cX10_pay 74 = .ok (.getfield 23, 3) := by decide +kernel
theorem dX10_pay_77 : decode cX10_pay 77 = .ok (.iload 5, 2) := by decide +kernel
theorem dX10_pay_79 : decode cX10_pay 79 = .ok (.iload 4, 2) := by decide +kernel
theorem dX10_pay_81 : decode cX10_pay 81 = .ok (.iastore, 1) := by decide +kernel
theorem dX10_pay_82 : decode cX10_pay 82 = .ok (.iload 6, 2) := by decide +kernel
theorem dX10_pay_84 : decode cX10_pay 84 = .ok (.iload 4, 2) := by decide +kernel
theorem dX10_pay_86 : decode cX10_pay 86 = .ok (.if_icmp .ne 7, 3) := by decide +kernel
theorem dX10_pay_89 : decode cX10_pay 89 = .ok (.iconst 0, 1) := by decide +kernel
theorem dX10_pay_90 : decode cX10_pay 90 = .ok (.goto 4, 3) := by decide +kernel
theorem dX10_pay_93 : decode cX10_pay 93 = .ok (.iconst 1, 1) := by decide +kernel
theorem dX10_pay_94 : decode cX10_pay 94 = .ok (.ireturn, 1) := by decide +kernel
theorem dX10_gift_0 : decode cX10_gift 0 = .ok (.iload_n 3, 1) := by decide +kernel
theorem dX10_gift_1 : decode cX10_gift 1 = .ok (.iconst (-1), 1) := by decide +kernel
theorem dX10_gift_2 : decode cX10_gift 2 = .ok (.if_icmp .ne 32, 3) := by decide +kernel
theorem dX10_gift_5 : decode cX10_gift 5 = .ok (.iload_n 2, 1) := by decide +kernel
theorem dX10_gift_6 : decode cX10_gift 6 = .ok (.aload_n 0, 1) := by decide +kernel
theorem dX10_gift_7 : decode cX10_gift 7 = .ok (.getfield 101, 3) := by decide +kernel
theorem dX10_gift_10 : decode cX10_gift 10 = .ok (.invokestatic 119, 3) := by decide +kernel
theorem dX10_gift_13 : decode cX10_gift 13 = .ok (.ifCond .eq 21, 3) := by decide +kernel
theorem dX10_gift_16 : decode cX10_gift 16 = .ok (.iload 4, 2) := by decide +kernel
theorem dX10_gift_18 : decode cX10_gift 18 = .ok (.bipush (-99), 2) := by decide +kernel
theorem dX10_gift_20 : decode cX10_gift 20 = .ok (.if_icmp .lt 14, 3) := by decide +kernel
theorem dX10_gift_23 : decode cX10_gift 23 = .ok (.iload 4, 2) := by decide +kernel
theorem dX10_gift_25 : decode cX10_gift 25 = .ok (.bipush 99, 2) := by decide +kernel
theorem dX10_gift_27 : decode cX10_gift 27 = .ok (.if_icmp .gt 7, 3) := by decide +kernel
theorem dX10_gift_30 : decode cX10_gift 30 = .ok (.iconst 1, 1) := by decide +kernel
theorem dX10_gift_31 : decode cX10_gift 31 = .ok (.goto 4, 3) := by decide +kernel
theorem dX10_gift_34 : decode cX10_gift 34 = .ok (.iconst 0, 1) := by decide +kernel
theorem dX10_gift_35 : decode cX10_gift 35 = .ok (.istore 5, 2) := by decide +kernel
theorem dX10_gift_37 : decode cX10_gift 37 = .ok (.iload_n 2, 1) := by decide +kernel
theorem dX10_gift_38 : decode cX10_gift 38 = .ok (.iconst (-1), 1) := by decide +kernel
theorem dX10_gift_39 : decode cX10_gift 39 = .ok (.if_icmp .ne 28, 3) := by decide +kernel
theorem dX10_gift_42 : decode cX10_gift 42 = .ok (.iload_n 3, 1) := by decide +kernel
theorem dX10_gift_43 : decode cX10_gift 43 = .ok (.aload_n 0, 1) := by decide +kernel
theorem dX10_gift_44 : decode cX10_gift 44 = .ok (.getfield 97, 3) := by decide +kernel
theorem dX10_gift_47 : decode cX10_gift 47 = .ok (.invokestatic 119, 3) := by decide +kernel
theorem dX10_gift_50 : decode cX10_gift 50 = .ok (.ifCond .eq 17, 3) := by decide +kernel
theorem dX10_gift_53 : decode cX10_gift 53 = .ok (.iload 4, 2) := by decide +kernel
theorem dX10_gift_55 : decode cX10_gift 55 = .ok (.bipush 10, 2) := by decide +kernel
theorem dX10_gift_57 : decode cX10_gift 57 = .ok (.invokestatic 119, 3) := by decide +kernel
theorem dX10_gift_60 : decode cX10_gift 60 = .ok (.ifCond .eq 7, 3) := by decide +kernel
theorem dX10_gift_63 : decode cX10_gift 63 = .ok (.iconst 1, 1) := by decide +kernel
theorem dX10_gift_64 : decode cX10_gift 64 = .ok (.goto 4, 3) := by decide +kernel
theorem dX10_gift_67 : decode cX10_gift 67 = .ok (.iconst 0, 1) := by decide +kernel
theorem dX10_gift_68 : decode cX10_gift 68 = .ok (.istore 6, 2) := by decide +kernel
theorem dX10_gift_70 : decode cX10_gift 70 = .ok (.iload_n 1, 1) := by decide +kernel
theorem dX10_gift_71 : decode cX10_gift 71 = .ok (.aload_n 0, 1) := by decide +kernel
theorem dX10_gift_72 : decode cX10_gift 72 = .ok (.getfield 116, 3) := by decide +kernel
theorem dX10_gift_75 : decode cX10_gift 75 = .ok (.invokestatic 119, 3) := by decide +kernel
theorem dX10_gift_78 : decode cX10_gift 78 = .ok (.ifCond .eq 13, 3) := by decide +kernel
theorem dX10_gift_81 : decode cX10_gift 81 = .ok (.iload 5, 2) := by decide +kernel
theorem dX10_gift_83 : decode cX10_gift 83 = .ok (.ifCond .ne 10, 3) := by decide +kernel
theorem dX10_gift_86 : decode cX10_gift 86 = .ok (.iload 6, 2) := by decide +kernel
theorem dX10_gift_88 : decode cX10_gift 88 = .ok (.ifCond .ne 5, 3) := by decide +kernel
theorem dX10_gift_91 : decode cX10_gift 91 = .ok (.iconst (-1), 1) := by decide +kernel
theorem dX10_gift_92 : decode cX10_gift 92 = .ok (.ireturn, 1) := by decide +kernel
theorem dX10_gift_93 : decode cX10_gift 93 = .ok (.aload_n 0, 1) := by decide +kernel
theorem dX10_gift_94 : decode cX10_gift 94 = .ok (.getfield 16, 3) := by decide +kernel
theorem dX10_gift_97 : decode cX10_gift 97 = .ok (.iload_n 1, 1) := by decide +kernel
theorem dX10_gift_98 : decode cX10_gift 98 = .ok (.iaload, 1) := by decide +kernel
theorem dX10_gift_99 : decode cX10_gift 99 = .ok (.iconst 2, 1) := by decide +kernel
theorem dX10_gift_100 : decode cX10_gift 100 = .ok (.if_icmp .eq 6, 3) := by decide +kernel
theorem dX10_gift_103 : decode cX10_gift 103 = .ok (.bipush (-4), 2) := by decide +kernel
theorem dX10_gift_105 : decode cX10_gift 105 = .ok (.ireturn, 1) := by decide +kernel
theorem dX10_gift_106 : decode cX10_gift 106 = .ok (.iload 5, 2) := by decide +kernel
theorem dX10_gift_108 : decode cX10_gift 108 = .ok (.ifCond .eq 16, 3) := by decide +kernel
theorem dX10_gift_111 : decode cX10_gift 111 = .ok (.aload_n 0, 1) := by decide +kernel
theorem dX10_gift_112 : decode cX10_gift 112 = .ok (.getfield 26, 3) := by decide +kernel
theorem dX10_gift_115 : decode cX10_gift 115 = .ok (.iconst 5, 1) := by decide +kernel
theorem dX10_gift_116 : decode cX10_gift 116 = .ok (.iload_n 1, 1) := by decide +kernel
theorem dX10_gift_117 : decode cX10_gift 117 = .ok (.imul, 1) := by decide +kernel
theorem dX10_gift_118 : decode cX10_gift 118 = .ok (.iload_n 2, 1) := by decide +kernel
theorem dX10_gift_119 : decode cX10_gift 119 = .ok (.iadd, 1) := by decide +kernel
theorem dX10_gift_120 : decode cX10_gift 120 = .ok (.iaload, 1) := by decide +kernel
theorem dX10_gift_121 : decode cX10_gift 121 = .ok (.goto 13, 3) := by decide +kernel
theorem dX10_gift_124 : decode cX10_gift 124 = .ok (.aload_n 0, 1) := by decide +kernel
theorem dX10_gift_125 : decode cX10_gift 125 = .ok (.getfield 29, 3) := by decide +kernel
theorem dX10_gift_128 : decode cX10_gift 128 = .ok (.iconst 4, 1) := by decide +kernel
theorem dX10_gift_129 : decode cX10_gift 129 = .ok (.iload_n 1, 1) := by decide +kernel
theorem dX10_gift_130 : decode cX10_gift 130 = .ok (.imul, 1) := by decide +kernel
theorem dX10_gift_131 : decode cX10_gift 131 = .ok (.iload_n 3, 1) := by decide +kernel
theorem dX10_gift_132 : decode cX10_gift 132 = .ok (.iadd, 1) := by decide +kernel
theorem dX10_gift_133 : decode cX10_gift 133 = .ok (.iaload, 1) := by decide +kernel
theorem dX10_gift_134 : decode cX10_gift 134 = .ok (.istore 7, 2) := by decide +kernel
theorem dX10_gift_136 : decode cX10_gift 136 = .ok (.iload 5, 2) := by decide +kernel
theorem dX10_gift_138 : decode cX10_gift 138 = .ok (.ifCond .eq 18, 3) := by decide +kernel
theorem dX10_gift_141 : decode cX10_gift 141 = .ok (.aload_n 0, 1) := by decide +kernel
theorem dX10_gift_142 : decode cX10_gift 142 = .ok (.getfield 26, 3) := by decide +kernel
theorem dX10_gift_145 : decode cX10_gift 145 = .ok (.iconst 5, 1) := by decide +kernel
theorem dX10_gift_146 : decode cX10_gift 146 = .ok (.iload_n 1, 1) := by decide +kernel
theorem dX10_gift_147 : decode cX10_gift 147 = .ok (.imul, 1) := by decide +kernel
theorem dX10_gift_148 : decode cX10_gift 148 = .ok (.iload_n 2, 1) := by decide +kernel
theorem dX10_gift_149 : decode cX10_gift 149 = .ok (.iadd, 1) := by decide +kernel
theorem dX10_gift_150 : decode cX10_gift 150 = .ok (.iload 4, 2) := by decide +kernel
theorem dX10_gift_152 : decode cX10_gift 152 = .ok (.iastore, 1) := by decide +kernel
theorem dX10_gift_153 : decode cX10_gift 153 = .ok (.goto 15, 3) := by decide +kernel
theorem dX10_gift_156 : decode cX10_gift 156 = .ok (.aload_n 0, 1) := by decide +kernel
theorem dX10_gift_157 : decode cX10_gift 157 = .ok (.getfield 29, 3) := by decide +kernel
theorem dX10_gift_160 : decode cX10_gift 160 = .ok (.iconst 4, 1) := by decide +kernel
theorem dX10_gift_161 : decode cX10_gift 161 = .ok (.iload_n 1, 1) := by decide +kernel
theorem dX10_gift_162 : decode cX10_gift 162 = .ok (.imul, 1) := by decide +kernel
theorem dX10_gift_163 : decode cX10_gift 163 = .ok (.iload_n 3, 1) := by decide +kernel
theorem dX10_gift_164 : decode cX10_gift 164 = .ok (.iadd, 1) := by decide +kernel
theorem dX10_gift_165 : decode cX10_gift 165 = .ok (.iload 4, 2) := by decide +kernel
theorem dX10_gift_167 : decode cX10_gift 167 = .ok (.iastore, 1) := by decide +kernel
theorem dX10_gift_168 : decode cX10_gift 168 = .ok (.iload 7, 2) := by decide +kernel
theorem dX10_gift_170 : decode cX10_gift 170 = .ok (.iload 4, 2) := by decide +kernel
theorem dX10_gift_172 : decode cX10_gift 172 = .ok (.if_icmp .ne 7, 3) := by decide +kernel
theorem dX10_gift_175 : decode cX10_gift 175 = .ok (.iconst 0, 1) := by decide +kernel
theorem dX10_gift_176 : decode cX10_gift 176 = .ok (.goto 4, 3) := by decide +kernel
theorem dX10_gift_179 : decode cX10_gift 179 = .ok (.iconst 1, 1) := by decide +kernel
theorem dX10_gift_180 : decode cX10_gift 180 = .ok (.ireturn, 1) := by decide +kernel
theorem dX10_middle_0 : decode cX10_middle 0 = .ok (.iload_n 1, 1) := by decide +kernel
theorem dX10_middle_1 : decode cX10_middle 1 = .ok (.aload_n 0, 1) := by decide +kernel
theorem dX10_middle_2 : decode cX10_middle 2 = .ok (.getfield 116, 3) := by decide +kernel
theorem dX10_middle_5 : decode cX10_middle 5 = .ok (.invokestatic 119, 3) := by decide +kernel
theorem dX10_middle_8 : decode cX10_middle 8 = .ok (.ifCond .eq 27, 3) := by decide +kernel
theorem dX10_middle_11 : decode cX10_middle 11 = .ok (.iload_n 2, 1) := by decide +kernel
theorem dX10_middle_12 : decode cX10_middle 12 = .ok (.aload_n 0, 1) := by decide +kernel
theorem dX10_middle_13 : decode cX10_middle 13 = .ok (.getfield 97, 3) := by decide +kernel
theorem dX10_middle_16 : decode cX10_middle 16 = .ok (.iconst 1, 1) := by decide +kernel
theorem dX10_middle_17 : decode cX10_middle 17 = .ok (.isub, 1) := by decide +kernel
theorem dX10_middle_18 : decode cX10_middle 18 = .ok (.invokestatic 119, 3) := by decide +kernel
theorem dX10_middle_21 : decode cX10_middle 21 = .ok (.ifCond .eq 14, 3) := by decide +kernel
theorem dX10_middle_24 : decode cX10_middle 24 = .ok (.iload_n 3, 1) := by decide +kernel
theorem dX10_middle_25 : decode cX10_middle 25 = .ok (.aload_n 0, 1) := by decide +kernel
theorem dX10_middle_26 : decode cX10_middle 26 = .ok (.getfield 101, 3) := by decide +kernel
theorem dX10_middle_29 : decode cX10_middle 29 = .ok (.invokestatic 119, 3) := by decide +kernel
theorem dX10_middle_32 : decode cX10_middle 32 = .ok (.ifCond .ne 5, 3) := by decide +kernel
theorem dX10_middle_35 : decode cX10_middle 35 = .ok (.iconst (-1), 1) := by decide +kernel
theorem dX10_middle_36 : decode cX10_middle 36 = .ok (.ireturn, 1) := by decide +kernel
theorem dX10_middle_37 : decode cX10_middle 37 = .ok (.aload_n 0, 1) := by decide +kernel
theorem dX10_middle_38 : decode cX10_middle 38 = .ok (.getfield 16, 3) := by decide +kernel
theorem dX10_middle_41 : decode cX10_middle 41 = .ok (.iload_n 1, 1) := by decide +kernel
theorem dX10_middle_42 : decode cX10_middle 42 = .ok (.iaload, 1) := by decide +kernel
theorem dX10_middle_43 : decode cX10_middle 43 = .ok (.iconst 3, 1) := by decide +kernel
theorem dX10_middle_44 : decode cX10_middle 44 = .ok (.if_icmp .eq 6, 3) := by decide +kernel
theorem dX10_middle_47 : decode cX10_middle 47 = .ok (.bipush (-4), 2) := by decide +kernel
theorem dX10_middle_49 : decode cX10_middle 49 = .ok (.ireturn, 1) := by decide +kernel
theorem dX10_middle_50 : decode cX10_middle 50 = .ok (.aload_n 0, 1) := by decide +kernel
theorem dX10_middle_51 : decode cX10_middle 51 = .ok (.getfield 32, 3) := by decide +kernel
theorem dX10_middle_54 : decode cX10_middle 54 = .ok (.iconst 4, 1) := by decide +kernel
theorem dX10_middle_55 : decode cX10_middle 55 = .ok (.iload_n 1, 1) := by decide +kernel
theorem dX10_middle_56 : decode cX10_middle 56 = .ok (.imul, 1) := by decide +kernel
theorem dX10_middle_57 : decode cX10_middle 57 = .ok (.iload_n 2, 1) := by decide +kernel
theorem dX10_middle_58 : decode cX10_middle 58 = .ok (.iadd, 1) := by decide +kernel
theorem dX10_middle_59 : decode cX10_middle 59 = .ok (.iaload, 1) := by decide +kernel
theorem dX10_middle_60 : decode cX10_middle 60 = .ok (.istore 4, 2) := by decide +kernel
theorem dX10_middle_62 : decode cX10_middle 62 = .ok (.aload_n 0, 1) := by decide +kernel
theorem dX10_middle_63 : decode cX10_middle 63 = .ok (.getfield 32, 3) := by decide +kernel
theorem dX10_middle_66 : decode cX10_middle 66 = .ok (.iconst 4, 1) := by decide +kernel
theorem dX10_middle_67 : decode cX10_middle 67 = .ok (.iload_n 1, 1) := by decide +kernel
theorem dX10_middle_68 : decode cX10_middle 68 = .ok (.imul, 1) := by decide +kernel
theorem dX10_middle_69 : decode cX10_middle 69 = .ok (.iload_n 2, 1) := by decide +kernel
theorem dX10_middle_70 : decode cX10_middle 70 = .ok (.iadd, 1) := by decide +kernel
theorem dX10_middle_71 : decode cX10_middle 71 = .ok (.iload_n 3, 1) := by decide +kernel
theorem dX10_middle_72 : decode cX10_middle 72 = .ok (.iastore, 1) := by decide +kernel
theorem dX10_middle_73 : decode cX10_middle 73 = .ok (.iload 4, 2) := by decide +kernel
theorem dX10_middle_75 : decode cX10_middle 75 = .ok (.ireturn, 1) := by decide +kernel
theorem dX10_wishOf_0 : decode cX10_wishOf 0 = .ok (.iload_n 1, 1) := by decide +kernel
theorem dX10_wishOf_1 : decode cX10_wishOf 1 = .ok (.aload_n 0, 1) := by decide +kernel
theorem dX10_wishOf_2 : decode cX10_wishOf 2 = .ok (.getfield 13, 3) := by decide +kernel
theorem dX10_wishOf_5 : decode cX10_wishOf 5 = .ok (.iload_n 2, 1) := by decide +kernel
theorem dX10_wishOf_6 : decode cX10_wishOf 6 = .ok (.iaload, 1) := by decide +kernel
theorem dX10_wishOf_7 : decode cX10_wishOf 7 = .ok (.idiv, 1) := by decide +kernel
theorem dX10_wishOf_8 : decode cX10_wishOf 8 = .ok (.aload_n 0, 1) := by decide +kernel
theorem dX10_wishOf_9 : decode cX10_wishOf 9 = .ok (.getfield 110, 3) := by decide +kernel
theorem dX10_wishOf_12 : decode cX10_wishOf 12 = .ok (.irem, 1) := by decide +kernel
theorem dX10_wishOf_13 : decode cX10_wishOf 13 = .ok (.ireturn, 1) := by decide +kernel
theorem dX10_saying_0 : decode cX10_saying 0 = .ok (.iload_n 1, 1) := by decide +kernel
theorem dX10_saying_1 : decode cX10_saying 1 = .ok (.iload_n 3, 1) := by decide +kernel
theorem dX10_saying_2 : decode cX10_saying 2 = .ok (.aload_n 0, 1) := by decide +kernel
theorem dX10_saying_3 : decode cX10_saying 3 = .ok (.iload_n 1, 1) := by decide +kernel
theorem dX10_saying_4 : decode cX10_saying 4 = .ok (.iload_n 2, 1) := by decide +kernel
theorem dX10_saying_5 : decode cX10_saying 5 = .ok (.invokevirtual 126, 3) := by decide +kernel
theorem dX10_saying_8 : decode cX10_saying 8 = .ok (.isub, 1) := by decide +kernel
theorem dX10_saying_9 : decode cX10_saying 9 = .ok (.aload_n 0, 1) := by decide +kernel
theorem dX10_saying_10 : decode cX10_saying 10 = .ok (.getfield 13, 3) := by decide +kernel
theorem dX10_saying_13 : decode cX10_saying 13 = .ok (.iload_n 2, 1) := by decide +kernel
theorem dX10_saying_14 : decode cX10_saying 14 = .ok (.iaload, 1) := by decide +kernel
theorem dX10_saying_15 : decode cX10_saying 15 = .ok (.imul, 1) := by decide +kernel
theorem dX10_saying_16 : decode cX10_saying 16 = .ok (.iadd, 1) := by decide +kernel
theorem dX10_saying_17 : decode cX10_saying 17 = .ok (.ireturn, 1) := by decide +kernel
theorem dX10_sumOf_0 : decode cX10_sumOf 0 = .ok (.aload_n 0, 1) := by decide +kernel
theorem dX10_sumOf_1 : decode cX10_sumOf 1 = .ok (.getfield 26, 3) := by decide +kernel
theorem dX10_sumOf_4 : decode cX10_sumOf 4 = .ok (.iconst 5, 1) := by decide +kernel
theorem dX10_sumOf_5 : decode cX10_sumOf 5 = .ok (.iload_n 1, 1) := by decide +kernel
theorem dX10_sumOf_6 : decode cX10_sumOf 6 = .ok (.imul, 1) := by decide +kernel
theorem dX10_sumOf_7 : decode cX10_sumOf 7 = .ok (.iload_n 3, 1) := by decide +kernel
theorem dX10_sumOf_8 : decode cX10_sumOf 8 = .ok (.iadd, 1) := by decide +kernel
theorem dX10_sumOf_9 : decode cX10_sumOf 9 = .ok (.iaload, 1) := by decide +kernel
theorem dX10_sumOf_10 : decode cX10_sumOf 10 = .ok (.istore 5, 2) := by decide +kernel
theorem dX10_sumOf_12 : decode cX10_sumOf 12 = .ok (.iconst 0, 1) := by decide +kernel
theorem dX10_sumOf_13 : decode cX10_sumOf 13 = .ok (.istore 6, 2) := by decide +kernel
theorem dX10_sumOf_15 : decode cX10_sumOf 15 = .ok (.iload 6, 2) := by decide +kernel
theorem dX10_sumOf_17 : decode cX10_sumOf 17 = .ok (.aload_n 0, 1) := by decide +kernel
theorem dX10_sumOf_18 : decode cX10_sumOf 18 = .ok (.getfield 97, 3) := by decide +kernel
theorem dX10_sumOf_21 : decode cX10_sumOf 21 = .ok (.if_icmp .ge 53, 3) := by decide +kernel
theorem dX10_sumOf_24 : decode cX10_sumOf 24 = .ok (.iload 5, 2) := by decide +kernel
theorem dX10_sumOf_26 : decode cX10_sumOf 26 = .ok (.iload 6, 2) := by decide +kernel
theorem dX10_sumOf_28 : decode cX10_sumOf 28 = .ok (.iload 4, 2) := by decide +kernel
theorem dX10_sumOf_30 : decode cX10_sumOf 30 = .ok (.if_icmp .ne 7, 3) := by decide +kernel
theorem dX10_sumOf_33 : decode cX10_sumOf 33 = .ok (.iconst 0, 1) := by decide +kernel
theorem dX10_sumOf_34 : decode cX10_sumOf 34 = .ok (.goto 31, 3) := by decide +kernel
theorem dX10_sumOf_37 : decode cX10_sumOf 37 = .ok (.aload_n 0, 1) := by decide +kernel
theorem dX10_sumOf_38 : decode cX10_sumOf 38 = .ok (.getfield 29, 3) := by decide +kernel
theorem dX10_sumOf_41 : decode cX10_sumOf 41 = .ok (.iconst 4, 1) := by decide +kernel
theorem dX10_sumOf_42 : decode cX10_sumOf 42 = .ok (.iload_n 1, 1) := by decide +kernel
theorem dX10_sumOf_43 : decode cX10_sumOf 43 = .ok (.imul, 1) := by decide +kernel
theorem dX10_sumOf_44 : decode cX10_sumOf 44 = .ok (.iload 6, 2) := by decide +kernel
theorem dX10_sumOf_46 : decode cX10_sumOf 46 = .ok (.iadd, 1) := by decide +kernel
theorem dX10_sumOf_47 : decode cX10_sumOf 47 = .ok (.iaload, 1) := by decide +kernel
theorem dX10_sumOf_48 : decode cX10_sumOf 48 = .ok (.aload_n 0, 1) := by decide +kernel
theorem dX10_sumOf_49 : decode cX10_sumOf 49 = .ok (.getfield 9, 3) := by decide +kernel
theorem dX10_sumOf_52 : decode cX10_sumOf 52 = .ok (.iconst 5, 1) := by decide +kernel
theorem dX10_sumOf_53 : decode cX10_sumOf 53 = .ok (.aload_n 0, 1) := by decide +kernel
theorem dX10_sumOf_54 : decode cX10_sumOf 54 = .ok (.iload_n 2, 1) := by decide +kernel
theorem dX10_sumOf_55 : decode cX10_sumOf 55 = .ok (.iload 6, 2) := by decide +kernel
theorem dX10_sumOf_57 : decode cX10_sumOf 57 = .ok (.invokevirtual 126, 3) := by decide +kernel
theorem dX10_sumOf_60 : decode cX10_sumOf 60 = .ok (.imul, 1) := by decide +kernel
theorem dX10_sumOf_61 : decode cX10_sumOf 61 = .ok (.iload_n 3, 1) := by decide +kernel
theorem dX10_sumOf_62 : decode cX10_sumOf 62 = .ok (.iadd, 1) := by decide +kernel
theorem dX10_sumOf_63 : decode cX10_sumOf 63 = .ok (.iaload, 1) := by decide +kernel
theorem dX10_sumOf_64 : decode cX10_sumOf 64 = .ok (.imul, 1) := by decide +kernel
theorem dX10_sumOf_65 : decode cX10_sumOf 65 = .ok (.iadd, 1) := by decide +kernel
theorem dX10_sumOf_66 : decode cX10_sumOf 66 = .ok (.istore 5, 2) := by decide +kernel
theorem dX10_sumOf_68 : decode cX10_sumOf 68 = .ok (.iinc 6 1, 3) := by decide +kernel
theorem dX10_sumOf_71 : decode cX10_sumOf 71 = .ok (.goto (-56), 3) := by decide +kernel
theorem dX10_sumOf_74 : decode cX10_sumOf 74 = .ok (.iload 5, 2) := by decide +kernel
theorem dX10_sumOf_76 : decode cX10_sumOf 76 = .ok (.ireturn, 1) := by decide +kernel
theorem dX10_greatest_0 : decode cX10_greatest 0 = .ok (.iconst 0, 1) := by decide +kernel
theorem dX10_greatest_1 : decode cX10_greatest 1 = .ok (.istore 4, 2) := by decide +kernel
theorem dX10_greatest_3 : decode cX10_greatest 3 = .ok (.iconst 1, 1) := by decide +kernel
theorem dX10_greatest_4 : decode cX10_greatest 4 = .ok (.istore 5, 2) := by decide +kernel
theorem dX10_greatest_6 : decode cX10_greatest 6 = .ok (.iload 5, 2) := by decide +kernel
theorem dX10_greatest_8 : decode cX10_greatest 8 = .ok (.aload_n 0, 1) := by decide +kernel
theorem dX10_greatest_9 : decode cX10_greatest 9 = .ok (.getfield 101, 3) := by decide +kernel
theorem dX10_greatest_12 : decode cX10_greatest 12 = .ok (.if_icmp .ge 34, 3) := by decide +kernel
theorem dX10_greatest_15 : decode cX10_greatest 15 = .ok (.aload_n 0, 1) := by decide +kernel
theorem dX10_greatest_16 : decode cX10_greatest 16 = .ok (.iload_n 1, 1) := by decide +kernel
theorem dX10_greatest_17 : decode cX10_greatest 17 = .ok (.iload_n 2, 1) := by decide +kernel
theorem dX10_greatest_18 : decode cX10_greatest 18 = .ok (.iload 5, 2) := by decide +kernel
theorem dX10_greatest_20 : decode cX10_greatest 20 = .ok (.iload_n 3, 1) := by decide +kernel
theorem dX10_greatest_21 : decode cX10_greatest 21 = .ok (.invokevirtual 129, 3) := by decide +kernel
theorem dX10_greatest_24 : decode cX10_greatest 24 = .ok (.aload_n 0, 1) := by decide +kernel
theorem dX10_greatest_25 : decode cX10_greatest 25 = .ok (.iload_n 1, 1) := by decide +kernel
theorem dX10_greatest_26 : decode cX10_greatest 26 = .ok (.iload_n 2, 1) := by decide +kernel
theorem dX10_greatest_27 : decode cX10_greatest 27 = .ok (.iload 4, 2) := by decide +kernel
theorem dX10_greatest_29 : decode cX10_greatest 29 = .ok (.iload_n 3, 1) := by decide +kernel
theorem dX10_greatest_30 : decode cX10_greatest 30 = .ok (.invokevirtual 129, 3) := by decide +kernel
theorem dX10_greatest_33 : decode cX10_greatest 33 = .ok (.if_icmp .le 7, 3) := by decide +kernel
theorem dX10_greatest_36 : decode cX10_greatest 36 = .ok (.iload 5, 2) := by decide +kernel
theorem dX10_greatest_38 : decode cX10_greatest 38 = .ok (.istore 4, 2) := by decide +kernel
theorem dX10_greatest_40 : decode cX10_greatest 40 = .ok (.iinc 5 1, 3) := by decide +kernel
theorem dX10_greatest_43 : decode cX10_greatest 43 = .ok (.goto (-37), 3) := by decide +kernel
theorem dX10_greatest_46 : decode cX10_greatest 46 = .ok (.iload 4, 2) := by decide +kernel
theorem dX10_greatest_48 : decode cX10_greatest 48 = .ok (.ireturn, 1) := by decide +kernel
theorem dX10_top_0 : decode cX10_top 0 = .ok (.iconst 0, 1) := by decide +kernel
theorem dX10_top_1 : decode cX10_top 1 = .ok (.istore_n 2, 1) := by decide +kernel
theorem dX10_top_2 : decode cX10_top 2 = .ok (.iconst 1, 1) := by decide +kernel
theorem dX10_top_3 : decode cX10_top 3 = .ok (.istore_n 3, 1) := by decide +kernel
theorem dX10_top_4 : decode cX10_top 4 = .ok (.iload_n 3, 1) := by decide +kernel
theorem dX10_top_5 : decode cX10_top 5 = .ok (.aload_n 0, 1) := by decide +kernel
theorem dX10_top_6 : decode cX10_top 6 = .ok (.getfield 101, 3) := by decide +kernel
theorem dX10_top_9 : decode cX10_top 9 = .ok (.if_icmp .ge 34, 3) := by decide +kernel
theorem dX10_top_12 : decode cX10_top 12 = .ok (.aload_n 0, 1) := by decide +kernel
theorem dX10_top_13 : decode cX10_top 13 = .ok (.getfield 9, 3) := by decide +kernel
theorem dX10_top_16 : decode cX10_top 16 = .ok (.iconst 5, 1) := by decide +kernel
theorem dX10_top_17 : decode cX10_top 17 = .ok (.iload_n 1, 1) := by decide +kernel
theorem dX10_top_18 : decode cX10_top 18 = .ok (.imul, 1) := by decide +kernel
theorem dX10_top_19 : decode cX10_top 19 = .ok (.iload_n 3, 1) := by decide +kernel
theorem dX10_top_20 : decode cX10_top 20 = .ok (.iadd, 1) := by decide +kernel
theorem dX10_top_21 : decode cX10_top 21 = .ok (.iaload, 1) := by decide +kernel
theorem dX10_top_22 : decode cX10_top 22 = .ok (.aload_n 0, 1) := by decide +kernel
theorem dX10_top_23 : decode cX10_top 23 = .ok (.getfield 9, 3) := by decide +kernel
theorem dX10_top_26 : decode cX10_top 26 = .ok (.iconst 5, 1) := by decide +kernel
theorem dX10_top_27 : decode cX10_top 27 = .ok (.iload_n 1, 1) := by decide +kernel
theorem dX10_top_28 : decode cX10_top 28 = .ok (.imul, 1) := by decide +kernel
theorem dX10_top_29 : decode cX10_top 29 = .ok (.iload_n 2, 1) := by decide +kernel
theorem dX10_top_30 : decode cX10_top 30 = .ok (.iadd, 1) := by decide +kernel
theorem dX10_top_31 : decode cX10_top 31 = .ok (.iaload, 1) := by decide +kernel
theorem dX10_top_32 : decode cX10_top 32 = .ok (.if_icmp .le 5, 3) := by decide +kernel
theorem dX10_top_35 : decode cX10_top 35 = .ok (.iload_n 3, 1) := by decide +kernel
theorem dX10_top_36 : decode cX10_top 36 = .ok (.istore_n 2, 1) := by decide +kernel
theorem dX10_top_37 : decode cX10_top 37 = .ok (.iinc 3 1, 3) := by decide +kernel
theorem dX10_top_40 : decode cX10_top 40 = .ok (.goto (-36), 3) := by decide +kernel
theorem dX10_top_43 : decode cX10_top 43 = .ok (.iload_n 2, 1) := by decide +kernel
theorem dX10_top_44 : decode cX10_top 44 = .ok (.ireturn, 1) := by decide +kernel
theorem dX10_middleOf_0 : decode cX10_middleOf 0 = .ok (.iconst 0, 1) := by decide +kernel
theorem dX10_middleOf_1 : decode cX10_middleOf 1 = .ok (.istore_n 3, 1) := by decide +kernel
theorem dX10_middleOf_2 : decode cX10_middleOf 2 = .ok (.iload_n 3, 1) := by decide +kernel
theorem dX10_middleOf_3 : decode cX10_middleOf 3 = .ok (.aload_n 0, 1) := by decide +kernel
theorem dX10_middleOf_4 : decode cX10_middleOf 4 = .ok (.getfield 101, 3) := by decide +kernel
theorem dX10_middleOf_7 : decode cX10_middleOf 7 = .ok (.if_icmp .ge 111, 3) := by decide +kernel
theorem dX10_middleOf_10 : decode cX10_middleOf 10 = .ok (.iconst 0, 1) := by decide +kernel
theorem dX10_middleOf_11 : decode cX10_middleOf 11 = .ok (.istore 4, 2) := by decide +kernel
theorem dX10_middleOf_13 : decode cX10_middleOf 13 = .ok (.iconst 0, 1) := by decide +kernel
theorem dX10_middleOf_14 : decode cX10_middleOf 14 = .ok (.istore 5, 2) := by decide +kernel
theorem dX10_middleOf_16 : decode cX10_middleOf 16 = .ok (.iload 5, 2) := by decide +kernel
theorem dX10_middleOf_18 : decode cX10_middleOf 18 = .ok (.aload_n 0, 1) := by decide +kernel
theorem dX10_middleOf_19 : decode cX10_middleOf 19 = .ok (.getfield 97, 3) := by decide +kernel
theorem dX10_middleOf_22 : decode cX10_middleOf 22 = .ok (.if_icmp .ge 34, 3) := by decide +kernel
theorem dX10_middleOf_25 : decode cX10_middleOf 25 = .ok (.iload 4, 2) := by decide +kernel
theorem dX10_middleOf_27 : decode cX10_middleOf 27 = .ok (.aload_n 0, 1) := by decide +kernel
theorem dX10_middleOf_28 : decode cX10_middleOf 28 = .ok (.aload_n 0, 1) := by decide +kernel
theorem dX10_middleOf_29 : decode cX10_middleOf 29 = .ok (.iload_n 2, 1) := by decide +kernel
theorem dX10_middleOf_30 : decode cX10_middleOf 30 = .ok (.iload 5, 2) := by decide +kernel
theorem dX10_middleOf_32 : decode cX10_middleOf 32 = .ok (.invokevirtual 126, 3) := by decide +kernel
theorem dX10_middleOf_35 : decode cX10_middleOf 35 = .ok (.invokevirtual 133, 3) := by decide +kernel
theorem dX10_middleOf_38 : decode cX10_middleOf 38 = .ok (.iload_n 3, 1) := by decide +kernel
theorem dX10_middleOf_39 : decode cX10_middleOf 39 = .ok (.if_icmp .gt 7, 3) := by decide +kernel
theorem dX10_middleOf_42 : decode cX10_middleOf 42 = .ok (.iconst 1, 1) := by decide +kernel
theorem dX10_middleOf_43 : decode cX10_middleOf 43 = .ok (.goto 4, 3) := by decide +kernel
theorem dX10_middleOf_46 : decode cX10_middleOf 46 = .ok (.iconst 0, 1) := by decide +kernel
theorem dX10_middleOf_47 : decode cX10_middleOf 47 = .ok (.iadd, 1) := by decide +kernel
theorem dX10_middleOf_48 : decode cX10_middleOf 48 = .ok (.istore 4, 2) := by decide +kernel
theorem dX10_middleOf_50 : decode cX10_middleOf 50 = .ok (.iinc 5 1, 3) := by decide +kernel
theorem dX10_middleOf_53 : decode cX10_middleOf 53 = .ok (.goto (-37), 3) := by decide +kernel
theorem dX10_middleOf_56 : decode cX10_middleOf 56 = .ok (.iconst 0, 1) := by decide +kernel
theorem dX10_middleOf_57 : decode cX10_middleOf 57 = .ok (.istore 5, 2) := by decide +kernel
theorem dX10_middleOf_59 : decode cX10_middleOf 59 = .ok (.iload 5, 2) := by decide +kernel
theorem dX10_middleOf_61 : decode cX10_middleOf 61 = .ok (.aload_n 0, 1) := by decide +kernel
theorem dX10_middleOf_62 : decode cX10_middleOf 62 = .ok (.getfield 97, 3) := by decide +kernel
theorem dX10_middleOf_65 : decode cX10_middleOf 65 = .ok (.iconst 1, 1) := by decide +kernel
theorem dX10_middleOf_66 : decode cX10_middleOf 66 = .ok (.isub, 1) := by decide +kernel
theorem dX10_middleOf_67 : decode cX10_middleOf 67 = .ok (.if_icmp .ge 34, 3) := by decide +kernel
theorem dX10_middleOf_70 : decode cX10_middleOf 70 = .ok (.iload 4, 2) := by decide +kernel
theorem dX10_middleOf_72 : decode cX10_middleOf 72 = .ok (.aload_n 0, 1) := by decide +kernel
theorem dX10_middleOf_73 : decode cX10_middleOf 73 = .ok (.getfield 32, 3) := by decide +kernel
theorem dX10_middleOf_76 : decode cX10_middleOf 76 = .ok (.iconst 4, 1) := by decide +kernel
theorem dX10_middleOf_77 : decode cX10_middleOf 77 = .ok (.iload_n 1, 1) := by decide +kernel
theorem dX10_middleOf_78 : decode cX10_middleOf 78 = .ok (.imul, 1) := by decide +kernel
theorem dX10_middleOf_79 : decode cX10_middleOf 79 = .ok (.iload 5, 2) := by decide +kernel
theorem dX10_middleOf_81 : decode cX10_middleOf 81 = .ok (.iadd, 1) := by decide +kernel
theorem dX10_middleOf_82 : decode cX10_middleOf 82 = .ok (.iaload, 1) := by decide +kernel
theorem dX10_middleOf_83 : decode cX10_middleOf 83 = .ok (.iload_n 3, 1) := by decide +kernel
theorem dX10_middleOf_84 : decode cX10_middleOf 84 = .ok (.if_icmp .gt 7, 3) := by decide +kernel
theorem dX10_middleOf_87 : decode cX10_middleOf 87 = .ok (.iconst 1, 1) := by decide +kernel
theorem dX10_middleOf_88 : decode cX10_middleOf 88 = .ok (.goto 4, 3) := by decide +kernel
theorem dX10_middleOf_91 : decode cX10_middleOf 91 = .ok (.iconst 0, 1) := by decide +kernel
theorem dX10_middleOf_92 : decode cX10_middleOf 92 = .ok (.iadd, 1) := by decide +kernel
theorem dX10_middleOf_93 : decode cX10_middleOf 93 = .ok (.istore 4, 2) := by decide +kernel
theorem dX10_middleOf_95 : decode cX10_middleOf 95 = .ok (.iinc 5 1, 3) := by decide +kernel
theorem dX10_middleOf_98 : decode cX10_middleOf 98 = .ok (.goto (-39), 3) := by decide +kernel
theorem dX10_middleOf_101 : decode cX10_middleOf 101 = .ok (.iload 4, 2) := by decide +kernel
theorem dX10_middleOf_103 : decode cX10_middleOf 103 = .ok (.aload_n 0, 1) := by decide +kernel
theorem dX10_middleOf_104 : decode cX10_middleOf 104 = .ok (.getfield 97, 3) := by decide +kernel
theorem dX10_middleOf_107 : decode cX10_middleOf 107 = .ok (.if_icmp .lt 5, 3) := by decide +kernel
theorem dX10_middleOf_110 : decode cX10_middleOf 110 = .ok (.iload_n 3, 1) := by decide +kernel
theorem dX10_middleOf_111 : decode cX10_middleOf 111 = .ok (.ireturn, 1) := by decide +kernel
theorem dX10_middleOf_112 : decode cX10_middleOf 112 = .ok (.iinc 3 1, 3) := by decide +kernel
theorem dX10_middleOf_115 : decode cX10_middleOf 115 = .ok (.goto (-113), 3) := by decide +kernel
theorem dX10_middleOf_118 : decode cX10_middleOf 118 = .ok (.aload_n 0, 1) := by decide +kernel
theorem dX10_middleOf_119 : decode cX10_middleOf 119 = .ok (.getfield 101, 3) := by decide +kernel
theorem dX10_middleOf_122 : decode cX10_middleOf 122 = .ok (.iconst 1, 1) := by decide +kernel
theorem dX10_middleOf_123 : decode cX10_middleOf 123 = .ok (.isub, 1) := by decide +kernel
theorem dX10_middleOf_124 : decode cX10_middleOf 124 = .ok (.ireturn, 1) := by decide +kernel
theorem dX10_ends_0 : decode cX10_ends 0 = .ok (.aload_n 0, 1) := by decide +kernel
theorem dX10_ends_1 : decode cX10_ends 1 = .ok (.getfield 16, 3) := by decide +kernel
theorem dX10_ends_4 : decode cX10_ends 4 = .ok (.iload_n 1, 1) := by decide +kernel
theorem dX10_ends_5 : decode cX10_ends 5 = .ok (.iaload, 1) := by decide +kernel
theorem dX10_ends_6 : decode cX10_ends 6 = .ok (.lookupswitch 41 #[(2, 26), (3, 34)], 26) := by decide +kernel
theorem dX10_ends_32 : decode cX10_ends 32 = .ok (.aload_n 0, 1) := by decide +kernel
theorem dX10_ends_33 : decode cX10_ends 33 = .ok (.iload_n 1, 1) := by decide +kernel
theorem dX10_ends_34 : decode cX10_ends 34 = .ok (.iload_n 2, 1) := by decide +kernel
theorem dX10_ends_35 : decode cX10_ends 35 = .ok (.iconst (-1), 1) := by decide +kernel
theorem dX10_ends_36 : decode cX10_ends 36 = .ok (.invokevirtual 137, 3) := by decide +kernel
theorem dX10_ends_39 : decode cX10_ends 39 = .ok (.ireturn, 1) := by decide +kernel
theorem dX10_ends_40 : decode cX10_ends 40 = .ok (.aload_n 0, 1) := by decide +kernel
theorem dX10_ends_41 : decode cX10_ends 41 = .ok (.iload_n 1, 1) := by decide +kernel
theorem dX10_ends_42 : decode cX10_ends 42 = .ok (.iload_n 2, 1) := by decide +kernel
theorem dX10_ends_43 : decode cX10_ends 43 = .ok (.invokevirtual 141, 3) := by decide +kernel
theorem dX10_ends_46 : decode cX10_ends 46 = .ok (.ireturn, 1) := by decide +kernel
theorem dX10_ends_47 : decode cX10_ends 47 = .ok (.aload_n 0, 1) := by decide +kernel
theorem dX10_ends_48 : decode cX10_ends 48 = .ok (.getfield 19, 3) := by decide +kernel
theorem dX10_ends_51 : decode cX10_ends 51 = .ok (.sipush 1296, 3) := by decide +kernel
theorem dX10_ends_54 : decode cX10_ends 54 = .ok (.iload_n 1, 1) := by decide +kernel
theorem dX10_ends_55 : decode cX10_ends 55 = .ok (.imul, 1) := by decide +kernel
theorem dX10_ends_56 : decode cX10_ends 56 = .ok (.iload_n 2, 1) := by decide +kernel
theorem dX10_ends_57 : decode cX10_ends 57 = .ok (.iadd, 1) := by decide +kernel
theorem dX10_ends_58 : decode cX10_ends 58 = .ok (.iaload, 1) := by decide +kernel
theorem dX10_ends_59 : decode cX10_ends 59 = .ok (.ireturn, 1) := by decide +kernel
theorem dX10_paysOf_0 : decode cX10_paysOf 0 = .ok (.aload_n 0, 1) := by decide +kernel
theorem dX10_paysOf_1 : decode cX10_paysOf 1 = .ok (.getfield 16, 3) := by decide +kernel
theorem dX10_paysOf_4 : decode cX10_paysOf 4 = .ok (.iload_n 1, 1) := by decide +kernel
theorem dX10_paysOf_5 : decode cX10_paysOf 5 = .ok (.iaload, 1) := by decide +kernel
theorem dX10_paysOf_6 : decode cX10_paysOf 6 = .ok (.iconst 1, 1) := by decide +kernel
theorem dX10_paysOf_7 : decode cX10_paysOf 7 = .ok (.if_icmp .ne 20, 3) := by decide +kernel
theorem dX10_paysOf_10 : decode cX10_paysOf 10 = .ok (.aload_n 0, 1) := by decide +kernel
theorem dX10_paysOf_11 : decode cX10_paysOf 11 = .ok (.getfield 23, 3) := by decide +kernel
theorem dX10_paysOf_14 : decode cX10_paysOf 14 = .ok (.iconst 4, 1) := by decide +kernel
theorem dX10_paysOf_15 : decode cX10_paysOf 15 = .ok (.sipush 1296, 3) := by decide +kernel
theorem dX10_paysOf_18 : decode cX10_paysOf 18 = .ok (.iload_n 1, 1) := by decide +kernel
theorem dX10_paysOf_19 : decode cX10_paysOf 19 = .ok (.imul, 1) := by decide +kernel
theorem dX10_paysOf_20 : decode cX10_paysOf 20 = .ok (.iload_n 2, 1) := by decide +kernel
theorem dX10_paysOf_21 : decode cX10_paysOf 21 = .ok (.iadd, 1) := by decide +kernel
theorem dX10_paysOf_22 : decode cX10_paysOf 22 = .ok (.imul, 1) := by decide +kernel
theorem dX10_paysOf_23 : decode cX10_paysOf 23 = .ok (.iload_n 3, 1) := by decide +kernel
theorem dX10_paysOf_24 : decode cX10_paysOf 24 = .ok (.iadd, 1) := by decide +kernel
theorem dX10_paysOf_25 : decode cX10_paysOf 25 = .ok (.iaload, 1) := by decide +kernel
theorem dX10_paysOf_26 : decode cX10_paysOf 26 = .ok (.ireturn, 1) := by decide +kernel
theorem dX10_paysOf_27 : decode cX10_paysOf 27 = .ok (.aload_n 0, 1) := by decide +kernel
theorem dX10_paysOf_28 : decode cX10_paysOf 28 = .ok (.getfield 16, 3) := by decide +kernel
theorem dX10_paysOf_31 : decode cX10_paysOf 31 = .ok (.iload_n 1, 1) := by decide +kernel
theorem dX10_paysOf_32 : decode cX10_paysOf 32 = .ok (.iaload, 1) := by decide +kernel
theorem dX10_paysOf_33 : decode cX10_paysOf 33 = .ok (.iconst 2, 1) := by decide +kernel
theorem dX10_paysOf_34 : decode cX10_paysOf 34 = .ok (.if_icmp .ne 16, 3) := by decide +kernel
theorem dX10_paysOf_37 : decode cX10_paysOf 37 = .ok (.aload_n 0, 1) := by decide +kernel
theorem dX10_paysOf_38 : decode cX10_paysOf 38 = .ok (.getfield 29, 3) := by decide +kernel
theorem dX10_paysOf_41 : decode cX10_paysOf 41 = .ok (.iconst 4, 1) := by decide +kernel
theorem dX10_paysOf_42 : decode cX10_paysOf 42 = .ok (.iload_n 1, 1) := by decide +kernel
theorem dX10_paysOf_43 : decode cX10_paysOf 43 = .ok (.imul, 1) := by decide +kernel
theorem dX10_paysOf_44 : decode cX10_paysOf 44 = .ok (.iload_n 3, 1) := by decide +kernel
theorem dX10_paysOf_45 : decode cX10_paysOf 45 = .ok (.iadd, 1) := by decide +kernel
theorem dX10_paysOf_46 : decode cX10_paysOf 46 = .ok (.iaload, 1) := by decide +kernel
theorem dX10_paysOf_47 : decode cX10_paysOf 47 = .ok (.ifCond .ne 5, 3) := by decide +kernel
theorem dX10_paysOf_50 : decode cX10_paysOf 50 = .ok (.iconst 0, 1) := by decide +kernel
theorem dX10_paysOf_51 : decode cX10_paysOf 51 = .ok (.ireturn, 1) := by decide +kernel
theorem dX10_paysOf_52 : decode cX10_paysOf 52 = .ok (.aload_n 0, 1) := by decide +kernel
theorem dX10_paysOf_53 : decode cX10_paysOf 53 = .ok (.iload_n 1, 1) := by decide +kernel
theorem dX10_paysOf_54 : decode cX10_paysOf 54 = .ok (.iload_n 2, 1) := by decide +kernel
theorem dX10_paysOf_55 : decode cX10_paysOf 55 = .ok (.aload_n 0, 1) := by decide +kernel
theorem dX10_paysOf_56 : decode cX10_paysOf 56 = .ok (.iload_n 1, 1) := by decide +kernel
theorem dX10_paysOf_57 : decode cX10_paysOf 57 = .ok (.iload_n 2, 1) := by decide +kernel
theorem dX10_paysOf_58 : decode cX10_paysOf 58 = .ok (.iload_n 3, 1) := by decide +kernel
theorem dX10_paysOf_59 : decode cX10_paysOf 59 = .ok (.invokevirtual 137, 3) := by decide +kernel
theorem dX10_paysOf_62 : decode cX10_paysOf 62 = .ok (.iload_n 3, 1) := by decide +kernel
theorem dX10_paysOf_63 : decode cX10_paysOf 63 = .ok (.invokevirtual 129, 3) := by decide +kernel
theorem dX10_paysOf_66 : decode cX10_paysOf 66 = .ok (.aload_n 0, 1) := by decide +kernel
theorem dX10_paysOf_67 : decode cX10_paysOf 67 = .ok (.iload_n 1, 1) := by decide +kernel
theorem dX10_paysOf_68 : decode cX10_paysOf 68 = .ok (.iload_n 2, 1) := by decide +kernel
theorem dX10_paysOf_69 : decode cX10_paysOf 69 = .ok (.aload_n 0, 1) := by decide +kernel
theorem dX10_paysOf_70 : decode cX10_paysOf 70 = .ok (.iload_n 1, 1) := by decide +kernel
theorem dX10_paysOf_71 : decode cX10_paysOf 71 = .ok (.iload_n 2, 1) := by decide +kernel
theorem dX10_paysOf_72 : decode cX10_paysOf 72 = .ok (.iconst (-1), 1) := by decide +kernel
theorem dX10_paysOf_73 : decode cX10_paysOf 73 = .ok (.invokevirtual 137, 3) := by decide +kernel
theorem dX10_paysOf_76 : decode cX10_paysOf 76 = .ok (.iload_n 3, 1) := by decide +kernel
theorem dX10_paysOf_77 : decode cX10_paysOf 77 = .ok (.invokevirtual 129, 3) := by decide +kernel
theorem dX10_paysOf_80 : decode cX10_paysOf 80 = .ok (.isub, 1) := by decide +kernel
theorem dX10_paysOf_81 : decode cX10_paysOf 81 = .ok (.istore 4, 2) := by decide +kernel
theorem dX10_paysOf_83 : decode cX10_paysOf 83 = .ok (.iload 4, 2) := by decide +kernel
theorem dX10_paysOf_85 : decode cX10_paysOf 85 = .ok (.aload_n 0, 1) := by decide +kernel
theorem dX10_paysOf_86 : decode cX10_paysOf 86 = .ok (.getfield 29, 3) := by decide +kernel
theorem dX10_paysOf_89 : decode cX10_paysOf 89 = .ok (.iconst 4, 1) := by decide +kernel
theorem dX10_paysOf_90 : decode cX10_paysOf 90 = .ok (.iload_n 1, 1) := by decide +kernel
theorem dX10_paysOf_91 : decode cX10_paysOf 91 = .ok (.imul, 1) := by decide +kernel
theorem dX10_paysOf_92 : decode cX10_paysOf 92 = .ok (.iload_n 3, 1) := by decide +kernel
theorem dX10_paysOf_93 : decode cX10_paysOf 93 = .ok (.iadd, 1) := by decide +kernel
theorem dX10_paysOf_94 : decode cX10_paysOf 94 = .ok (.iaload, 1) := by decide +kernel
theorem dX10_paysOf_95 : decode cX10_paysOf 95 = .ok (.idiv, 1) := by decide +kernel
theorem dX10_paysOf_96 : decode cX10_paysOf 96 = .ok (.ireturn, 1) := by decide +kernel
theorem dX10_end_0 : decode cX10_end 0 = .ok (.aload_n 0, 1) := by decide +kernel
theorem dX10_end_1 : decode cX10_end 1 = .ok (.iload_n 1, 1) := by decide +kernel
theorem dX10_end_2 : decode cX10_end 2 = .ok (.iload_n 2, 1) := by decide +kernel
theorem dX10_end_3 : decode cX10_end 3 = .ok (.invokevirtual 123, 3) := by decide +kernel
theorem dX10_end_6 : decode cX10_end 6 = .ok (.ifCond .eq 12, 3) := by decide +kernel
theorem dX10_end_9 : decode cX10_end 9 = .ok (.aload_n 0, 1) := by decide +kernel
theorem dX10_end_10 : decode cX10_end 10 = .ok (.iload_n 1, 1) := by decide +kernel
theorem dX10_end_11 : decode cX10_end 11 = .ok (.iload_n 2, 1) := by decide +kernel
theorem dX10_end_12 : decode cX10_end 12 = .ok (.invokevirtual 144, 3) := by decide +kernel
theorem dX10_end_15 : decode cX10_end 15 = .ok (.goto 4, 3) := by decide +kernel
theorem dX10_end_18 : decode cX10_end 18 = .ok (.iconst (-1), 1) := by decide +kernel
theorem dX10_end_19 : decode cX10_end 19 = .ok (.ireturn, 1) := by decide +kernel
theorem dX10_pays_0 : decode cX10_pays 0 = .ok (.aload_n 0, 1) := by decide +kernel
theorem dX10_pays_1 : decode cX10_pays 1 = .ok (.iconst 0, 1) := by decide +kernel
theorem dX10_pays_2 : decode cX10_pays 2 = .ok (.putfield 107, 3) := by decide +kernel
theorem dX10_pays_5 : decode cX10_pays 5 = .ok (.aload_n 0, 1) := by decide +kernel
theorem dX10_pays_6 : decode cX10_pays 6 = .ok (.iload_n 1, 1) := by decide +kernel
theorem dX10_pays_7 : decode cX10_pays 7 = .ok (.iload_n 2, 1) := by decide +kernel
theorem dX10_pays_8 : decode cX10_pays 8 = .ok (.invokevirtual 123, 3) := by decide +kernel
theorem dX10_pays_11 : decode cX10_pays 11 = .ok (.ifCond .eq 14, 3) := by decide +kernel
theorem dX10_pays_14 : decode cX10_pays 14 = .ok (.iload_n 3, 1) := by decide +kernel
theorem dX10_pays_15 : decode cX10_pays 15 = .ok (.aload_n 0, 1) := by decide +kernel
theorem dX10_pays_16 : decode cX10_pays 16 = .ok (.getfield 97, 3) := by decide +kernel
theorem dX10_pays_19 : decode cX10_pays 19 = .ok (.invokestatic 119, 3) := by decide +kernel
theorem dX10_pays_22 : decode cX10_pays 22 = .ok (.ifCond .ne 9, 3) := by decide +kernel
theorem dX10_pays_25 : decode cX10_pays 25 = .ok (.aload_n 0, 1) := by decide +kernel
theorem dX10_pays_26 : decode cX10_pays 26 = .ok (.iconst 1, 1) := by decide +kernel
theorem dX10_pays_27 : decode cX10_pays 27 = .ok (.invokevirtual 147, 3) := by decide +kernel
theorem dX10_pays_30 : decode cX10_pays 30 = .ok (.ireturn, 1) := by decide +kernel
theorem dX10_pays_31 : decode cX10_pays 31 = .ok (.aload_n 0, 1) := by decide +kernel
theorem dX10_pays_32 : decode cX10_pays 32 = .ok (.iload_n 1, 1) := by decide +kernel
theorem dX10_pays_33 : decode cX10_pays 33 = .ok (.iload_n 2, 1) := by decide +kernel
theorem dX10_pays_34 : decode cX10_pays 34 = .ok (.iload_n 3, 1) := by decide +kernel
theorem dX10_pays_35 : decode cX10_pays 35 = .ok (.invokevirtual 150, 3) := by decide +kernel
theorem dX10_pays_38 : decode cX10_pays 38 = .ok (.ireturn, 1) := by decide +kernel
theorem dX10_said_0 : decode cX10_said 0 = .ok (.iload_n 1, 1) := by decide +kernel
theorem dX10_said_1 : decode cX10_said 1 = .ok (.aload_n 0, 1) := by decide +kernel
theorem dX10_said_2 : decode cX10_said 2 = .ok (.getfield 113, 3) := by decide +kernel
theorem dX10_said_5 : decode cX10_said 5 = .ok (.invokestatic 119, 3) := by decide +kernel
theorem dX10_said_8 : decode cX10_said 8 = .ok (.ifCond .eq 35, 3) := by decide +kernel
theorem dX10_said_11 : decode cX10_said 11 = .ok (.iload_n 2, 1) := by decide +kernel
theorem dX10_said_12 : decode cX10_said 12 = .ok (.aload_n 0, 1) := by decide +kernel
theorem dX10_said_13 : decode cX10_said 13 = .ok (.getfield 97, 3) := by decide +kernel
theorem dX10_said_16 : decode cX10_said 16 = .ok (.invokestatic 119, 3) := by decide +kernel
theorem dX10_said_19 : decode cX10_said 19 = .ok (.ifCond .eq 24, 3) := by decide +kernel
theorem dX10_said_22 : decode cX10_said 22 = .ok (.iload_n 3, 1) := by decide +kernel
theorem dX10_said_23 : decode cX10_said 23 = .ok (.aload_n 0, 1) := by decide +kernel
theorem dX10_said_24 : decode cX10_said 24 = .ok (.getfield 110, 3) := by decide +kernel
theorem dX10_said_27 : decode cX10_said 27 = .ok (.invokestatic 119, 3) := by decide +kernel
theorem dX10_said_30 : decode cX10_said 30 = .ok (.ifCond .eq 13, 3) := by decide +kernel
theorem dX10_said_33 : decode cX10_said 33 = .ok (.aload_n 0, 1) := by decide +kernel
theorem dX10_said_34 : decode cX10_said 34 = .ok (.iload_n 1, 1) := by decide +kernel
theorem dX10_said_35 : decode cX10_said 35 = .ok (.iload_n 2, 1) := by decide +kernel
theorem dX10_said_36 : decode cX10_said 36 = .ok (.iload_n 3, 1) := by decide +kernel
theorem dX10_said_37 : decode cX10_said 37 = .ok (.invokevirtual 153, 3) := by decide +kernel
theorem dX10_said_40 : decode cX10_said 40 = .ok (.goto 4, 3) := by decide +kernel
theorem dX10_said_43 : decode cX10_said 43 = .ok (.iconst (-1), 1) := by decide +kernel
theorem dX10_said_44 : decode cX10_said 44 = .ok (.ireturn, 1) := by decide +kernel
theorem dX10_worthOf_0 : decode cX10_worthOf 0 = .ok (.aload_n 0, 1) := by decide +kernel
theorem dX10_worthOf_1 : decode cX10_worthOf 1 = .ok (.getfield 9, 3) := by decide +kernel
theorem dX10_worthOf_4 : decode cX10_worthOf 4 = .ok (.iconst 5, 1) := by decide +kernel
theorem dX10_worthOf_5 : decode cX10_worthOf 5 = .ok (.iload 4, 2) := by decide +kernel
theorem dX10_worthOf_7 : decode cX10_worthOf 7 = .ok (.imul, 1) := by decide +kernel
theorem dX10_worthOf_8 : decode cX10_worthOf 8 = .ok (.aload_n 0, 1) := by decide +kernel
theorem dX10_worthOf_9 : decode cX10_worthOf 9 = .ok (.iload_n 1, 1) := by decide +kernel
theorem dX10_worthOf_10 : decode cX10_worthOf 10 = .ok (.iload_n 2, 1) := by decide +kernel
theorem dX10_worthOf_11 : decode cX10_worthOf 11 = .ok (.invokevirtual 144, 3) := by decide +kernel
theorem dX10_worthOf_14 : decode cX10_worthOf 14 = .ok (.iadd, 1) := by decide +kernel
theorem dX10_worthOf_15 : decode cX10_worthOf 15 = .ok (.iaload, 1) := by decide +kernel
theorem dX10_worthOf_16 : decode cX10_worthOf 16 = .ok (.aload_n 0, 1) := by decide +kernel
theorem dX10_worthOf_17 : decode cX10_worthOf 17 = .ok (.iload_n 1, 1) := by decide +kernel
theorem dX10_worthOf_18 : decode cX10_worthOf 18 = .ok (.iload_n 2, 1) := by decide +kernel
theorem dX10_worthOf_19 : decode cX10_worthOf 19 = .ok (.iload_n 3, 1) := by decide +kernel
theorem dX10_worthOf_20 : decode cX10_worthOf 20 = .ok (.invokevirtual 150, 3) := by decide +kernel
theorem dX10_worthOf_23 : decode cX10_worthOf 23 = .ok (.isub, 1) := by decide +kernel
theorem dX10_worthOf_24 : decode cX10_worthOf 24 = .ok (.ireturn, 1) := by decide +kernel
theorem dX10_gainOf_0 : decode cX10_gainOf 0 = .ok (.aload_n 0, 1) := by decide +kernel
theorem dX10_gainOf_1 : decode cX10_gainOf 1 = .ok (.iload_n 2, 1) := by decide +kernel
theorem dX10_gainOf_2 : decode cX10_gainOf 2 = .ok (.iload_n 3, 1) := by decide +kernel
theorem dX10_gainOf_3 : decode cX10_gainOf 3 = .ok (.invokevirtual 126, 3) := by decide +kernel
theorem dX10_gainOf_6 : decode cX10_gainOf 6 = .ok (.istore 5, 2) := by decide +kernel
theorem dX10_gainOf_8 : decode cX10_gainOf 8 = .ok (.aload_n 0, 1) := by decide +kernel
theorem dX10_gainOf_9 : decode cX10_gainOf 9 = .ok (.iload_n 1, 1) := by decide +kernel
theorem dX10_gainOf_10 : decode cX10_gainOf 10 = .ok (.iload 4, 2) := by decide +kernel
theorem dX10_gainOf_12 : decode cX10_gainOf 12 = .ok (.iload_n 3, 1) := by decide +kernel
theorem dX10_gainOf_13 : decode cX10_gainOf 13 = .ok (.iload 5, 2) := by decide +kernel
theorem dX10_gainOf_15 : decode cX10_gainOf 15 = .ok (.invokevirtual 156, 3) := by decide +kernel
theorem dX10_gainOf_18 : decode cX10_gainOf 18 = .ok (.aload_n 0, 1) := by decide +kernel
theorem dX10_gainOf_19 : decode cX10_gainOf 19 = .ok (.iload_n 1, 1) := by decide +kernel
theorem dX10_gainOf_20 : decode cX10_gainOf 20 = .ok (.iload_n 2, 1) := by decide +kernel
theorem dX10_gainOf_21 : decode cX10_gainOf 21 = .ok (.iload_n 3, 1) := by decide +kernel
theorem dX10_gainOf_22 : decode cX10_gainOf 22 = .ok (.iload 5, 2) := by decide +kernel
theorem dX10_gainOf_24 : decode cX10_gainOf 24 = .ok (.invokevirtual 156, 3) := by decide +kernel
theorem dX10_gainOf_27 : decode cX10_gainOf 27 = .ok (.isub, 1) := by decide +kernel
theorem dX10_gainOf_28 : decode cX10_gainOf 28 = .ok (.ireturn, 1) := by decide +kernel
theorem dX10_gain_0 : decode cX10_gain 0 = .ok (.aload_n 0, 1) := by decide +kernel
theorem dX10_gain_1 : decode cX10_gain 1 = .ok (.iconst 0, 1) := by decide +kernel
theorem dX10_gain_2 : decode cX10_gain 2 = .ok (.putfield 107, 3) := by decide +kernel
theorem dX10_gain_5 : decode cX10_gain 5 = .ok (.aload_n 0, 1) := by decide +kernel
theorem dX10_gain_6 : decode cX10_gain 6 = .ok (.iload_n 1, 1) := by decide +kernel
theorem dX10_gain_7 : decode cX10_gain 7 = .ok (.iload_n 2, 1) := by decide +kernel
theorem dX10_gain_8 : decode cX10_gain 8 = .ok (.invokevirtual 123, 3) := by decide +kernel
theorem dX10_gain_11 : decode cX10_gain 11 = .ok (.ifCond .eq 26, 3) := by decide +kernel
theorem dX10_gain_14 : decode cX10_gain 14 = .ok (.iload_n 3, 1) := by decide +kernel
theorem dX10_gain_15 : decode cX10_gain 15 = .ok (.aload_n 0, 1) := by decide +kernel
theorem dX10_gain_16 : decode cX10_gain 16 = .ok (.getfield 97, 3) := by decide +kernel
theorem dX10_gain_19 : decode cX10_gain 19 = .ok (.invokestatic 119, 3) := by decide +kernel
theorem dX10_gain_22 : decode cX10_gain 22 = .ok (.ifCond .eq 15, 3) := by decide +kernel
theorem dX10_gain_25 : decode cX10_gain 25 = .ok (.iload 4, 2) := by decide +kernel
theorem dX10_gain_27 : decode cX10_gain 27 = .ok (.aload_n 0, 1) := by decide +kernel
theorem dX10_gain_28 : decode cX10_gain 28 = .ok (.getfield 110, 3) := by decide +kernel
theorem dX10_gain_31 : decode cX10_gain 31 = .ok (.invokestatic 119, 3) := by decide +kernel
theorem dX10_gain_34 : decode cX10_gain 34 = .ok (.ifCond .ne 9, 3) := by decide +kernel
theorem dX10_gain_37 : decode cX10_gain 37 = .ok (.aload_n 0, 1) := by decide +kernel
theorem dX10_gain_38 : decode cX10_gain 38 = .ok (.iconst 1, 1) := by decide +kernel
theorem dX10_gain_39 : decode cX10_gain 39 = .ok (.invokevirtual 147, 3) := by decide +kernel
theorem dX10_gain_42 : decode cX10_gain 42 = .ok (.ireturn, 1) := by decide +kernel
theorem dX10_gain_43 : decode cX10_gain 43 = .ok (.aload_n 0, 1) := by decide +kernel
theorem dX10_gain_44 : decode cX10_gain 44 = .ok (.iload_n 1, 1) := by decide +kernel
theorem dX10_gain_45 : decode cX10_gain 45 = .ok (.iload_n 2, 1) := by decide +kernel
theorem dX10_gain_46 : decode cX10_gain 46 = .ok (.iload_n 3, 1) := by decide +kernel
theorem dX10_gain_47 : decode cX10_gain 47 = .ok (.aload_n 0, 1) := by decide +kernel
theorem dX10_gain_48 : decode cX10_gain 48 = .ok (.iload_n 2, 1) := by decide +kernel
theorem dX10_gain_49 : decode cX10_gain 49 = .ok (.iload_n 3, 1) := by decide +kernel
theorem dX10_gain_50 : decode cX10_gain 50 = .ok (.iload 4, 2) := by decide +kernel
theorem dX10_gain_52 : decode cX10_gain 52 = .ok (.invokevirtual 153, 3) := by decide +kernel
theorem dX10_gain_55 : decode cX10_gain 55 = .ok (.invokevirtual 159, 3) := by decide +kernel
theorem dX10_gain_58 : decode cX10_gain 58 = .ok (.ireturn, 1) := by decide +kernel
theorem dX10_lie_0 : decode cX10_lie 0 = .ok (.iload_n 1, 1) := by decide +kernel
theorem dX10_lie_1 : decode cX10_lie 1 = .ok (.aload_n 0, 1) := by decide +kernel
theorem dX10_lie_2 : decode cX10_lie 2 = .ok (.getfield 116, 3) := by decide +kernel
theorem dX10_lie_5 : decode cX10_lie 5 = .ok (.invokestatic 119, 3) := by decide +kernel
theorem dX10_lie_8 : decode cX10_lie 8 = .ok (.ifCond .eq 11, 3) := by decide +kernel
theorem dX10_lie_11 : decode cX10_lie 11 = .ok (.iload_n 2, 1) := by decide +kernel
theorem dX10_lie_12 : decode cX10_lie 12 = .ok (.iconst 4, 1) := by decide +kernel
theorem dX10_lie_13 : decode cX10_lie 13 = .ok (.invokestatic 119, 3) := by decide +kernel
theorem dX10_lie_16 : decode cX10_lie 16 = .ok (.ifCond .ne 5, 3) := by decide +kernel
theorem dX10_lie_19 : decode cX10_lie 19 = .ok (.iconst (-1), 1) := by decide +kernel
theorem dX10_lie_20 : decode cX10_lie 20 = .ok (.ireturn, 1) := by decide +kernel
theorem dX10_lie_21 : decode cX10_lie 21 = .ok (.iconst 0, 1) := by decide +kernel
theorem dX10_lie_22 : decode cX10_lie 22 = .ok (.istore_n 3, 1) := by decide +kernel
theorem dX10_lie_23 : decode cX10_lie 23 = .ok (.iload_n 3, 1) := by decide +kernel
theorem dX10_lie_24 : decode cX10_lie 24 = .ok (.aload_n 0, 1) := by decide +kernel
theorem dX10_lie_25 : decode cX10_lie 25 = .ok (.getfield 113, 3) := by decide +kernel
theorem dX10_lie_28 : decode cX10_lie 28 = .ok (.if_icmp .ge 100, 3) := by decide +kernel
theorem dX10_lie_31 : decode cX10_lie 31 = .ok (.iconst 0, 1) := by decide +kernel
theorem dX10_lie_32 : decode cX10_lie 32 = .ok (.istore 4, 2) := by decide +kernel
theorem dX10_lie_34 : decode cX10_lie 34 = .ok (.iload 4, 2) := by decide +kernel
theorem dX10_lie_36 : decode cX10_lie 36 = .ok (.aload_n 0, 1) := by decide +kernel
theorem dX10_lie_37 : decode cX10_lie 37 = .ok (.getfield 97, 3) := by decide +kernel
theorem dX10_lie_40 : decode cX10_lie 40 = .ok (.if_icmp .ge 82, 3) := by decide +kernel
theorem dX10_lie_43 : decode cX10_lie 43 = .ok (.iconst 0, 1) := by decide +kernel
theorem dX10_lie_44 : decode cX10_lie 44 = .ok (.istore 5, 2) := by decide +kernel
theorem dX10_lie_46 : decode cX10_lie 46 = .ok (.iload 5, 2) := by decide +kernel
theorem dX10_lie_48 : decode cX10_lie 48 = .ok (.aload_n 0, 1) := by decide +kernel
theorem dX10_lie_49 : decode cX10_lie 49 = .ok (.getfield 110, 3) := by decide +kernel
theorem dX10_lie_52 : decode cX10_lie 52 = .ok (.if_icmp .ge 64, 3) := by decide +kernel
theorem dX10_lie_55 : decode cX10_lie 55 = .ok (.aload_n 0, 1) := by decide +kernel
theorem dX10_lie_56 : decode cX10_lie 56 = .ok (.iload_n 1, 1) := by decide +kernel
theorem dX10_lie_57 : decode cX10_lie 57 = .ok (.iload_n 3, 1) := by decide +kernel
theorem dX10_lie_58 : decode cX10_lie 58 = .ok (.iload 4, 2) := by decide +kernel
theorem dX10_lie_60 : decode cX10_lie 60 = .ok (.aload_n 0, 1) := by decide +kernel
theorem dX10_lie_61 : decode cX10_lie 61 = .ok (.iload_n 3, 1) := by decide +kernel
theorem dX10_lie_62 : decode cX10_lie 62 = .ok (.iload 4, 2) := by decide +kernel
theorem dX10_lie_64 : decode cX10_lie 64 = .ok (.iload 5, 2) := by decide +kernel
theorem dX10_lie_66 : decode cX10_lie 66 = .ok (.invokevirtual 153, 3) := by decide +kernel
theorem dX10_lie_69 : decode cX10_lie 69 = .ok (.invokevirtual 159, 3) := by decide +kernel
theorem dX10_lie_72 : decode cX10_lie 72 = .ok (.istore 6, 2) := by decide +kernel
theorem dX10_lie_74 : decode cX10_lie 74 = .ok (.iload 6, 2) := by decide +kernel
theorem dX10_lie_76 : decode cX10_lie 76 = .ok (.ifCond .le 34, 3) := by decide +kernel
theorem dX10_lie_79 : decode cX10_lie 79 = .ok (.iload_n 2, 1) := by decide +kernel
theorem dX10_lie_80 : decode cX10_lie 80 = .ok (.ifCond .ne 7, 3) := by decide +kernel
theorem dX10_lie_83 : decode cX10_lie 83 = .ok (.iload_n 3, 1) := by decide +kernel
theorem dX10_lie_84 : decode cX10_lie 84 = .ok (.goto 25, 3) := by decide +kernel
theorem dX10_lie_87 : decode cX10_lie 87 = .ok (.iload_n 2, 1) := by decide +kernel
theorem dX10_lie_88 : decode cX10_lie 88 = .ok (.iconst 1, 1) := by decide +kernel
theorem dX10_lie_89 : decode cX10_lie 89 = .ok (.if_icmp .ne 8, 3) := by decide +kernel
theorem dX10_lie_92 : decode cX10_lie 92 = .ok (.iload 4, 2) := by decide +kernel
theorem dX10_lie_94 : decode cX10_lie 94 = .ok (.goto 15, 3) := by decide +kernel
theorem dX10_lie_97 : decode cX10_lie 97 = .ok (.iload_n 2, 1) := by decide +kernel
theorem dX10_lie_98 : decode cX10_lie 98 = .ok (.iconst 2, 1) := by decide +kernel
theorem dX10_lie_99 : decode cX10_lie 99 = .ok (.if_icmp .ne 8, 3) := by decide +kernel
theorem dX10_lie_102 : decode cX10_lie 102 = .ok (.iload 5, 2) := by decide +kernel
theorem dX10_lie_104 : decode cX10_lie 104 = .ok (.goto 5, 3) := by decide +kernel
theorem dX10_lie_107 : decode cX10_lie 107 = .ok (.iload 6, 2) := by decide +kernel
theorem dX10_lie_109 : decode cX10_lie 109 = .ok (.ireturn, 1) := by decide +kernel
theorem dX10_lie_110 : decode cX10_lie 110 = .ok (.iinc 5 1, 3) := by decide +kernel
theorem dX10_lie_113 : decode cX10_lie 113 = .ok (.goto (-67), 3) := by decide +kernel
theorem dX10_lie_116 : decode cX10_lie 116 = .ok (.iinc 4 1, 3) := by decide +kernel
theorem dX10_lie_119 : decode cX10_lie 119 = .ok (.goto (-85), 3) := by decide +kernel
theorem dX10_lie_122 : decode cX10_lie 122 = .ok (.iinc 3 1, 3) := by decide +kernel
theorem dX10_lie_125 : decode cX10_lie 125 = .ok (.goto (-102), 3) := by decide +kernel
theorem dX10_lie_128 : decode cX10_lie 128 = .ok (.bipush (-2), 2) := by decide +kernel
theorem dX10_lie_130 : decode cX10_lie 130 = .ok (.ireturn, 1) := by decide +kernel
theorem dX10_lies_0 : decode cX10_lies 0 = .ok (.iload_n 1, 1) := by decide +kernel
theorem dX10_lies_1 : decode cX10_lies 1 = .ok (.aload_n 0, 1) := by decide +kernel
theorem dX10_lies_2 : decode cX10_lies 2 = .ok (.getfield 116, 3) := by decide +kernel
theorem dX10_lies_5 : decode cX10_lies 5 = .ok (.invokestatic 119, 3) := by decide +kernel
theorem dX10_lies_8 : decode cX10_lies 8 = .ok (.ifCond .ne 5, 3) := by decide +kernel
theorem dX10_lies_11 : decode cX10_lies 11 = .ok (.iconst (-1), 1) := by decide +kernel
theorem dX10_lies_12 : decode cX10_lies 12 = .ok (.ireturn, 1) := by decide +kernel
theorem dX10_lies_13 : decode cX10_lies 13 = .ok (.iconst 0, 1) := by decide +kernel
theorem dX10_lies_14 : decode cX10_lies 14 = .ok (.istore_n 2, 1) := by decide +kernel
theorem dX10_lies_15 : decode cX10_lies 15 = .ok (.iconst 0, 1) := by decide +kernel
theorem dX10_lies_16 : decode cX10_lies 16 = .ok (.istore_n 3, 1) := by decide +kernel
theorem dX10_lies_17 : decode cX10_lies 17 = .ok (.iload_n 3, 1) := by decide +kernel
theorem dX10_lies_18 : decode cX10_lies 18 = .ok (.aload_n 0, 1) := by decide +kernel
theorem dX10_lies_19 : decode cX10_lies 19 = .ok (.getfield 113, 3) := by decide +kernel
theorem dX10_lies_22 : decode cX10_lies 22 = .ok (.if_icmp .ge 73, 3) := by decide +kernel
theorem dX10_lies_25 : decode cX10_lies 25 = .ok (.iconst 0, 1) := by decide +kernel
theorem dX10_lies_26 : decode cX10_lies 26 = .ok (.istore 4, 2) := by decide +kernel
theorem dX10_lies_28 : decode cX10_lies 28 = .ok (.iload 4, 2) := by decide +kernel
theorem dX10_lies_30 : decode cX10_lies 30 = .ok (.aload_n 0, 1) := by decide +kernel
theorem dX10_lies_31 : decode cX10_lies 31 = .ok (.getfield 97, 3) := by decide +kernel
theorem dX10_lies_34 : decode cX10_lies 34 = .ok (.if_icmp .ge 55, 3) := by decide +kernel
theorem dX10_lies_37 : decode cX10_lies 37 = .ok (.iconst 0, 1) := by decide +kernel
theorem dX10_lies_38 : decode cX10_lies 38 = .ok (.istore 5, 2) := by decide +kernel
theorem dX10_lies_40 : decode cX10_lies 40 = .ok (.iload 5, 2) := by decide +kernel
theorem dX10_lies_42 : decode cX10_lies 42 = .ok (.aload_n 0, 1) := by decide +kernel
theorem dX10_lies_43 : decode cX10_lies 43 = .ok (.getfield 110, 3) := by decide +kernel
theorem dX10_lies_46 : decode cX10_lies 46 = .ok (.if_icmp .ge 37, 3) := by decide +kernel
theorem dX10_lies_49 : decode cX10_lies 49 = .ok (.iload_n 2, 1) := by decide +kernel
theorem dX10_lies_50 : decode cX10_lies 50 = .ok (.aload_n 0, 1) := by decide +kernel
theorem dX10_lies_51 : decode cX10_lies 51 = .ok (.iload_n 1, 1) := by decide +kernel
theorem dX10_lies_52 : decode cX10_lies 52 = .ok (.iload_n 3, 1) := by decide +kernel
theorem dX10_lies_53 : decode cX10_lies 53 = .ok (.iload 4, 2) := by decide +kernel
theorem dX10_lies_55 : decode cX10_lies 55 = .ok (.aload_n 0, 1) := by decide +kernel
theorem dX10_lies_56 : decode cX10_lies 56 = .ok (.iload_n 3, 1) := by decide +kernel
theorem dX10_lies_57 : decode cX10_lies 57 = .ok (.iload 4, 2) := by decide +kernel
theorem dX10_lies_59 : decode cX10_lies 59 = .ok (.iload 5, 2) := by decide +kernel
theorem dX10_lies_61 : decode cX10_lies 61 = .ok (.invokevirtual 153, 3) := by decide +kernel
theorem dX10_lies_64 : decode cX10_lies 64 = .ok (.invokevirtual 159, 3) := by decide +kernel
theorem dX10_lies_67 : decode cX10_lies 67 = .ok (.ifCond .le 7, 3) := by decide +kernel
theorem dX10_lies_70 : decode cX10_lies 70 = .ok (.iconst 1, 1) := by decide +kernel
theorem dX10_lies_71 : decode cX10_lies 71 = .ok (.goto 4, 3) := by decide +kernel
theorem dX10_lies_74 : decode cX10_lies 74 = .ok (.iconst 0, 1) := by decide +kernel
theorem dX10_lies_75 : decode cX10_lies 75 = .ok (.iadd, 1) := by decide +kernel
theorem dX10_lies_76 : decode cX10_lies 76 = .ok (.istore_n 2, 1) := by decide +kernel
theorem dX10_lies_77 : decode cX10_lies 77 = .ok (.iinc 5 1, 3) := by decide +kernel
theorem dX10_lies_80 : decode cX10_lies 80 = .ok (.goto (-40), 3) := by decide +kernel
theorem dX10_lies_83 : decode cX10_lies 83 = .ok (.iinc 4 1, 3) := by decide +kernel
theorem dX10_lies_86 : decode cX10_lies 86 = .ok (.goto (-58), 3) := by decide +kernel
theorem dX10_lies_89 : decode cX10_lies 89 = .ok (.iinc 3 1, 3) := by decide +kernel
theorem dX10_lies_92 : decode cX10_lies 92 = .ok (.goto (-75), 3) := by decide +kernel
theorem dX10_lies_95 : decode cX10_lies 95 = .ok (.iload_n 2, 1) := by decide +kernel
theorem dX10_lies_96 : decode cX10_lies 96 = .ok (.ireturn, 1) := by decide +kernel
theorem dX10_reckon_0 : decode cX10_reckon 0 = .ok (.iconst 0, 1) := by decide +kernel
theorem dX10_reckon_1 : decode cX10_reckon 1 = .ok (.istore_n 2, 1) := by decide +kernel
theorem dX10_reckon_2 : decode cX10_reckon 2 = .ok (.iload_n 2, 1) := by decide +kernel
theorem dX10_reckon_3 : decode cX10_reckon 3 = .ok (.aload_n 0, 1) := by decide +kernel
theorem dX10_reckon_4 : decode cX10_reckon 4 = .ok (.getfield 113, 3) := by decide +kernel
theorem dX10_reckon_7 : decode cX10_reckon 7 = .ok (.if_icmp .ge 54, 3) := by decide +kernel
theorem dX10_reckon_10 : decode cX10_reckon 10 = .ok (.aload_n 0, 1) := by decide +kernel
theorem dX10_reckon_11 : decode cX10_reckon 11 = .ok (.getfield 35, 3) := by decide +kernel
theorem dX10_reckon_14 : decode cX10_reckon 14 = .ok (.iload_n 2, 1) := by decide +kernel
theorem dX10_reckon_15 : decode cX10_reckon 15 = .ok (.aload_n 0, 1) := by decide +kernel
theorem dX10_reckon_16 : decode cX10_reckon 16 = .ok (.iload_n 1, 1) := by decide +kernel
theorem dX10_reckon_17 : decode cX10_reckon 17 = .ok (.iload_n 2, 1) := by decide +kernel
theorem dX10_reckon_18 : decode cX10_reckon 18 = .ok (.invokevirtual 144, 3) := by decide +kernel
theorem dX10_reckon_21 : decode cX10_reckon 21 = .ok (.iastore, 1) := by decide +kernel
theorem dX10_reckon_22 : decode cX10_reckon 22 = .ok (.iconst 0, 1) := by decide +kernel
theorem dX10_reckon_23 : decode cX10_reckon 23 = .ok (.istore_n 3, 1) := by decide +kernel
theorem dX10_reckon_24 : decode cX10_reckon 24 = .ok (.iload_n 3, 1) := by decide +kernel
theorem dX10_reckon_25 : decode cX10_reckon 25 = .ok (.aload_n 0, 1) := by decide +kernel
theorem dX10_reckon_26 : decode cX10_reckon 26 = .ok (.getfield 97, 3) := by decide +kernel
theorem dX10_reckon_29 : decode cX10_reckon 29 = .ok (.if_icmp .ge 26, 3) := by decide +kernel
theorem dX10_reckon_32 : decode cX10_reckon 32 = .ok (.aload_n 0, 1) := by decide +kernel
theorem dX10_reckon_33 : decode cX10_reckon 33 = .ok (.getfield 38, 3) := by decide +kernel
theorem dX10_reckon_36 : decode cX10_reckon 36 = .ok (.iconst 4, 1) := by decide +kernel
theorem dX10_reckon_37 : decode cX10_reckon 37 = .ok (.iload_n 2, 1) := by decide +kernel
theorem dX10_reckon_38 : decode cX10_reckon 38 = .ok (.imul, 1) := by decide +kernel
theorem dX10_reckon_39 : decode cX10_reckon 39 = .ok (.iload_n 3, 1) := by decide +kernel
theorem dX10_reckon_40 : decode cX10_reckon 40 = .ok (.iadd, 1) := by decide +kernel
theorem dX10_reckon_41 : decode cX10_reckon 41 = .ok (.aload_n 0, 1) := by decide +kernel
theorem dX10_reckon_42 : decode cX10_reckon 42 = .ok (.iload_n 1, 1) := by decide +kernel
theorem dX10_reckon_43 : decode cX10_reckon 43 = .ok (.iload_n 2, 1) := by decide +kernel
theorem dX10_reckon_44 : decode cX10_reckon 44 = .ok (.iload_n 3, 1) := by decide +kernel
theorem dX10_reckon_45 : decode cX10_reckon 45 = .ok (.invokevirtual 150, 3) := by decide +kernel
theorem dX10_reckon_48 : decode cX10_reckon 48 = .ok (.iastore, 1) := by decide +kernel
theorem dX10_reckon_49 : decode cX10_reckon 49 = .ok (.iinc 3 1, 3) := by decide +kernel
theorem dX10_reckon_52 : decode cX10_reckon 52 = .ok (.goto (-28), 3) := by decide +kernel
theorem dX10_reckon_55 : decode cX10_reckon 55 = .ok (.iinc 2 1, 3) := by decide +kernel
theorem dX10_reckon_58 : decode cX10_reckon 58 = .ok (.goto (-56), 3) := by decide +kernel
theorem dX10_reckon_61 : decode cX10_reckon 61 = .ok (.return_, 1) := by decide +kernel
theorem dX10_gains_0 : decode cX10_gains 0 = .ok (.iconst 1, 1) := by decide +kernel
theorem dX10_gains_1 : decode cX10_gains 1 = .ok (.istore 4, 2) := by decide +kernel
theorem dX10_gains_3 : decode cX10_gains 3 = .ok (.iconst 0, 1) := by decide +kernel
theorem dX10_gains_4 : decode cX10_gains 4 = .ok (.istore 5, 2) := by decide +kernel
theorem dX10_gains_6 : decode cX10_gains 6 = .ok (.iload 5, 2) := by decide +kernel
theorem dX10_gains_8 : decode cX10_gains 8 = .ok (.aload_n 0, 1) := by decide +kernel
theorem dX10_gains_9 : decode cX10_gains 9 = .ok (.getfield 97, 3) := by decide +kernel
theorem dX10_gains_12 : decode cX10_gains 12 = .ok (.if_icmp .ge 123, 3) := by decide +kernel
theorem dX10_gains_15 : decode cX10_gains 15 = .ok (.iload 4, 2) := by decide +kernel
theorem dX10_gains_17 : decode cX10_gains 17 = .ok (.ifCond .eq 118, 3) := by decide +kernel
theorem dX10_gains_20 : decode cX10_gains 20 = .ok (.iload_n 1, 1) := by decide +kernel
theorem dX10_gains_21 : decode cX10_gains 21 = .ok (.iload 5, 2) := by decide +kernel
theorem dX10_gains_23 : decode cX10_gains 23 = .ok (.ishr, 1) := by decide +kernel
theorem dX10_gains_24 : decode cX10_gains 24 = .ok (.iconst 1, 1) := by decide +kernel
theorem dX10_gains_25 : decode cX10_gains 25 = .ok (.iand, 1) := by decide +kernel
theorem dX10_gains_26 : decode cX10_gains 26 = .ok (.ifCond .ne 30, 3) := by decide +kernel
theorem dX10_gains_29 : decode cX10_gains 29 = .ok (.aload_n 0, 1) := by decide +kernel
theorem dX10_gains_30 : decode cX10_gains 30 = .ok (.iload_n 2, 1) := by decide +kernel
theorem dX10_gains_31 : decode cX10_gains 31 = .ok (.iload 5, 2) := by decide +kernel
theorem dX10_gains_33 : decode cX10_gains 33 = .ok (.invokevirtual 126, 3) := by decide +kernel
theorem dX10_gains_36 : decode cX10_gains 36 = .ok (.aload_n 0, 1) := by decide +kernel
theorem dX10_gains_37 : decode cX10_gains 37 = .ok (.iload_n 3, 1) := by decide +kernel
theorem dX10_gains_38 : decode cX10_gains 38 = .ok (.iload 5, 2) := by decide +kernel
theorem dX10_gains_40 : decode cX10_gains 40 = .ok (.invokevirtual 126, 3) := by decide +kernel
theorem dX10_gains_43 : decode cX10_gains 43 = .ok (.if_icmp .ne 7, 3) := by decide +kernel
theorem dX10_gains_46 : decode cX10_gains 46 = .ok (.iconst 1, 1) := by decide +kernel
theorem dX10_gains_47 : decode cX10_gains 47 = .ok (.goto 4, 3) := by decide +kernel
theorem dX10_gains_50 : decode cX10_gains 50 = .ok (.iconst 0, 1) := by decide +kernel
theorem dX10_gains_51 : decode cX10_gains 51 = .ok (.istore 4, 2) := by decide +kernel
theorem dX10_gains_53 : decode cX10_gains 53 = .ok (.goto 76, 3) := by decide +kernel
theorem dX10_gains_56 : decode cX10_gains 56 = .ok (.iconst 5, 1) := by decide +kernel
theorem dX10_gains_57 : decode cX10_gains 57 = .ok (.aload_n 0, 1) := by decide +kernel
theorem dX10_gains_58 : decode cX10_gains 58 = .ok (.iload_n 2, 1) := by decide +kernel
theorem dX10_gains_59 : decode cX10_gains 59 = .ok (.iload 5, 2) := by decide +kernel
theorem dX10_gains_61 : decode cX10_gains 61 = .ok (.invokevirtual 126, 3) := by decide +kernel
theorem dX10_gains_64 : decode cX10_gains 64 = .ok (.imul, 1) := by decide +kernel
theorem dX10_gains_65 : decode cX10_gains 65 = .ok (.istore 6, 2) := by decide +kernel
theorem dX10_gains_67 : decode cX10_gains 67 = .ok (.aload_n 0, 1) := by decide +kernel
theorem dX10_gains_68 : decode cX10_gains 68 = .ok (.getfield 9, 3) := by decide +kernel
theorem dX10_gains_71 : decode cX10_gains 71 = .ok (.iload 6, 2) := by decide +kernel
theorem dX10_gains_73 : decode cX10_gains 73 = .ok (.aload_n 0, 1) := by decide +kernel
theorem dX10_gains_74 : decode cX10_gains 74 = .ok (.getfield 35, 3) := by decide +kernel
theorem dX10_gains_77 : decode cX10_gains 77 = .ok (.iload_n 3, 1) := by decide +kernel
theorem dX10_gains_78 : decode cX10_gains 78 = .ok (.iaload, 1) := by decide +kernel
theorem dX10_gains_79 : decode cX10_gains 79 = .ok (.iadd, 1) := by decide +kernel
theorem dX10_gains_80 : decode cX10_gains 80 = .ok (.iaload, 1) := by decide +kernel
theorem dX10_gains_81 : decode cX10_gains 81 = .ok (.aload_n 0, 1) := by decide +kernel
theorem dX10_gains_82 : decode cX10_gains 82 = .ok (.getfield 38, 3) := by decide +kernel
theorem dX10_gains_85 : decode cX10_gains 85 = .ok (.iconst 4, 1) := by decide +kernel
theorem dX10_gains_86 : decode cX10_gains 86 = .ok (.iload_n 3, 1) := by decide +kernel
theorem dX10_gains_87 : decode cX10_gains 87 = .ok (.imul, 1) := by decide +kernel
theorem dX10_gains_88 : decode cX10_gains 88 = .ok (.iload 5, 2) := by decide +kernel
theorem dX10_gains_90 : decode cX10_gains 90 = .ok (.iadd, 1) := by decide +kernel
theorem dX10_gains_91 : decode cX10_gains 91 = .ok (.iaload, 1) := by decide +kernel
theorem dX10_gains_92 : decode cX10_gains 92 = .ok (.isub, 1) := by decide +kernel
theorem dX10_gains_93 : decode cX10_gains 93 = .ok (.aload_n 0, 1) := by decide +kernel
theorem dX10_gains_94 : decode cX10_gains 94 = .ok (.getfield 9, 3) := by decide +kernel
theorem dX10_gains_97 : decode cX10_gains 97 = .ok (.iload 6, 2) := by decide +kernel
theorem dX10_gains_99 : decode cX10_gains 99 = .ok (.aload_n 0, 1) := by decide +kernel
theorem dX10_gains_100 : decode cX10_gains 100 = .ok (.getfield 35, 3) := by decide +kernel
theorem dX10_gains_103 : decode cX10_gains 103 = .ok (.iload_n 2, 1) := by decide +kernel
theorem dX10_gains_104 : decode cX10_gains 104 = .ok (.iaload, 1) := by decide +kernel
theorem dX10_gains_105 : decode cX10_gains 105 = .ok (.iadd, 1) := by decide +kernel
theorem dX10_gains_106 : decode cX10_gains 106 = .ok (.iaload, 1) := by decide +kernel
theorem dX10_gains_107 : decode cX10_gains 107 = .ok (.aload_n 0, 1) := by decide +kernel
theorem dX10_gains_108 : decode cX10_gains 108 = .ok (.getfield 38, 3) := by decide +kernel
theorem dX10_gains_111 : decode cX10_gains 111 = .ok (.iconst 4, 1) := by decide +kernel
theorem dX10_gains_112 : decode cX10_gains 112 = .ok (.iload_n 2, 1) := by decide +kernel
theorem dX10_gains_113 : decode cX10_gains 113 = .ok (.imul, 1) := by decide +kernel
theorem dX10_gains_114 : decode cX10_gains 114 = .ok (.iload 5, 2) := by decide +kernel
theorem dX10_gains_116 : decode cX10_gains 116 = .ok (.iadd, 1) := by decide +kernel
theorem dX10_gains_117 : decode cX10_gains 117 = .ok (.iaload, 1) := by decide +kernel
theorem dX10_gains_118 : decode cX10_gains 118 = .ok (.isub, 1) := by decide +kernel
theorem dX10_gains_119 : decode cX10_gains 119 = .ok (.if_icmp .le 7, 3) := by decide +kernel
theorem dX10_gains_122 : decode cX10_gains 122 = .ok (.iconst 1, 1) := by decide +kernel
theorem dX10_gains_123 : decode cX10_gains 123 = .ok (.goto 4, 3) := by decide +kernel
theorem dX10_gains_126 : decode cX10_gains 126 = .ok (.iconst 0, 1) := by decide +kernel
theorem dX10_gains_127 : decode cX10_gains 127 = .ok (.istore 4, 2) := by decide +kernel
theorem dX10_gains_129 : decode cX10_gains 129 = .ok (.iinc 5 1, 3) := by decide +kernel
theorem dX10_gains_132 : decode cX10_gains 132 = .ok (.goto (-126), 3) := by decide +kernel
theorem dX10_gains_135 : decode cX10_gains 135 = .ok (.iload 4, 2) := by decide +kernel
theorem dX10_gains_137 : decode cX10_gains 137 = .ok (.ireturn, 1) := by decide +kernel
theorem dX10_heap_0 : decode cX10_heap 0 = .ok (.iload_n 1, 1) := by decide +kernel
theorem dX10_heap_1 : decode cX10_heap 1 = .ok (.aload_n 0, 1) := by decide +kernel
theorem dX10_heap_2 : decode cX10_heap 2 = .ok (.getfield 116, 3) := by decide +kernel
theorem dX10_heap_5 : decode cX10_heap 5 = .ok (.invokestatic 119, 3) := by decide +kernel
theorem dX10_heap_8 : decode cX10_heap 8 = .ok (.ifCond .eq 18, 3) := by decide +kernel
theorem dX10_heap_11 : decode cX10_heap 11 = .ok (.iload_n 2, 1) := by decide +kernel
theorem dX10_heap_12 : decode cX10_heap 12 = .ok (.iconst 1, 1) := by decide +kernel
theorem dX10_heap_13 : decode cX10_heap 13 = .ok (.if_icmp .lt 13, 3) := by decide +kernel
theorem dX10_heap_16 : decode cX10_heap 16 = .ok (.iload_n 2, 1) := by decide +kernel
theorem dX10_heap_17 : decode cX10_heap 17 = .ok (.iconst 1, 1) := by decide +kernel
theorem dX10_heap_18 : decode cX10_heap 18 = .ok (.aload_n 0, 1) := by decide +kernel
theorem dX10_heap_19 : decode cX10_heap 19 = .ok (.getfield 97, 3) := by decide +kernel
theorem dX10_heap_22 : decode cX10_heap 22 = .ok (.ishl, 1) := by decide +kernel
theorem dX10_heap_23 : decode cX10_heap 23 = .ok (.if_icmp .lt 5, 3) := by decide +kernel
theorem dX10_heap_26 : decode cX10_heap 26 = .ok (.iconst (-1), 1) := by decide +kernel
theorem dX10_heap_27 : decode cX10_heap 27 = .ok (.ireturn, 1) := by decide +kernel
theorem dX10_heap_28 : decode cX10_heap 28 = .ok (.aload_n 0, 1) := by decide +kernel
theorem dX10_heap_29 : decode cX10_heap 29 = .ok (.iload_n 1, 1) := by decide +kernel
theorem dX10_heap_30 : decode cX10_heap 30 = .ok (.invokevirtual 162, 3) := by decide +kernel
theorem dX10_heap_33 : decode cX10_heap 33 = .ok (.iconst 0, 1) := by decide +kernel
theorem dX10_heap_34 : decode cX10_heap 34 = .ok (.istore 4, 2) := by decide +kernel
theorem dX10_heap_36 : decode cX10_heap 36 = .ok (.iload 4, 2) := by decide +kernel
theorem dX10_heap_38 : decode cX10_heap 38 = .ok (.aload_n 0, 1) := by decide +kernel
theorem dX10_heap_39 : decode cX10_heap 39 = .ok (.getfield 113, 3) := by decide +kernel
theorem dX10_heap_42 : decode cX10_heap 42 = .ok (.if_icmp .ge 51, 3) := by decide +kernel
theorem dX10_heap_45 : decode cX10_heap 45 = .ok (.iconst 0, 1) := by decide +kernel
theorem dX10_heap_46 : decode cX10_heap 46 = .ok (.istore 5, 2) := by decide +kernel
theorem dX10_heap_48 : decode cX10_heap 48 = .ok (.iload 5, 2) := by decide +kernel
theorem dX10_heap_50 : decode cX10_heap 50 = .ok (.aload_n 0, 1) := by decide +kernel
theorem dX10_heap_51 : decode cX10_heap 51 = .ok (.getfield 113, 3) := by decide +kernel
theorem dX10_heap_54 : decode cX10_heap 54 = .ok (.if_icmp .ge 33, 3) := by decide +kernel
theorem dX10_heap_57 : decode cX10_heap 57 = .ok (.aload_n 0, 1) := by decide +kernel
theorem dX10_heap_58 : decode cX10_heap 58 = .ok (.iload_n 2, 1) := by decide +kernel
theorem dX10_heap_59 : decode cX10_heap 59 = .ok (.iload 4, 2) := by decide +kernel
theorem dX10_heap_61 : decode cX10_heap 61 = .ok (.iload 5, 2) := by decide +kernel
theorem dX10_heap_63 : decode cX10_heap 63 = .ok (.invokevirtual 166, 3) := by decide +kernel
theorem dX10_heap_66 : decode cX10_heap 66 = .ok (.ifCond .eq 15, 3) := by decide +kernel
theorem dX10_heap_69 : decode cX10_heap 69 = .ok (.iload_n 3, 1) := by decide +kernel
theorem dX10_heap_70 : decode cX10_heap 70 = .ok (.ifCond .eq 8, 3) := by decide +kernel
theorem dX10_heap_73 : decode cX10_heap 73 = .ok (.iload 5, 2) := by decide +kernel
theorem dX10_heap_75 : decode cX10_heap 75 = .ok (.goto 5, 3) := by decide +kernel
theorem dX10_heap_78 : decode cX10_heap 78 = .ok (.iload 4, 2) := by decide +kernel
theorem dX10_heap_80 : decode cX10_heap 80 = .ok (.ireturn, 1) := by decide +kernel
theorem dX10_heap_81 : decode cX10_heap 81 = .ok (.iinc 5 1, 3) := by decide +kernel
theorem dX10_heap_84 : decode cX10_heap 84 = .ok (.goto (-36), 3) := by decide +kernel
theorem dX10_heap_87 : decode cX10_heap 87 = .ok (.iinc 4 1, 3) := by decide +kernel
theorem dX10_heap_90 : decode cX10_heap 90 = .ok (.goto (-54), 3) := by decide +kernel
theorem dX10_heap_93 : decode cX10_heap 93 = .ok (.bipush (-2), 2) := by decide +kernel
theorem dX10_heap_95 : decode cX10_heap 95 = .ok (.ireturn, 1) := by decide +kernel
theorem dX10_onto_0 : decode cX10_onto 0 = .ok (.iload_n 1, 1) := by decide +kernel
theorem dX10_onto_1 : decode cX10_onto 1 = .ok (.aload_n 0, 1) := by decide +kernel
theorem dX10_onto_2 : decode cX10_onto 2 = .ok (.getfield 116, 3) := by decide +kernel
theorem dX10_onto_5 : decode cX10_onto 5 = .ok (.invokestatic 119, 3) := by decide +kernel
theorem dX10_onto_8 : decode cX10_onto 8 = .ok (.ifCond .ne 5, 3) := by decide +kernel
theorem dX10_onto_11 : decode cX10_onto 11 = .ok (.iconst (-1), 1) := by decide +kernel
theorem dX10_onto_12 : decode cX10_onto 12 = .ok (.ireturn, 1) := by decide +kernel
theorem dX10_onto_13 : decode cX10_onto 13 = .ok (.iconst 0, 1) := by decide +kernel
theorem dX10_onto_14 : decode cX10_onto 14 = .ok (.istore_n 2, 1) := by decide +kernel
theorem dX10_onto_15 : decode cX10_onto 15 = .ok (.iconst 0, 1) := by decide +kernel
theorem dX10_onto_16 : decode cX10_onto 16 = .ok (.istore_n 3, 1) := by decide +kernel
theorem dX10_onto_17 : decode cX10_onto 17 = .ok (.iload_n 3, 1) := by decide +kernel
theorem dX10_onto_18 : decode cX10_onto 18 = .ok (.aload_n 0, 1) := by decide +kernel
theorem dX10_onto_19 : decode cX10_onto 19 = .ok (.getfield 113, 3) := by decide +kernel
theorem dX10_onto_22 : decode cX10_onto 22 = .ok (.if_icmp .ge 20, 3) := by decide +kernel
theorem dX10_onto_25 : decode cX10_onto 25 = .ok (.iload_n 2, 1) := by decide +kernel
theorem dX10_onto_26 : decode cX10_onto 26 = .ok (.iconst 1, 1) := by decide +kernel
theorem dX10_onto_27 : decode cX10_onto 27 = .ok (.aload_n 0, 1) := by decide +kernel
theorem dX10_onto_28 : decode cX10_onto 28 = .ok (.iload_n 1, 1) := by decide +kernel
theorem dX10_onto_29 : decode cX10_onto 29 = .ok (.iload_n 3, 1) := by decide +kernel
theorem dX10_onto_30 : decode cX10_onto 30 = .ok (.invokevirtual 144, 3) := by decide +kernel
theorem dX10_onto_33 : decode cX10_onto 33 = .ok (.ishl, 1) := by decide +kernel
theorem dX10_onto_34 : decode cX10_onto 34 = .ok (.ior, 1) := by decide +kernel
theorem dX10_onto_35 : decode cX10_onto 35 = .ok (.istore_n 2, 1) := by decide +kernel
theorem dX10_onto_36 : decode cX10_onto 36 = .ok (.iinc 3 1, 3) := by decide +kernel
theorem dX10_onto_39 : decode cX10_onto 39 = .ok (.goto (-22), 3) := by decide +kernel
theorem dX10_onto_42 : decode cX10_onto 42 = .ok (.iconst 0, 1) := by decide +kernel
theorem dX10_onto_43 : decode cX10_onto 43 = .ok (.istore_n 3, 1) := by decide +kernel
theorem dX10_onto_44 : decode cX10_onto 44 = .ok (.iconst 0, 1) := by decide +kernel
theorem dX10_onto_45 : decode cX10_onto 45 = .ok (.istore 4, 2) := by decide +kernel
theorem dX10_onto_47 : decode cX10_onto 47 = .ok (.iload 4, 2) := by decide +kernel
theorem dX10_onto_49 : decode cX10_onto 49 = .ok (.aload_n 0, 1) := by decide +kernel
theorem dX10_onto_50 : decode cX10_onto 50 = .ok (.getfield 101, 3) := by decide +kernel
theorem dX10_onto_53 : decode cX10_onto 53 = .ok (.if_icmp .ge 18, 3) := by decide +kernel
theorem dX10_onto_56 : decode cX10_onto 56 = .ok (.iload_n 3, 1) := by decide +kernel
theorem dX10_onto_57 : decode cX10_onto 57 = .ok (.iload_n 2, 1) := by decide +kernel
theorem dX10_onto_58 : decode cX10_onto 58 = .ok (.iload 4, 2) := by decide +kernel
theorem dX10_onto_60 : decode cX10_onto 60 = .ok (.ishr, 1) := by decide +kernel
theorem dX10_onto_61 : decode cX10_onto 61 = .ok (.iconst 1, 1) := by decide +kernel
theorem dX10_onto_62 : decode cX10_onto 62 = .ok (.iand, 1) := by decide +kernel
theorem dX10_onto_63 : decode cX10_onto 63 = .ok (.iadd, 1) := by decide +kernel
theorem dX10_onto_64 : decode cX10_onto 64 = .ok (.istore_n 3, 1) := by decide +kernel
theorem dX10_onto_65 : decode cX10_onto 65 = .ok (.iinc 4 1, 3) := by decide +kernel
theorem dX10_onto_68 : decode cX10_onto 68 = .ok (.goto (-21), 3) := by decide +kernel
theorem dX10_onto_71 : decode cX10_onto 71 = .ok (.iload_n 3, 1) := by decide +kernel
theorem dX10_onto_72 : decode cX10_onto 72 = .ok (.ireturn, 1) := by decide +kernel
theorem dX10_dictator_0 : decode cX10_dictator 0 = .ok (.iload_n 1, 1) := by decide +kernel
theorem dX10_dictator_1 : decode cX10_dictator 1 = .ok (.aload_n 0, 1) := by decide +kernel
theorem dX10_dictator_2 : decode cX10_dictator 2 = .ok (.getfield 116, 3) := by decide +kernel
theorem dX10_dictator_5 : decode cX10_dictator 5 = .ok (.invokestatic 119, 3) := by decide +kernel
theorem dX10_dictator_8 : decode cX10_dictator 8 = .ok (.ifCond .ne 5, 3) := by decide +kernel
theorem dX10_dictator_11 : decode cX10_dictator 11 = .ok (.iconst (-1), 1) := by decide +kernel
theorem dX10_dictator_12 : decode cX10_dictator 12 = .ok (.ireturn, 1) := by decide +kernel
theorem dX10_dictator_13 : decode cX10_dictator 13 = .ok (.iconst 0, 1) := by decide +kernel
theorem dX10_dictator_14 : decode cX10_dictator 14 = .ok (.istore_n 2, 1) := by decide +kernel
theorem dX10_dictator_15 : decode cX10_dictator 15 = .ok (.iload_n 2, 1) := by decide +kernel
theorem dX10_dictator_16 : decode cX10_dictator 16 = .ok (.aload_n 0, 1) := by decide +kernel
theorem dX10_dictator_17 : decode cX10_dictator 17 = .ok (.getfield 97, 3) := by decide +kernel
theorem dX10_dictator_20 : decode cX10_dictator 20 = .ok (.if_icmp .ge 66, 3) := by decide +kernel
theorem dX10_dictator_23 : decode cX10_dictator 23 = .ok (.iconst 1, 1) := by decide +kernel
theorem dX10_dictator_24 : decode cX10_dictator 24 = .ok (.istore_n 3, 1) := by decide +kernel
theorem dX10_dictator_25 : decode cX10_dictator 25 = .ok (.iconst 0, 1) := by decide +kernel
theorem dX10_dictator_26 : decode cX10_dictator 26 = .ok (.istore 4, 2) := by decide +kernel
theorem dX10_dictator_28 : decode cX10_dictator 28 = .ok (.iload 4, 2) := by decide +kernel
theorem dX10_dictator_30 : decode cX10_dictator 30 = .ok (.aload_n 0, 1) := by decide +kernel
theorem dX10_dictator_31 : decode cX10_dictator 31 = .ok (.getfield 113, 3) := by decide +kernel
theorem dX10_dictator_34 : decode cX10_dictator 34 = .ok (.if_icmp .ge 40, 3) := by decide +kernel
theorem dX10_dictator_37 : decode cX10_dictator 37 = .ok (.iload_n 3, 1) := by decide +kernel
theorem dX10_dictator_38 : decode cX10_dictator 38 = .ok (.ifCond .eq 36, 3) := by decide +kernel
theorem dX10_dictator_41 : decode cX10_dictator 41 = .ok (.aload_n 0, 1) := by decide +kernel
theorem dX10_dictator_42 : decode cX10_dictator 42 = .ok (.iload_n 1, 1) := by decide +kernel
theorem dX10_dictator_43 : decode cX10_dictator 43 = .ok (.iload 4, 2) := by decide +kernel
theorem dX10_dictator_45 : decode cX10_dictator 45 = .ok (.invokevirtual 144, 3) := by decide +kernel
theorem dX10_dictator_48 : decode cX10_dictator 48 = .ok (.aload_n 0, 1) := by decide +kernel
theorem dX10_dictator_49 : decode cX10_dictator 49 = .ok (.aload_n 0, 1) := by decide +kernel
theorem dX10_dictator_50 : decode cX10_dictator 50 = .ok (.iload 4, 2) := by decide +kernel
theorem dX10_dictator_52 : decode cX10_dictator 52 = .ok (.iload_n 2, 1) := by decide +kernel
theorem dX10_dictator_53 : decode cX10_dictator 53 = .ok (.invokevirtual 126, 3) := by decide +kernel
theorem dX10_dictator_56 : decode cX10_dictator 56 = .ok (.invokevirtual 133, 3) := by decide +kernel
theorem dX10_dictator_59 : decode cX10_dictator 59 = .ok (.if_icmp .ne 7, 3) := by decide +kernel
theorem dX10_dictator_62 : decode cX10_dictator 62 = .ok (.iconst 1, 1) := by decide +kernel
theorem dX10_dictator_63 : decode cX10_dictator 63 = .ok (.goto 4, 3) := by decide +kernel
theorem dX10_dictator_66 : decode cX10_dictator 66 = .ok (.iconst 0, 1) := by decide +kernel
theorem dX10_dictator_67 : decode cX10_dictator 67 = .ok (.istore_n 3, 1) := by decide +kernel
theorem dX10_dictator_68 : decode cX10_dictator 68 = .ok (.iinc 4 1, 3) := by decide +kernel
theorem dX10_dictator_71 : decode cX10_dictator 71 = .ok (.goto (-43), 3) := by decide +kernel
theorem dX10_dictator_74 : decode cX10_dictator 74 = .ok (.iload_n 3, 1) := by decide +kernel
theorem dX10_dictator_75 : decode cX10_dictator 75 = .ok (.ifCond .eq 5, 3) := by decide +kernel
theorem dX10_dictator_78 : decode cX10_dictator 78 = .ok (.iload_n 2, 1) := by decide +kernel
theorem dX10_dictator_79 : decode cX10_dictator 79 = .ok (.ireturn, 1) := by decide +kernel
theorem dX10_dictator_80 : decode cX10_dictator 80 = .ok (.iinc 2 1, 3) := by decide +kernel
theorem dX10_dictator_83 : decode cX10_dictator 83 = .ok (.goto (-68), 3) := by decide +kernel
theorem dX10_dictator_86 : decode cX10_dictator 86 = .ok (.bipush (-2), 2) := by decide +kernel
theorem dX10_dictator_88 : decode cX10_dictator 88 = .ok (.ireturn, 1) := by decide +kernel
theorem dX10_budget_0 : decode cX10_budget 0 = .ok (.aload_n 0, 1) := by decide +kernel
theorem dX10_budget_1 : decode cX10_budget 1 = .ok (.iconst 0, 1) := by decide +kernel
theorem dX10_budget_2 : decode cX10_budget 2 = .ok (.putfield 107, 3) := by decide +kernel
theorem dX10_budget_5 : decode cX10_budget 5 = .ok (.iload_n 1, 1) := by decide +kernel
theorem dX10_budget_6 : decode cX10_budget 6 = .ok (.aload_n 0, 1) := by decide +kernel
theorem dX10_budget_7 : decode cX10_budget 7 = .ok (.getfield 116, 3) := by decide +kernel
theorem dX10_budget_10 : decode cX10_budget 10 = .ok (.invokestatic 119, 3) := by decide +kernel
theorem dX10_budget_13 : decode cX10_budget 13 = .ok (.ifCond .ne 10, 3) := by decide +kernel
theorem dX10_budget_16 : decode cX10_budget 16 = .ok (.aload_n 0, 1) := by decide +kernel
theorem dX10_budget_17 : decode cX10_budget 17 = .ok (.iconst 1, 1) := by decide +kernel
theorem dX10_budget_18 : decode cX10_budget 18 = .ok (.invokevirtual 147, 3) := by decide +kernel
theorem dX10_budget_21 : decode cX10_budget 21 = .ok (.i2l, 1) := by decide +kernel
theorem dX10_budget_22 : decode cX10_budget 22 = .ok (.lreturn, 1) := by decide +kernel
theorem dX10_budget_23 : decode cX10_budget 23 = .ok (.lconst 0, 1) := by decide +kernel
theorem dX10_budget_24 : decode cX10_budget 24 = .ok (.lstore_n 3, 1) := by decide +kernel
theorem dX10_budget_25 : decode cX10_budget 25 = .ok (.iconst 0, 1) := by decide +kernel
theorem dX10_budget_26 : decode cX10_budget 26 = .ok (.istore 5, 2) := by decide +kernel
theorem dX10_budget_28 : decode cX10_budget 28 = .ok (.iload 5, 2) := by decide +kernel
theorem dX10_budget_30 : decode cX10_budget 30 = .ok (.aload_n 0, 1) := by decide +kernel
theorem dX10_budget_31 : decode cX10_budget 31 = .ok (.getfield 113, 3) := by decide +kernel
theorem dX10_budget_34 : decode cX10_budget 34 = .ok (.if_icmp .ge 78, 3) := by decide +kernel
theorem dX10_budget_37 : decode cX10_budget 37 = .ok (.lconst 0, 1) := by decide +kernel
theorem dX10_budget_38 : decode cX10_budget 38 = .ok (.lstore 6, 2) := by decide +kernel
theorem dX10_budget_40 : decode cX10_budget 40 = .ok (.iconst 0, 1) := by decide +kernel
theorem dX10_budget_41 : decode cX10_budget 41 = .ok (.istore 8, 2) := by decide +kernel
theorem dX10_budget_43 : decode cX10_budget 43 = .ok (.iload 8, 2) := by decide +kernel
theorem dX10_budget_45 : decode cX10_budget 45 = .ok (.aload_n 0, 1) := by decide +kernel
theorem dX10_budget_46 : decode cX10_budget 46 = .ok (.getfield 97, 3) := by decide +kernel
theorem dX10_budget_49 : decode cX10_budget 49 = .ok (.if_icmp .ge 24, 3) := by decide +kernel
theorem dX10_budget_52 : decode cX10_budget 52 = .ok (.lload 6, 2) := by decide +kernel
theorem dX10_budget_54 : decode cX10_budget 54 = .ok (.aload_n 0, 1) := by decide +kernel
theorem dX10_budget_55 : decode cX10_budget 55 = .ok (.iload_n 1, 1) := by decide +kernel
theorem dX10_budget_56 : decode cX10_budget 56 = .ok (.iload 5, 2) := by decide +kernel
theorem dX10_budget_58 : decode cX10_budget 58 = .ok (.iload 8, 2) := by decide +kernel
theorem dX10_budget_60 : decode cX10_budget 60 = .ok (.invokevirtual 150, 3) := by decide +kernel
theorem dX10_budget_63 : decode cX10_budget 63 = .ok (.i2l, 1) := by decide +kernel
theorem dX10_budget_64 : decode cX10_budget 64 = .ok (.ladd, 1) := by decide +kernel
theorem dX10_budget_65 : decode cX10_budget 65 = .ok (.lstore 6, 2) := by decide +kernel
theorem dX10_budget_67 : decode cX10_budget 67 = .ok (.iinc 8 1, 3) := by decide +kernel
theorem dX10_budget_70 : decode cX10_budget 70 = .ok (.goto (-27), 3) := by decide +kernel
theorem dX10_budget_73 : decode cX10_budget 73 = .ok (.iload 5, 2) := by decide +kernel
theorem dX10_budget_75 : decode cX10_budget 75 = .ok (.ifCond .eq 24, 3) := by decide +kernel
theorem dX10_budget_78 : decode cX10_budget 78 = .ok (.iload_n 2, 1) := by decide +kernel
theorem dX10_budget_79 : decode cX10_budget 79 = .ok (.ifCond .eq 13, 3) := by decide +kernel
theorem dX10_budget_82 : decode cX10_budget 82 = .ok (.lload 6, 2) := by decide +kernel
theorem dX10_budget_84 : decode cX10_budget 84 = .ok (.lload_n 3, 1) := by decide +kernel
theorem dX10_budget_85 : decode cX10_budget 85 = .ok (.lcmp, 1) := by decide +kernel
theorem dX10_budget_86 : decode cX10_budget 86 = .ok (.ifCond .le 18, 3) := by decide +kernel
theorem dX10_budget_89 : decode cX10_budget 89 = .ok (.goto 10, 3) := by decide +kernel
theorem dX10_budget_92 : decode cX10_budget 92 = .ok (.lload 6, 2) := by decide +kernel
theorem dX10_budget_94 : decode cX10_budget 94 = .ok (.lload_n 3, 1) := by decide +kernel
theorem dX10_budget_95 : decode cX10_budget 95 = .ok (.lcmp, 1) := by decide +kernel
theorem dX10_budget_96 : decode cX10_budget 96 = .ok (.ifCond .ge 8, 3) := by decide +kernel
theorem dX10_budget_99 : decode cX10_budget 99 = .ok (.lload 6, 2) := by decide +kernel
theorem dX10_budget_101 : decode cX10_budget 101 = .ok (.goto 4, 3) := by decide +kernel
theorem dX10_budget_104 : decode cX10_budget 104 = .ok (.lload_n 3, 1) := by decide +kernel
theorem dX10_budget_105 : decode cX10_budget 105 = .ok (.lstore_n 3, 1) := by decide +kernel
theorem dX10_budget_106 : decode cX10_budget 106 = .ok (.iinc 5 1, 3) := by decide +kernel
theorem dX10_budget_109 : decode cX10_budget 109 = .ok (.goto (-81), 3) := by decide +kernel
theorem dX10_budget_112 : decode cX10_budget 112 = .ok (.lload_n 3, 1) := by decide +kernel
theorem dX10_budget_113 : decode cX10_budget 113 = .ok (.lreturn, 1) := by decide +kernel
theorem dX10_welfare_0 : decode cX10_welfare 0 = .ok (.aload_n 0, 1) := by decide +kernel
theorem dX10_welfare_1 : decode cX10_welfare 1 = .ok (.iconst 0, 1) := by decide +kernel
theorem dX10_welfare_2 : decode cX10_welfare 2 = .ok (.putfield 107, 3) := by decide +kernel
theorem dX10_welfare_5 : decode cX10_welfare 5 = .ok (.iload_n 1, 1) := by decide +kernel
theorem dX10_welfare_6 : decode cX10_welfare 6 = .ok (.aload_n 0, 1) := by decide +kernel
theorem dX10_welfare_7 : decode cX10_welfare 7 = .ok (.getfield 116, 3) := by decide +kernel
theorem dX10_welfare_10 : decode cX10_welfare 10 = .ok (.invokestatic 119, 3) := by decide +kernel
theorem dX10_welfare_13 : decode cX10_welfare 13 = .ok (.ifCond .ne 10, 3) := by decide +kernel
theorem dX10_welfare_16 : decode cX10_welfare 16 = .ok (.aload_n 0, 1) := by decide +kernel
theorem dX10_welfare_17 : decode cX10_welfare 17 = .ok (.iconst 1, 1) := by decide +kernel
theorem dX10_welfare_18 : decode cX10_welfare 18 = .ok (.invokevirtual 147, 3) := by decide +kernel
theorem dX10_welfare_21 : decode cX10_welfare 21 = .ok (.i2l, 1) := by decide +kernel
theorem dX10_welfare_22 : decode cX10_welfare 22 = .ok (.lreturn, 1) := by decide +kernel
theorem dX10_welfare_23 : decode cX10_welfare 23 = .ok (.lconst 0, 1) := by decide +kernel
theorem dX10_welfare_24 : decode cX10_welfare 24 = .ok (.lstore_n 2, 1) := by decide +kernel
theorem dX10_welfare_25 : decode cX10_welfare 25 = .ok (.iconst 0, 1) := by decide +kernel
theorem dX10_welfare_26 : decode cX10_welfare 26 = .ok (.istore 4, 2) := by decide +kernel
theorem dX10_welfare_28 : decode cX10_welfare 28 = .ok (.iload 4, 2) := by decide +kernel
theorem dX10_welfare_30 : decode cX10_welfare 30 = .ok (.aload_n 0, 1) := by decide +kernel
theorem dX10_welfare_31 : decode cX10_welfare 31 = .ok (.getfield 113, 3) := by decide +kernel
theorem dX10_welfare_34 : decode cX10_welfare 34 = .ok (.if_icmp .ge 58, 3) := by decide +kernel
theorem dX10_welfare_37 : decode cX10_welfare 37 = .ok (.aload_n 0, 1) := by decide +kernel
theorem dX10_welfare_38 : decode cX10_welfare 38 = .ok (.iload_n 1, 1) := by decide +kernel
theorem dX10_welfare_39 : decode cX10_welfare 39 = .ok (.iload 4, 2) := by decide +kernel
theorem dX10_welfare_41 : decode cX10_welfare 41 = .ok (.invokevirtual 144, 3) := by decide +kernel
theorem dX10_welfare_44 : decode cX10_welfare 44 = .ok (.istore 5, 2) := by decide +kernel
theorem dX10_welfare_46 : decode cX10_welfare 46 = .ok (.iconst 0, 1) := by decide +kernel
theorem dX10_welfare_47 : decode cX10_welfare 47 = .ok (.istore 6, 2) := by decide +kernel
theorem dX10_welfare_49 : decode cX10_welfare 49 = .ok (.iload 6, 2) := by decide +kernel
theorem dX10_welfare_51 : decode cX10_welfare 51 = .ok (.aload_n 0, 1) := by decide +kernel
theorem dX10_welfare_52 : decode cX10_welfare 52 = .ok (.getfield 97, 3) := by decide +kernel
theorem dX10_welfare_55 : decode cX10_welfare 55 = .ok (.if_icmp .ge 31, 3) := by decide +kernel
theorem dX10_welfare_58 : decode cX10_welfare 58 = .ok (.lload_n 2, 1) := by decide +kernel
theorem dX10_welfare_59 : decode cX10_welfare 59 = .ok (.aload_n 0, 1) := by decide +kernel
theorem dX10_welfare_60 : decode cX10_welfare 60 = .ok (.getfield 9, 3) := by decide +kernel
theorem dX10_welfare_63 : decode cX10_welfare 63 = .ok (.iconst 5, 1) := by decide +kernel
theorem dX10_welfare_64 : decode cX10_welfare 64 = .ok (.aload_n 0, 1) := by decide +kernel
theorem dX10_welfare_65 : decode cX10_welfare 65 = .ok (.iload 4, 2) := by decide +kernel
theorem dX10_welfare_67 : decode cX10_welfare 67 = .ok (.iload 6, 2) := by decide +kernel
theorem dX10_welfare_69 : decode cX10_welfare 69 = .ok (.invokevirtual 126, 3) := by decide +kernel
theorem dX10_welfare_72 : decode cX10_welfare 72 = .ok (.imul, 1) := by decide +kernel
theorem dX10_welfare_73 : decode cX10_welfare 73 = .ok (.iload 5, 2) := by decide +kernel
theorem dX10_welfare_75 : decode cX10_welfare 75 = .ok (.iadd, 1) := by decide +kernel
theorem dX10_welfare_76 : decode cX10_welfare 76 = .ok (.iaload, 1) := by decide +kernel
theorem dX10_welfare_77 : decode cX10_welfare 77 = .ok (.i2l, 1) := by decide +kernel
theorem dX10_welfare_78 : decode cX10_welfare 78 = .ok (.ladd, 1) := by decide +kernel
theorem dX10_welfare_79 : decode cX10_welfare 79 = .ok (.lstore_n 2, 1) := by decide +kernel
theorem dX10_welfare_80 : decode cX10_welfare 80 = .ok (.iinc 6 1, 3) := by decide +kernel
theorem dX10_welfare_83 : decode cX10_welfare 83 = .ok (.goto (-34), 3) := by decide +kernel
theorem dX10_welfare_86 : decode cX10_welfare 86 = .ok (.iinc 4 1, 3) := by decide +kernel
theorem dX10_welfare_89 : decode cX10_welfare 89 = .ok (.goto (-61), 3) := by decide +kernel
theorem dX10_welfare_92 : decode cX10_welfare 92 = .ok (.lload_n 2, 1) := by decide +kernel
theorem dX10_welfare_93 : decode cX10_welfare 93 = .ok (.lreturn, 1) := by decide +kernel
theorem dX10_measure_0 : decode cX10_measure 0 = .ok (.iconst 0, 1) := by decide +kernel
theorem dX10_measure_1 : decode cX10_measure 1 = .ok (.istore 4, 2) := by decide +kernel
theorem dX10_measure_3 : decode cX10_measure 3 = .ok (.iload 4, 2) := by decide +kernel
theorem dX10_measure_5 : decode cX10_measure 5 = .ok (.aload_n 0, 1) := by decide +kernel
theorem dX10_measure_6 : decode cX10_measure 6 = .ok (.getfield 101, 3) := by decide +kernel
theorem dX10_measure_9 : decode cX10_measure 9 = .ok (.if_icmp .ge 17, 3) := by decide +kernel
theorem dX10_measure_12 : decode cX10_measure 12 = .ok (.aload_n 0, 1) := by decide +kernel
theorem dX10_measure_13 : decode cX10_measure 13 = .ok (.getfield 41, 3) := by decide +kernel
theorem dX10_measure_16 : decode cX10_measure 16 = .ok (.iload 4, 2) := by decide +kernel
theorem dX10_measure_18 : decode cX10_measure 18 = .ok (.iconst 0, 1) := by decide +kernel
theorem dX10_measure_19 : decode cX10_measure 19 = .ok (.bastore, 1) := by decide +kernel
theorem dX10_measure_20 : decode cX10_measure 20 = .ok (.iinc 4 1, 3) := by decide +kernel
theorem dX10_measure_23 : decode cX10_measure 23 = .ok (.goto (-20), 3) := by decide +kernel
theorem dX10_measure_26 : decode cX10_measure 26 = .ok (.iconst 0, 1) := by decide +kernel
theorem dX10_measure_27 : decode cX10_measure 27 = .ok (.istore 4, 2) := by decide +kernel
theorem dX10_measure_29 : decode cX10_measure 29 = .ok (.iload 4, 2) := by decide +kernel
theorem dX10_measure_31 : decode cX10_measure 31 = .ok (.bipush 25, 2) := by decide +kernel
theorem dX10_measure_33 : decode cX10_measure 33 = .ok (.if_icmp .ge 18, 3) := by decide +kernel
theorem dX10_measure_36 : decode cX10_measure 36 = .ok (.aload_n 0, 1) := by decide +kernel
theorem dX10_measure_37 : decode cX10_measure 37 = .ok (.getfield 45, 3) := by decide +kernel
theorem dX10_measure_40 : decode cX10_measure 40 = .ok (.iload 4, 2) := by decide +kernel
theorem dX10_measure_42 : decode cX10_measure 42 = .ok (.ldc 170, 2) := by decide +kernel
theorem dX10_measure_44 : decode cX10_measure 44 = .ok (.iastore, 1) := by decide +kernel
theorem dX10_measure_45 : decode cX10_measure 45 = .ok (.iinc 4 1, 3) := by decide +kernel
theorem dX10_measure_48 : decode cX10_measure 48 = .ok (.goto (-19), 3) := by decide +kernel
theorem dX10_measure_51 : decode cX10_measure 51 = .ok (.iconst 0, 1) := by decide +kernel
theorem dX10_measure_52 : decode cX10_measure 52 = .ok (.istore 4, 2) := by decide +kernel
theorem dX10_measure_54 : decode cX10_measure 54 = .ok (.iload 4, 2) := by decide +kernel
theorem dX10_measure_56 : decode cX10_measure 56 = .ok (.aload_n 0, 1) := by decide +kernel
theorem dX10_measure_57 : decode cX10_measure 57 = .ok (.getfield 110, 3) := by decide +kernel
theorem dX10_measure_60 : decode cX10_measure 60 = .ok (.if_icmp .ge 102, 3) := by decide +kernel
theorem dX10_measure_63 : decode cX10_measure 63 = .ok (.aload_n 0, 1) := by decide +kernel
theorem dX10_measure_64 : decode cX10_measure 64 = .ok (.iload_n 1, 1) := by decide +kernel
theorem dX10_measure_65 : decode cX10_measure 65 = .ok (.aload_n 0, 1) := by decide +kernel
theorem dX10_measure_66 : decode cX10_measure 66 = .ok (.iload_n 2, 1) := by decide +kernel
theorem dX10_measure_67 : decode cX10_measure 67 = .ok (.iload_n 3, 1) := by decide +kernel
theorem dX10_measure_68 : decode cX10_measure 68 = .ok (.iload 4, 2) := by decide +kernel
theorem dX10_measure_70 : decode cX10_measure 70 = .ok (.invokevirtual 153, 3) := by decide +kernel
theorem dX10_measure_73 : decode cX10_measure 73 = .ok (.invokevirtual 144, 3) := by decide +kernel
theorem dX10_measure_76 : decode cX10_measure 76 = .ok (.istore 5, 2) := by decide +kernel
theorem dX10_measure_78 : decode cX10_measure 78 = .ok (.aload_n 0, 1) := by decide +kernel
theorem dX10_measure_79 : decode cX10_measure 79 = .ok (.getfield 41, 3) := by decide +kernel
theorem dX10_measure_82 : decode cX10_measure 82 = .ok (.iload 5, 2) := by decide +kernel
theorem dX10_measure_84 : decode cX10_measure 84 = .ok (.iconst 1, 1) := by decide +kernel
theorem dX10_measure_85 : decode cX10_measure 85 = .ok (.bastore, 1) := by decide +kernel
theorem dX10_measure_86 : decode cX10_measure 86 = .ok (.iconst 0, 1) := by decide +kernel
theorem dX10_measure_87 : decode cX10_measure 87 = .ok (.istore 6, 2) := by decide +kernel
theorem dX10_measure_89 : decode cX10_measure 89 = .ok (.iload 6, 2) := by decide +kernel
theorem dX10_measure_91 : decode cX10_measure 91 = .ok (.aload_n 0, 1) := by decide +kernel
theorem dX10_measure_92 : decode cX10_measure 92 = .ok (.getfield 101, 3) := by decide +kernel
theorem dX10_measure_95 : decode cX10_measure 95 = .ok (.if_icmp .ge 61, 3) := by decide +kernel
theorem dX10_measure_98 : decode cX10_measure 98 = .ok (.aload_n 0, 1) := by decide +kernel
theorem dX10_measure_99 : decode cX10_measure 99 = .ok (.getfield 45, 3) := by decide +kernel
theorem dX10_measure_102 : decode cX10_measure 102 = .ok (.iconst 5, 1) := by decide +kernel
theorem dX10_measure_103 : decode cX10_measure 103 = .ok (.iload 6, 2) := by decide +kernel
theorem dX10_measure_105 : decode cX10_measure 105 = .ok (.imul, 1) := by decide +kernel
theorem dX10_measure_106 : decode cX10_measure 106 = .ok (.iload 5, 2) := by decide +kernel
theorem dX10_measure_108 : decode cX10_measure 108 = .ok (.iadd, 1) := by decide +kernel
theorem dX10_measure_109 : decode cX10_measure 109 = .ok (.aload_n 0, 1) := by decide +kernel
theorem dX10_measure_110 : decode cX10_measure 110 = .ok (.getfield 45, 3) := by decide +kernel
theorem dX10_measure_113 : decode cX10_measure 113 = .ok (.iconst 5, 1) := by decide +kernel
theorem dX10_measure_114 : decode cX10_measure 114 = .ok (.iload 6, 2) := by decide +kernel
theorem dX10_measure_116 : decode cX10_measure 116 = .ok (.imul, 1) := by decide +kernel
theorem dX10_measure_117 : decode cX10_measure 117 = .ok (.iload 5, 2) := by decide +kernel
theorem dX10_measure_119 : decode cX10_measure 119 = .ok (.iadd, 1) := by decide +kernel
theorem dX10_measure_120 : decode cX10_measure 120 = .ok (.iaload, 1) := by decide +kernel
theorem dX10_measure_121 : decode cX10_measure 121 = .ok (.aload_n 0, 1) := by decide +kernel
theorem dX10_measure_122 : decode cX10_measure 122 = .ok (.getfield 9, 3) := by decide +kernel
theorem dX10_measure_125 : decode cX10_measure 125 = .ok (.iconst 5, 1) := by decide +kernel
theorem dX10_measure_126 : decode cX10_measure 126 = .ok (.iload 4, 2) := by decide +kernel
theorem dX10_measure_128 : decode cX10_measure 128 = .ok (.imul, 1) := by decide +kernel
theorem dX10_measure_129 : decode cX10_measure 129 = .ok (.iload 5, 2) := by decide +kernel
theorem dX10_measure_131 : decode cX10_measure 131 = .ok (.iadd, 1) := by decide +kernel
theorem dX10_measure_132 : decode cX10_measure 132 = .ok (.iaload, 1) := by decide +kernel
theorem dX10_measure_133 : decode cX10_measure 133 = .ok (.aload_n 0, 1) := by decide +kernel
theorem dX10_measure_134 : decode cX10_measure 134 = .ok (.getfield 9, 3) := by decide +kernel
theorem dX10_measure_137 : decode cX10_measure 137 = .ok (.iconst 5, 1) := by decide +kernel
theorem dX10_measure_138 : decode cX10_measure 138 = .ok (.iload 4, 2) := by decide +kernel
theorem dX10_measure_140 : decode cX10_measure 140 = .ok (.imul, 1) := by decide +kernel
theorem dX10_measure_141 : decode cX10_measure 141 = .ok (.iload 6, 2) := by decide +kernel
theorem dX10_measure_143 : decode cX10_measure 143 = .ok (.iadd, 1) := by decide +kernel
theorem dX10_measure_144 : decode cX10_measure 144 = .ok (.iaload, 1) := by decide +kernel
theorem dX10_measure_145 : decode cX10_measure 145 = .ok (.isub, 1) := by decide +kernel
theorem dX10_measure_146 : decode cX10_measure 146 = .ok (.invokestatic 171, 3) := by decide +kernel
theorem dX10_measure_149 : decode cX10_measure 149 = .ok (.iastore, 1) := by decide +kernel
theorem dX10_measure_150 : decode cX10_measure 150 = .ok (.iinc 6 1, 3) := by decide +kernel
theorem dX10_measure_153 : decode cX10_measure 153 = .ok (.goto (-64), 3) := by decide +kernel
theorem dX10_measure_156 : decode cX10_measure 156 = .ok (.iinc 4 1, 3) := by decide +kernel
theorem dX10_measure_159 : decode cX10_measure 159 = .ok (.goto (-105), 3) := by decide +kernel
theorem dX10_measure_162 : decode cX10_measure 162 = .ok (.return_, 1) := by decide +kernel
theorem dX10_leastRound_0 : decode cX10_leastRound 0 = .ok (.ldc 170, 2) := by decide +kernel
theorem dX10_leastRound_2 : decode cX10_leastRound 2 = .ok (.istore 5, 2) := by decide +kernel
theorem dX10_leastRound_4 : decode cX10_leastRound 4 = .ok (.iload_n 1, 1) := by decide +kernel
theorem dX10_leastRound_5 : decode cX10_leastRound 5 = .ok (.istore 6, 2) := by decide +kernel
theorem dX10_leastRound_7 : decode cX10_leastRound 7 = .ok (.iload 6, 2) := by decide +kernel
theorem dX10_leastRound_9 : decode cX10_leastRound 9 = .ok (.aload_n 0, 1) := by decide +kernel
theorem dX10_leastRound_10 : decode cX10_leastRound 10 = .ok (.getfield 101, 3) := by decide +kernel
theorem dX10_leastRound_13 : decode cX10_leastRound 13 = .ok (.if_icmp .ge 99, 3) := by decide +kernel
theorem dX10_leastRound_16 : decode cX10_leastRound 16 = .ok (.aload_n 0, 1) := by decide +kernel
theorem dX10_leastRound_17 : decode cX10_leastRound 17 = .ok (.getfield 41, 3) := by decide +kernel
theorem dX10_leastRound_20 : decode cX10_leastRound 20 = .ok (.iload 6, 2) := by decide +kernel
theorem dX10_leastRound_22 : decode cX10_leastRound 22 = .ok (.baload, 1) := by decide +kernel
theorem dX10_leastRound_23 : decode cX10_leastRound 23 = .ok (.ifCond .ne 6, 3) := by decide +kernel
theorem dX10_leastRound_26 : decode cX10_leastRound 26 = .ok (.goto 80, 3) := by decide +kernel
theorem dX10_leastRound_29 : decode cX10_leastRound 29 = .ok (.iload 6, 2) := by decide +kernel
theorem dX10_leastRound_31 : decode cX10_leastRound 31 = .ok (.iload_n 1, 1) := by decide +kernel
theorem dX10_leastRound_32 : decode cX10_leastRound 32 = .ok (.if_icmp .ne 31, 3) := by decide +kernel
theorem dX10_leastRound_35 : decode cX10_leastRound 35 = .ok (.iload_n 2, 1) := by decide +kernel
theorem dX10_leastRound_36 : decode cX10_leastRound 36 = .ok (.iload_n 1, 1) := by decide +kernel
theorem dX10_leastRound_37 : decode cX10_leastRound 37 = .ok (.if_icmp .eq 69, 3) := by decide +kernel
theorem dX10_leastRound_40 : decode cX10_leastRound 40 = .ok (.iload 5, 2) := by decide +kernel
theorem dX10_leastRound_42 : decode cX10_leastRound 42 = .ok (.iload 4, 2) := by decide +kernel
theorem dX10_leastRound_44 : decode cX10_leastRound 44 = .ok (.aload_n 0, 1) := by decide +kernel
theorem dX10_leastRound_45 : decode cX10_leastRound 45 = .ok (.getfield 45, 3) := by decide +kernel
theorem dX10_leastRound_48 : decode cX10_leastRound 48 = .ok (.iconst 5, 1) := by decide +kernel
theorem dX10_leastRound_49 : decode cX10_leastRound 49 = .ok (.iload_n 2, 1) := by decide +kernel
theorem dX10_leastRound_50 : decode cX10_leastRound 50 = .ok (.imul, 1) := by decide +kernel
theorem dX10_leastRound_51 : decode cX10_leastRound 51 = .ok (.iload_n 1, 1) := by decide +kernel
theorem dX10_leastRound_52 : decode cX10_leastRound 52 = .ok (.iadd, 1) := by decide +kernel
theorem dX10_leastRound_53 : decode cX10_leastRound 53 = .ok (.iaload, 1) := by decide +kernel
theorem dX10_leastRound_54 : decode cX10_leastRound 54 = .ok (.iadd, 1) := by decide +kernel
theorem dX10_leastRound_55 : decode cX10_leastRound 55 = .ok (.invokestatic 171, 3) := by decide +kernel
theorem dX10_leastRound_58 : decode cX10_leastRound 58 = .ok (.istore 5, 2) := by decide +kernel
theorem dX10_leastRound_60 : decode cX10_leastRound 60 = .ok (.goto 46, 3) := by decide +kernel
theorem dX10_leastRound_63 : decode cX10_leastRound 63 = .ok (.iload_n 3, 1) := by decide +kernel
theorem dX10_leastRound_64 : decode cX10_leastRound 64 = .ok (.iload 6, 2) := by decide +kernel
theorem dX10_leastRound_66 : decode cX10_leastRound 66 = .ok (.ishr, 1) := by decide +kernel
theorem dX10_leastRound_67 : decode cX10_leastRound 67 = .ok (.iconst 1, 1) := by decide +kernel
theorem dX10_leastRound_68 : decode cX10_leastRound 68 = .ok (.iand, 1) := by decide +kernel
theorem dX10_leastRound_69 : decode cX10_leastRound 69 = .ok (.ifCond .ne 37, 3) := by decide +kernel
theorem dX10_leastRound_72 : decode cX10_leastRound 72 = .ok (.iload 5, 2) := by decide +kernel
theorem dX10_leastRound_74 : decode cX10_leastRound 74 = .ok (.aload_n 0, 1) := by decide +kernel
theorem dX10_leastRound_75 : decode cX10_leastRound 75 = .ok (.iload_n 1, 1) := by decide +kernel
theorem dX10_leastRound_76 : decode cX10_leastRound 76 = .ok (.iload 6, 2) := by decide +kernel
theorem dX10_leastRound_78 : decode cX10_leastRound 78 = .ok (.iload_n 3, 1) := by decide +kernel
theorem dX10_leastRound_79 : decode cX10_leastRound 79 = .ok (.iconst 1, 1) := by decide +kernel
theorem dX10_leastRound_80 : decode cX10_leastRound 80 = .ok (.iload 6, 2) := by decide +kernel
theorem dX10_leastRound_82 : decode cX10_leastRound 82 = .ok (.ishl, 1) := by decide +kernel
theorem dX10_leastRound_83 : decode cX10_leastRound 83 = .ok (.ior, 1) := by decide +kernel
theorem dX10_leastRound_84 : decode cX10_leastRound 84 = .ok (.iload 4, 2) := by decide +kernel
theorem dX10_leastRound_86 : decode cX10_leastRound 86 = .ok (.aload_n 0, 1) := by decide +kernel
theorem dX10_leastRound_87 : decode cX10_leastRound 87 = .ok (.getfield 45, 3) := by decide +kernel
theorem dX10_leastRound_90 : decode cX10_leastRound 90 = .ok (.iconst 5, 1) := by decide +kernel
theorem dX10_leastRound_91 : decode cX10_leastRound 91 = .ok (.iload_n 2, 1) := by decide +kernel
theorem dX10_leastRound_92 : decode cX10_leastRound 92 = .ok (.imul, 1) := by decide +kernel
theorem dX10_leastRound_93 : decode cX10_leastRound 93 = .ok (.iload 6, 2) := by decide +kernel
theorem dX10_leastRound_95 : decode cX10_leastRound 95 = .ok (.iadd, 1) := by decide +kernel
theorem dX10_leastRound_96 : decode cX10_leastRound 96 = .ok (.iaload, 1) := by decide +kernel
theorem dX10_leastRound_97 : decode cX10_leastRound 97 = .ok (.iadd, 1) := by decide +kernel
theorem dX10_leastRound_98 : decode cX10_leastRound 98 = .ok (.invokevirtual 174, 3) := by decide +kernel
theorem dX10_leastRound_101 : decode cX10_leastRound 101 = .ok (.invokestatic 171, 3) := by decide +kernel
theorem dX10_leastRound_104 : decode cX10_leastRound 104 = .ok (.istore 5, 2) := by decide +kernel
theorem dX10_leastRound_106 : decode cX10_leastRound 106 = .ok (.iinc 6 1, 3) := by decide +kernel
theorem dX10_leastRound_109 : decode cX10_leastRound 109 = .ok (.goto (-102), 3) := by decide +kernel
theorem dX10_leastRound_112 : decode cX10_leastRound 112 = .ok (.iload 5, 2) := by decide +kernel
theorem dX10_leastRound_114 : decode cX10_leastRound 114 = .ok (.ireturn, 1) := by decide +kernel
theorem dX10_least_0 : decode cX10_least 0 = .ok (.ldc 170, 2) := by decide +kernel
theorem dX10_least_2 : decode cX10_least 2 = .ok (.istore_n 1, 1) := by decide +kernel
theorem dX10_least_3 : decode cX10_least 3 = .ok (.iconst 0, 1) := by decide +kernel
theorem dX10_least_4 : decode cX10_least 4 = .ok (.istore_n 2, 1) := by decide +kernel
theorem dX10_least_5 : decode cX10_least 5 = .ok (.iload_n 2, 1) := by decide +kernel
theorem dX10_least_6 : decode cX10_least 6 = .ok (.aload_n 0, 1) := by decide +kernel
theorem dX10_least_7 : decode cX10_least 7 = .ok (.getfield 101, 3) := by decide +kernel
theorem dX10_least_10 : decode cX10_least 10 = .ok (.if_icmp .ge 33, 3) := by decide +kernel
theorem dX10_least_13 : decode cX10_least 13 = .ok (.aload_n 0, 1) := by decide +kernel
theorem dX10_least_14 : decode cX10_least 14 = .ok (.getfield 41, 3) := by decide +kernel
theorem dX10_least_17 : decode cX10_least 17 = .ok (.iload_n 2, 1) := by decide +kernel
theorem dX10_least_18 : decode cX10_least 18 = .ok (.baload, 1) := by decide +kernel
theorem dX10_least_19 : decode cX10_least 19 = .ok (.ifCond .eq 18, 3) := by decide +kernel
theorem dX10_least_22 : decode cX10_least 22 = .ok (.iload_n 1, 1) := by decide +kernel
theorem dX10_least_23 : decode cX10_least 23 = .ok (.aload_n 0, 1) := by decide +kernel
theorem dX10_least_24 : decode cX10_least 24 = .ok (.iload_n 2, 1) := by decide +kernel
theorem dX10_least_25 : decode cX10_least 25 = .ok (.iload_n 2, 1) := by decide +kernel
theorem dX10_least_26 : decode cX10_least 26 = .ok (.iconst 1, 1) := by decide +kernel
theorem dX10_least_27 : decode cX10_least 27 = .ok (.iload_n 2, 1) := by decide +kernel
theorem dX10_least_28 : decode cX10_least 28 = .ok (.ishl, 1) := by decide +kernel
theorem dX10_least_29 : decode cX10_least 29 = .ok (.iconst 0, 1) := by decide +kernel
theorem dX10_least_30 : decode cX10_least 30 = .ok (.invokevirtual 174, 3) := by decide +kernel
theorem dX10_least_33 : decode cX10_least 33 = .ok (.invokestatic 171, 3) := by decide +kernel
theorem dX10_least_36 : decode cX10_least 36 = .ok (.istore_n 1, 1) := by decide +kernel
theorem dX10_least_37 : decode cX10_least 37 = .ok (.iinc 2 1, 3) := by decide +kernel
theorem dX10_least_40 : decode cX10_least 40 = .ok (.goto (-35), 3) := by decide +kernel
theorem dX10_least_43 : decode cX10_least 43 = .ok (.iload_n 1, 1) := by decide +kernel
theorem dX10_least_44 : decode cX10_least 44 = .ok (.ireturn, 1) := by decide +kernel
theorem dX10_span_0 : decode cX10_span 0 = .ok (.aload_n 0, 1) := by decide +kernel
theorem dX10_span_1 : decode cX10_span 1 = .ok (.iconst 0, 1) := by decide +kernel
theorem dX10_span_2 : decode cX10_span 2 = .ok (.putfield 107, 3) := by decide +kernel
theorem dX10_span_5 : decode cX10_span 5 = .ok (.aload_n 0, 1) := by decide +kernel
theorem dX10_span_6 : decode cX10_span 6 = .ok (.iload_n 1, 1) := by decide +kernel
theorem dX10_span_7 : decode cX10_span 7 = .ok (.iload_n 2, 1) := by decide +kernel
theorem dX10_span_8 : decode cX10_span 8 = .ok (.invokevirtual 123, 3) := by decide +kernel
theorem dX10_span_11 : decode cX10_span 11 = .ok (.ifCond .eq 38, 3) := by decide +kernel
theorem dX10_span_14 : decode cX10_span 14 = .ok (.iload_n 3, 1) := by decide +kernel
theorem dX10_span_15 : decode cX10_span 15 = .ok (.aload_n 0, 1) := by decide +kernel
theorem dX10_span_16 : decode cX10_span 16 = .ok (.getfield 97, 3) := by decide +kernel
theorem dX10_span_19 : decode cX10_span 19 = .ok (.invokestatic 119, 3) := by decide +kernel
theorem dX10_span_22 : decode cX10_span 22 = .ok (.ifCond .eq 27, 3) := by decide +kernel
theorem dX10_span_25 : decode cX10_span 25 = .ok (.iload 4, 2) := by decide +kernel
theorem dX10_span_27 : decode cX10_span 27 = .ok (.aload_n 0, 1) := by decide +kernel
theorem dX10_span_28 : decode cX10_span 28 = .ok (.getfield 101, 3) := by decide +kernel
theorem dX10_span_31 : decode cX10_span 31 = .ok (.invokestatic 119, 3) := by decide +kernel
theorem dX10_span_34 : decode cX10_span 34 = .ok (.ifCond .eq 15, 3) := by decide +kernel
theorem dX10_span_37 : decode cX10_span 37 = .ok (.iload 5, 2) := by decide +kernel
theorem dX10_span_39 : decode cX10_span 39 = .ok (.aload_n 0, 1) := by decide +kernel
theorem dX10_span_40 : decode cX10_span 40 = .ok (.getfield 101, 3) := by decide +kernel
theorem dX10_span_43 : decode cX10_span 43 = .ok (.invokestatic 119, 3) := by decide +kernel
theorem dX10_span_46 : decode cX10_span 46 = .ok (.ifCond .ne 9, 3) := by decide +kernel
theorem dX10_span_49 : decode cX10_span 49 = .ok (.aload_n 0, 1) := by decide +kernel
theorem dX10_span_50 : decode cX10_span 50 = .ok (.iconst 1, 1) := by decide +kernel
theorem dX10_span_51 : decode cX10_span 51 = .ok (.invokevirtual 147, 3) := by decide +kernel
theorem dX10_span_54 : decode cX10_span 54 = .ok (.ireturn, 1) := by decide +kernel
theorem dX10_span_55 : decode cX10_span 55 = .ok (.aload_n 0, 1) := by decide +kernel
theorem dX10_span_56 : decode cX10_span 56 = .ok (.iload_n 1, 1) := by decide +kernel
theorem dX10_span_57 : decode cX10_span 57 = .ok (.iload_n 2, 1) := by decide +kernel
theorem dX10_span_58 : decode cX10_span 58 = .ok (.iload_n 3, 1) := by decide +kernel
theorem dX10_span_59 : decode cX10_span 59 = .ok (.invokevirtual 177, 3) := by decide +kernel
theorem dX10_span_62 : decode cX10_span 62 = .ok (.aload_n 0, 1) := by decide +kernel
theorem dX10_span_63 : decode cX10_span 63 = .ok (.getfield 41, 3) := by decide +kernel
theorem dX10_span_66 : decode cX10_span 66 = .ok (.iload 4, 2) := by decide +kernel
theorem dX10_span_68 : decode cX10_span 68 = .ok (.baload, 1) := by decide +kernel
theorem dX10_span_69 : decode cX10_span 69 = .ok (.ifCond .eq 13, 3) := by decide +kernel
theorem dX10_span_72 : decode cX10_span 72 = .ok (.aload_n 0, 1) := by decide +kernel
theorem dX10_span_73 : decode cX10_span 73 = .ok (.getfield 41, 3) := by decide +kernel
theorem dX10_span_76 : decode cX10_span 76 = .ok (.iload 5, 2) := by decide +kernel
theorem dX10_span_78 : decode cX10_span 78 = .ok (.baload, 1) := by decide +kernel
theorem dX10_span_79 : decode cX10_span 79 = .ok (.ifCond .ne 9, 3) := by decide +kernel
theorem dX10_span_82 : decode cX10_span 82 = .ok (.aload_n 0, 1) := by decide +kernel
theorem dX10_span_83 : decode cX10_span 83 = .ok (.iconst 2, 1) := by decide +kernel
theorem dX10_span_84 : decode cX10_span 84 = .ok (.invokevirtual 147, 3) := by decide +kernel
theorem dX10_span_87 : decode cX10_span 87 = .ok (.ireturn, 1) := by decide +kernel
theorem dX10_span_88 : decode cX10_span 88 = .ok (.aload_n 0, 1) := by decide +kernel
theorem dX10_span_89 : decode cX10_span 89 = .ok (.getfield 45, 3) := by decide +kernel
theorem dX10_span_92 : decode cX10_span 92 = .ok (.iconst 5, 1) := by decide +kernel
theorem dX10_span_93 : decode cX10_span 93 = .ok (.iload 4, 2) := by decide +kernel
theorem dX10_span_95 : decode cX10_span 95 = .ok (.imul, 1) := by decide +kernel
theorem dX10_span_96 : decode cX10_span 96 = .ok (.iload 5, 2) := by decide +kernel
theorem dX10_span_98 : decode cX10_span 98 = .ok (.iadd, 1) := by decide +kernel
theorem dX10_span_99 : decode cX10_span 99 = .ok (.iaload, 1) := by decide +kernel
theorem dX10_span_100 : decode cX10_span 100 = .ok (.ireturn, 1) := by decide +kernel
theorem dX10_round_0 : decode cX10_round 0 = .ok (.iload_n 1, 1) := by decide +kernel
theorem dX10_round_1 : decode cX10_round 1 = .ok (.aload_n 0, 1) := by decide +kernel
theorem dX10_round_2 : decode cX10_round 2 = .ok (.getfield 116, 3) := by decide +kernel
theorem dX10_round_5 : decode cX10_round 5 = .ok (.invokestatic 119, 3) := by decide +kernel
theorem dX10_round_8 : decode cX10_round 8 = .ok (.ifCond .eq 11, 3) := by decide +kernel
theorem dX10_round_11 : decode cX10_round 11 = .ok (.iload_n 2, 1) := by decide +kernel
theorem dX10_round_12 : decode cX10_round 12 = .ok (.iconst 3, 1) := by decide +kernel
theorem dX10_round_13 : decode cX10_round 13 = .ok (.invokestatic 119, 3) := by decide +kernel
theorem dX10_round_16 : decode cX10_round 16 = .ok (.ifCond .ne 5, 3) := by decide +kernel
theorem dX10_round_19 : decode cX10_round 19 = .ok (.iconst (-1), 1) := by decide +kernel
theorem dX10_round_20 : decode cX10_round 20 = .ok (.ireturn, 1) := by decide +kernel
theorem dX10_round_21 : decode cX10_round 21 = .ok (.iconst 0, 1) := by decide +kernel
theorem dX10_round_22 : decode cX10_round 22 = .ok (.istore_n 3, 1) := by decide +kernel
theorem dX10_round_23 : decode cX10_round 23 = .ok (.iload_n 3, 1) := by decide +kernel
theorem dX10_round_24 : decode cX10_round 24 = .ok (.aload_n 0, 1) := by decide +kernel
theorem dX10_round_25 : decode cX10_round 25 = .ok (.getfield 97, 3) := by decide +kernel
theorem dX10_round_28 : decode cX10_round 28 = .ok (.if_icmp .ge 81, 3) := by decide +kernel
theorem dX10_round_31 : decode cX10_round 31 = .ok (.iconst 0, 1) := by decide +kernel
theorem dX10_round_32 : decode cX10_round 32 = .ok (.istore 4, 2) := by decide +kernel
theorem dX10_round_34 : decode cX10_round 34 = .ok (.iload 4, 2) := by decide +kernel
theorem dX10_round_36 : decode cX10_round 36 = .ok (.aload_n 0, 1) := by decide +kernel
theorem dX10_round_37 : decode cX10_round 37 = .ok (.getfield 113, 3) := by decide +kernel
theorem dX10_round_40 : decode cX10_round 40 = .ok (.if_icmp .ge 63, 3) := by decide +kernel
theorem dX10_round_43 : decode cX10_round 43 = .ok (.aload_n 0, 1) := by decide +kernel
theorem dX10_round_44 : decode cX10_round 44 = .ok (.iload 4, 2) := by decide +kernel
theorem dX10_round_46 : decode cX10_round 46 = .ok (.iload_n 3, 1) := by decide +kernel
theorem dX10_round_47 : decode cX10_round 47 = .ok (.invokevirtual 126, 3) := by decide +kernel
theorem dX10_round_50 : decode cX10_round 50 = .ok (.ifCond .eq 6, 3) := by decide +kernel
theorem dX10_round_53 : decode cX10_round 53 = .ok (.goto 44, 3) := by decide +kernel
theorem dX10_round_56 : decode cX10_round 56 = .ok (.aload_n 0, 1) := by decide +kernel
theorem dX10_round_57 : decode cX10_round 57 = .ok (.iload_n 1, 1) := by decide +kernel
theorem dX10_round_58 : decode cX10_round 58 = .ok (.iload 4, 2) := by decide +kernel
theorem dX10_round_60 : decode cX10_round 60 = .ok (.iload_n 3, 1) := by decide +kernel
theorem dX10_round_61 : decode cX10_round 61 = .ok (.invokevirtual 177, 3) := by decide +kernel
theorem dX10_round_64 : decode cX10_round 64 = .ok (.aload_n 0, 1) := by decide +kernel
theorem dX10_round_65 : decode cX10_round 65 = .ok (.invokevirtual 181, 3) := by decide +kernel
theorem dX10_round_68 : decode cX10_round 68 = .ok (.istore 5, 2) := by decide +kernel
theorem dX10_round_70 : decode cX10_round 70 = .ok (.iload 5, 2) := by decide +kernel
theorem dX10_round_72 : decode cX10_round 72 = .ok (.ifCond .ge 25, 3) := by decide +kernel
theorem dX10_round_75 : decode cX10_round 75 = .ok (.iload_n 2, 1) := by decide +kernel
theorem dX10_round_76 : decode cX10_round 76 = .ok (.ifCond .ne 7, 3) := by decide +kernel
theorem dX10_round_79 : decode cX10_round 79 = .ok (.iload_n 3, 1) := by decide +kernel
theorem dX10_round_80 : decode cX10_round 80 = .ok (.goto 16, 3) := by decide +kernel
theorem dX10_round_83 : decode cX10_round 83 = .ok (.iload_n 2, 1) := by decide +kernel
theorem dX10_round_84 : decode cX10_round 84 = .ok (.iconst 1, 1) := by decide +kernel
theorem dX10_round_85 : decode cX10_round 85 = .ok (.if_icmp .ne 8, 3) := by decide +kernel
theorem dX10_round_88 : decode cX10_round 88 = .ok (.iload 4, 2) := by decide +kernel
theorem dX10_round_90 : decode cX10_round 90 = .ok (.goto 6, 3) := by decide +kernel
theorem dX10_round_93 : decode cX10_round 93 = .ok (.iload 5, 2) := by decide +kernel
theorem dX10_round_95 : decode cX10_round 95 = .ok (.ineg, 1) := by decide +kernel
theorem dX10_round_96 : decode cX10_round 96 = .ok (.ireturn, 1) := by decide +kernel
theorem dX10_round_97 : decode cX10_round 97 = .ok (.iinc 4 1, 3) := by decide +kernel
theorem dX10_round_100 : decode cX10_round 100 = .ok (.goto (-66), 3) := by decide +kernel
theorem dX10_round_103 : decode cX10_round 103 = .ok (.iinc 3 1, 3) := by decide +kernel
theorem dX10_round_106 : decode cX10_round 106 = .ok (.goto (-83), 3) := by decide +kernel
theorem dX10_round_109 : decode cX10_round 109 = .ok (.bipush (-2), 2) := by decide +kernel
theorem dX10_round_111 : decode cX10_round 111 = .ok (.ireturn, 1) := by decide +kernel
theorem dX10_priceAll_0 : decode cX10_priceAll 0 = .ok (.iconst 0, 1) := by decide +kernel
theorem dX10_priceAll_1 : decode cX10_priceAll 1 = .ok (.istore_n 1, 1) := by decide +kernel
theorem dX10_priceAll_2 : decode cX10_priceAll 2 = .ok (.aload_n 0, 1) := by decide +kernel
theorem dX10_priceAll_3 : decode cX10_priceAll 3 = .ok (.getfield 41, 3) := by decide +kernel
theorem dX10_priceAll_6 : decode cX10_priceAll 6 = .ok (.iload_n 1, 1) := by decide +kernel
theorem dX10_priceAll_7 : decode cX10_priceAll 7 = .ok (.baload, 1) := by decide +kernel
theorem dX10_priceAll_8 : decode cX10_priceAll 8 = .ok (.ifCond .ne 9, 3) := by decide +kernel
theorem dX10_priceAll_11 : decode cX10_priceAll 11 = .ok (.iinc 1 1, 3) := by decide +kernel
theorem dX10_priceAll_14 : decode cX10_priceAll 14 = .ok (.goto (-12), 3) := by decide +kernel
theorem dX10_priceAll_17 : decode cX10_priceAll 17 = .ok (.iconst 0, 1) := by decide +kernel
theorem dX10_priceAll_18 : decode cX10_priceAll 18 = .ok (.istore_n 2, 1) := by decide +kernel
theorem dX10_priceAll_19 : decode cX10_priceAll 19 = .ok (.iload_n 2, 1) := by decide +kernel
theorem dX10_priceAll_20 : decode cX10_priceAll 20 = .ok (.aload_n 0, 1) := by decide +kernel
theorem dX10_priceAll_21 : decode cX10_priceAll 21 = .ok (.getfield 101, 3) := by decide +kernel
theorem dX10_priceAll_24 : decode cX10_priceAll 24 = .ok (.if_icmp .ge 26, 3) := by decide +kernel
theorem dX10_priceAll_27 : decode cX10_priceAll 27 = .ok (.aload_n 0, 1) := by decide +kernel
theorem dX10_priceAll_28 : decode cX10_priceAll 28 = .ok (.getfield 48, 3) := by decide +kernel
theorem dX10_priceAll_31 : decode cX10_priceAll 31 = .ok (.iload_n 2, 1) := by decide +kernel
theorem dX10_priceAll_32 : decode cX10_priceAll 32 = .ok (.iload_n 2, 1) := by decide +kernel
theorem dX10_priceAll_33 : decode cX10_priceAll 33 = .ok (.iload_n 1, 1) := by decide +kernel
theorem dX10_priceAll_34 : decode cX10_priceAll 34 = .ok (.if_icmp .ne 7, 3) := by decide +kernel
theorem dX10_priceAll_37 : decode cX10_priceAll 37 = .ok (.iconst 0, 1) := by decide +kernel
theorem dX10_priceAll_38 : decode cX10_priceAll 38 = .ok (.goto 5, 3) := by decide +kernel
theorem dX10_priceAll_41 : decode cX10_priceAll 41 = .ok (.ldc 170, 2) := by decide +kernel
