theorem dX6_measure_17 : decode cX6_measure 17 = .ok (.iload_n 1, 1) := by decide +kernel
theorem dX6_measure_18 : decode cX6_measure 18 = .ok (.iload_n 2, 1) := by decide +kernel
theorem dX6_measure_19 : decode cX6_measure 19 = .ok (.invokevirtual 59, 3) := by decide +kernel
theorem dX6_measure_22 : decode cX6_measure 22 = .ok (.aload_n 0, 1) := by decide +kernel
theorem dX6_measure_23 : decode cX6_measure 23 = .ok (.getfield 9, 3) := by decide +kernel
theorem dX6_measure_26 : decode cX6_measure 26 = .ok (.iload_n 1, 1) := by decide +kernel
theorem dX6_measure_27 : decode cX6_measure 27 = .ok (.iload_n 3, 1) := by decide +kernel
theorem dX6_measure_28 : decode cX6_measure 28 = .ok (.invokevirtual 59, 3) := by decide +kernel
theorem dX6_measure_31 : decode cX6_measure 31 = .ok (.isub, 1) := by decide +kernel
theorem dX6_measure_32 : decode cX6_measure 32 = .ok (.istore 4, 2) := by decide +kernel
theorem dX6_measure_34 : decode cX6_measure 34 = .ok (.aload_n 0, 1) := by decide +kernel
theorem dX6_measure_35 : decode cX6_measure 35 = .ok (.getfield 15, 3) := by decide +kernel
theorem dX6_measure_38 : decode cX6_measure 38 = .ok (.iload_n 3, 1) := by decide +kernel
theorem dX6_measure_39 : decode cX6_measure 39 = .ok (.baload, 1) := by decide +kernel
theorem dX6_measure_40 : decode cX6_measure 40 = .ok (.ifCond .eq 26, 3) := by decide +kernel
theorem dX6_measure_43 : decode cX6_measure 43 = .ok (.iload 4, 2) := by decide +kernel
theorem dX6_measure_45 : decode cX6_measure 45 = .ok (.aload_n 0, 1) := by decide +kernel
theorem dX6_measure_46 : decode cX6_measure 46 = .ok (.iload_n 3, 1) := by decide +kernel
theorem dX6_measure_47 : decode cX6_measure 47 = .ok (.iload_n 2, 1) := by decide +kernel
theorem dX6_measure_48 : decode cX6_measure 48 = .ok (.invokevirtual 63, 3) := by decide +kernel
theorem dX6_measure_51 : decode cX6_measure 51 = .ok (.if_icmp .ge 15, 3) := by decide +kernel
theorem dX6_measure_54 : decode cX6_measure 54 = .ok (.aload_n 0, 1) := by decide +kernel
theorem dX6_measure_55 : decode cX6_measure 55 = .ok (.getfield 19, 3) := by decide +kernel
theorem dX6_measure_58 : decode cX6_measure 58 = .ok (.iload_n 3, 1) := by decide +kernel
theorem dX6_measure_59 : decode cX6_measure 59 = .ok (.iconst 5, 1) := by decide +kernel
theorem dX6_measure_60 : decode cX6_measure 60 = .ok (.imul, 1) := by decide +kernel
theorem dX6_measure_61 : decode cX6_measure 61 = .ok (.iload_n 2, 1) := by decide +kernel
theorem dX6_measure_62 : decode cX6_measure 62 = .ok (.iadd, 1) := by decide +kernel
theorem dX6_measure_63 : decode cX6_measure 63 = .ok (.iload 4, 2) := by decide +kernel
theorem dX6_measure_65 : decode cX6_measure 65 = .ok (.iastore, 1) := by decide +kernel
theorem dX6_measure_66 : decode cX6_measure 66 = .ok (.iinc 3 1, 3) := by decide +kernel
theorem dX6_measure_69 : decode cX6_measure 69 = .ok (.goto (-67), 3) := by decide +kernel
theorem dX6_measure_72 : decode cX6_measure 72 = .ok (.return_, 1) := by decide +kernel
theorem dX6_lengthOf_0 : decode cX6_lengthOf 0 = .ok (.aload_n 0, 1) := by decide +kernel
theorem dX6_lengthOf_1 : decode cX6_lengthOf 1 = .ok (.getfield 19, 3) := by decide +kernel
theorem dX6_lengthOf_4 : decode cX6_lengthOf 4 = .ok (.iload_n 1, 1) := by decide +kernel
theorem dX6_lengthOf_5 : decode cX6_lengthOf 5 = .ok (.iconst 5, 1) := by decide +kernel
theorem dX6_lengthOf_6 : decode cX6_lengthOf 6 = .ok (.imul, 1) := by decide +kernel
theorem dX6_lengthOf_7 : decode cX6_lengthOf 7 = .ok (.iload_n 2, 1) := by decide +kernel
theorem dX6_lengthOf_8 : decode cX6_lengthOf 8 = .ok (.iadd, 1) := by decide +kernel
theorem dX6_lengthOf_9 : decode cX6_lengthOf 9 = .ok (.iaload, 1) := by decide +kernel
theorem dX6_lengthOf_10 : decode cX6_lengthOf 10 = .ok (.ireturn, 1) := by decide +kernel
theorem dX6_hasRound_0 : decode cX6_hasRound 0 = .ok (.aload_n 0, 1) := by decide +kernel
theorem dX6_hasRound_1 : decode cX6_hasRound 1 = .ok (.invokevirtual 66, 3) := by decide +kernel
theorem dX6_hasRound_4 : decode cX6_hasRound 4 = .ok (.iconst 0, 1) := by decide +kernel
theorem dX6_hasRound_5 : decode cX6_hasRound 5 = .ok (.istore_n 1, 1) := by decide +kernel
theorem dX6_hasRound_6 : decode cX6_hasRound 6 = .ok (.iload_n 1, 1) := by decide +kernel
theorem dX6_hasRound_7 : decode cX6_hasRound 7 = .ok (.aload_n 0, 1) := by decide +kernel
theorem dX6_hasRound_8 : decode cX6_hasRound 8 = .ok (.getfield 9, 3) := by decide +kernel
theorem dX6_hasRound_11 : decode cX6_hasRound 11 = .ok (.getfield 56, 3) := by decide +kernel
theorem dX6_hasRound_14 : decode cX6_hasRound 14 = .ok (.if_icmp .ge 33, 3) := by decide +kernel
theorem dX6_hasRound_17 : decode cX6_hasRound 17 = .ok (.aload_n 0, 1) := by decide +kernel
theorem dX6_hasRound_18 : decode cX6_hasRound 18 = .ok (.getfield 15, 3) := by decide +kernel
theorem dX6_hasRound_21 : decode cX6_hasRound 21 = .ok (.iload_n 1, 1) := by decide +kernel
theorem dX6_hasRound_22 : decode cX6_hasRound 22 = .ok (.baload, 1) := by decide +kernel
theorem dX6_hasRound_23 : decode cX6_hasRound 23 = .ok (.ifCond .eq 18, 3) := by decide +kernel
theorem dX6_hasRound_26 : decode cX6_hasRound 26 = .ok (.aload_n 0, 1) := by decide +kernel
theorem dX6_hasRound_27 : decode cX6_hasRound 27 = .ok (.getfield 23, 3) := by decide +kernel
theorem dX6_hasRound_30 : decode cX6_hasRound 30 = .ok (.iload_n 1, 1) := by decide +kernel
theorem dX6_hasRound_31 : decode cX6_hasRound 31 = .ok (.iconst 5, 1) := by decide +kernel
theorem dX6_hasRound_32 : decode cX6_hasRound 32 = .ok (.imul, 1) := by decide +kernel
theorem dX6_hasRound_33 : decode cX6_hasRound 33 = .ok (.iload_n 1, 1) := by decide +kernel
theorem dX6_hasRound_34 : decode cX6_hasRound 34 = .ok (.iadd, 1) := by decide +kernel
theorem dX6_hasRound_35 : decode cX6_hasRound 35 = .ok (.iaload, 1) := by decide +kernel
theorem dX6_hasRound_36 : decode cX6_hasRound 36 = .ok (.ifCond .ge 5, 3) := by decide +kernel
theorem dX6_hasRound_39 : decode cX6_hasRound 39 = .ok (.iconst 1, 1) := by decide +kernel
theorem dX6_hasRound_40 : decode cX6_hasRound 40 = .ok (.ireturn, 1) := by decide +kernel
theorem dX6_hasRound_41 : decode cX6_hasRound 41 = .ok (.iinc 1 1, 3) := by decide +kernel
theorem dX6_hasRound_44 : decode cX6_hasRound 44 = .ok (.goto (-38), 3) := by decide +kernel
theorem dX6_hasRound_47 : decode cX6_hasRound 47 = .ok (.iconst 0, 1) := by decide +kernel
theorem dX6_hasRound_48 : decode cX6_hasRound 48 = .ok (.ireturn, 1) := by decide +kernel
theorem dX6_shorten_0 : decode cX6_shorten 0 = .ok (.aload_n 0, 1) := by decide +kernel
theorem dX6_shorten_1 : decode cX6_shorten 1 = .ok (.getfield 19, 3) := by decide +kernel
theorem dX6_shorten_4 : decode cX6_shorten 4 = .ok (.iconst 0, 1) := by decide +kernel
theorem dX6_shorten_5 : decode cX6_shorten 5 = .ok (.aload_n 0, 1) := by decide +kernel
theorem dX6_shorten_6 : decode cX6_shorten 6 = .ok (.getfield 23, 3) := by decide +kernel
theorem dX6_shorten_9 : decode cX6_shorten 9 = .ok (.iconst 0, 1) := by decide +kernel
theorem dX6_shorten_10 : decode cX6_shorten 10 = .ok (.aload_n 0, 1) := by decide +kernel
theorem dX6_shorten_11 : decode cX6_shorten 11 = .ok (.getfield 19, 3) := by decide +kernel
theorem dX6_shorten_14 : decode cX6_shorten 14 = .ok (.arraylength, 1) := by decide +kernel
theorem dX6_shorten_15 : decode cX6_shorten 15 = .ok (.invokestatic 69, 3) := by decide +kernel
theorem dX6_shorten_18 : decode cX6_shorten 18 = .ok (.iconst 0, 1) := by decide +kernel
theorem dX6_shorten_19 : decode cX6_shorten 19 = .ok (.istore_n 1, 1) := by decide +kernel
theorem dX6_shorten_20 : decode cX6_shorten 20 = .ok (.iload_n 1, 1) := by decide +kernel
theorem dX6_shorten_21 : decode cX6_shorten 21 = .ok (.aload_n 0, 1) := by decide +kernel
theorem dX6_shorten_22 : decode cX6_shorten 22 = .ok (.getfield 9, 3) := by decide +kernel
theorem dX6_shorten_25 : decode cX6_shorten 25 = .ok (.getfield 56, 3) := by decide +kernel
theorem dX6_shorten_28 : decode cX6_shorten 28 = .ok (.if_icmp .ge 52, 3) := by decide +kernel
theorem dX6_shorten_31 : decode cX6_shorten 31 = .ok (.iconst 0, 1) := by decide +kernel
theorem dX6_shorten_32 : decode cX6_shorten 32 = .ok (.istore_n 2, 1) := by decide +kernel
theorem dX6_shorten_33 : decode cX6_shorten 33 = .ok (.iload_n 2, 1) := by decide +kernel
theorem dX6_shorten_34 : decode cX6_shorten 34 = .ok (.aload_n 0, 1) := by decide +kernel
theorem dX6_shorten_35 : decode cX6_shorten 35 = .ok (.getfield 9, 3) := by decide +kernel
theorem dX6_shorten_38 : decode cX6_shorten 38 = .ok (.getfield 56, 3) := by decide +kernel
theorem dX6_shorten_41 : decode cX6_shorten 41 = .ok (.if_icmp .ge 33, 3) := by decide +kernel
theorem dX6_shorten_44 : decode cX6_shorten 44 = .ok (.aload_n 0, 1) := by decide +kernel
theorem dX6_shorten_45 : decode cX6_shorten 45 = .ok (.getfield 15, 3) := by decide +kernel
theorem dX6_shorten_48 : decode cX6_shorten 48 = .ok (.iload_n 1, 1) := by decide +kernel
theorem dX6_shorten_49 : decode cX6_shorten 49 = .ok (.baload, 1) := by decide +kernel
theorem dX6_shorten_50 : decode cX6_shorten 50 = .ok (.ifCond .eq 18, 3) := by decide +kernel
theorem dX6_shorten_53 : decode cX6_shorten 53 = .ok (.aload_n 0, 1) := by decide +kernel
theorem dX6_shorten_54 : decode cX6_shorten 54 = .ok (.getfield 15, 3) := by decide +kernel
theorem dX6_shorten_57 : decode cX6_shorten 57 = .ok (.iload_n 2, 1) := by decide +kernel
theorem dX6_shorten_58 : decode cX6_shorten 58 = .ok (.baload, 1) := by decide +kernel
theorem dX6_shorten_59 : decode cX6_shorten 59 = .ok (.ifCond .eq 9, 3) := by decide +kernel
theorem dX6_shorten_62 : decode cX6_shorten 62 = .ok (.aload_n 0, 1) := by decide +kernel
theorem dX6_shorten_63 : decode cX6_shorten 63 = .ok (.iload_n 2, 1) := by decide +kernel
theorem dX6_shorten_64 : decode cX6_shorten 64 = .ok (.iload_n 1, 1) := by decide +kernel
theorem dX6_shorten_65 : decode cX6_shorten 65 = .ok (.invokevirtual 75, 3) := by decide +kernel
theorem dX6_shorten_68 : decode cX6_shorten 68 = .ok (.iinc 2 1, 3) := by decide +kernel
theorem dX6_shorten_71 : decode cX6_shorten 71 = .ok (.goto (-38), 3) := by decide +kernel
theorem dX6_shorten_74 : decode cX6_shorten 74 = .ok (.iinc 1 1, 3) := by decide +kernel
theorem dX6_shorten_77 : decode cX6_shorten 77 = .ok (.goto (-57), 3) := by decide +kernel
theorem dX6_shorten_80 : decode cX6_shorten 80 = .ok (.return_, 1) := by decide +kernel
theorem dX6_shortenFrom_0 : decode cX6_shortenFrom 0 = .ok (.aload_n 0, 1) := by decide +kernel
theorem dX6_shortenFrom_1 : decode cX6_shortenFrom 1 = .ok (.getfield 23, 3) := by decide +kernel
theorem dX6_shortenFrom_4 : decode cX6_shortenFrom 4 = .ok (.iload_n 1, 1) := by decide +kernel
theorem dX6_shortenFrom_5 : decode cX6_shortenFrom 5 = .ok (.iconst 5, 1) := by decide +kernel
theorem dX6_shortenFrom_6 : decode cX6_shortenFrom 6 = .ok (.imul, 1) := by decide +kernel
theorem dX6_shortenFrom_7 : decode cX6_shortenFrom 7 = .ok (.iload_n 2, 1) := by decide +kernel
theorem dX6_shortenFrom_8 : decode cX6_shortenFrom 8 = .ok (.iadd, 1) := by decide +kernel
theorem dX6_shortenFrom_9 : decode cX6_shortenFrom 9 = .ok (.iaload, 1) := by decide +kernel
theorem dX6_shortenFrom_10 : decode cX6_shortenFrom 10 = .ok (.istore_n 3, 1) := by decide +kernel
theorem dX6_shortenFrom_11 : decode cX6_shortenFrom 11 = .ok (.iconst 0, 1) := by decide +kernel
theorem dX6_shortenFrom_12 : decode cX6_shortenFrom 12 = .ok (.istore 4, 2) := by decide +kernel
theorem dX6_shortenFrom_14 : decode cX6_shortenFrom 14 = .ok (.iload 4, 2) := by decide +kernel
theorem dX6_shortenFrom_16 : decode cX6_shortenFrom 16 = .ok (.aload_n 0, 1) := by decide +kernel
theorem dX6_shortenFrom_17 : decode cX6_shortenFrom 17 = .ok (.getfield 9, 3) := by decide +kernel
theorem dX6_shortenFrom_20 : decode cX6_shortenFrom 20 = .ok (.getfield 56, 3) := by decide +kernel
theorem dX6_shortenFrom_23 : decode cX6_shortenFrom 23 = .ok (.if_icmp .ge 63, 3) := by decide +kernel
theorem dX6_shortenFrom_26 : decode cX6_shortenFrom 26 = .ok (.iload_n 3, 1) := by decide +kernel
theorem dX6_shortenFrom_27 : decode cX6_shortenFrom 27 = .ok (.aload_n 0, 1) := by decide +kernel
theorem dX6_shortenFrom_28 : decode cX6_shortenFrom 28 = .ok (.getfield 23, 3) := by decide +kernel
theorem dX6_shortenFrom_31 : decode cX6_shortenFrom 31 = .ok (.iload_n 2, 1) := by decide +kernel
theorem dX6_shortenFrom_32 : decode cX6_shortenFrom 32 = .ok (.iconst 5, 1) := by decide +kernel
theorem dX6_shortenFrom_33 : decode cX6_shortenFrom 33 = .ok (.imul, 1) := by decide +kernel
theorem dX6_shortenFrom_34 : decode cX6_shortenFrom 34 = .ok (.iload 4, 2) := by decide +kernel
theorem dX6_shortenFrom_36 : decode cX6_shortenFrom 36 = .ok (.iadd, 1) := by decide +kernel
theorem dX6_shortenFrom_37 : decode cX6_shortenFrom 37 = .ok (.iaload, 1) := by decide +kernel
theorem dX6_shortenFrom_38 : decode cX6_shortenFrom 38 = .ok (.iadd, 1) := by decide +kernel
theorem dX6_shortenFrom_39 : decode cX6_shortenFrom 39 = .ok (.istore 5, 2) := by decide +kernel
theorem dX6_shortenFrom_41 : decode cX6_shortenFrom 41 = .ok (.aload_n 0, 1) := by decide +kernel
theorem dX6_shortenFrom_42 : decode cX6_shortenFrom 42 = .ok (.getfield 15, 3) := by decide +kernel
theorem dX6_shortenFrom_45 : decode cX6_shortenFrom 45 = .ok (.iload 4, 2) := by decide +kernel
theorem dX6_shortenFrom_47 : decode cX6_shortenFrom 47 = .ok (.baload, 1) := by decide +kernel
theorem dX6_shortenFrom_48 : decode cX6_shortenFrom 48 = .ok (.ifCond .eq 32, 3) := by decide +kernel
theorem dX6_shortenFrom_51 : decode cX6_shortenFrom 51 = .ok (.iload 5, 2) := by decide +kernel
theorem dX6_shortenFrom_53 : decode cX6_shortenFrom 53 = .ok (.aload_n 0, 1) := by decide +kernel
theorem dX6_shortenFrom_54 : decode cX6_shortenFrom 54 = .ok (.getfield 23, 3) := by decide +kernel
theorem dX6_shortenFrom_57 : decode cX6_shortenFrom 57 = .ok (.iload_n 1, 1) := by decide +kernel
theorem dX6_shortenFrom_58 : decode cX6_shortenFrom 58 = .ok (.iconst 5, 1) := by decide +kernel
theorem dX6_shortenFrom_59 : decode cX6_shortenFrom 59 = .ok (.imul, 1) := by decide +kernel
theorem dX6_shortenFrom_60 : decode cX6_shortenFrom 60 = .ok (.iload 4, 2) := by decide +kernel
theorem dX6_shortenFrom_62 : decode cX6_shortenFrom 62 = .ok (.iadd, 1) := by decide +kernel
theorem dX6_shortenFrom_63 : decode cX6_shortenFrom 63 = .ok (.iaload, 1) := by decide +kernel
theorem dX6_shortenFrom_64 : decode cX6_shortenFrom 64 = .ok (.if_icmp .ge 16, 3) := by decide +kernel
theorem dX6_shortenFrom_67 : decode cX6_shortenFrom 67 = .ok (.aload_n 0, 1) := by decide +kernel
theorem dX6_shortenFrom_68 : decode cX6_shortenFrom 68 = .ok (.getfield 23, 3) := by decide +kernel
theorem dX6_shortenFrom_71 : decode cX6_shortenFrom 71 = .ok (.iload_n 1, 1) := by decide +kernel
theorem dX6_shortenFrom_72 : decode cX6_shortenFrom 72 = .ok (.iconst 5, 1) := by decide +kernel
theorem dX6_shortenFrom_73 : decode cX6_shortenFrom 73 = .ok (.imul, 1) := by decide +kernel
theorem dX6_shortenFrom_74 : decode cX6_shortenFrom 74 = .ok (.iload 4, 2) := by decide +kernel
theorem dX6_shortenFrom_76 : decode cX6_shortenFrom 76 = .ok (.iadd, 1) := by decide +kernel
theorem dX6_shortenFrom_77 : decode cX6_shortenFrom 77 = .ok (.iload 5, 2) := by decide +kernel
theorem dX6_shortenFrom_79 : decode cX6_shortenFrom 79 = .ok (.iastore, 1) := by decide +kernel
theorem dX6_shortenFrom_80 : decode cX6_shortenFrom 80 = .ok (.iinc 4 1, 3) := by decide +kernel
theorem dX6_shortenFrom_83 : decode cX6_shortenFrom 83 = .ok (.goto (-69), 3) := by decide +kernel
theorem dX6_shortenFrom_86 : decode cX6_shortenFrom 86 = .ok (.return_, 1) := by decide +kernel
theorem dX6_priceOf_0 : decode cX6_priceOf 0 = .ok (.iconst 0, 1) := by decide +kernel
theorem dX6_priceOf_1 : decode cX6_priceOf 1 = .ok (.istore_n 2, 1) := by decide +kernel
theorem dX6_priceOf_2 : decode cX6_priceOf 2 = .ok (.iload_n 2, 1) := by decide +kernel
theorem dX6_priceOf_3 : decode cX6_priceOf 3 = .ok (.aload_n 0, 1) := by decide +kernel
theorem dX6_priceOf_4 : decode cX6_priceOf 4 = .ok (.getfield 9, 3) := by decide +kernel
theorem dX6_priceOf_7 : decode cX6_priceOf 7 = .ok (.getfield 56, 3) := by decide +kernel
theorem dX6_priceOf_10 : decode cX6_priceOf 10 = .ok (.if_icmp .ge 29, 3) := by decide +kernel
theorem dX6_priceOf_13 : decode cX6_priceOf 13 = .ok (.aload_n 0, 1) := by decide +kernel
theorem dX6_priceOf_14 : decode cX6_priceOf 14 = .ok (.getfield 15, 3) := by decide +kernel
theorem dX6_priceOf_17 : decode cX6_priceOf 17 = .ok (.iload_n 2, 1) := by decide +kernel
theorem dX6_priceOf_18 : decode cX6_priceOf 18 = .ok (.baload, 1) := by decide +kernel
theorem dX6_priceOf_19 : decode cX6_priceOf 19 = .ok (.ifCond .eq 14, 3) := by decide +kernel
theorem dX6_priceOf_22 : decode cX6_priceOf 22 = .ok (.aload_n 0, 1) := by decide +kernel
theorem dX6_priceOf_23 : decode cX6_priceOf 23 = .ok (.getfield 23, 3) := by decide +kernel
theorem dX6_priceOf_26 : decode cX6_priceOf 26 = .ok (.iload_n 2, 1) := by decide +kernel
theorem dX6_priceOf_27 : decode cX6_priceOf 27 = .ok (.iconst 5, 1) := by decide +kernel
theorem dX6_priceOf_28 : decode cX6_priceOf 28 = .ok (.imul, 1) := by decide +kernel
theorem dX6_priceOf_29 : decode cX6_priceOf 29 = .ok (.iload_n 1, 1) := by decide +kernel
theorem dX6_priceOf_30 : decode cX6_priceOf 30 = .ok (.iadd, 1) := by decide +kernel
theorem dX6_priceOf_31 : decode cX6_priceOf 31 = .ok (.iaload, 1) := by decide +kernel
theorem dX6_priceOf_32 : decode cX6_priceOf 32 = .ok (.ireturn, 1) := by decide +kernel
theorem dX6_priceOf_33 : decode cX6_priceOf 33 = .ok (.iinc 2 1, 3) := by decide +kernel
theorem dX6_priceOf_36 : decode cX6_priceOf 36 = .ok (.goto (-34), 3) := by decide +kernel
theorem dX6_priceOf_39 : decode cX6_priceOf 39 = .ok (.iconst 0, 1) := by decide +kernel
theorem dX6_priceOf_40 : decode cX6_priceOf 40 = .ok (.ireturn, 1) := by decide +kernel
theorem dX6_leastRound_0 : decode cX6_leastRound 0 = .ok (.iconst 0, 1) := by decide +kernel
theorem dX6_leastRound_1 : decode cX6_leastRound 1 = .ok (.istore_n 1, 1) := by decide +kernel
theorem dX6_leastRound_2 : decode cX6_leastRound 2 = .ok (.iconst 0, 1) := by decide +kernel
theorem dX6_leastRound_3 : decode cX6_leastRound 3 = .ok (.istore_n 2, 1) := by decide +kernel
theorem dX6_leastRound_4 : decode cX6_leastRound 4 = .ok (.iload_n 2, 1) := by decide +kernel
theorem dX6_leastRound_5 : decode cX6_leastRound 5 = .ok (.aload_n 0, 1) := by decide +kernel
theorem dX6_leastRound_6 : decode cX6_leastRound 6 = .ok (.getfield 9, 3) := by decide +kernel
theorem dX6_leastRound_9 : decode cX6_leastRound 9 = .ok (.getfield 56, 3) := by decide +kernel
theorem dX6_leastRound_12 : decode cX6_leastRound 12 = .ok (.if_icmp .ge 28, 3) := by decide +kernel
theorem dX6_leastRound_15 : decode cX6_leastRound 15 = .ok (.aload_n 0, 1) := by decide +kernel
theorem dX6_leastRound_16 : decode cX6_leastRound 16 = .ok (.getfield 15, 3) := by decide +kernel
theorem dX6_leastRound_19 : decode cX6_leastRound 19 = .ok (.iload_n 2, 1) := by decide +kernel
theorem dX6_leastRound_20 : decode cX6_leastRound 20 = .ok (.baload, 1) := by decide +kernel
theorem dX6_leastRound_21 : decode cX6_leastRound 21 = .ok (.ifCond .eq 13, 3) := by decide +kernel
theorem dX6_leastRound_24 : decode cX6_leastRound 24 = .ok (.iload_n 1, 1) := by decide +kernel
theorem dX6_leastRound_25 : decode cX6_leastRound 25 = .ok (.aload_n 0, 1) := by decide +kernel
theorem dX6_leastRound_26 : decode cX6_leastRound 26 = .ok (.iload_n 2, 1) := by decide +kernel
theorem dX6_leastRound_27 : decode cX6_leastRound 27 = .ok (.invokevirtual 78, 3) := by decide +kernel
theorem dX6_leastRound_30 : decode cX6_leastRound 30 = .ok (.invokestatic 81, 3) := by decide +kernel
theorem dX6_leastRound_33 : decode cX6_leastRound 33 = .ok (.istore_n 1, 1) := by decide +kernel
theorem dX6_leastRound_34 : decode cX6_leastRound 34 = .ok (.iinc 2 1, 3) := by decide +kernel
theorem dX6_leastRound_37 : decode cX6_leastRound 37 = .ok (.goto (-33), 3) := by decide +kernel
theorem dX6_leastRound_40 : decode cX6_leastRound 40 = .ok (.iload_n 1, 1) := by decide +kernel
theorem dX6_leastRound_41 : decode cX6_leastRound 41 = .ok (.ireturn, 1) := by decide +kernel
theorem dX6_leastRoundFrom_0 : decode cX6_leastRoundFrom 0 = .ok (.aload_n 0, 1) := by decide +kernel
theorem dX6_leastRoundFrom_1 : decode cX6_leastRoundFrom 1 = .ok (.getfield 26, 3) := by decide +kernel
theorem dX6_leastRoundFrom_4 : decode cX6_leastRoundFrom 4 = .ok (.ldc 45, 2) := by decide +kernel
theorem dX6_leastRoundFrom_6 : decode cX6_leastRoundFrom 6 = .ok (.invokestatic 46, 3) := by decide +kernel
theorem dX6_leastRoundFrom_9 : decode cX6_leastRoundFrom 9 = .ok (.aload_n 0, 1) := by decide +kernel
theorem dX6_leastRoundFrom_10 : decode cX6_leastRoundFrom 10 = .ok (.getfield 26, 3) := by decide +kernel
theorem dX6_leastRoundFrom_13 : decode cX6_leastRoundFrom 13 = .ok (.iconst 1, 1) := by decide +kernel
theorem dX6_leastRoundFrom_14 : decode cX6_leastRoundFrom 14 = .ok (.iload_n 1, 1) := by decide +kernel
theorem dX6_leastRoundFrom_15 : decode cX6_leastRoundFrom 15 = .ok (.ishl, 1) := by decide +kernel
theorem dX6_leastRoundFrom_16 : decode cX6_leastRoundFrom 16 = .ok (.iconst 5, 1) := by decide +kernel
theorem dX6_leastRoundFrom_17 : decode cX6_leastRoundFrom 17 = .ok (.imul, 1) := by decide +kernel
theorem dX6_leastRoundFrom_18 : decode cX6_leastRoundFrom 18 = .ok (.iload_n 1, 1) := by decide +kernel
theorem dX6_leastRoundFrom_19 : decode cX6_leastRoundFrom 19 = .ok (.iadd, 1) := by decide +kernel
theorem dX6_leastRoundFrom_20 : decode cX6_leastRoundFrom 20 = .ok (.iconst 0, 1) := by decide +kernel
theorem dX6_leastRoundFrom_21 : decode cX6_leastRoundFrom 21 = .ok (.iastore, 1) := by decide +kernel
theorem dX6_leastRoundFrom_22 : decode cX6_leastRoundFrom 22 = .ok (.iconst 0, 1) := by decide +kernel
theorem dX6_leastRoundFrom_23 : decode cX6_leastRoundFrom 23 = .ok (.istore_n 2, 1) := by decide +kernel
theorem dX6_leastRoundFrom_24 : decode cX6_leastRoundFrom 24 = .ok (.iconst 1, 1) := by decide +kernel
theorem dX6_leastRoundFrom_25 : decode cX6_leastRoundFrom 25 = .ok (.iload_n 1, 1) := by decide +kernel
theorem dX6_leastRoundFrom_26 : decode cX6_leastRoundFrom 26 = .ok (.ishl, 1) := by decide +kernel
theorem dX6_leastRoundFrom_27 : decode cX6_leastRoundFrom 27 = .ok (.istore_n 3, 1) := by decide +kernel
theorem dX6_leastRoundFrom_28 : decode cX6_leastRoundFrom 28 = .ok (.iload_n 3, 1) := by decide +kernel
theorem dX6_leastRoundFrom_29 : decode cX6_leastRoundFrom 29 = .ok (.iconst 1, 1) := by decide +kernel
theorem dX6_leastRoundFrom_30 : decode cX6_leastRoundFrom 30 = .ok (.aload_n 0, 1) := by decide +kernel
theorem dX6_leastRoundFrom_31 : decode cX6_leastRoundFrom 31 = .ok (.getfield 9, 3) := by decide +kernel
theorem dX6_leastRoundFrom_34 : decode cX6_leastRoundFrom 34 = .ok (.getfield 56, 3) := by decide +kernel
theorem dX6_leastRoundFrom_37 : decode cX6_leastRoundFrom 37 = .ok (.ishl, 1) := by decide +kernel
theorem dX6_leastRoundFrom_38 : decode cX6_leastRoundFrom 38 = .ok (.if_icmp .ge 73, 3) := by decide +kernel
theorem dX6_leastRoundFrom_41 : decode cX6_leastRoundFrom 41 = .ok (.iload_n 1, 1) := by decide +kernel
theorem dX6_leastRoundFrom_42 : decode cX6_leastRoundFrom 42 = .ok (.istore 4, 2) := by decide +kernel
theorem dX6_leastRoundFrom_44 : decode cX6_leastRoundFrom 44 = .ok (.iload 4, 2) := by decide +kernel
theorem dX6_leastRoundFrom_46 : decode cX6_leastRoundFrom 46 = .ok (.aload_n 0, 1) := by decide +kernel
theorem dX6_leastRoundFrom_47 : decode cX6_leastRoundFrom 47 = .ok (.getfield 9, 3) := by decide +kernel
theorem dX6_leastRoundFrom_50 : decode cX6_leastRoundFrom 50 = .ok (.getfield 56, 3) := by decide +kernel
theorem dX6_leastRoundFrom_53 : decode cX6_leastRoundFrom 53 = .ok (.if_icmp .ge 52, 3) := by decide +kernel
theorem dX6_leastRoundFrom_56 : decode cX6_leastRoundFrom 56 = .ok (.aload_n 0, 1) := by decide +kernel
theorem dX6_leastRoundFrom_57 : decode cX6_leastRoundFrom 57 = .ok (.getfield 26, 3) := by decide +kernel
theorem dX6_leastRoundFrom_60 : decode cX6_leastRoundFrom 60 = .ok (.iload_n 3, 1) := by decide +kernel
theorem dX6_leastRoundFrom_61 : decode cX6_leastRoundFrom 61 = .ok (.iconst 5, 1) := by decide +kernel
theorem dX6_leastRoundFrom_62 : decode cX6_leastRoundFrom 62 = .ok (.imul, 1) := by decide +kernel
theorem dX6_leastRoundFrom_63 : decode cX6_leastRoundFrom 63 = .ok (.iload 4, 2) := by decide +kernel
theorem dX6_leastRoundFrom_65 : decode cX6_leastRoundFrom 65 = .ok (.iadd, 1) := by decide +kernel
theorem dX6_leastRoundFrom_66 : decode cX6_leastRoundFrom 66 = .ok (.iaload, 1) := by decide +kernel
theorem dX6_leastRoundFrom_67 : decode cX6_leastRoundFrom 67 = .ok (.istore 5, 2) := by decide +kernel
theorem dX6_leastRoundFrom_69 : decode cX6_leastRoundFrom 69 = .ok (.iload 5, 2) := by decide +kernel
theorem dX6_leastRoundFrom_71 : decode cX6_leastRoundFrom 71 = .ok (.ldc 45, 2) := by decide +kernel
theorem dX6_leastRoundFrom_73 : decode cX6_leastRoundFrom 73 = .ok (.if_icmp .ge 26, 3) := by decide +kernel
theorem dX6_leastRoundFrom_76 : decode cX6_leastRoundFrom 76 = .ok (.iload_n 2, 1) := by decide +kernel
theorem dX6_leastRoundFrom_77 : decode cX6_leastRoundFrom 77 = .ok (.iload 5, 2) := by decide +kernel
theorem dX6_leastRoundFrom_79 : decode cX6_leastRoundFrom 79 = .ok (.aload_n 0, 1) := by decide +kernel
theorem dX6_leastRoundFrom_80 : decode cX6_leastRoundFrom 80 = .ok (.iload 4, 2) := by decide +kernel
theorem dX6_leastRoundFrom_82 : decode cX6_leastRoundFrom 82 = .ok (.iload_n 1, 1) := by decide +kernel
theorem dX6_leastRoundFrom_83 : decode cX6_leastRoundFrom 83 = .ok (.invokevirtual 63, 3) := by decide +kernel
theorem dX6_leastRoundFrom_86 : decode cX6_leastRoundFrom 86 = .ok (.iadd, 1) := by decide +kernel
theorem dX6_leastRoundFrom_87 : decode cX6_leastRoundFrom 87 = .ok (.invokestatic 81, 3) := by decide +kernel
theorem dX6_leastRoundFrom_90 : decode cX6_leastRoundFrom 90 = .ok (.istore_n 2, 1) := by decide +kernel
theorem dX6_leastRoundFrom_91 : decode cX6_leastRoundFrom 91 = .ok (.aload_n 0, 1) := by decide +kernel
theorem dX6_leastRoundFrom_92 : decode cX6_leastRoundFrom 92 = .ok (.iload_n 3, 1) := by decide +kernel
theorem dX6_leastRoundFrom_93 : decode cX6_leastRoundFrom 93 = .ok (.iload 4, 2) := by decide +kernel
theorem dX6_leastRoundFrom_95 : decode cX6_leastRoundFrom 95 = .ok (.iload_n 1, 1) := by decide +kernel
theorem dX6_leastRoundFrom_96 : decode cX6_leastRoundFrom 96 = .ok (.invokevirtual 86, 3) := by decide +kernel
theorem dX6_leastRoundFrom_99 : decode cX6_leastRoundFrom 99 = .ok (.iinc 4 1, 3) := by decide +kernel
theorem dX6_leastRoundFrom_102 : decode cX6_leastRoundFrom 102 = .ok (.goto (-58), 3) := by decide +kernel
theorem dX6_leastRoundFrom_105 : decode cX6_leastRoundFrom 105 = .ok (.iinc 3 1, 3) := by decide +kernel
theorem dX6_leastRoundFrom_108 : decode cX6_leastRoundFrom 108 = .ok (.goto (-80), 3) := by decide +kernel
theorem dX6_leastRoundFrom_111 : decode cX6_leastRoundFrom 111 = .ok (.iload_n 2, 1) := by decide +kernel
theorem dX6_leastRoundFrom_112 : decode cX6_leastRoundFrom 112 = .ok (.ireturn, 1) := by decide +kernel
theorem dX6_goOn_0 : decode cX6_goOn 0 = .ok (.aload_n 0, 1) := by decide +kernel
theorem dX6_goOn_1 : decode cX6_goOn 1 = .ok (.getfield 26, 3) := by decide +kernel
theorem dX6_goOn_4 : decode cX6_goOn 4 = .ok (.iload_n 1, 1) := by decide +kernel
theorem dX6_goOn_5 : decode cX6_goOn 5 = .ok (.iconst 5, 1) := by decide +kernel
theorem dX6_goOn_6 : decode cX6_goOn 6 = .ok (.imul, 1) := by decide +kernel
theorem dX6_goOn_7 : decode cX6_goOn 7 = .ok (.iload_n 2, 1) := by decide +kernel
theorem dX6_goOn_8 : decode cX6_goOn 8 = .ok (.iadd, 1) := by decide +kernel
theorem dX6_goOn_9 : decode cX6_goOn 9 = .ok (.iaload, 1) := by decide +kernel
theorem dX6_goOn_10 : decode cX6_goOn 10 = .ok (.istore 4, 2) := by decide +kernel
theorem dX6_goOn_12 : decode cX6_goOn 12 = .ok (.iload_n 3, 1) := by decide +kernel
theorem dX6_goOn_13 : decode cX6_goOn 13 = .ok (.iconst 1, 1) := by decide +kernel
theorem dX6_goOn_14 : decode cX6_goOn 14 = .ok (.iadd, 1) := by decide +kernel
theorem dX6_goOn_15 : decode cX6_goOn 15 = .ok (.istore 5, 2) := by decide +kernel
theorem dX6_goOn_17 : decode cX6_goOn 17 = .ok (.iload 5, 2) := by decide +kernel
theorem dX6_goOn_19 : decode cX6_goOn 19 = .ok (.aload_n 0, 1) := by decide +kernel
theorem dX6_goOn_20 : decode cX6_goOn 20 = .ok (.getfield 9, 3) := by decide +kernel
theorem dX6_goOn_23 : decode cX6_goOn 23 = .ok (.getfield 56, 3) := by decide +kernel
theorem dX6_goOn_26 : decode cX6_goOn 26 = .ok (.if_icmp .ge 68, 3) := by decide +kernel
theorem dX6_goOn_29 : decode cX6_goOn 29 = .ok (.aload_n 0, 1) := by decide +kernel
theorem dX6_goOn_30 : decode cX6_goOn 30 = .ok (.getfield 15, 3) := by decide +kernel
theorem dX6_goOn_33 : decode cX6_goOn 33 = .ok (.iload 5, 2) := by decide +kernel
theorem dX6_goOn_35 : decode cX6_goOn 35 = .ok (.baload, 1) := by decide +kernel
theorem dX6_goOn_36 : decode cX6_goOn 36 = .ok (.ifCond .eq 52, 3) := by decide +kernel
theorem dX6_goOn_39 : decode cX6_goOn 39 = .ok (.iload_n 1, 1) := by decide +kernel
theorem dX6_goOn_40 : decode cX6_goOn 40 = .ok (.iload 5, 2) := by decide +kernel
theorem dX6_goOn_42 : decode cX6_goOn 42 = .ok (.ishr, 1) := by decide +kernel
theorem dX6_goOn_43 : decode cX6_goOn 43 = .ok (.iconst 1, 1) := by decide +kernel
theorem dX6_goOn_44 : decode cX6_goOn 44 = .ok (.iand, 1) := by decide +kernel
theorem dX6_goOn_45 : decode cX6_goOn 45 = .ok (.ifCond .ne 43, 3) := by decide +kernel
theorem dX6_goOn_48 : decode cX6_goOn 48 = .ok (.iload_n 1, 1) := by decide +kernel
theorem dX6_goOn_49 : decode cX6_goOn 49 = .ok (.iconst 1, 1) := by decide +kernel
theorem dX6_goOn_50 : decode cX6_goOn 50 = .ok (.iload 5, 2) := by decide +kernel
theorem dX6_goOn_52 : decode cX6_goOn 52 = .ok (.ishl, 1) := by decide +kernel
theorem dX6_goOn_53 : decode cX6_goOn 53 = .ok (.ior, 1) := by decide +kernel
theorem dX6_goOn_54 : decode cX6_goOn 54 = .ok (.iconst 5, 1) := by decide +kernel
theorem dX6_goOn_55 : decode cX6_goOn 55 = .ok (.imul, 1) := by decide +kernel
theorem dX6_goOn_56 : decode cX6_goOn 56 = .ok (.iload 5, 2) := by decide +kernel
theorem dX6_goOn_58 : decode cX6_goOn 58 = .ok (.iadd, 1) := by decide +kernel
theorem dX6_goOn_59 : decode cX6_goOn 59 = .ok (.istore 6, 2) := by decide +kernel
theorem dX6_goOn_61 : decode cX6_goOn 61 = .ok (.aload_n 0, 1) := by decide +kernel
theorem dX6_goOn_62 : decode cX6_goOn 62 = .ok (.getfield 26, 3) := by decide +kernel
theorem dX6_goOn_65 : decode cX6_goOn 65 = .ok (.iload 6, 2) := by decide +kernel
theorem dX6_goOn_67 : decode cX6_goOn 67 = .ok (.aload_n 0, 1) := by decide +kernel
theorem dX6_goOn_68 : decode cX6_goOn 68 = .ok (.getfield 26, 3) := by decide +kernel
theorem dX6_goOn_71 : decode cX6_goOn 71 = .ok (.iload 6, 2) := by decide +kernel
theorem dX6_goOn_73 : decode cX6_goOn 73 = .ok (.iaload, 1) := by decide +kernel
theorem dX6_goOn_74 : decode cX6_goOn 74 = .ok (.iload 4, 2) := by decide +kernel
theorem dX6_goOn_76 : decode cX6_goOn 76 = .ok (.aload_n 0, 1) := by decide +kernel
theorem dX6_goOn_77 : decode cX6_goOn 77 = .ok (.iload_n 2, 1) := by decide +kernel
theorem dX6_goOn_78 : decode cX6_goOn 78 = .ok (.iload 5, 2) := by decide +kernel
theorem dX6_goOn_80 : decode cX6_goOn 80 = .ok (.invokevirtual 63, 3) := by decide +kernel
theorem dX6_goOn_83 : decode cX6_goOn 83 = .ok (.iadd, 1) := by decide +kernel
theorem dX6_goOn_84 : decode cX6_goOn 84 = .ok (.invokestatic 81, 3) := by decide +kernel
theorem dX6_goOn_87 : decode cX6_goOn 87 = .ok (.iastore, 1) := by decide +kernel
theorem dX6_goOn_88 : decode cX6_goOn 88 = .ok (.iinc 5 1, 3) := by decide +kernel
theorem dX6_goOn_91 : decode cX6_goOn 91 = .ok (.goto (-74), 3) := by decide +kernel
theorem dX6_goOn_94 : decode cX6_goOn 94 = .ok (.return_, 1) := by decide +kernel
theorem dX7_init_0 : decode cX7_init 0 = .ok (.aload_n 0, 1) := by decide +kernel
theorem dX7_init_1 : decode cX7_init 1 = .ok (.iload_n 1, 1) := by decide +kernel
theorem dX7_init_2 : decode cX7_init 2 = .ok (.aload_n 2, 1) := by decide +kernel
theorem dX7_init_3 : decode cX7_init 3 = .ok (.invokespecial 3, 3) := by decide +kernel
theorem dX7_init_6 : decode cX7_init 6 = .ok (.aload_n 0, 1) := by decide +kernel
theorem dX7_init_7 : decode cX7_init 7 = .ok (.iconst 5, 1) := by decide +kernel
theorem dX7_init_8 : decode cX7_init 8 = .ok (.newarray .int, 2) := by decide +kernel
theorem dX7_init_10 : decode cX7_init 10 = .ok (.putfield 9, 3) := by decide +kernel
theorem dX7_init_13 : decode cX7_init 13 = .ok (.aload_n 0, 1) := by decide +kernel
theorem dX7_init_14 : decode cX7_init 14 = .ok (.iconst 4, 1) := by decide +kernel
theorem dX7_init_15 : decode cX7_init 15 = .ok (.newarray .int, 2) := by decide +kernel
theorem dX7_init_17 : decode cX7_init 17 = .ok (.putfield 15, 3) := by decide +kernel
theorem dX7_init_20 : decode cX7_init 20 = .ok (.aload_n 0, 1) := by decide +kernel
theorem dX7_init_21 : decode cX7_init 21 = .ok (.iconst 5, 1) := by decide +kernel
theorem dX7_init_22 : decode cX7_init 22 = .ok (.newarray .int, 2) := by decide +kernel
theorem dX7_init_24 : decode cX7_init 24 = .ok (.putfield 18, 3) := by decide +kernel
theorem dX7_init_27 : decode cX7_init 27 = .ok (.aload_n 0, 1) := by decide +kernel
theorem dX7_init_28 : decode cX7_init 28 = .ok (.getfield 15, 3) := by decide +kernel
theorem dX7_init_31 : decode cX7_init 31 = .ok (.iconst 1, 1) := by decide +kernel
theorem dX7_init_32 : decode cX7_init 32 = .ok (.invokestatic 21, 3) := by decide +kernel
theorem dX7_init_35 : decode cX7_init 35 = .ok (.aload_n 0, 1) := by decide +kernel
theorem dX7_init_36 : decode cX7_init 36 = .ok (.getfield 27, 3) := by decide +kernel
theorem dX7_init_39 : decode cX7_init 39 = .ok (.iconst (-1), 1) := by decide +kernel
theorem dX7_init_40 : decode cX7_init 40 = .ok (.invokestatic 21, 3) := by decide +kernel
theorem dX7_init_43 : decode cX7_init 43 = .ok (.return_, 1) := by decide +kernel
theorem dX7_settle_0 : decode cX7_settle 0 = .ok (.aload_n 0, 1) := by decide +kernel
theorem dX7_settle_1 : decode cX7_settle 1 = .ok (.getfield 27, 3) := by decide +kernel
theorem dX7_settle_4 : decode cX7_settle 4 = .ok (.iload_n 1, 1) := by decide +kernel
theorem dX7_settle_5 : decode cX7_settle 5 = .ok (.iaload, 1) := by decide +kernel
theorem dX7_settle_6 : decode cX7_settle 6 = .ok (.iconst (-1), 1) := by decide +kernel
theorem dX7_settle_7 : decode cX7_settle 7 = .ok (.if_icmp .ne 8, 3) := by decide +kernel
theorem dX7_settle_10 : decode cX7_settle 10 = .ok (.aload_n 0, 1) := by decide +kernel
theorem dX7_settle_11 : decode cX7_settle 11 = .ok (.iload_n 1, 1) := by decide +kernel
theorem dX7_settle_12 : decode cX7_settle 12 = .ok (.invokevirtual 30, 3) := by decide +kernel
theorem dX7_settle_15 : decode cX7_settle 15 = .ok (.return_, 1) := by decide +kernel
theorem dX7_changeEnd_0 : decode cX7_changeEnd 0 = .ok (.bipush (-4), 2) := by decide +kernel
theorem dX7_changeEnd_2 : decode cX7_changeEnd 2 = .ok (.ireturn, 1) := by decide +kernel
theorem dX7_changePayment_0 : decode cX7_changePayment 0 = .ok (.bipush (-4), 2) := by decide +kernel
theorem dX7_changePayment_2 : decode cX7_changePayment 2 = .ok (.ireturn, 1) := by decide +kernel
theorem dX7_changeGift_0 : decode cX7_changeGift 0 = .ok (.aload_n 0, 1) := by decide +kernel
theorem dX7_changeGift_1 : decode cX7_changeGift 1 = .ok (.aload_n 0, 1) := by decide +kernel
theorem dX7_changeGift_2 : decode cX7_changeGift 2 = .ok (.getfield 9, 3) := by decide +kernel
theorem dX7_changeGift_5 : decode cX7_changeGift 5 = .ok (.iload_n 1, 1) := by decide +kernel
theorem dX7_changeGift_6 : decode cX7_changeGift 6 = .ok (.iload_n 2, 1) := by decide +kernel
theorem dX7_changeGift_7 : decode cX7_changeGift 7 = .ok (.invokevirtual 34, 3) := by decide +kernel
theorem dX7_changeGift_10 : decode cX7_changeGift 10 = .ok (.ireturn, 1) := by decide +kernel
theorem dX7_changeWeight_0 : decode cX7_changeWeight 0 = .ok (.aload_n 0, 1) := by decide +kernel
theorem dX7_changeWeight_1 : decode cX7_changeWeight 1 = .ok (.aload_n 0, 1) := by decide +kernel
theorem dX7_changeWeight_2 : decode cX7_changeWeight 2 = .ok (.getfield 15, 3) := by decide +kernel
theorem dX7_changeWeight_5 : decode cX7_changeWeight 5 = .ok (.iload_n 1, 1) := by decide +kernel
theorem dX7_changeWeight_6 : decode cX7_changeWeight 6 = .ok (.iload_n 2, 1) := by decide +kernel
theorem dX7_changeWeight_7 : decode cX7_changeWeight 7 = .ok (.invokevirtual 34, 3) := by decide +kernel
theorem dX7_changeWeight_10 : decode cX7_changeWeight 10 = .ok (.ireturn, 1) := by decide +kernel
theorem dX7_change_0 : decode cX7_change 0 = .ok (.aload_n 1, 1) := by decide +kernel
theorem dX7_change_1 : decode cX7_change 1 = .ok (.iload_n 2, 1) := by decide +kernel
theorem dX7_change_2 : decode cX7_change 2 = .ok (.iaload, 1) := by decide +kernel
theorem dX7_change_3 : decode cX7_change 3 = .ok (.iload_n 3, 1) := by decide +kernel
theorem dX7_change_4 : decode cX7_change 4 = .ok (.if_icmp .ne 5, 3) := by decide +kernel
theorem dX7_change_7 : decode cX7_change 7 = .ok (.iconst 0, 1) := by decide +kernel
theorem dX7_change_8 : decode cX7_change 8 = .ok (.ireturn, 1) := by decide +kernel
theorem dX7_change_9 : decode cX7_change 9 = .ok (.aload_n 1, 1) := by decide +kernel
theorem dX7_change_10 : decode cX7_change 10 = .ok (.iload_n 2, 1) := by decide +kernel
theorem dX7_change_11 : decode cX7_change 11 = .ok (.iload_n 3, 1) := by decide +kernel
theorem dX7_change_12 : decode cX7_change 12 = .ok (.iastore, 1) := by decide +kernel
theorem dX7_change_13 : decode cX7_change 13 = .ok (.aload_n 0, 1) := by decide +kernel
theorem dX7_change_14 : decode cX7_change 14 = .ok (.getfield 27, 3) := by decide +kernel
theorem dX7_change_17 : decode cX7_change 17 = .ok (.iconst (-1), 1) := by decide +kernel
theorem dX7_change_18 : decode cX7_change 18 = .ok (.invokestatic 21, 3) := by decide +kernel
theorem dX7_change_21 : decode cX7_change 21 = .ok (.iconst 1, 1) := by decide +kernel
theorem dX7_change_22 : decode cX7_change 22 = .ok (.ireturn, 1) := by decide +kernel
theorem dX7_workOut_0 : decode cX7_workOut 0 = .ok (.aload_n 0, 1) := by decide +kernel
theorem dX7_workOut_1 : decode cX7_workOut 1 = .ok (.iload_n 1, 1) := by decide +kernel
theorem dX7_workOut_2 : decode cX7_workOut 2 = .ok (.invokevirtual 38, 3) := by decide +kernel
theorem dX7_workOut_5 : decode cX7_workOut 5 = .ok (.iconst 0, 1) := by decide +kernel
theorem dX7_workOut_6 : decode cX7_workOut 6 = .ok (.istore_n 2, 1) := by decide +kernel
theorem dX7_workOut_7 : decode cX7_workOut 7 = .ok (.iconst 1, 1) := by decide +kernel
theorem dX7_workOut_8 : decode cX7_workOut 8 = .ok (.istore_n 3, 1) := by decide +kernel
theorem dX7_workOut_9 : decode cX7_workOut 9 = .ok (.iload_n 3, 1) := by decide +kernel
theorem dX7_workOut_10 : decode cX7_workOut 10 = .ok (.aload_n 0, 1) := by decide +kernel
theorem dX7_workOut_11 : decode cX7_workOut 11 = .ok (.getfield 41, 3) := by decide +kernel
theorem dX7_workOut_14 : decode cX7_workOut 14 = .ok (.getfield 45, 3) := by decide +kernel
theorem dX7_workOut_17 : decode cX7_workOut 17 = .ok (.if_icmp .ge 26, 3) := by decide +kernel
theorem dX7_workOut_20 : decode cX7_workOut 20 = .ok (.aload_n 0, 1) := by decide +kernel
theorem dX7_workOut_21 : decode cX7_workOut 21 = .ok (.getfield 18, 3) := by decide +kernel
theorem dX7_workOut_24 : decode cX7_workOut 24 = .ok (.iload_n 3, 1) := by decide +kernel
theorem dX7_workOut_25 : decode cX7_workOut 25 = .ok (.iaload, 1) := by decide +kernel
theorem dX7_workOut_26 : decode cX7_workOut 26 = .ok (.aload_n 0, 1) := by decide +kernel
theorem dX7_workOut_27 : decode cX7_workOut 27 = .ok (.getfield 18, 3) := by decide +kernel
theorem dX7_workOut_30 : decode cX7_workOut 30 = .ok (.iload_n 2, 1) := by decide +kernel
theorem dX7_workOut_31 : decode cX7_workOut 31 = .ok (.iaload, 1) := by decide +kernel
theorem dX7_workOut_32 : decode cX7_workOut 32 = .ok (.if_icmp .le 5, 3) := by decide +kernel
theorem dX7_workOut_35 : decode cX7_workOut 35 = .ok (.iload_n 3, 1) := by decide +kernel
theorem dX7_workOut_36 : decode cX7_workOut 36 = .ok (.istore_n 2, 1) := by decide +kernel
theorem dX7_workOut_37 : decode cX7_workOut 37 = .ok (.iinc 3 1, 3) := by decide +kernel
theorem dX7_workOut_40 : decode cX7_workOut 40 = .ok (.goto (-31), 3) := by decide +kernel
theorem dX7_workOut_43 : decode cX7_workOut 43 = .ok (.iconst 0, 1) := by decide +kernel
theorem dX7_workOut_44 : decode cX7_workOut 44 = .ok (.istore_n 3, 1) := by decide +kernel
theorem dX7_workOut_45 : decode cX7_workOut 45 = .ok (.iload_n 3, 1) := by decide +kernel
theorem dX7_workOut_46 : decode cX7_workOut 46 = .ok (.aload_n 0, 1) := by decide +kernel
theorem dX7_workOut_47 : decode cX7_workOut 47 = .ok (.getfield 41, 3) := by decide +kernel
theorem dX7_workOut_50 : decode cX7_workOut 50 = .ok (.getfield 51, 3) := by decide +kernel
theorem dX7_workOut_53 : decode cX7_workOut 53 = .ok (.if_icmp .ge 49, 3) := by decide +kernel
theorem dX7_workOut_56 : decode cX7_workOut 56 = .ok (.aload_n 0, 1) := by decide +kernel
theorem dX7_workOut_57 : decode cX7_workOut 57 = .ok (.aload_n 0, 1) := by decide +kernel
theorem dX7_workOut_58 : decode cX7_workOut 58 = .ok (.getfield 41, 3) := by decide +kernel
theorem dX7_workOut_61 : decode cX7_workOut 61 = .ok (.iload_n 1, 1) := by decide +kernel
theorem dX7_workOut_62 : decode cX7_workOut 62 = .ok (.iload_n 3, 1) := by decide +kernel
theorem dX7_workOut_63 : decode cX7_workOut 63 = .ok (.invokevirtual 54, 3) := by decide +kernel
theorem dX7_workOut_66 : decode cX7_workOut 66 = .ok (.aload_n 0, 1) := by decide +kernel
theorem dX7_workOut_67 : decode cX7_workOut 67 = .ok (.getfield 15, 3) := by decide +kernel
theorem dX7_workOut_70 : decode cX7_workOut 70 = .ok (.iload_n 3, 1) := by decide +kernel
theorem dX7_workOut_71 : decode cX7_workOut 71 = .ok (.iaload, 1) := by decide +kernel
theorem dX7_workOut_72 : decode cX7_workOut 72 = .ok (.iload_n 2, 1) := by decide +kernel
theorem dX7_workOut_73 : decode cX7_workOut 73 = .ok (.invokevirtual 58, 3) := by decide +kernel
theorem dX7_workOut_76 : decode cX7_workOut 76 = .ok (.istore 4, 2) := by decide +kernel
theorem dX7_workOut_78 : decode cX7_workOut 78 = .ok (.aload_n 0, 1) := by decide +kernel
theorem dX7_workOut_79 : decode cX7_workOut 79 = .ok (.getfield 62, 3) := by decide +kernel
theorem dX7_workOut_82 : decode cX7_workOut 82 = .ok (.iload_n 1, 1) := by decide +kernel
theorem dX7_workOut_83 : decode cX7_workOut 83 = .ok (.aload_n 0, 1) := by decide +kernel
theorem dX7_workOut_84 : decode cX7_workOut 84 = .ok (.getfield 41, 3) := by decide +kernel
theorem dX7_workOut_87 : decode cX7_workOut 87 = .ok (.getfield 51, 3) := by decide +kernel
theorem dX7_workOut_90 : decode cX7_workOut 90 = .ok (.imul, 1) := by decide +kernel
theorem dX7_workOut_91 : decode cX7_workOut 91 = .ok (.iload_n 3, 1) := by decide +kernel
theorem dX7_workOut_92 : decode cX7_workOut 92 = .ok (.iadd, 1) := by decide +kernel
theorem dX7_workOut_93 : decode cX7_workOut 93 = .ok (.iload 4, 2) := by decide +kernel
theorem dX7_workOut_95 : decode cX7_workOut 95 = .ok (.iastore, 1) := by decide +kernel
theorem dX7_workOut_96 : decode cX7_workOut 96 = .ok (.iinc 3 1, 3) := by decide +kernel
theorem dX7_workOut_99 : decode cX7_workOut 99 = .ok (.goto (-54), 3) := by decide +kernel
theorem dX7_workOut_102 : decode cX7_workOut 102 = .ok (.aload_n 0, 1) := by decide +kernel
theorem dX7_workOut_103 : decode cX7_workOut 103 = .ok (.getfield 27, 3) := by decide +kernel
theorem dX7_workOut_106 : decode cX7_workOut 106 = .ok (.iload_n 1, 1) := by decide +kernel
theorem dX7_workOut_107 : decode cX7_workOut 107 = .ok (.iload_n 2, 1) := by decide +kernel
theorem dX7_workOut_108 : decode cX7_workOut 108 = .ok (.iastore, 1) := by decide +kernel
theorem dX7_workOut_109 : decode cX7_workOut 109 = .ok (.return_, 1) := by decide +kernel
theorem dX7_addUp_0 : decode cX7_addUp 0 = .ok (.iconst 0, 1) := by decide +kernel
theorem dX7_addUp_1 : decode cX7_addUp 1 = .ok (.istore_n 2, 1) := by decide +kernel
theorem dX7_addUp_2 : decode cX7_addUp 2 = .ok (.iload_n 2, 1) := by decide +kernel
theorem dX7_addUp_3 : decode cX7_addUp 3 = .ok (.aload_n 0, 1) := by decide +kernel
theorem dX7_addUp_4 : decode cX7_addUp 4 = .ok (.getfield 41, 3) := by decide +kernel
theorem dX7_addUp_7 : decode cX7_addUp 7 = .ok (.getfield 45, 3) := by decide +kernel
theorem dX7_addUp_10 : decode cX7_addUp 10 = .ok (.if_icmp .ge 21, 3) := by decide +kernel
theorem dX7_addUp_13 : decode cX7_addUp 13 = .ok (.aload_n 0, 1) := by decide +kernel
theorem dX7_addUp_14 : decode cX7_addUp 14 = .ok (.getfield 18, 3) := by decide +kernel
theorem dX7_addUp_17 : decode cX7_addUp 17 = .ok (.iload_n 2, 1) := by decide +kernel
theorem dX7_addUp_18 : decode cX7_addUp 18 = .ok (.aload_n 0, 1) := by decide +kernel
theorem dX7_addUp_19 : decode cX7_addUp 19 = .ok (.getfield 9, 3) := by decide +kernel
theorem dX7_addUp_22 : decode cX7_addUp 22 = .ok (.iload_n 2, 1) := by decide +kernel
theorem dX7_addUp_23 : decode cX7_addUp 23 = .ok (.iaload, 1) := by decide +kernel
theorem dX7_addUp_24 : decode cX7_addUp 24 = .ok (.iastore, 1) := by decide +kernel
theorem dX7_addUp_25 : decode cX7_addUp 25 = .ok (.iinc 2 1, 3) := by decide +kernel
theorem dX7_addUp_28 : decode cX7_addUp 28 = .ok (.goto (-26), 3) := by decide +kernel
theorem dX7_addUp_31 : decode cX7_addUp 31 = .ok (.iconst 0, 1) := by decide +kernel
theorem dX7_addUp_32 : decode cX7_addUp 32 = .ok (.istore_n 2, 1) := by decide +kernel
theorem dX7_addUp_33 : decode cX7_addUp 33 = .ok (.iload_n 2, 1) := by decide +kernel
theorem dX7_addUp_34 : decode cX7_addUp 34 = .ok (.aload_n 0, 1) := by decide +kernel
theorem dX7_addUp_35 : decode cX7_addUp 35 = .ok (.getfield 41, 3) := by decide +kernel
theorem dX7_addUp_38 : decode cX7_addUp 38 = .ok (.getfield 51, 3) := by decide +kernel
theorem dX7_addUp_41 : decode cX7_addUp 41 = .ok (.if_icmp .ge 67, 3) := by decide +kernel
theorem dX7_addUp_44 : decode cX7_addUp 44 = .ok (.aload_n 0, 1) := by decide +kernel
theorem dX7_addUp_45 : decode cX7_addUp 45 = .ok (.getfield 41, 3) := by decide +kernel
theorem dX7_addUp_48 : decode cX7_addUp 48 = .ok (.iload_n 1, 1) := by decide +kernel
theorem dX7_addUp_49 : decode cX7_addUp 49 = .ok (.iload_n 2, 1) := by decide +kernel
theorem dX7_addUp_50 : decode cX7_addUp 50 = .ok (.invokevirtual 54, 3) := by decide +kernel
theorem dX7_addUp_53 : decode cX7_addUp 53 = .ok (.istore_n 3, 1) := by decide +kernel
theorem dX7_addUp_54 : decode cX7_addUp 54 = .ok (.iconst 0, 1) := by decide +kernel
theorem dX7_addUp_55 : decode cX7_addUp 55 = .ok (.istore 4, 2) := by decide +kernel
theorem dX7_addUp_57 : decode cX7_addUp 57 = .ok (.iload 4, 2) := by decide +kernel
theorem dX7_addUp_59 : decode cX7_addUp 59 = .ok (.aload_n 0, 1) := by decide +kernel
theorem dX7_addUp_60 : decode cX7_addUp 60 = .ok (.getfield 41, 3) := by decide +kernel
theorem dX7_addUp_63 : decode cX7_addUp 63 = .ok (.getfield 45, 3) := by decide +kernel
theorem dX7_addUp_66 : decode cX7_addUp 66 = .ok (.if_icmp .ge 36, 3) := by decide +kernel
theorem dX7_addUp_69 : decode cX7_addUp 69 = .ok (.aload_n 0, 1) := by decide +kernel
theorem dX7_addUp_70 : decode cX7_addUp 70 = .ok (.getfield 18, 3) := by decide +kernel
theorem dX7_addUp_73 : decode cX7_addUp 73 = .ok (.iload 4, 2) := by decide +kernel
theorem dX7_addUp_75 : decode cX7_addUp 75 = .ok (.dup2, 1) := by decide +kernel
theorem dX7_addUp_76 : decode cX7_addUp 76 = .ok (.iaload, 1) := by decide +kernel
theorem dX7_addUp_77 : decode cX7_addUp 77 = .ok (.aload_n 0, 1) := by decide +kernel
theorem dX7_addUp_78 : decode cX7_addUp 78 = .ok (.getfield 15, 3) := by decide +kernel
theorem dX7_addUp_81 : decode cX7_addUp 81 = .ok (.iload_n 2, 1) := by decide +kernel
theorem dX7_addUp_82 : decode cX7_addUp 82 = .ok (.iaload, 1) := by decide +kernel
theorem dX7_addUp_83 : decode cX7_addUp 83 = .ok (.aload_n 0, 1) := by decide +kernel
theorem dX7_addUp_84 : decode cX7_addUp 84 = .ok (.getfield 41, 3) := by decide +kernel
theorem dX7_addUp_87 : decode cX7_addUp 87 = .ok (.iload_n 3, 1) := by decide +kernel
theorem dX7_addUp_88 : decode cX7_addUp 88 = .ok (.iload 4, 2) := by decide +kernel
theorem dX7_addUp_90 : decode cX7_addUp 90 = .ok (.invokevirtual 65, 3) := by decide +kernel
theorem dX7_addUp_93 : decode cX7_addUp 93 = .ok (.imul, 1) := by decide +kernel
theorem dX7_addUp_94 : decode cX7_addUp 94 = .ok (.iadd, 1) := by decide +kernel
theorem dX7_addUp_95 : decode cX7_addUp 95 = .ok (.iastore, 1) := by decide +kernel
theorem dX7_addUp_96 : decode cX7_addUp 96 = .ok (.iinc 4 1, 3) := by decide +kernel
theorem dX7_addUp_99 : decode cX7_addUp 99 = .ok (.goto (-42), 3) := by decide +kernel
theorem dX7_addUp_102 : decode cX7_addUp 102 = .ok (.iinc 2 1, 3) := by decide +kernel
theorem dX7_addUp_105 : decode cX7_addUp 105 = .ok (.goto (-72), 3) := by decide +kernel
theorem dX7_addUp_108 : decode cX7_addUp 108 = .ok (.return_, 1) := by decide +kernel
theorem dX7_ownPayment_0 : decode cX7_ownPayment 0 = .ok (.iload_n 2, 1) := by decide +kernel
theorem dX7_ownPayment_1 : decode cX7_ownPayment 1 = .ok (.iconst 1, 1) := by decide +kernel
theorem dX7_ownPayment_2 : decode cX7_ownPayment 2 = .ok (.if_icmp .ge 5, 3) := by decide +kernel
theorem dX7_ownPayment_5 : decode cX7_ownPayment 5 = .ok (.iconst 0, 1) := by decide +kernel
theorem dX7_ownPayment_6 : decode cX7_ownPayment 6 = .ok (.ireturn, 1) := by decide +kernel
theorem dX7_ownPayment_7 : decode cX7_ownPayment 7 = .ok (.ldc 68, 2) := by decide +kernel
theorem dX7_ownPayment_9 : decode cX7_ownPayment 9 = .ok (.istore 4, 2) := by decide +kernel
theorem dX7_ownPayment_11 : decode cX7_ownPayment 11 = .ok (.iconst 0, 1) := by decide +kernel
theorem dX7_ownPayment_12 : decode cX7_ownPayment 12 = .ok (.istore 5, 2) := by decide +kernel
theorem dX7_ownPayment_14 : decode cX7_ownPayment 14 = .ok (.iload 5, 2) := by decide +kernel
theorem dX7_ownPayment_16 : decode cX7_ownPayment 16 = .ok (.aload_n 0, 1) := by decide +kernel
theorem dX7_ownPayment_17 : decode cX7_ownPayment 17 = .ok (.getfield 41, 3) := by decide +kernel
theorem dX7_ownPayment_20 : decode cX7_ownPayment 20 = .ok (.getfield 45, 3) := by decide +kernel
theorem dX7_ownPayment_23 : decode cX7_ownPayment 23 = .ok (.if_icmp .ge 36, 3) := by decide +kernel
theorem dX7_ownPayment_26 : decode cX7_ownPayment 26 = .ok (.iload 4, 2) := by decide +kernel
theorem dX7_ownPayment_28 : decode cX7_ownPayment 28 = .ok (.aload_n 0, 1) := by decide +kernel
theorem dX7_ownPayment_29 : decode cX7_ownPayment 29 = .ok (.getfield 18, 3) := by decide +kernel
theorem dX7_ownPayment_32 : decode cX7_ownPayment 32 = .ok (.iload 5, 2) := by decide +kernel
theorem dX7_ownPayment_34 : decode cX7_ownPayment 34 = .ok (.iaload, 1) := by decide +kernel
theorem dX7_ownPayment_35 : decode cX7_ownPayment 35 = .ok (.iload_n 2, 1) := by decide +kernel
theorem dX7_ownPayment_36 : decode cX7_ownPayment 36 = .ok (.aload_n 0, 1) := by decide +kernel
theorem dX7_ownPayment_37 : decode cX7_ownPayment 37 = .ok (.getfield 41, 3) := by decide +kernel
theorem dX7_ownPayment_40 : decode cX7_ownPayment 40 = .ok (.iload_n 1, 1) := by decide +kernel
theorem dX7_ownPayment_41 : decode cX7_ownPayment 41 = .ok (.iload 5, 2) := by decide +kernel
theorem dX7_ownPayment_43 : decode cX7_ownPayment 43 = .ok (.invokevirtual 65, 3) := by decide +kernel
theorem dX7_ownPayment_46 : decode cX7_ownPayment 46 = .ok (.imul, 1) := by decide +kernel
theorem dX7_ownPayment_47 : decode cX7_ownPayment 47 = .ok (.isub, 1) := by decide +kernel
theorem dX7_ownPayment_48 : decode cX7_ownPayment 48 = .ok (.invokestatic 69, 3) := by decide +kernel
theorem dX7_ownPayment_51 : decode cX7_ownPayment 51 = .ok (.istore 4, 2) := by decide +kernel
theorem dX7_ownPayment_53 : decode cX7_ownPayment 53 = .ok (.iinc 5 1, 3) := by decide +kernel
theorem dX7_ownPayment_56 : decode cX7_ownPayment 56 = .ok (.goto (-42), 3) := by decide +kernel
theorem dX7_ownPayment_59 : decode cX7_ownPayment 59 = .ok (.iload 4, 2) := by decide +kernel
theorem dX7_ownPayment_61 : decode cX7_ownPayment 61 = .ok (.aload_n 0, 1) := by decide +kernel
theorem dX7_ownPayment_62 : decode cX7_ownPayment 62 = .ok (.getfield 18, 3) := by decide +kernel
theorem dX7_ownPayment_65 : decode cX7_ownPayment 65 = .ok (.iload_n 3, 1) := by decide +kernel
theorem dX7_ownPayment_66 : decode cX7_ownPayment 66 = .ok (.iaload, 1) := by decide +kernel
theorem dX7_ownPayment_67 : decode cX7_ownPayment 67 = .ok (.iload_n 2, 1) := by decide +kernel
theorem dX7_ownPayment_68 : decode cX7_ownPayment 68 = .ok (.aload_n 0, 1) := by decide +kernel
theorem dX7_ownPayment_69 : decode cX7_ownPayment 69 = .ok (.getfield 41, 3) := by decide +kernel
theorem dX7_ownPayment_72 : decode cX7_ownPayment 72 = .ok (.iload_n 1, 1) := by decide +kernel
theorem dX7_ownPayment_73 : decode cX7_ownPayment 73 = .ok (.iload_n 3, 1) := by decide +kernel
theorem dX7_ownPayment_74 : decode cX7_ownPayment 74 = .ok (.invokevirtual 65, 3) := by decide +kernel
theorem dX7_ownPayment_77 : decode cX7_ownPayment 77 = .ok (.imul, 1) := by decide +kernel
theorem dX7_ownPayment_78 : decode cX7_ownPayment 78 = .ok (.isub, 1) := by decide +kernel
theorem dX7_ownPayment_79 : decode cX7_ownPayment 79 = .ok (.isub, 1) := by decide +kernel
theorem dX7_ownPayment_80 : decode cX7_ownPayment 80 = .ok (.iload_n 2, 1) := by decide +kernel
theorem dX7_ownPayment_81 : decode cX7_ownPayment 81 = .ok (.idiv, 1) := by decide +kernel
theorem dX7_ownPayment_82 : decode cX7_ownPayment 82 = .ok (.ireturn, 1) := by decide +kernel
theorem dX7_heft_0 : decode cX7_heft 0 = .ok (.iconst 2, 1) := by decide +kernel
theorem dX7_heft_1 : decode cX7_heft 1 = .ok (.aload_n 0, 1) := by decide +kernel
theorem dX7_heft_2 : decode cX7_heft 2 = .ok (.invokespecial 74, 3) := by decide +kernel
theorem dX7_heft_5 : decode cX7_heft 5 = .ok (.imul, 1) := by decide +kernel
theorem dX7_heft_6 : decode cX7_heft 6 = .ok (.ireturn, 1) := by decide +kernel
theorem dX8_init_0 : decode cX8_init 0 = .ok (.aload_n 0, 1) := by decide +kernel
theorem dX8_init_1 : decode cX8_init 1 = .ok (.invokespecial 3, 3) := by decide +kernel
theorem dX8_init_4 : decode cX8_init 4 = .ok (.aload_n 0, 1) := by decide +kernel
theorem dX8_init_5 : decode cX8_init 5 = .ok (.iload_n 1, 1) := by decide +kernel
theorem dX8_init_6 : decode cX8_init 6 = .ok (.putfield 9, 3) := by decide +kernel
theorem dX8_init_9 : decode cX8_init 9 = .ok (.aload_n 0, 1) := by decide +kernel
theorem dX8_init_10 : decode cX8_init 10 = .ok (.iload_n 2, 1) := by decide +kernel
theorem dX8_init_11 : decode cX8_init 11 = .ok (.putfield 15, 3) := by decide +kernel
theorem dX8_init_14 : decode cX8_init 14 = .ok (.aload_n 0, 1) := by decide +kernel
theorem dX8_init_15 : decode cX8_init 15 = .ok (.bipush 30, 2) := by decide +kernel
theorem dX8_init_17 : decode cX8_init 17 = .ok (.newarray .int, 2) := by decide +kernel
theorem dX8_init_19 : decode cX8_init 19 = .ok (.putfield 18, 3) := by decide +kernel
theorem dX8_init_22 : decode cX8_init 22 = .ok (.aload_n 0, 1) := by decide +kernel
theorem dX8_init_23 : decode cX8_init 23 = .ok (.iconst 5, 1) := by decide +kernel
theorem dX8_init_24 : decode cX8_init 24 = .ok (.newarray .int, 2) := by decide +kernel
theorem dX8_init_26 : decode cX8_init 26 = .ok (.putfield 22, 3) := by decide +kernel
theorem dX8_init_29 : decode cX8_init 29 = .ok (.return_, 1) := by decide +kernel
theorem dX8_come_0 : decode cX8_come 0 = .ok (.aload_n 0, 1) := by decide +kernel
theorem dX8_come_1 : decode cX8_come 1 = .ok (.dup, 1) := by decide +kernel
theorem dX8_come_2 : decode cX8_come 2 = .ok (.getfield 25, 3) := by decide +kernel
theorem dX8_come_5 : decode cX8_come 5 = .ok (.iconst 1, 1) := by decide +kernel
theorem dX8_come_6 : decode cX8_come 6 = .ok (.iadd, 1) := by decide +kernel
theorem dX8_come_7 : decode cX8_come 7 = .ok (.putfield 25, 3) := by decide +kernel
theorem dX8_come_10 : decode cX8_come 10 = .ok (.iconst 1, 1) := by decide +kernel
theorem dX8_come_11 : decode cX8_come 11 = .ok (.istore_n 1, 1) := by decide +kernel
theorem dX8_come_12 : decode cX8_come 12 = .ok (.iconst 0, 1) := by decide +kernel
theorem dX8_come_13 : decode cX8_come 13 = .ok (.istore_n 2, 1) := by decide +kernel
theorem dX8_come_14 : decode cX8_come 14 = .ok (.iload_n 2, 1) := by decide +kernel
theorem dX8_come_15 : decode cX8_come 15 = .ok (.aload_n 0, 1) := by decide +kernel
theorem dX8_come_16 : decode cX8_come 16 = .ok (.getfield 9, 3) := by decide +kernel
theorem dX8_come_19 : decode cX8_come 19 = .ok (.if_icmp .gt 23, 3) := by decide +kernel
theorem dX8_come_22 : decode cX8_come 22 = .ok (.aload_n 0, 1) := by decide +kernel
theorem dX8_come_23 : decode cX8_come 23 = .ok (.getfield 22, 3) := by decide +kernel
theorem dX8_come_26 : decode cX8_come 26 = .ok (.iload_n 2, 1) := by decide +kernel
theorem dX8_come_27 : decode cX8_come 27 = .ok (.iload_n 1, 1) := by decide +kernel
theorem dX8_come_28 : decode cX8_come 28 = .ok (.iastore, 1) := by decide +kernel
theorem dX8_come_29 : decode cX8_come 29 = .ok (.iload_n 1, 1) := by decide +kernel
theorem dX8_come_30 : decode cX8_come 30 = .ok (.aload_n 0, 1) := by decide +kernel
theorem dX8_come_31 : decode cX8_come 31 = .ok (.getfield 25, 3) := by decide +kernel
theorem dX8_come_34 : decode cX8_come 34 = .ok (.imul, 1) := by decide +kernel
theorem dX8_come_35 : decode cX8_come 35 = .ok (.istore_n 1, 1) := by decide +kernel
theorem dX8_come_36 : decode cX8_come 36 = .ok (.iinc 2 1, 3) := by decide +kernel
theorem dX8_come_39 : decode cX8_come 39 = .ok (.goto (-25), 3) := by decide +kernel
theorem dX8_come_42 : decode cX8_come 42 = .ok (.aload_n 0, 1) := by decide +kernel
theorem dX8_come_43 : decode cX8_come 43 = .ok (.aload_n 0, 1) := by decide +kernel
theorem dX8_come_44 : decode cX8_come 44 = .ok (.getfield 22, 3) := by decide +kernel
theorem dX8_come_47 : decode cX8_come 47 = .ok (.aload_n 0, 1) := by decide +kernel
theorem dX8_come_48 : decode cX8_come 48 = .ok (.getfield 9, 3) := by decide +kernel
theorem dX8_come_51 : decode cX8_come 51 = .ok (.iaload, 1) := by decide +kernel
theorem dX8_come_52 : decode cX8_come 52 = .ok (.putfield 28, 3) := by decide +kernel
theorem dX8_come_55 : decode cX8_come 55 = .ok (.aload_n 0, 1) := by decide +kernel
theorem dX8_come_56 : decode cX8_come 56 = .ok (.getfield 25, 3) := by decide +kernel
theorem dX8_come_59 : decode cX8_come 59 = .ok (.iconst 1, 1) := by decide +kernel
theorem dX8_come_60 : decode cX8_come 60 = .ok (.isub, 1) := by decide +kernel
theorem dX8_come_61 : decode cX8_come 61 = .ok (.ireturn, 1) := by decide +kernel
theorem dX8_number_0 : decode cX8_number 0 = .ok (.aload_n 0, 1) := by decide +kernel
theorem dX8_number_1 : decode cX8_number 1 = .ok (.getfield 18, 3) := by decide +kernel
theorem dX8_number_4 : decode cX8_number 4 = .ok (.iload_n 1, 1) := by decide +kernel
theorem dX8_number_5 : decode cX8_number 5 = .ok (.iconst 5, 1) := by decide +kernel
theorem dX8_number_6 : decode cX8_number 6 = .ok (.imul, 1) := by decide +kernel
theorem dX8_number_7 : decode cX8_number 7 = .ok (.iload_n 2, 1) := by decide +kernel
theorem dX8_number_8 : decode cX8_number 8 = .ok (.iadd, 1) := by decide +kernel
theorem dX8_number_9 : decode cX8_number 9 = .ok (.iaload, 1) := by decide +kernel
theorem dX8_number_10 : decode cX8_number 10 = .ok (.ireturn, 1) := by decide +kernel
theorem dX8_changeNumber_0 : decode cX8_changeNumber 0 = .ok (.aload_n 0, 1) := by decide +kernel
theorem dX8_changeNumber_1 : decode cX8_changeNumber 1 = .ok (.iload_n 1, 1) := by decide +kernel
theorem dX8_changeNumber_2 : decode cX8_changeNumber 2 = .ok (.iload_n 2, 1) := by decide +kernel
theorem dX8_changeNumber_3 : decode cX8_changeNumber 3 = .ok (.invokevirtual 31, 3) := by decide +kernel
theorem dX8_changeNumber_6 : decode cX8_changeNumber 6 = .ok (.istore 4, 2) := by decide +kernel
theorem dX8_changeNumber_8 : decode cX8_changeNumber 8 = .ok (.aload_n 0, 1) := by decide +kernel
theorem dX8_changeNumber_9 : decode cX8_changeNumber 9 = .ok (.getfield 18, 3) := by decide +kernel
theorem dX8_changeNumber_12 : decode cX8_changeNumber 12 = .ok (.iload_n 1, 1) := by decide +kernel
theorem dX8_changeNumber_13 : decode cX8_changeNumber 13 = .ok (.iconst 5, 1) := by decide +kernel
theorem dX8_changeNumber_14 : decode cX8_changeNumber 14 = .ok (.imul, 1) := by decide +kernel
theorem dX8_changeNumber_15 : decode cX8_changeNumber 15 = .ok (.iload_n 2, 1) := by decide +kernel
theorem dX8_changeNumber_16 : decode cX8_changeNumber 16 = .ok (.iadd, 1) := by decide +kernel
theorem dX8_changeNumber_17 : decode cX8_changeNumber 17 = .ok (.iload_n 3, 1) := by decide +kernel
theorem dX8_changeNumber_18 : decode cX8_changeNumber 18 = .ok (.iastore, 1) := by decide +kernel
theorem dX8_changeNumber_19 : decode cX8_changeNumber 19 = .ok (.iload 4, 2) := by decide +kernel
theorem dX8_changeNumber_21 : decode cX8_changeNumber 21 = .ok (.iload_n 3, 1) := by decide +kernel
theorem dX8_changeNumber_22 : decode cX8_changeNumber 22 = .ok (.if_icmp .ne 7, 3) := by decide +kernel
theorem dX8_changeNumber_25 : decode cX8_changeNumber 25 = .ok (.iconst 0, 1) := by decide +kernel
theorem dX8_changeNumber_26 : decode cX8_changeNumber 26 = .ok (.goto 4, 3) := by decide +kernel
theorem dX8_changeNumber_29 : decode cX8_changeNumber 29 = .ok (.iconst 1, 1) := by decide +kernel
theorem dX8_changeNumber_30 : decode cX8_changeNumber 30 = .ok (.ireturn, 1) := by decide +kernel
theorem dX8_wishIn_0 : decode cX8_wishIn 0 = .ok (.aload_n 0, 1) := by decide +kernel
theorem dX8_wishIn_1 : decode cX8_wishIn 1 = .ok (.getfield 22, 3) := by decide +kernel
theorem dX8_wishIn_4 : decode cX8_wishIn 4 = .ok (.iload_n 2, 1) := by decide +kernel
theorem dX8_wishIn_5 : decode cX8_wishIn 5 = .ok (.iaload, 1) := by decide +kernel
theorem dX8_wishIn_6 : decode cX8_wishIn 6 = .ok (.istore_n 3, 1) := by decide +kernel
theorem dX8_wishIn_7 : decode cX8_wishIn 7 = .ok (.iload_n 3, 1) := by decide +kernel
theorem dX8_wishIn_8 : decode cX8_wishIn 8 = .ok (.iconst 1, 1) := by decide +kernel
theorem dX8_wishIn_9 : decode cX8_wishIn 9 = .ok (.if_icmp .lt 11, 3) := by decide +kernel
theorem dX8_wishIn_12 : decode cX8_wishIn 12 = .ok (.aload_n 0, 1) := by decide +kernel
theorem dX8_wishIn_13 : decode cX8_wishIn 13 = .ok (.getfield 25, 3) := by decide +kernel
theorem dX8_wishIn_16 : decode cX8_wishIn 16 = .ok (.iconst 1, 1) := by decide +kernel
theorem dX8_wishIn_17 : decode cX8_wishIn 17 = .ok (.if_icmp .ge 7, 3) := by decide +kernel
theorem dX8_wishIn_20 : decode cX8_wishIn 20 = .ok (.iconst 0, 1) := by decide +kernel
theorem dX8_wishIn_21 : decode cX8_wishIn 21 = .ok (.goto 11, 3) := by decide +kernel
theorem dX8_wishIn_24 : decode cX8_wishIn 24 = .ok (.iload_n 1, 1) := by decide +kernel
theorem dX8_wishIn_25 : decode cX8_wishIn 25 = .ok (.iload_n 3, 1) := by decide +kernel
theorem dX8_wishIn_26 : decode cX8_wishIn 26 = .ok (.idiv, 1) := by decide +kernel
theorem dX8_wishIn_27 : decode cX8_wishIn 27 = .ok (.aload_n 0, 1) := by decide +kernel
theorem dX8_wishIn_28 : decode cX8_wishIn 28 = .ok (.getfield 25, 3) := by decide +kernel
theorem dX8_wishIn_31 : decode cX8_wishIn 31 = .ok (.irem, 1) := by decide +kernel
theorem dX8_wishIn_32 : decode cX8_wishIn 32 = .ok (.ireturn, 1) := by decide +kernel
theorem dX8_rowSaying_0 : decode cX8_rowSaying 0 = .ok (.iload_n 1, 1) := by decide +kernel
theorem dX8_rowSaying_1 : decode cX8_rowSaying 1 = .ok (.iload_n 3, 1) := by decide +kernel
theorem dX8_rowSaying_2 : decode cX8_rowSaying 2 = .ok (.aload_n 0, 1) := by decide +kernel
theorem dX8_rowSaying_3 : decode cX8_rowSaying 3 = .ok (.iload_n 1, 1) := by decide +kernel
theorem dX8_rowSaying_4 : decode cX8_rowSaying 4 = .ok (.iload_n 2, 1) := by decide +kernel
theorem dX8_rowSaying_5 : decode cX8_rowSaying 5 = .ok (.invokevirtual 35, 3) := by decide +kernel
theorem dX8_rowSaying_8 : decode cX8_rowSaying 8 = .ok (.isub, 1) := by decide +kernel
theorem dX8_rowSaying_9 : decode cX8_rowSaying 9 = .ok (.aload_n 0, 1) := by decide +kernel
theorem dX8_rowSaying_10 : decode cX8_rowSaying 10 = .ok (.getfield 22, 3) := by decide +kernel
theorem dX8_rowSaying_13 : decode cX8_rowSaying 13 = .ok (.iload_n 2, 1) := by decide +kernel
theorem dX8_rowSaying_14 : decode cX8_rowSaying 14 = .ok (.iaload, 1) := by decide +kernel
theorem dX8_rowSaying_15 : decode cX8_rowSaying 15 = .ok (.imul, 1) := by decide +kernel
theorem dX8_rowSaying_16 : decode cX8_rowSaying 16 = .ok (.iadd, 1) := by decide +kernel
theorem dX8_rowSaying_17 : decode cX8_rowSaying 17 = .ok (.ireturn, 1) := by decide +kernel
theorem dX8_top_0 : decode cX8_top 0 = .ok (.iconst 0, 1) := by decide +kernel
theorem dX8_top_1 : decode cX8_top 1 = .ok (.istore_n 2, 1) := by decide +kernel
theorem dX8_top_2 : decode cX8_top 2 = .ok (.iconst 1, 1) := by decide +kernel
theorem dX8_top_3 : decode cX8_top 3 = .ok (.istore_n 3, 1) := by decide +kernel
theorem dX8_top_4 : decode cX8_top 4 = .ok (.iload_n 3, 1) := by decide +kernel
theorem dX8_top_5 : decode cX8_top 5 = .ok (.aload_n 0, 1) := by decide +kernel
theorem dX8_top_6 : decode cX8_top 6 = .ok (.getfield 15, 3) := by decide +kernel
theorem dX8_top_9 : decode cX8_top 9 = .ok (.if_icmp .ge 26, 3) := by decide +kernel
theorem dX8_top_12 : decode cX8_top 12 = .ok (.aload_n 0, 1) := by decide +kernel
theorem dX8_top_13 : decode cX8_top 13 = .ok (.iload_n 1, 1) := by decide +kernel
theorem dX8_top_14 : decode cX8_top 14 = .ok (.iload_n 3, 1) := by decide +kernel
theorem dX8_top_15 : decode cX8_top 15 = .ok (.invokevirtual 31, 3) := by decide +kernel
theorem dX8_top_18 : decode cX8_top 18 = .ok (.aload_n 0, 1) := by decide +kernel
theorem dX8_top_19 : decode cX8_top 19 = .ok (.iload_n 1, 1) := by decide +kernel
theorem dX8_top_20 : decode cX8_top 20 = .ok (.iload_n 2, 1) := by decide +kernel
theorem dX8_top_21 : decode cX8_top 21 = .ok (.invokevirtual 31, 3) := by decide +kernel
theorem dX8_top_24 : decode cX8_top 24 = .ok (.if_icmp .le 5, 3) := by decide +kernel
theorem dX8_top_27 : decode cX8_top 27 = .ok (.iload_n 3, 1) := by decide +kernel
theorem dX8_top_28 : decode cX8_top 28 = .ok (.istore_n 2, 1) := by decide +kernel
theorem dX8_top_29 : decode cX8_top 29 = .ok (.iinc 3 1, 3) := by decide +kernel
theorem dX8_top_32 : decode cX8_top 32 = .ok (.goto (-28), 3) := by decide +kernel
theorem dX8_top_35 : decode cX8_top 35 = .ok (.iload_n 2, 1) := by decide +kernel
theorem dX8_top_36 : decode cX8_top 36 = .ok (.ireturn, 1) := by decide +kernel
theorem dX9_init_0 : decode cX9_init 0 = .ok (.aload_n 0, 1) := by decide +kernel
theorem dX9_init_1 : decode cX9_init 1 = .ok (.invokespecial 1, 3) := by decide +kernel
theorem dX9_init_4 : decode cX9_init 4 = .ok (.iconst 2, 1) := by decide +kernel
theorem dX9_init_5 : decode cX9_init 5 = .ok (.iload_n 1, 1) := by decide +kernel
theorem dX9_init_6 : decode cX9_init 6 = .ok (.iconst 3, 1) := by decide +kernel
theorem dX9_init_7 : decode cX9_init 7 = .ok (.invokestatic 7, 3) := by decide +kernel
theorem dX9_init_10 : decode cX9_init 10 = .ok (.iadd, 1) := by decide +kernel
theorem dX9_init_11 : decode cX9_init 11 = .ok (.istore_n 3, 1) := by decide +kernel
theorem dX9_init_12 : decode cX9_init 12 = .ok (.iconst 2, 1) := by decide +kernel
theorem dX9_init_13 : decode cX9_init 13 = .ok (.iload_n 2, 1) := by decide +kernel
theorem dX9_init_14 : decode cX9_init 14 = .ok (.iconst 4, 1) := by decide +kernel
theorem dX9_init_15 : decode cX9_init 15 = .ok (.invokestatic 7, 3) := by decide +kernel
theorem dX9_init_18 : decode cX9_init 18 = .ok (.iadd, 1) := by decide +kernel
theorem dX9_init_19 : decode cX9_init 19 = .ok (.istore 4, 2) := by decide +kernel
theorem dX9_init_21 : decode cX9_init 21 = .ok (.new 13, 3) := by decide +kernel
theorem dX9_init_24 : decode cX9_init 24 = .ok (.dup, 1) := by decide +kernel
theorem dX9_init_25 : decode cX9_init 25 = .ok (.iload_n 3, 1) := by decide +kernel
theorem dX9_init_26 : decode cX9_init 26 = .ok (.iload 4, 2) := by decide +kernel
theorem dX9_init_28 : decode cX9_init 28 = .ok (.invokespecial 15, 3) := by decide +kernel
theorem dX9_init_31 : decode cX9_init 31 = .ok (.astore 5, 2) := by decide +kernel
theorem dX9_init_33 : decode cX9_init 33 = .ok (.aload_n 0, 1) := by decide +kernel
theorem dX9_init_34 : decode cX9_init 34 = .ok (.iload_n 3, 1) := by decide +kernel
theorem dX9_init_35 : decode cX9_init 35 = .ok (.putfield 18, 3) := by decide +kernel
theorem dX9_init_38 : decode cX9_init 38 = .ok (.aload_n 0, 1) := by decide +kernel
theorem dX9_init_39 : decode cX9_init 39 = .ok (.iload 4, 2) := by decide +kernel
theorem dX9_init_41 : decode cX9_init 41 = .ok (.putfield 24, 3) := by decide +kernel
theorem dX9_init_44 : decode cX9_init 44 = .ok (.aload_n 0, 1) := by decide +kernel
theorem dX9_init_45 : decode cX9_init 45 = .ok (.aload 5, 2) := by decide +kernel
theorem dX9_init_47 : decode cX9_init 47 = .ok (.putfield 27, 3) := by decide +kernel
theorem dX9_init_50 : decode cX9_init 50 = .ok (.aload_n 0, 1) := by decide +kernel
theorem dX9_init_51 : decode cX9_init 51 = .ok (.bipush 8, 2) := by decide +kernel
theorem dX9_init_53 : decode cX9_init 53 = .ok (.anewarray 31, 3) := by decide +kernel
theorem dX9_init_56 : decode cX9_init 56 = .ok (.putfield 33, 3) := by decide +kernel
theorem dX9_init_59 : decode cX9_init 59 = .ok (.aload_n 0, 1) := by decide +kernel
theorem dX9_init_60 : decode cX9_init 60 = .ok (.new 37, 3) := by decide +kernel
theorem dX9_init_63 : decode cX9_init 63 = .ok (.dup, 1) := by decide +kernel
theorem dX9_init_64 : decode cX9_init 64 = .ok (.aload 5, 2) := by decide +kernel
theorem dX9_init_66 : decode cX9_init 66 = .ok (.invokespecial 39, 3) := by decide +kernel
theorem dX9_init_69 : decode cX9_init 69 = .ok (.putfield 42, 3) := by decide +kernel
theorem dX9_init_72 : decode cX9_init 72 = .ok (.aload_n 0, 1) := by decide +kernel
theorem dX9_init_73 : decode cX9_init 73 = .ok (.new 46, 3) := by decide +kernel
theorem dX9_init_76 : decode cX9_init 76 = .ok (.dup, 1) := by decide +kernel
theorem dX9_init_77 : decode cX9_init 77 = .ok (.aload 5, 2) := by decide +kernel
theorem dX9_init_79 : decode cX9_init 79 = .ok (.invokespecial 48, 3) := by decide +kernel
theorem dX9_init_82 : decode cX9_init 82 = .ok (.putfield 49, 3) := by decide +kernel
theorem dX9_init_85 : decode cX9_init 85 = .ok (.aload_n 0, 1) := by decide +kernel
theorem dX9_init_86 : decode cX9_init 86 = .ok (.new 53, 3) := by decide +kernel
theorem dX9_init_89 : decode cX9_init 89 = .ok (.dup, 1) := by decide +kernel
theorem dX9_init_90 : decode cX9_init 90 = .ok (.iload_n 3, 1) := by decide +kernel
theorem dX9_init_91 : decode cX9_init 91 = .ok (.invokespecial 55, 3) := by decide +kernel
theorem dX9_init_94 : decode cX9_init 94 = .ok (.putfield 58, 3) := by decide +kernel
theorem dX9_init_97 : decode cX9_init 97 = .ok (.aload_n 0, 1) := by decide +kernel
theorem dX9_init_98 : decode cX9_init 98 = .ok (.bipush 8, 2) := by decide +kernel
theorem dX9_init_100 : decode cX9_init 100 = .ok (.anewarray 62, 3) := by decide +kernel
theorem dX9_init_103 : decode cX9_init 103 = .ok (.putfield 64, 3) := by decide +kernel
theorem dX9_init_106 : decode cX9_init 106 = .ok (.iconst 0, 1) := by decide +kernel
theorem dX9_init_107 : decode cX9_init 107 = .ok (.istore 6, 2) := by decide +kernel
theorem dX9_init_109 : decode cX9_init 109 = .ok (.iload 6, 2) := by decide +kernel
theorem dX9_init_111 : decode cX9_init 111 = .ok (.bipush 8, 2) := by decide +kernel
theorem dX9_init_113 : decode cX9_init 113 = .ok (.if_icmp .ge 23, 3) := by decide +kernel
theorem dX9_init_116 : decode cX9_init 116 = .ok (.aload_n 0, 1) := by decide +kernel
theorem dX9_init_117 : decode cX9_init 117 = .ok (.getfield 64, 3) := by decide +kernel
theorem dX9_init_120 : decode cX9_init 120 = .ok (.iload 6, 2) := by decide +kernel
theorem dX9_init_122 : decode cX9_init 122 = .ok (.new 62, 3) := by decide +kernel
theorem dX9_init_125 : decode cX9_init 125 = .ok (.dup, 1) := by decide +kernel
theorem dX9_init_126 : decode cX9_init 126 = .ok (.invokespecial 68, 3) := by decide +kernel
theorem dX9_init_129 : decode cX9_init 129 = .ok (.aastore, 1) := by decide +kernel
theorem dX9_init_130 : decode cX9_init 130 = .ok (.iinc 6 1, 3) := by decide +kernel
theorem dX9_init_133 : decode cX9_init 133 = .ok (.goto (-24), 3) := by decide +kernel
theorem dX9_init_136 : decode cX9_init 136 = .ok (.return_, 1) := by decide +kernel
theorem dX9_wish_0 : decode cX9_wish 0 = .ok (.aload_n 0, 1) := by decide +kernel
theorem dX9_wish_1 : decode cX9_wish 1 = .ok (.getfield 27, 3) := by decide +kernel
theorem dX9_wish_4 : decode cX9_wish 4 = .ok (.getfield 69, 3) := by decide +kernel
theorem dX9_wish_7 : decode cX9_wish 7 = .ok (.bipush 6, 2) := by decide +kernel
theorem dX9_wish_9 : decode cX9_wish 9 = .ok (.if_icmp .lt 6, 3) := by decide +kernel
theorem dX9_wish_12 : decode cX9_wish 12 = .ok (.bipush (-2), 2) := by decide +kernel
theorem dX9_wish_14 : decode cX9_wish 14 = .ok (.ireturn, 1) := by decide +kernel
theorem dX9_wish_15 : decode cX9_wish 15 = .ok (.aload_n 0, 1) := by decide +kernel
theorem dX9_wish_16 : decode cX9_wish 16 = .ok (.getfield 72, 3) := by decide +kernel
theorem dX9_wish_19 : decode cX9_wish 19 = .ok (.ifCond .le 8, 3) := by decide +kernel
theorem dX9_wish_22 : decode cX9_wish 22 = .ok (.bipush (-3), 2) := by decide +kernel
theorem dX9_wish_24 : decode cX9_wish 24 = .ok (.goto 10, 3) := by decide +kernel
theorem dX9_wish_27 : decode cX9_wish 27 = .ok (.aload_n 0, 1) := by decide +kernel
theorem dX9_wish_28 : decode cX9_wish 28 = .ok (.getfield 27, 3) := by decide +kernel
theorem dX9_wish_31 : decode cX9_wish 31 = .ok (.invokevirtual 75, 3) := by decide +kernel
theorem dX9_wish_34 : decode cX9_wish 34 = .ok (.ireturn, 1) := by decide +kernel
theorem dX9_worth_0 : decode cX9_worth 0 = .ok (.aload_n 0, 1) := by decide +kernel
theorem dX9_worth_1 : decode cX9_worth 1 = .ok (.iload_n 1, 1) := by decide +kernel
theorem dX9_worth_2 : decode cX9_worth 2 = .ok (.invokevirtual 79, 3) := by decide +kernel
theorem dX9_worth_5 : decode cX9_worth 5 = .ok (.ifCond .eq 22, 3) := by decide +kernel
theorem dX9_worth_8 : decode cX9_worth 8 = .ok (.aload_n 0, 1) := by decide +kernel
theorem dX9_worth_9 : decode cX9_worth 9 = .ok (.iload_n 2, 1) := by decide +kernel
theorem dX9_worth_10 : decode cX9_worth 10 = .ok (.invokevirtual 83, 3) := by decide +kernel
theorem dX9_worth_13 : decode cX9_worth 13 = .ok (.ifCond .eq 14, 3) := by decide +kernel
theorem dX9_worth_16 : decode cX9_worth 16 = .ok (.iload_n 3, 1) := by decide +kernel
theorem dX9_worth_17 : decode cX9_worth 17 = .ok (.bipush (-99), 2) := by decide +kernel
theorem dX9_worth_19 : decode cX9_worth 19 = .ok (.bipush 99, 2) := by decide +kernel
theorem dX9_worth_21 : decode cX9_worth 21 = .ok (.invokestatic 86, 3) := by decide +kernel
theorem dX9_worth_24 : decode cX9_worth 24 = .ok (.ifCond .ne 5, 3) := by decide +kernel
theorem dX9_worth_27 : decode cX9_worth 27 = .ok (.iconst (-1), 1) := by decide +kernel
theorem dX9_worth_28 : decode cX9_worth 28 = .ok (.ireturn, 1) := by decide +kernel
theorem dX9_worth_29 : decode cX9_worth 29 = .ok (.aload_n 0, 1) := by decide +kernel
theorem dX9_worth_30 : decode cX9_worth 30 = .ok (.getfield 72, 3) := by decide +kernel
theorem dX9_worth_33 : decode cX9_worth 33 = .ok (.ifCond .le 8, 3) := by decide +kernel
theorem dX9_worth_36 : decode cX9_worth 36 = .ok (.bipush (-3), 2) := by decide +kernel
theorem dX9_worth_38 : decode cX9_worth 38 = .ok (.goto 13, 3) := by decide +kernel
theorem dX9_worth_41 : decode cX9_worth 41 = .ok (.aload_n 0, 1) := by decide +kernel
theorem dX9_worth_42 : decode cX9_worth 42 = .ok (.getfield 27, 3) := by decide +kernel
theorem dX9_worth_45 : decode cX9_worth 45 = .ok (.iload_n 1, 1) := by decide +kernel
theorem dX9_worth_46 : decode cX9_worth 46 = .ok (.iload_n 2, 1) := by decide +kernel
theorem dX9_worth_47 : decode cX9_worth 47 = .ok (.iload_n 3, 1) := by decide +kernel
theorem dX9_worth_48 : decode cX9_worth 48 = .ok (.invokevirtual 90, 3) := by decide +kernel
theorem dX9_worth_51 : decode cX9_worth 51 = .ok (.ireturn, 1) := by decide +kernel
theorem dX9_rule_0 : decode cX9_rule 0 = .ok (.iload_n 1, 1) := by decide +kernel
theorem dX9_rule_1 : decode cX9_rule 1 = .ok (.iconst 0, 1) := by decide +kernel
theorem dX9_rule_2 : decode cX9_rule 2 = .ok (.iconst 3, 1) := by decide +kernel
theorem dX9_rule_3 : decode cX9_rule 3 = .ok (.invokestatic 86, 3) := by decide +kernel
theorem dX9_rule_6 : decode cX9_rule 6 = .ok (.ifCond .eq 14, 3) := by decide +kernel
theorem dX9_rule_9 : decode cX9_rule 9 = .ok (.aload_n 0, 1) := by decide +kernel
theorem dX9_rule_10 : decode cX9_rule 10 = .ok (.getfield 27, 3) := by decide +kernel
theorem dX9_rule_13 : decode cX9_rule 13 = .ok (.getfield 69, 3) := by decide +kernel
theorem dX9_rule_16 : decode cX9_rule 16 = .ok (.iconst 1, 1) := by decide +kernel
theorem dX9_rule_17 : decode cX9_rule 17 = .ok (.if_icmp .ge 5, 3) := by decide +kernel
theorem dX9_rule_20 : decode cX9_rule 20 = .ok (.iconst (-1), 1) := by decide +kernel
theorem dX9_rule_21 : decode cX9_rule 21 = .ok (.ireturn, 1) := by decide +kernel
theorem dX9_rule_22 : decode cX9_rule 22 = .ok (.aload_n 0, 1) := by decide +kernel
theorem dX9_rule_23 : decode cX9_rule 23 = .ok (.getfield 72, 3) := by decide +kernel
theorem dX9_rule_26 : decode cX9_rule 26 = .ok (.bipush 8, 2) := by decide +kernel
theorem dX9_rule_28 : decode cX9_rule 28 = .ok (.if_icmp .lt 8, 3) := by decide +kernel
theorem dX9_rule_31 : decode cX9_rule 31 = .ok (.bipush (-2), 2) := by decide +kernel
theorem dX9_rule_33 : decode cX9_rule 33 = .ok (.goto 19, 3) := by decide +kernel
theorem dX9_rule_36 : decode cX9_rule 36 = .ok (.aload_n 0, 1) := by decide +kernel
theorem dX9_rule_37 : decode cX9_rule 37 = .ok (.iload_n 1, 1) := by decide +kernel
theorem dX9_rule_38 : decode cX9_rule 38 = .ok (.aload_n 0, 1) := by decide +kernel
theorem dX9_rule_39 : decode cX9_rule 39 = .ok (.getfield 72, 3) := by decide +kernel
theorem dX9_rule_42 : decode cX9_rule 42 = .ok (.aload_n 0, 1) := by decide +kernel
theorem dX9_rule_43 : decode cX9_rule 43 = .ok (.getfield 27, 3) := by decide +kernel
theorem dX9_rule_46 : decode cX9_rule 46 = .ok (.invokestatic 94, 3) := by decide +kernel
theorem dX9_rule_49 : decode cX9_rule 49 = .ok (.invokevirtual 98, 3) := by decide +kernel
theorem dX9_rule_52 : decode cX9_rule 52 = .ok (.ireturn, 1) := by decide +kernel
theorem dX9_put_0 : decode cX9_put 0 = .ok (.aload_n 0, 1) := by decide +kernel
theorem dX9_put_1 : decode cX9_put 1 = .ok (.iload_n 1, 1) := by decide +kernel
theorem dX9_put_2 : decode cX9_put 2 = .ok (.invokevirtual 102, 3) := by decide +kernel
theorem dX9_put_5 : decode cX9_put 5 = .ok (.astore 4, 2) := by decide +kernel
theorem dX9_put_7 : decode cX9_put 7 = .ok (.aload 4, 2) := by decide +kernel
theorem dX9_put_9 : decode cX9_put 9 = .ok (.ifnull 19, 3) := by decide +kernel
theorem dX9_put_12 : decode cX9_put 12 = .ok (.aload_n 0, 1) := by decide +kernel
theorem dX9_put_13 : decode cX9_put 13 = .ok (.iload_n 2, 1) := by decide +kernel
theorem dX9_put_14 : decode cX9_put 14 = .ok (.invokevirtual 106, 3) := by decide +kernel
theorem dX9_put_17 : decode cX9_put 17 = .ok (.ifCond .eq 11, 3) := by decide +kernel
theorem dX9_put_20 : decode cX9_put 20 = .ok (.aload_n 0, 1) := by decide +kernel
theorem dX9_put_21 : decode cX9_put 21 = .ok (.iload_n 3, 1) := by decide +kernel
theorem dX9_put_22 : decode cX9_put 22 = .ok (.invokevirtual 83, 3) := by decide +kernel
theorem dX9_put_25 : decode cX9_put 25 = .ok (.ifCond .ne 5, 3) := by decide +kernel
theorem dX9_put_28 : decode cX9_put 28 = .ok (.iconst (-1), 1) := by decide +kernel
theorem dX9_put_29 : decode cX9_put 29 = .ok (.ireturn, 1) := by decide +kernel
theorem dX9_put_30 : decode cX9_put 30 = .ok (.aload 4, 2) := by decide +kernel
theorem dX9_put_32 : decode cX9_put 32 = .ok (.iload_n 2, 1) := by decide +kernel
theorem dX9_put_33 : decode cX9_put 33 = .ok (.iload_n 3, 1) := by decide +kernel
theorem dX9_put_34 : decode cX9_put 34 = .ok (.invokevirtual 109, 3) := by decide +kernel
theorem dX9_put_37 : decode cX9_put 37 = .ok (.ireturn, 1) := by decide +kernel
theorem dX9_pay_0 : decode cX9_pay 0 = .ok (.aload_n 0, 1) := by decide +kernel
theorem dX9_pay_1 : decode cX9_pay 1 = .ok (.iload_n 1, 1) := by decide +kernel
theorem dX9_pay_2 : decode cX9_pay 2 = .ok (.invokevirtual 102, 3) := by decide +kernel
theorem dX9_pay_5 : decode cX9_pay 5 = .ok (.astore 5, 2) := by decide +kernel
theorem dX9_pay_7 : decode cX9_pay 7 = .ok (.aload 5, 2) := by decide +kernel
theorem dX9_pay_9 : decode cX9_pay 9 = .ok (.ifnull 33, 3) := by decide +kernel
theorem dX9_pay_12 : decode cX9_pay 12 = .ok (.aload_n 0, 1) := by decide +kernel
theorem dX9_pay_13 : decode cX9_pay 13 = .ok (.iload_n 2, 1) := by decide +kernel
theorem dX9_pay_14 : decode cX9_pay 14 = .ok (.invokevirtual 106, 3) := by decide +kernel
theorem dX9_pay_17 : decode cX9_pay 17 = .ok (.ifCond .eq 25, 3) := by decide +kernel
theorem dX9_pay_20 : decode cX9_pay 20 = .ok (.aload_n 0, 1) := by decide +kernel
theorem dX9_pay_21 : decode cX9_pay 21 = .ok (.iload_n 3, 1) := by decide +kernel
theorem dX9_pay_22 : decode cX9_pay 22 = .ok (.invokevirtual 112, 3) := by decide +kernel
theorem dX9_pay_25 : decode cX9_pay 25 = .ok (.ifCond .eq 17, 3) := by decide +kernel
theorem dX9_pay_28 : decode cX9_pay 28 = .ok (.iload 4, 2) := by decide +kernel
theorem dX9_pay_30 : decode cX9_pay 30 = .ok (.sipush (-9999), 3) := by decide +kernel
theorem dX9_pay_33 : decode cX9_pay 33 = .ok (.sipush 9999, 3) := by decide +kernel
theorem dX9_pay_36 : decode cX9_pay 36 = .ok (.invokestatic 86, 3) := by decide +kernel
theorem dX9_pay_39 : decode cX9_pay 39 = .ok (.ifCond .ne 5, 3) := by decide +kernel
theorem dX9_pay_42 : decode cX9_pay 42 = .ok (.iconst (-1), 1) := by decide +kernel
theorem dX9_pay_43 : decode cX9_pay 43 = .ok (.ireturn, 1) := by decide +kernel
theorem dX9_pay_44 : decode cX9_pay 44 = .ok (.aload 5, 2) := by decide +kernel
theorem dX9_pay_46 : decode cX9_pay 46 = .ok (.iload_n 2, 1) := by decide +kernel
theorem dX9_pay_47 : decode cX9_pay 47 = .ok (.iload_n 3, 1) := by decide +kernel
theorem dX9_pay_48 : decode cX9_pay 48 = .ok (.iload 4, 2) := by decide +kernel
theorem dX9_pay_50 : decode cX9_pay 50 = .ok (.invokevirtual 115, 3) := by decide +kernel
theorem dX9_pay_53 : decode cX9_pay 53 = .ok (.ireturn, 1) := by decide +kernel
theorem dX9_gift_0 : decode cX9_gift 0 = .ok (.aload_n 0, 1) := by decide +kernel
theorem dX9_gift_1 : decode cX9_gift 1 = .ok (.iload_n 1, 1) := by decide +kernel
theorem dX9_gift_2 : decode cX9_gift 2 = .ok (.invokevirtual 102, 3) := by decide +kernel
theorem dX9_gift_5 : decode cX9_gift 5 = .ok (.astore 5, 2) := by decide +kernel
theorem dX9_gift_7 : decode cX9_gift 7 = .ok (.iload_n 3, 1) := by decide +kernel
theorem dX9_gift_8 : decode cX9_gift 8 = .ok (.iconst (-1), 1) := by decide +kernel
theorem dX9_gift_9 : decode cX9_gift 9 = .ok (.if_icmp .ne 27, 3) := by decide +kernel
theorem dX9_gift_12 : decode cX9_gift 12 = .ok (.aload_n 0, 1) := by decide +kernel
theorem dX9_gift_13 : decode cX9_gift 13 = .ok (.iload_n 2, 1) := by decide +kernel
theorem dX9_gift_14 : decode cX9_gift 14 = .ok (.invokevirtual 83, 3) := by decide +kernel
theorem dX9_gift_17 : decode cX9_gift 17 = .ok (.ifCond .eq 19, 3) := by decide +kernel
theorem dX9_gift_20 : decode cX9_gift 20 = .ok (.iload 4, 2) := by decide +kernel
theorem dX9_gift_22 : decode cX9_gift 22 = .ok (.bipush (-99), 2) := by decide +kernel
theorem dX9_gift_24 : decode cX9_gift 24 = .ok (.bipush 99, 2) := by decide +kernel
theorem dX9_gift_26 : decode cX9_gift 26 = .ok (.invokestatic 86, 3) := by decide +kernel
theorem dX9_gift_29 : decode cX9_gift 29 = .ok (.ifCond .eq 7, 3) := by decide +kernel
theorem dX9_gift_32 : decode cX9_gift 32 = .ok (.iconst 1, 1) := by decide +kernel
theorem dX9_gift_33 : decode cX9_gift 33 = .ok (.goto 4, 3) := by decide +kernel
theorem dX9_gift_36 : decode cX9_gift 36 = .ok (.iconst 0, 1) := by decide +kernel
theorem dX9_gift_37 : decode cX9_gift 37 = .ok (.istore 6, 2) := by decide +kernel
theorem dX9_gift_39 : decode cX9_gift 39 = .ok (.iload_n 2, 1) := by decide +kernel
theorem dX9_gift_40 : decode cX9_gift 40 = .ok (.iconst (-1), 1) := by decide +kernel
theorem dX9_gift_41 : decode cX9_gift 41 = .ok (.if_icmp .ne 26, 3) := by decide +kernel
theorem dX9_gift_44 : decode cX9_gift 44 = .ok (.aload_n 0, 1) := by decide +kernel
theorem dX9_gift_45 : decode cX9_gift 45 = .ok (.iload_n 3, 1) := by decide +kernel
theorem dX9_gift_46 : decode cX9_gift 46 = .ok (.invokevirtual 112, 3) := by decide +kernel
theorem dX9_gift_49 : decode cX9_gift 49 = .ok (.ifCond .eq 18, 3) := by decide +kernel
theorem dX9_gift_52 : decode cX9_gift 52 = .ok (.iload 4, 2) := by decide +kernel
theorem dX9_gift_54 : decode cX9_gift 54 = .ok (.iconst 0, 1) := by decide +kernel
theorem dX9_gift_55 : decode cX9_gift 55 = .ok (.bipush 9, 2) := by decide +kernel
theorem dX9_gift_57 : decode cX9_gift 57 = .ok (.invokestatic 86, 3) := by decide +kernel
theorem dX9_gift_60 : decode cX9_gift 60 = .ok (.ifCond .eq 7, 3) := by decide +kernel
theorem dX9_gift_63 : decode cX9_gift 63 = .ok (.iconst 1, 1) := by decide +kernel
theorem dX9_gift_64 : decode cX9_gift 64 = .ok (.goto 4, 3) := by decide +kernel
theorem dX9_gift_67 : decode cX9_gift 67 = .ok (.iconst 0, 1) := by decide +kernel
theorem dX9_gift_68 : decode cX9_gift 68 = .ok (.istore 7, 2) := by decide +kernel
theorem dX9_gift_70 : decode cX9_gift 70 = .ok (.aload 5, 2) := by decide +kernel
theorem dX9_gift_72 : decode cX9_gift 72 = .ok (.ifnull 13, 3) := by decide +kernel
theorem dX9_gift_75 : decode cX9_gift 75 = .ok (.iload 6, 2) := by decide +kernel
theorem dX9_gift_77 : decode cX9_gift 77 = .ok (.ifCond .ne 10, 3) := by decide +kernel
theorem dX9_gift_80 : decode cX9_gift 80 = .ok (.iload 7, 2) := by decide +kernel
theorem dX9_gift_82 : decode cX9_gift 82 = .ok (.ifCond .ne 5, 3) := by decide +kernel
theorem dX9_gift_85 : decode cX9_gift 85 = .ok (.iconst (-1), 1) := by decide +kernel
theorem dX9_gift_86 : decode cX9_gift 86 = .ok (.ireturn, 1) := by decide +kernel
theorem dX9_gift_87 : decode cX9_gift 87 = .ok (.iload 6, 2) := by decide +kernel
theorem dX9_gift_89 : decode cX9_gift 89 = .ok (.ifCond .eq 14, 3) := by decide +kernel
theorem dX9_gift_92 : decode cX9_gift 92 = .ok (.aload 5, 2) := by decide +kernel
theorem dX9_gift_94 : decode cX9_gift 94 = .ok (.iload_n 2, 1) := by decide +kernel
theorem dX9_gift_95 : decode cX9_gift 95 = .ok (.iload 4, 2) := by decide +kernel
theorem dX9_gift_97 : decode cX9_gift 97 = .ok (.invokevirtual 118, 3) := by decide +kernel
theorem dX9_gift_100 : decode cX9_gift 100 = .ok (.goto 11, 3) := by decide +kernel
theorem dX9_gift_103 : decode cX9_gift 103 = .ok (.aload 5, 2) := by decide +kernel
theorem dX9_gift_105 : decode cX9_gift 105 = .ok (.iload_n 3, 1) := by decide +kernel
theorem dX9_gift_106 : decode cX9_gift 106 = .ok (.iload 4, 2) := by decide +kernel
theorem dX9_gift_108 : decode cX9_gift 108 = .ok (.invokevirtual 121, 3) := by decide +kernel
theorem dX9_gift_111 : decode cX9_gift 111 = .ok (.ireturn, 1) := by decide +kernel
theorem dX9_middle_0 : decode cX9_middle 0 = .ok (.aload_n 0, 1) := by decide +kernel
theorem dX9_middle_1 : decode cX9_middle 1 = .ok (.iload_n 1, 1) := by decide +kernel
theorem dX9_middle_2 : decode cX9_middle 2 = .ok (.invokevirtual 102, 3) := by decide +kernel
theorem dX9_middle_5 : decode cX9_middle 5 = .ok (.astore 4, 2) := by decide +kernel
theorem dX9_middle_7 : decode cX9_middle 7 = .ok (.aload 4, 2) := by decide +kernel
theorem dX9_middle_9 : decode cX9_middle 9 = .ok (.ifnull 25, 3) := by decide +kernel
theorem dX9_middle_12 : decode cX9_middle 12 = .ok (.iload_n 2, 1) := by decide +kernel
theorem dX9_middle_13 : decode cX9_middle 13 = .ok (.iconst 0, 1) := by decide +kernel
theorem dX9_middle_14 : decode cX9_middle 14 = .ok (.aload_n 0, 1) := by decide +kernel
theorem dX9_middle_15 : decode cX9_middle 15 = .ok (.getfield 18, 3) := by decide +kernel
theorem dX9_middle_18 : decode cX9_middle 18 = .ok (.iconst 2, 1) := by decide +kernel
theorem dX9_middle_19 : decode cX9_middle 19 = .ok (.isub, 1) := by decide +kernel
theorem dX9_middle_20 : decode cX9_middle 20 = .ok (.invokestatic 86, 3) := by decide +kernel
theorem dX9_middle_23 : decode cX9_middle 23 = .ok (.ifCond .eq 11, 3) := by decide +kernel
theorem dX9_middle_26 : decode cX9_middle 26 = .ok (.aload_n 0, 1) := by decide +kernel
theorem dX9_middle_27 : decode cX9_middle 27 = .ok (.iload_n 3, 1) := by decide +kernel
theorem dX9_middle_28 : decode cX9_middle 28 = .ok (.invokevirtual 83, 3) := by decide +kernel
theorem dX9_middle_31 : decode cX9_middle 31 = .ok (.ifCond .ne 5, 3) := by decide +kernel
theorem dX9_middle_34 : decode cX9_middle 34 = .ok (.iconst (-1), 1) := by decide +kernel
theorem dX9_middle_35 : decode cX9_middle 35 = .ok (.ireturn, 1) := by decide +kernel
theorem dX9_middle_36 : decode cX9_middle 36 = .ok (.aload 4, 2) := by decide +kernel
theorem dX9_middle_38 : decode cX9_middle 38 = .ok (.iload_n 2, 1) := by decide +kernel
theorem dX9_middle_39 : decode cX9_middle 39 = .ok (.iload_n 3, 1) := by decide +kernel
theorem dX9_middle_40 : decode cX9_middle 40 = .ok (.invokevirtual 124, 3) := by decide +kernel
theorem dX9_middle_43 : decode cX9_middle 43 = .ok (.ireturn, 1) := by decide +kernel
theorem dX9_end_0 : decode cX9_end 0 = .ok (.aload_n 0, 1) := by decide +kernel
theorem dX9_end_1 : decode cX9_end 1 = .ok (.iload_n 1, 1) := by decide +kernel
theorem dX9_end_2 : decode cX9_end 2 = .ok (.invokevirtual 102, 3) := by decide +kernel
theorem dX9_end_5 : decode cX9_end 5 = .ok (.astore_n 3, 1) := by decide +kernel
theorem dX9_end_6 : decode cX9_end 6 = .ok (.aload_n 3, 1) := by decide +kernel
theorem dX9_end_7 : decode cX9_end 7 = .ok (.ifnull 11, 3) := by decide +kernel
theorem dX9_end_10 : decode cX9_end 10 = .ok (.aload_n 0, 1) := by decide +kernel
theorem dX9_end_11 : decode cX9_end 11 = .ok (.iload_n 2, 1) := by decide +kernel
theorem dX9_end_12 : decode cX9_end 12 = .ok (.invokevirtual 106, 3) := by decide +kernel
theorem dX9_end_15 : decode cX9_end 15 = .ok (.ifCond .ne 5, 3) := by decide +kernel
theorem dX9_end_18 : decode cX9_end 18 = .ok (.iconst (-1), 1) := by decide +kernel
theorem dX9_end_19 : decode cX9_end 19 = .ok (.ireturn, 1) := by decide +kernel
theorem dX9_end_20 : decode cX9_end 20 = .ok (.aload_n 3, 1) := by decide +kernel
theorem dX9_end_21 : decode cX9_end 21 = .ok (.iload_n 2, 1) := by decide +kernel
theorem dX9_end_22 : decode cX9_end 22 = .ok (.invokevirtual 127, 3) := by decide +kernel
theorem dX9_end_25 : decode cX9_end 25 = .ok (.aload_n 3, 1) := by decide +kernel
theorem dX9_end_26 : decode cX9_end 26 = .ok (.iload_n 2, 1) := by decide +kernel
theorem dX9_end_27 : decode cX9_end 27 = .ok (.invokevirtual 130, 3) := by decide +kernel
theorem dX9_end_30 : decode cX9_end 30 = .ok (.ireturn, 1) := by decide +kernel
theorem dX9_pays_0 : decode cX9_pays 0 = .ok (.aload_n 0, 1) := by decide +kernel
theorem dX9_pays_1 : decode cX9_pays 1 = .ok (.iload_n 1, 1) := by decide +kernel
theorem dX9_pays_2 : decode cX9_pays 2 = .ok (.invokevirtual 102, 3) := by decide +kernel
theorem dX9_pays_5 : decode cX9_pays 5 = .ok (.astore 4, 2) := by decide +kernel
theorem dX9_pays_7 : decode cX9_pays 7 = .ok (.aload 4, 2) := by decide +kernel
theorem dX9_pays_9 : decode cX9_pays 9 = .ok (.ifnull 19, 3) := by decide +kernel
theorem dX9_pays_12 : decode cX9_pays 12 = .ok (.aload_n 0, 1) := by decide +kernel
theorem dX9_pays_13 : decode cX9_pays 13 = .ok (.iload_n 2, 1) := by decide +kernel
theorem dX9_pays_14 : decode cX9_pays 14 = .ok (.invokevirtual 106, 3) := by decide +kernel
theorem dX9_pays_17 : decode cX9_pays 17 = .ok (.ifCond .eq 11, 3) := by decide +kernel
theorem dX9_pays_20 : decode cX9_pays 20 = .ok (.aload_n 0, 1) := by decide +kernel
theorem dX9_pays_21 : decode cX9_pays 21 = .ok (.iload_n 3, 1) := by decide +kernel
theorem dX9_pays_22 : decode cX9_pays 22 = .ok (.invokevirtual 112, 3) := by decide +kernel
theorem dX9_pays_25 : decode cX9_pays 25 = .ok (.ifCond .ne 13, 3) := by decide +kernel
theorem dX9_pays_28 : decode cX9_pays 28 = .ok (.new 134, 3) := by decide +kernel
theorem dX9_pays_31 : decode cX9_pays 31 = .ok (.dup, 1) := by decide +kernel
theorem dX9_pays_32 : decode cX9_pays 32 = .ok (.ldc 136, 2) := by decide +kernel
theorem dX9_pays_34 : decode cX9_pays 34 = .ok (.invokespecial 138, 3) := by decide +kernel
theorem dX9_pays_37 : decode cX9_pays 37 = .ok (.athrow, 1) := by decide +kernel
theorem dX9_pays_38 : decode cX9_pays 38 = .ok (.aload 4, 2) := by decide +kernel
theorem dX9_pays_40 : decode cX9_pays 40 = .ok (.iload_n 2, 1) := by decide +kernel
theorem dX9_pays_41 : decode cX9_pays 41 = .ok (.invokevirtual 127, 3) := by decide +kernel
theorem dX9_pays_44 : decode cX9_pays 44 = .ok (.aload 4, 2) := by decide +kernel
theorem dX9_pays_46 : decode cX9_pays 46 = .ok (.iload_n 2, 1) := by decide +kernel
theorem dX9_pays_47 : decode cX9_pays 47 = .ok (.iload_n 3, 1) := by decide +kernel
theorem dX9_pays_48 : decode cX9_pays 48 = .ok (.invokevirtual 141, 3) := by decide +kernel
theorem dX9_pays_51 : decode cX9_pays 51 = .ok (.ireturn, 1) := by decide +kernel
theorem dX9_said_0 : decode cX9_said 0 = .ok (.aload_n 0, 1) := by decide +kernel
theorem dX9_said_1 : decode cX9_said 1 = .ok (.iload_n 1, 1) := by decide +kernel
theorem dX9_said_2 : decode cX9_said 2 = .ok (.invokevirtual 106, 3) := by decide +kernel
theorem dX9_said_5 : decode cX9_said 5 = .ok (.ifCond .eq 19, 3) := by decide +kernel
theorem dX9_said_8 : decode cX9_said 8 = .ok (.aload_n 0, 1) := by decide +kernel
theorem dX9_said_9 : decode cX9_said 9 = .ok (.iload_n 2, 1) := by decide +kernel
theorem dX9_said_10 : decode cX9_said 10 = .ok (.invokevirtual 112, 3) := by decide +kernel
theorem dX9_said_13 : decode cX9_said 13 = .ok (.ifCond .eq 11, 3) := by decide +kernel
theorem dX9_said_16 : decode cX9_said 16 = .ok (.aload_n 0, 1) := by decide +kernel
theorem dX9_said_17 : decode cX9_said 17 = .ok (.iload_n 3, 1) := by decide +kernel
theorem dX9_said_18 : decode cX9_said 18 = .ok (.invokevirtual 79, 3) := by decide +kernel
theorem dX9_said_21 : decode cX9_said 21 = .ok (.ifCond .ne 5, 3) := by decide +kernel
theorem dX9_said_24 : decode cX9_said 24 = .ok (.iconst (-1), 1) := by decide +kernel
theorem dX9_said_25 : decode cX9_said 25 = .ok (.ireturn, 1) := by decide +kernel
theorem dX9_said_26 : decode cX9_said 26 = .ok (.aload_n 0, 1) := by decide +kernel
theorem dX9_said_27 : decode cX9_said 27 = .ok (.getfield 27, 3) := by decide +kernel
theorem dX9_said_30 : decode cX9_said 30 = .ok (.iload_n 1, 1) := by decide +kernel
theorem dX9_said_31 : decode cX9_said 31 = .ok (.iload_n 2, 1) := by decide +kernel
theorem dX9_said_32 : decode cX9_said 32 = .ok (.iload_n 3, 1) := by decide +kernel
theorem dX9_said_33 : decode cX9_said 33 = .ok (.invokevirtual 144, 3) := by decide +kernel
theorem dX9_said_36 : decode cX9_said 36 = .ok (.ireturn, 1) := by decide +kernel
theorem dX9_gain_0 : decode cX9_gain 0 = .ok (.aload_n 0, 1) := by decide +kernel
theorem dX9_gain_1 : decode cX9_gain 1 = .ok (.iload_n 1, 1) := by decide +kernel
theorem dX9_gain_2 : decode cX9_gain 2 = .ok (.invokevirtual 102, 3) := by decide +kernel
theorem dX9_gain_5 : decode cX9_gain 5 = .ok (.astore 5, 2) := by decide +kernel
theorem dX9_gain_7 : decode cX9_gain 7 = .ok (.aload 5, 2) := by decide +kernel
theorem dX9_gain_9 : decode cX9_gain 9 = .ok (.ifnull 28, 3) := by decide +kernel
theorem dX9_gain_12 : decode cX9_gain 12 = .ok (.aload_n 0, 1) := by decide +kernel
theorem dX9_gain_13 : decode cX9_gain 13 = .ok (.iload_n 2, 1) := by decide +kernel
theorem dX9_gain_14 : decode cX9_gain 14 = .ok (.invokevirtual 106, 3) := by decide +kernel
theorem dX9_gain_17 : decode cX9_gain 17 = .ok (.ifCond .eq 20, 3) := by decide +kernel
theorem dX9_gain_20 : decode cX9_gain 20 = .ok (.aload_n 0, 1) := by decide +kernel
theorem dX9_gain_21 : decode cX9_gain 21 = .ok (.iload_n 3, 1) := by decide +kernel
theorem dX9_gain_22 : decode cX9_gain 22 = .ok (.invokevirtual 112, 3) := by decide +kernel
theorem dX9_gain_25 : decode cX9_gain 25 = .ok (.ifCond .eq 12, 3) := by decide +kernel
theorem dX9_gain_28 : decode cX9_gain 28 = .ok (.aload_n 0, 1) := by decide +kernel
theorem dX9_gain_29 : decode cX9_gain 29 = .ok (.iload 4, 2) := by decide +kernel
theorem dX9_gain_31 : decode cX9_gain 31 = .ok (.invokevirtual 79, 3) := by decide +kernel
theorem dX9_gain_34 : decode cX9_gain 34 = .ok (.ifCond .ne 13, 3) := by decide +kernel
theorem dX9_gain_37 : decode cX9_gain 37 = .ok (.new 134, 3) := by decide +kernel
theorem dX9_gain_40 : decode cX9_gain 40 = .ok (.dup, 1) := by decide +kernel
theorem dX9_gain_41 : decode cX9_gain 41 = .ok (.ldc 147, 2) := by decide +kernel
theorem dX9_gain_43 : decode cX9_gain 43 = .ok (.invokespecial 138, 3) := by decide +kernel
theorem dX9_gain_46 : decode cX9_gain 46 = .ok (.athrow, 1) := by decide +kernel
theorem dX9_gain_47 : decode cX9_gain 47 = .ok (.aload_n 0, 1) := by decide +kernel
theorem dX9_gain_48 : decode cX9_gain 48 = .ok (.getfield 27, 3) := by decide +kernel
theorem dX9_gain_51 : decode cX9_gain 51 = .ok (.iload_n 2, 1) := by decide +kernel
theorem dX9_gain_52 : decode cX9_gain 52 = .ok (.iload_n 3, 1) := by decide +kernel
theorem dX9_gain_53 : decode cX9_gain 53 = .ok (.invokevirtual 149, 3) := by decide +kernel
theorem dX9_gain_56 : decode cX9_gain 56 = .ok (.istore 6, 2) := by decide +kernel
theorem dX9_gain_58 : decode cX9_gain 58 = .ok (.aload_n 0, 1) := by decide +kernel
theorem dX9_gain_59 : decode cX9_gain 59 = .ok (.getfield 27, 3) := by decide +kernel
theorem dX9_gain_62 : decode cX9_gain 62 = .ok (.iload_n 2, 1) := by decide +kernel
theorem dX9_gain_63 : decode cX9_gain 63 = .ok (.iload_n 3, 1) := by decide +kernel
theorem dX9_gain_64 : decode cX9_gain 64 = .ok (.iload 4, 2) := by decide +kernel
theorem dX9_gain_66 : decode cX9_gain 66 = .ok (.invokevirtual 144, 3) := by decide +kernel
theorem dX9_gain_69 : decode cX9_gain 69 = .ok (.istore 7, 2) := by decide +kernel
theorem dX9_gain_71 : decode cX9_gain 71 = .ok (.aload 5, 2) := by decide +kernel
theorem dX9_gain_73 : decode cX9_gain 73 = .ok (.iload_n 2, 1) := by decide +kernel
theorem dX9_gain_74 : decode cX9_gain 74 = .ok (.invokevirtual 127, 3) := by decide +kernel
theorem dX9_gain_77 : decode cX9_gain 77 = .ok (.aload 5, 2) := by decide +kernel
theorem dX9_gain_79 : decode cX9_gain 79 = .ok (.iload 7, 2) := by decide +kernel
theorem dX9_gain_81 : decode cX9_gain 81 = .ok (.invokevirtual 127, 3) := by decide +kernel
theorem dX9_gain_84 : decode cX9_gain 84 = .ok (.aload 5, 2) := by decide +kernel
theorem dX9_gain_86 : decode cX9_gain 86 = .ok (.iload 7, 2) := by decide +kernel
theorem dX9_gain_88 : decode cX9_gain 88 = .ok (.iload_n 3, 1) := by decide +kernel
theorem dX9_gain_89 : decode cX9_gain 89 = .ok (.iload 6, 2) := by decide +kernel
theorem dX9_gain_91 : decode cX9_gain 91 = .ok (.invokevirtual 152, 3) := by decide +kernel
theorem dX9_gain_94 : decode cX9_gain 94 = .ok (.aload 5, 2) := by decide +kernel
theorem dX9_gain_96 : decode cX9_gain 96 = .ok (.iload_n 2, 1) := by decide +kernel
theorem dX9_gain_97 : decode cX9_gain 97 = .ok (.iload_n 3, 1) := by decide +kernel
theorem dX9_gain_98 : decode cX9_gain 98 = .ok (.iload 6, 2) := by decide +kernel
theorem dX9_gain_100 : decode cX9_gain 100 = .ok (.invokevirtual 152, 3) := by decide +kernel
theorem dX9_gain_103 : decode cX9_gain 103 = .ok (.isub, 1) := by decide +kernel
theorem dX9_gain_104 : decode cX9_gain 104 = .ok (.ireturn, 1) := by decide +kernel
theorem dX9_lie_0 : decode cX9_lie 0 = .ok (.aload_n 0, 1) := by decide +kernel
theorem dX9_lie_1 : decode cX9_lie 1 = .ok (.iload_n 1, 1) := by decide +kernel
theorem dX9_lie_2 : decode cX9_lie 2 = .ok (.invokevirtual 155, 3) := by decide +kernel
theorem dX9_lie_5 : decode cX9_lie 5 = .ok (.astore_n 3, 1) := by decide +kernel
theorem dX9_lie_6 : decode cX9_lie 6 = .ok (.aload_n 3, 1) := by decide +kernel
theorem dX9_lie_7 : decode cX9_lie 7 = .ok (.ifnull 12, 3) := by decide +kernel
theorem dX9_lie_10 : decode cX9_lie 10 = .ok (.iload_n 2, 1) := by decide +kernel
theorem dX9_lie_11 : decode cX9_lie 11 = .ok (.iconst 0, 1) := by decide +kernel
theorem dX9_lie_12 : decode cX9_lie 12 = .ok (.iconst 3, 1) := by decide +kernel
theorem dX9_lie_13 : decode cX9_lie 13 = .ok (.invokestatic 86, 3) := by decide +kernel
theorem dX9_lie_16 : decode cX9_lie 16 = .ok (.ifCond .ne 7, 3) := by decide +kernel
theorem dX9_lie_19 : decode cX9_lie 19 = .ok (.iconst (-1), 1) := by decide +kernel
theorem dX9_lie_20 : decode cX9_lie 20 = .ok (.goto 9, 3) := by decide +kernel
theorem dX9_lie_23 : decode cX9_lie 23 = .ok (.aload_n 0, 1) := by decide +kernel
theorem dX9_lie_24 : decode cX9_lie 24 = .ok (.aload_n 3, 1) := by decide +kernel
theorem dX9_lie_25 : decode cX9_lie 25 = .ok (.iload_n 2, 1) := by decide +kernel
theorem dX9_lie_26 : decode cX9_lie 26 = .ok (.invokevirtual 158, 3) := by decide +kernel
theorem dX9_lie_29 : decode cX9_lie 29 = .ok (.ireturn, 1) := by decide +kernel
theorem dX9_lies_0 : decode cX9_lies 0 = .ok (.aload_n 0, 1) := by decide +kernel
theorem dX9_lies_1 : decode cX9_lies 1 = .ok (.iload_n 1, 1) := by decide +kernel
theorem dX9_lies_2 : decode cX9_lies 2 = .ok (.invokevirtual 155, 3) := by decide +kernel
theorem dX9_lies_5 : decode cX9_lies 5 = .ok (.astore_n 2, 1) := by decide +kernel
theorem dX9_lies_6 : decode cX9_lies 6 = .ok (.aload_n 2, 1) := by decide +kernel
theorem dX9_lies_7 : decode cX9_lies 7 = .ok (.ifnonnull 5, 3) := by decide +kernel
theorem dX9_lies_10 : decode cX9_lies 10 = .ok (.iconst (-1), 1) := by decide +kernel
theorem dX9_lies_11 : decode cX9_lies 11 = .ok (.ireturn, 1) := by decide +kernel
theorem dX9_lies_12 : decode cX9_lies 12 = .ok (.iconst 0, 1) := by decide +kernel
theorem dX9_lies_13 : decode cX9_lies 13 = .ok (.istore_n 3, 1) := by decide +kernel
theorem dX9_lies_14 : decode cX9_lies 14 = .ok (.iconst 0, 1) := by decide +kernel
theorem dX9_lies_15 : decode cX9_lies 15 = .ok (.istore 4, 2) := by decide +kernel
theorem dX9_lies_17 : decode cX9_lies 17 = .ok (.iload 4, 2) := by decide +kernel
theorem dX9_lies_19 : decode cX9_lies 19 = .ok (.aload_n 0, 1) := by decide +kernel
theorem dX9_lies_20 : decode cX9_lies 20 = .ok (.getfield 27, 3) := by decide +kernel
theorem dX9_lies_23 : decode cX9_lies 23 = .ok (.getfield 162, 3) := by decide +kernel
theorem dX9_lies_26 : decode cX9_lies 26 = .ok (.if_icmp .ge 39, 3) := by decide +kernel
theorem dX9_lies_29 : decode cX9_lies 29 = .ok (.iconst 0, 1) := by decide +kernel
theorem dX9_lies_30 : decode cX9_lies 30 = .ok (.istore 5, 2) := by decide +kernel
theorem dX9_lies_32 : decode cX9_lies 32 = .ok (.iload 5, 2) := by decide +kernel
theorem dX9_lies_34 : decode cX9_lies 34 = .ok (.aload_n 0, 1) := by decide +kernel
theorem dX9_lies_35 : decode cX9_lies 35 = .ok (.getfield 18, 3) := by decide +kernel
theorem dX9_lies_38 : decode cX9_lies 38 = .ok (.if_icmp .ge 21, 3) := by decide +kernel
theorem dX9_lies_41 : decode cX9_lies 41 = .ok (.iload_n 3, 1) := by decide +kernel
theorem dX9_lies_42 : decode cX9_lies 42 = .ok (.aload_n 0, 1) := by decide +kernel
theorem dX9_lies_43 : decode cX9_lies 43 = .ok (.aload_n 2, 1) := by decide +kernel
theorem dX9_lies_44 : decode cX9_lies 44 = .ok (.iload 4, 2) := by decide +kernel
theorem dX9_lies_46 : decode cX9_lies 46 = .ok (.iload 5, 2) := by decide +kernel
theorem dX9_lies_48 : decode cX9_lies 48 = .ok (.invokevirtual 165, 3) := by decide +kernel
theorem dX9_lies_51 : decode cX9_lies 51 = .ok (.iadd, 1) := by decide +kernel
theorem dX9_lies_52 : decode cX9_lies 52 = .ok (.istore_n 3, 1) := by decide +kernel
theorem dX9_lies_53 : decode cX9_lies 53 = .ok (.iinc 5 1, 3) := by decide +kernel
theorem dX9_lies_56 : decode cX9_lies 56 = .ok (.goto (-24), 3) := by decide +kernel
theorem dX9_lies_59 : decode cX9_lies 59 = .ok (.iinc 4 1, 3) := by decide +kernel
theorem dX9_lies_62 : decode cX9_lies 62 = .ok (.goto (-45), 3) := by decide +kernel
theorem dX9_lies_65 : decode cX9_lies 65 = .ok (.iload_n 3, 1) := by decide +kernel
theorem dX9_lies_66 : decode cX9_lies 66 = .ok (.ireturn, 1) := by decide +kernel
theorem dX9_heap_0 : decode cX9_heap 0 = .ok (.aload_n 0, 1) := by decide +kernel
theorem dX9_heap_1 : decode cX9_heap 1 = .ok (.iload_n 1, 1) := by decide +kernel
theorem dX9_heap_2 : decode cX9_heap 2 = .ok (.invokevirtual 155, 3) := by decide +kernel
theorem dX9_heap_5 : decode cX9_heap 5 = .ok (.astore 4, 2) := by decide +kernel
theorem dX9_heap_7 : decode cX9_heap 7 = .ok (.aload 4, 2) := by decide +kernel
theorem dX9_heap_9 : decode cX9_heap 9 = .ok (.ifnull 19, 3) := by decide +kernel
theorem dX9_heap_12 : decode cX9_heap 12 = .ok (.iload_n 2, 1) := by decide +kernel
theorem dX9_heap_13 : decode cX9_heap 13 = .ok (.iconst 1, 1) := by decide +kernel
theorem dX9_heap_14 : decode cX9_heap 14 = .ok (.iconst 1, 1) := by decide +kernel
theorem dX9_heap_15 : decode cX9_heap 15 = .ok (.aload_n 0, 1) := by decide +kernel
theorem dX9_heap_16 : decode cX9_heap 16 = .ok (.getfield 18, 3) := by decide +kernel
theorem dX9_heap_19 : decode cX9_heap 19 = .ok (.ishl, 1) := by decide +kernel
theorem dX9_heap_20 : decode cX9_heap 20 = .ok (.iconst 1, 1) := by decide +kernel
theorem dX9_heap_21 : decode cX9_heap 21 = .ok (.isub, 1) := by decide +kernel
theorem dX9_heap_22 : decode cX9_heap 22 = .ok (.invokestatic 86, 3) := by decide +kernel
theorem dX9_heap_25 : decode cX9_heap 25 = .ok (.ifCond .ne 5, 3) := by decide +kernel
theorem dX9_heap_28 : decode cX9_heap 28 = .ok (.iconst (-1), 1) := by decide +kernel
theorem dX9_heap_29 : decode cX9_heap 29 = .ok (.ireturn, 1) := by decide +kernel
theorem dX9_heap_30 : decode cX9_heap 30 = .ok (.aload_n 0, 1) := by decide +kernel
theorem dX9_heap_31 : decode cX9_heap 31 = .ok (.getfield 42, 3) := by decide +kernel
theorem dX9_heap_34 : decode cX9_heap 34 = .ok (.aload 4, 2) := by decide +kernel
theorem dX9_heap_36 : decode cX9_heap 36 = .ok (.iload_n 2, 1) := by decide +kernel
theorem dX9_heap_37 : decode cX9_heap 37 = .ok (.invokevirtual 169, 3) := by decide +kernel
theorem dX9_heap_40 : decode cX9_heap 40 = .ok (.istore 5, 2) := by decide +kernel
theorem dX9_heap_42 : decode cX9_heap 42 = .ok (.iload 5, 2) := by decide +kernel
theorem dX9_heap_44 : decode cX9_heap 44 = .ok (.aload_n 0, 1) := by decide +kernel
theorem dX9_heap_45 : decode cX9_heap 45 = .ok (.getfield 27, 3) := by decide +kernel
theorem dX9_heap_48 : decode cX9_heap 48 = .ok (.getfield 162, 3) := by decide +kernel
theorem dX9_heap_51 : decode cX9_heap 51 = .ok (.if_icmp .lt 6, 3) := by decide +kernel
theorem dX9_heap_54 : decode cX9_heap 54 = .ok (.bipush (-2), 2) := by decide +kernel
theorem dX9_heap_56 : decode cX9_heap 56 = .ok (.ireturn, 1) := by decide +kernel
theorem dX9_heap_57 : decode cX9_heap 57 = .ok (.iload_n 3, 1) := by decide +kernel
theorem dX9_heap_58 : decode cX9_heap 58 = .ok (.ifCond .eq 17, 3) := by decide +kernel
theorem dX9_heap_61 : decode cX9_heap 61 = .ok (.aload_n 0, 1) := by decide +kernel
theorem dX9_heap_62 : decode cX9_heap 62 = .ok (.getfield 42, 3) := by decide +kernel
theorem dX9_heap_65 : decode cX9_heap 65 = .ok (.aload 4, 2) := by decide +kernel
theorem dX9_heap_67 : decode cX9_heap 67 = .ok (.iload 5, 2) := by decide +kernel
theorem dX9_heap_69 : decode cX9_heap 69 = .ok (.invokevirtual 172, 3) := by decide +kernel
theorem dX9_heap_72 : decode cX9_heap 72 = .ok (.goto 5, 3) := by decide +kernel
theorem dX9_heap_75 : decode cX9_heap 75 = .ok (.iload 5, 2) := by decide +kernel
theorem dX9_heap_77 : decode cX9_heap 77 = .ok (.ireturn, 1) := by decide +kernel
theorem dX9_onto_0 : decode cX9_onto 0 = .ok (.aload_n 0, 1) := by decide +kernel
theorem dX9_onto_1 : decode cX9_onto 1 = .ok (.iload_n 1, 1) := by decide +kernel
theorem dX9_onto_2 : decode cX9_onto 2 = .ok (.invokevirtual 155, 3) := by decide +kernel
theorem dX9_onto_5 : decode cX9_onto 5 = .ok (.astore_n 2, 1) := by decide +kernel
theorem dX9_onto_6 : decode cX9_onto 6 = .ok (.aload_n 2, 1) := by decide +kernel
theorem dX9_onto_7 : decode cX9_onto 7 = .ok (.ifnonnull 5, 3) := by decide +kernel
theorem dX9_onto_10 : decode cX9_onto 10 = .ok (.iconst (-1), 1) := by decide +kernel
theorem dX9_onto_11 : decode cX9_onto 11 = .ok (.ireturn, 1) := by decide +kernel
theorem dX9_onto_12 : decode cX9_onto 12 = .ok (.iconst 0, 1) := by decide +kernel
theorem dX9_onto_13 : decode cX9_onto 13 = .ok (.istore_n 3, 1) := by decide +kernel
theorem dX9_onto_14 : decode cX9_onto 14 = .ok (.iconst 0, 1) := by decide +kernel
theorem dX9_onto_15 : decode cX9_onto 15 = .ok (.istore 4, 2) := by decide +kernel
theorem dX9_onto_17 : decode cX9_onto 17 = .ok (.iload 4, 2) := by decide +kernel
theorem dX9_onto_19 : decode cX9_onto 19 = .ok (.aload_n 0, 1) := by decide +kernel
theorem dX9_onto_20 : decode cX9_onto 20 = .ok (.getfield 27, 3) := by decide +kernel
theorem dX9_onto_23 : decode cX9_onto 23 = .ok (.getfield 162, 3) := by decide +kernel
theorem dX9_onto_26 : decode cX9_onto 26 = .ok (.if_icmp .ge 20, 3) := by decide +kernel
theorem dX9_onto_29 : decode cX9_onto 29 = .ok (.iload_n 3, 1) := by decide +kernel
theorem dX9_onto_30 : decode cX9_onto 30 = .ok (.iconst 1, 1) := by decide +kernel
theorem dX9_onto_31 : decode cX9_onto 31 = .ok (.aload_n 2, 1) := by decide +kernel
theorem dX9_onto_32 : decode cX9_onto 32 = .ok (.iload 4, 2) := by decide +kernel
theorem dX9_onto_34 : decode cX9_onto 34 = .ok (.invokevirtual 130, 3) := by decide +kernel
theorem dX9_onto_37 : decode cX9_onto 37 = .ok (.ishl, 1) := by decide +kernel
theorem dX9_onto_38 : decode cX9_onto 38 = .ok (.ior, 1) := by decide +kernel
theorem dX9_onto_39 : decode cX9_onto 39 = .ok (.istore_n 3, 1) := by decide +kernel
theorem dX9_onto_40 : decode cX9_onto 40 = .ok (.iinc 4 1, 3) := by decide +kernel
theorem dX9_onto_43 : decode cX9_onto 43 = .ok (.goto (-26), 3) := by decide +kernel
theorem dX9_onto_46 : decode cX9_onto 46 = .ok (.iload_n 3, 1) := by decide +kernel
theorem dX9_onto_47 : decode cX9_onto 47 = .ok (.invokestatic 175, 3) := by decide +kernel
theorem dX9_onto_50 : decode cX9_onto 50 = .ok (.ireturn, 1) := by decide +kernel
theorem dX9_dictator_0 : decode cX9_dictator 0 = .ok (.aload_n 0, 1) := by decide +kernel
theorem dX9_dictator_1 : decode cX9_dictator 1 = .ok (.iload_n 1, 1) := by decide +kernel
theorem dX9_dictator_2 : decode cX9_dictator 2 = .ok (.invokevirtual 155, 3) := by decide +kernel
theorem dX9_dictator_5 : decode cX9_dictator 5 = .ok (.astore_n 2, 1) := by decide +kernel
theorem dX9_dictator_6 : decode cX9_dictator 6 = .ok (.aload_n 2, 1) := by decide +kernel
theorem dX9_dictator_7 : decode cX9_dictator 7 = .ok (.ifnonnull 5, 3) := by decide +kernel
theorem dX9_dictator_10 : decode cX9_dictator 10 = .ok (.iconst (-1), 1) := by decide +kernel
theorem dX9_dictator_11 : decode cX9_dictator 11 = .ok (.ireturn, 1) := by decide +kernel
theorem dX9_dictator_12 : decode cX9_dictator 12 = .ok (.iconst 0, 1) := by decide +kernel
theorem dX9_dictator_13 : decode cX9_dictator 13 = .ok (.istore_n 3, 1) := by decide +kernel
theorem dX9_dictator_14 : decode cX9_dictator 14 = .ok (.iload_n 3, 1) := by decide +kernel
theorem dX9_dictator_15 : decode cX9_dictator 15 = .ok (.aload_n 0, 1) := by decide +kernel
theorem dX9_dictator_16 : decode cX9_dictator 16 = .ok (.getfield 18, 3) := by decide +kernel
theorem dX9_dictator_19 : decode cX9_dictator 19 = .ok (.if_icmp .ge 20, 3) := by decide +kernel
theorem dX9_dictator_22 : decode cX9_dictator 22 = .ok (.aload_n 0, 1) := by decide +kernel
theorem dX9_dictator_23 : decode cX9_dictator 23 = .ok (.aload_n 2, 1) := by decide +kernel
theorem dX9_dictator_24 : decode cX9_dictator 24 = .ok (.iload_n 3, 1) := by decide +kernel
theorem dX9_dictator_25 : decode cX9_dictator 25 = .ok (.invokevirtual 180, 3) := by decide +kernel
theorem dX9_dictator_28 : decode cX9_dictator 28 = .ok (.ifCond .eq 5, 3) := by decide +kernel
theorem dX9_dictator_31 : decode cX9_dictator 31 = .ok (.iload_n 3, 1) := by decide +kernel
theorem dX9_dictator_32 : decode cX9_dictator 32 = .ok (.ireturn, 1) := by decide +kernel
theorem dX9_dictator_33 : decode cX9_dictator 33 = .ok (.iinc 3 1, 3) := by decide +kernel
theorem dX9_dictator_36 : decode cX9_dictator 36 = .ok (.goto (-22), 3) := by decide +kernel
theorem dX9_dictator_39 : decode cX9_dictator 39 = .ok (.bipush (-2), 2) := by decide +kernel
theorem dX9_dictator_41 : decode cX9_dictator 41 = .ok (.ireturn, 1) := by decide +kernel
theorem dX9_budget_0 : decode cX9_budget 0 = .ok (.aload_n 0, 1) := by decide +kernel
theorem dX9_budget_1 : decode cX9_budget 1 = .ok (.iload_n 1, 1) := by decide +kernel
theorem dX9_budget_2 : decode cX9_budget 2 = .ok (.invokevirtual 155, 3) := by decide +kernel
theorem dX9_budget_5 : decode cX9_budget 5 = .ok (.astore_n 3, 1) := by decide +kernel
theorem dX9_budget_6 : decode cX9_budget 6 = .ok (.aload_n 3, 1) := by decide +kernel
theorem dX9_budget_7 : decode cX9_budget 7 = .ok (.ifnonnull 13, 3) := by decide +kernel
theorem dX9_budget_10 : decode cX9_budget 10 = .ok (.new 134, 3) := by decide +kernel
theorem dX9_budget_13 : decode cX9_budget 13 = .ok (.dup, 1) := by decide +kernel
theorem dX9_budget_14 : decode cX9_budget 14 = .ok (.ldc 184, 2) := by decide +kernel
theorem dX9_budget_16 : decode cX9_budget 16 = .ok (.invokespecial 138, 3) := by decide +kernel
theorem dX9_budget_19 : decode cX9_budget 19 = .ok (.athrow, 1) := by decide +kernel
theorem dX9_budget_20 : decode cX9_budget 20 = .ok (.aload_n 0, 1) := by decide +kernel
theorem dX9_budget_21 : decode cX9_budget 21 = .ok (.aload_n 3, 1) := by decide +kernel
theorem dX9_budget_22 : decode cX9_budget 22 = .ok (.iconst 0, 1) := by decide +kernel
theorem dX9_budget_23 : decode cX9_budget 23 = .ok (.invokevirtual 186, 3) := by decide +kernel
theorem dX9_budget_26 : decode cX9_budget 26 = .ok (.istore 4, 2) := by decide +kernel
theorem dX9_budget_28 : decode cX9_budget 28 = .ok (.iconst 1, 1) := by decide +kernel
theorem dX9_budget_29 : decode cX9_budget 29 = .ok (.istore 5, 2) := by decide +kernel
theorem dX9_budget_31 : decode cX9_budget 31 = .ok (.iload 5, 2) := by decide +kernel
theorem dX9_budget_33 : decode cX9_budget 33 = .ok (.aload_n 0, 1) := by decide +kernel
theorem dX9_budget_34 : decode cX9_budget 34 = .ok (.getfield 27, 3) := by decide +kernel
theorem dX9_budget_37 : decode cX9_budget 37 = .ok (.getfield 162, 3) := by decide +kernel
theorem dX9_budget_40 : decode cX9_budget 40 = .ok (.if_icmp .ge 41, 3) := by decide +kernel
theorem dX9_budget_43 : decode cX9_budget 43 = .ok (.aload_n 0, 1) := by decide +kernel
theorem dX9_budget_44 : decode cX9_budget 44 = .ok (.aload_n 3, 1) := by decide +kernel
theorem dX9_budget_45 : decode cX9_budget 45 = .ok (.iload 5, 2) := by decide +kernel
theorem dX9_budget_47 : decode cX9_budget 47 = .ok (.invokevirtual 186, 3) := by decide +kernel
theorem dX9_budget_50 : decode cX9_budget 50 = .ok (.istore 6, 2) := by decide +kernel
theorem dX9_budget_52 : decode cX9_budget 52 = .ok (.iload_n 2, 1) := by decide +kernel
theorem dX9_budget_53 : decode cX9_budget 53 = .ok (.ifCond .eq 13, 3) := by decide +kernel
theorem dX9_budget_56 : decode cX9_budget 56 = .ok (.iload 4, 2) := by decide +kernel
theorem dX9_budget_58 : decode cX9_budget 58 = .ok (.iload 6, 2) := by decide +kernel
theorem dX9_budget_60 : decode cX9_budget 60 = .ok (.invokestatic 189, 3) := by decide +kernel
theorem dX9_budget_63 : decode cX9_budget 63 = .ok (.goto 10, 3) := by decide +kernel
theorem dX9_budget_66 : decode cX9_budget 66 = .ok (.iload 4, 2) := by decide +kernel
theorem dX9_budget_68 : decode cX9_budget 68 = .ok (.iload 6, 2) := by decide +kernel
theorem dX9_budget_70 : decode cX9_budget 70 = .ok (.invokestatic 192, 3) := by decide +kernel
theorem dX9_budget_73 : decode cX9_budget 73 = .ok (.istore 4, 2) := by decide +kernel
theorem dX9_budget_75 : decode cX9_budget 75 = .ok (.iinc 5 1, 3) := by decide +kernel
theorem dX9_budget_78 : decode cX9_budget 78 = .ok (.goto (-47), 3) := by decide +kernel
theorem dX9_budget_81 : decode cX9_budget 81 = .ok (.iload 4, 2) := by decide +kernel
theorem dX9_budget_83 : decode cX9_budget 83 = .ok (.i2l, 1) := by decide +kernel
theorem dX9_budget_84 : decode cX9_budget 84 = .ok (.lreturn, 1) := by decide +kernel
theorem dX9_welfare_0 : decode cX9_welfare 0 = .ok (.aload_n 0, 1) := by decide +kernel
theorem dX9_welfare_1 : decode cX9_welfare 1 = .ok (.iload_n 1, 1) := by decide +kernel
theorem dX9_welfare_2 : decode cX9_welfare 2 = .ok (.invokevirtual 155, 3) := by decide +kernel
theorem dX9_welfare_5 : decode cX9_welfare 5 = .ok (.astore_n 2, 1) := by decide +kernel
theorem dX9_welfare_6 : decode cX9_welfare 6 = .ok (.aload_n 2, 1) := by decide +kernel
theorem dX9_welfare_7 : decode cX9_welfare 7 = .ok (.ifnonnull 13, 3) := by decide +kernel
theorem dX9_welfare_10 : decode cX9_welfare 10 = .ok (.new 134, 3) := by decide +kernel
theorem dX9_welfare_13 : decode cX9_welfare 13 = .ok (.dup, 1) := by decide +kernel
theorem dX9_welfare_14 : decode cX9_welfare 14 = .ok (.ldc 184, 2) := by decide +kernel
theorem dX9_welfare_16 : decode cX9_welfare 16 = .ok (.invokespecial 138, 3) := by decide +kernel
theorem dX9_welfare_19 : decode cX9_welfare 19 = .ok (.athrow, 1) := by decide +kernel
theorem dX9_welfare_20 : decode cX9_welfare 20 = .ok (.lconst 0, 1) := by decide +kernel
theorem dX9_welfare_21 : decode cX9_welfare 21 = .ok (.lstore_n 3, 1) := by decide +kernel
theorem dX9_welfare_22 : decode cX9_welfare 22 = .ok (.iconst 0, 1) := by decide +kernel
theorem dX9_welfare_23 : decode cX9_welfare 23 = .ok (.istore 5, 2) := by decide +kernel
theorem dX9_welfare_25 : decode cX9_welfare 25 = .ok (.iload 5, 2) := by decide +kernel
theorem dX9_welfare_27 : decode cX9_welfare 27 = .ok (.aload_n 0, 1) := by decide +kernel
theorem dX9_welfare_28 : decode cX9_welfare 28 = .ok (.getfield 27, 3) := by decide +kernel
theorem dX9_welfare_31 : decode cX9_welfare 31 = .ok (.getfield 162, 3) := by decide +kernel
theorem dX9_welfare_34 : decode cX9_welfare 34 = .ok (.if_icmp .ge 59, 3) := by decide +kernel
theorem dX9_welfare_37 : decode cX9_welfare 37 = .ok (.aload_n 2, 1) := by decide +kernel
theorem dX9_welfare_38 : decode cX9_welfare 38 = .ok (.iload 5, 2) := by decide +kernel
theorem dX9_welfare_40 : decode cX9_welfare 40 = .ok (.invokevirtual 130, 3) := by decide +kernel
theorem dX9_welfare_43 : decode cX9_welfare 43 = .ok (.istore 6, 2) := by decide +kernel
theorem dX9_welfare_45 : decode cX9_welfare 45 = .ok (.iconst 0, 1) := by decide +kernel
theorem dX9_welfare_46 : decode cX9_welfare 46 = .ok (.istore 7, 2) := by decide +kernel
theorem dX9_welfare_48 : decode cX9_welfare 48 = .ok (.iload 7, 2) := by decide +kernel
theorem dX9_welfare_50 : decode cX9_welfare 50 = .ok (.aload_n 0, 1) := by decide +kernel
theorem dX9_welfare_51 : decode cX9_welfare 51 = .ok (.getfield 18, 3) := by decide +kernel
theorem dX9_welfare_54 : decode cX9_welfare 54 = .ok (.if_icmp .ge 33, 3) := by decide +kernel
theorem dX9_welfare_57 : decode cX9_welfare 57 = .ok (.lload_n 3, 1) := by decide +kernel
theorem dX9_welfare_58 : decode cX9_welfare 58 = .ok (.aload_n 0, 1) := by decide +kernel
theorem dX9_welfare_59 : decode cX9_welfare 59 = .ok (.getfield 27, 3) := by decide +kernel
theorem dX9_welfare_62 : decode cX9_welfare 62 = .ok (.aload_n 0, 1) := by decide +kernel
theorem dX9_welfare_63 : decode cX9_welfare 63 = .ok (.getfield 27, 3) := by decide +kernel
theorem dX9_welfare_66 : decode cX9_welfare 66 = .ok (.iload 5, 2) := by decide +kernel
theorem dX9_welfare_68 : decode cX9_welfare 68 = .ok (.iload 7, 2) := by decide +kernel
theorem dX9_welfare_70 : decode cX9_welfare 70 = .ok (.invokevirtual 149, 3) := by decide +kernel
theorem dX9_welfare_73 : decode cX9_welfare 73 = .ok (.iload 6, 2) := by decide +kernel
theorem dX9_welfare_75 : decode cX9_welfare 75 = .ok (.invokevirtual 195, 3) := by decide +kernel
theorem dX9_welfare_78 : decode cX9_welfare 78 = .ok (.i2l, 1) := by decide +kernel
theorem dX9_welfare_79 : decode cX9_welfare 79 = .ok (.ladd, 1) := by decide +kernel
theorem dX9_welfare_80 : decode cX9_welfare 80 = .ok (.lstore_n 3, 1) := by decide +kernel
theorem dX9_welfare_81 : decode cX9_welfare 81 = .ok (.iinc 7 1, 3) := by decide +kernel
theorem dX9_welfare_84 : decode cX9_welfare 84 = .ok (.goto (-36), 3) := by decide +kernel
theorem dX9_welfare_87 : decode cX9_welfare 87 = .ok (.iinc 5 1, 3) := by decide +kernel
theorem dX9_welfare_90 : decode cX9_welfare 90 = .ok (.goto (-65), 3) := by decide +kernel
theorem dX9_welfare_93 : decode cX9_welfare 93 = .ok (.lload_n 3, 1) := by decide +kernel
theorem dX9_welfare_94 : decode cX9_welfare 94 = .ok (.lreturn, 1) := by decide +kernel
theorem dX9_span_0 : decode cX9_span 0 = .ok (.aload_n 0, 1) := by decide +kernel
theorem dX9_span_1 : decode cX9_span 1 = .ok (.iload_n 1, 1) := by decide +kernel
theorem dX9_span_2 : decode cX9_span 2 = .ok (.invokevirtual 102, 3) := by decide +kernel
theorem dX9_span_5 : decode cX9_span 5 = .ok (.astore 6, 2) := by decide +kernel
theorem dX9_span_7 : decode cX9_span 7 = .ok (.aload 6, 2) := by decide +kernel
theorem dX9_span_9 : decode cX9_span 9 = .ok (.ifnull 37, 3) := by decide +kernel
theorem dX9_span_12 : decode cX9_span 12 = .ok (.aload_n 0, 1) := by decide +kernel
theorem dX9_span_13 : decode cX9_span 13 = .ok (.iload_n 2, 1) := by decide +kernel
theorem dX9_span_14 : decode cX9_span 14 = .ok (.invokevirtual 106, 3) := by decide +kernel
theorem dX9_span_17 : decode cX9_span 17 = .ok (.ifCond .eq 29, 3) := by decide +kernel
theorem dX9_span_20 : decode cX9_span 20 = .ok (.aload_n 0, 1) := by decide +kernel
theorem dX9_span_21 : decode cX9_span 21 = .ok (.iload_n 3, 1) := by decide +kernel
theorem dX9_span_22 : decode cX9_span 22 = .ok (.invokevirtual 112, 3) := by decide +kernel
theorem dX9_span_25 : decode cX9_span 25 = .ok (.ifCond .eq 21, 3) := by decide +kernel
theorem dX9_span_28 : decode cX9_span 28 = .ok (.aload_n 0, 1) := by decide +kernel
theorem dX9_span_29 : decode cX9_span 29 = .ok (.iload 4, 2) := by decide +kernel
theorem dX9_span_31 : decode cX9_span 31 = .ok (.invokevirtual 83, 3) := by decide +kernel
theorem dX9_span_34 : decode cX9_span 34 = .ok (.ifCond .eq 12, 3) := by decide +kernel
theorem dX9_span_37 : decode cX9_span 37 = .ok (.aload_n 0, 1) := by decide +kernel
theorem dX9_span_38 : decode cX9_span 38 = .ok (.iload 5, 2) := by decide +kernel
theorem dX9_span_40 : decode cX9_span 40 = .ok (.invokevirtual 83, 3) := by decide +kernel
theorem dX9_span_43 : decode cX9_span 43 = .ok (.ifCond .ne 13, 3) := by decide +kernel
theorem dX9_span_46 : decode cX9_span 46 = .ok (.new 134, 3) := by decide +kernel
theorem dX9_span_49 : decode cX9_span 49 = .ok (.dup, 1) := by decide +kernel
theorem dX9_span_50 : decode cX9_span 50 = .ok (.ldc 198, 2) := by decide +kernel
theorem dX9_span_52 : decode cX9_span 52 = .ok (.invokespecial 138, 3) := by decide +kernel
theorem dX9_span_55 : decode cX9_span 55 = .ok (.athrow, 1) := by decide +kernel
theorem dX9_span_56 : decode cX9_span 56 = .ok (.aload_n 0, 1) := by decide +kernel
theorem dX9_span_57 : decode cX9_span 57 = .ok (.aload 6, 2) := by decide +kernel
theorem dX9_span_59 : decode cX9_span 59 = .ok (.iload_n 2, 1) := by decide +kernel
theorem dX9_span_60 : decode cX9_span 60 = .ok (.iload_n 3, 1) := by decide +kernel
theorem dX9_span_61 : decode cX9_span 61 = .ok (.invokevirtual 200, 3) := by decide +kernel
theorem dX9_span_64 : decode cX9_span 64 = .ok (.aload_n 0, 1) := by decide +kernel
theorem dX9_span_65 : decode cX9_span 65 = .ok (.getfield 49, 3) := by decide +kernel
theorem dX9_span_68 : decode cX9_span 68 = .ok (.aload 6, 2) := by decide +kernel
theorem dX9_span_70 : decode cX9_span 70 = .ok (.iload_n 2, 1) := by decide +kernel
theorem dX9_span_71 : decode cX9_span 71 = .ok (.iload_n 3, 1) := by decide +kernel
theorem dX9_span_72 : decode cX9_span 72 = .ok (.invokevirtual 204, 3) := by decide +kernel
theorem dX9_span_75 : decode cX9_span 75 = .ok (.aload_n 0, 1) := by decide +kernel
theorem dX9_span_76 : decode cX9_span 76 = .ok (.getfield 49, 3) := by decide +kernel
theorem dX9_span_79 : decode cX9_span 79 = .ok (.getfield 207, 3) := by decide +kernel
theorem dX9_span_82 : decode cX9_span 82 = .ok (.iload 4, 2) := by decide +kernel
theorem dX9_span_84 : decode cX9_span 84 = .ok (.baload, 1) := by decide +kernel
theorem dX9_span_85 : decode cX9_span 85 = .ok (.ifCond .eq 16, 3) := by decide +kernel
theorem dX9_span_88 : decode cX9_span 88 = .ok (.aload_n 0, 1) := by decide +kernel
theorem dX9_span_89 : decode cX9_span 89 = .ok (.getfield 49, 3) := by decide +kernel
theorem dX9_span_92 : decode cX9_span 92 = .ok (.getfield 207, 3) := by decide +kernel
theorem dX9_span_95 : decode cX9_span 95 = .ok (.iload 5, 2) := by decide +kernel
theorem dX9_span_97 : decode cX9_span 97 = .ok (.baload, 1) := by decide +kernel
theorem dX9_span_98 : decode cX9_span 98 = .ok (.ifCond .ne 13, 3) := by decide +kernel
theorem dX9_span_101 : decode cX9_span 101 = .ok (.new 211, 3) := by decide +kernel
theorem dX9_span_104 : decode cX9_span 104 = .ok (.dup, 1) := by decide +kernel
theorem dX9_span_105 : decode cX9_span 105 = .ok (.ldc 213, 2) := by decide +kernel
theorem dX9_span_107 : decode cX9_span 107 = .ok (.invokespecial 215, 3) := by decide +kernel
theorem dX9_span_110 : decode cX9_span 110 = .ok (.athrow, 1) := by decide +kernel
theorem dX9_span_111 : decode cX9_span 111 = .ok (.aload_n 0, 1) := by decide +kernel
theorem dX9_span_112 : decode cX9_span 112 = .ok (.getfield 49, 3) := by decide +kernel
theorem dX9_span_115 : decode cX9_span 115 = .ok (.iload 4, 2) := by decide +kernel
theorem dX9_span_117 : decode cX9_span 117 = .ok (.iload 5, 2) := by decide +kernel
theorem dX9_span_119 : decode cX9_span 119 = .ok (.invokevirtual 216, 3) := by decide +kernel
theorem dX9_span_122 : decode cX9_span 122 = .ok (.ireturn, 1) := by decide +kernel
theorem dX9_round_0 : decode cX9_round 0 = .ok (.aload_n 0, 1) := by decide +kernel
theorem dX9_round_1 : decode cX9_round 1 = .ok (.iload_n 1, 1) := by decide +kernel
theorem dX9_round_2 : decode cX9_round 2 = .ok (.invokevirtual 155, 3) := by decide +kernel
theorem dX9_round_5 : decode cX9_round 5 = .ok (.astore_n 3, 1) := by decide +kernel
theorem dX9_round_6 : decode cX9_round 6 = .ok (.aload_n 3, 1) := by decide +kernel
theorem dX9_round_7 : decode cX9_round 7 = .ok (.ifnull 12, 3) := by decide +kernel
theorem dX9_round_10 : decode cX9_round 10 = .ok (.iload_n 2, 1) := by decide +kernel
theorem dX9_round_11 : decode cX9_round 11 = .ok (.iconst 0, 1) := by decide +kernel
theorem dX9_round_12 : decode cX9_round 12 = .ok (.iconst 2, 1) := by decide +kernel
theorem dX9_round_13 : decode cX9_round 13 = .ok (.invokestatic 86, 3) := by decide +kernel
theorem dX9_round_16 : decode cX9_round 16 = .ok (.ifCond .ne 7, 3) := by decide +kernel
theorem dX9_round_19 : decode cX9_round 19 = .ok (.iconst (-1), 1) := by decide +kernel
theorem dX9_round_20 : decode cX9_round 20 = .ok (.goto 9, 3) := by decide +kernel
theorem dX9_round_23 : decode cX9_round 23 = .ok (.aload_n 0, 1) := by decide +kernel
theorem dX9_round_24 : decode cX9_round 24 = .ok (.aload_n 3, 1) := by decide +kernel
theorem dX9_round_25 : decode cX9_round 25 = .ok (.iload_n 2, 1) := by decide +kernel
theorem dX9_round_26 : decode cX9_round 26 = .ok (.invokevirtual 219, 3) := by decide +kernel
theorem dX9_round_29 : decode cX9_round 29 = .ok (.ireturn, 1) := by decide +kernel
theorem dX9_price_0 : decode cX9_price 0 = .ok (.aload_n 0, 1) := by decide +kernel
theorem dX9_price_1 : decode cX9_price 1 = .ok (.iload_n 1, 1) := by decide +kernel
theorem dX9_price_2 : decode cX9_price 2 = .ok (.invokevirtual 102, 3) := by decide +kernel
theorem dX9_price_5 : decode cX9_price 5 = .ok (.astore 5, 2) := by decide +kernel
theorem dX9_price_7 : decode cX9_price 7 = .ok (.aload 5, 2) := by decide +kernel
theorem dX9_price_9 : decode cX9_price 9 = .ok (.ifnull 28, 3) := by decide +kernel
theorem dX9_price_12 : decode cX9_price 12 = .ok (.aload_n 0, 1) := by decide +kernel
theorem dX9_price_13 : decode cX9_price 13 = .ok (.iload_n 2, 1) := by decide +kernel
theorem dX9_price_14 : decode cX9_price 14 = .ok (.invokevirtual 106, 3) := by decide +kernel
theorem dX9_price_17 : decode cX9_price 17 = .ok (.ifCond .eq 20, 3) := by decide +kernel
theorem dX9_price_20 : decode cX9_price 20 = .ok (.aload_n 0, 1) := by decide +kernel
theorem dX9_price_21 : decode cX9_price 21 = .ok (.iload_n 3, 1) := by decide +kernel
theorem dX9_price_22 : decode cX9_price 22 = .ok (.invokevirtual 112, 3) := by decide +kernel
theorem dX9_price_25 : decode cX9_price 25 = .ok (.ifCond .eq 12, 3) := by decide +kernel
theorem dX9_price_28 : decode cX9_price 28 = .ok (.aload_n 0, 1) := by decide +kernel
theorem dX9_price_29 : decode cX9_price 29 = .ok (.iload 4, 2) := by decide +kernel
theorem dX9_price_31 : decode cX9_price 31 = .ok (.invokevirtual 83, 3) := by decide +kernel
theorem dX9_price_34 : decode cX9_price 34 = .ok (.ifCond .ne 13, 3) := by decide +kernel
theorem dX9_price_37 : decode cX9_price 37 = .ok (.new 134, 3) := by decide +kernel
theorem dX9_price_40 : decode cX9_price 40 = .ok (.dup, 1) := by decide +kernel
theorem dX9_price_41 : decode cX9_price 41 = .ok (.ldc 198, 2) := by decide +kernel
theorem dX9_price_43 : decode cX9_price 43 = .ok (.invokespecial 138, 3) := by decide +kernel
theorem dX9_price_46 : decode cX9_price 46 = .ok (.athrow, 1) := by decide +kernel
theorem dX9_price_47 : decode cX9_price 47 = .ok (.aload_n 0, 1) := by decide +kernel
theorem dX9_price_48 : decode cX9_price 48 = .ok (.aload 5, 2) := by decide +kernel
theorem dX9_price_50 : decode cX9_price 50 = .ok (.iload_n 2, 1) := by decide +kernel
theorem dX9_price_51 : decode cX9_price 51 = .ok (.iload_n 3, 1) := by decide +kernel
theorem dX9_price_52 : decode cX9_price 52 = .ok (.invokevirtual 200, 3) := by decide +kernel
theorem dX9_price_55 : decode cX9_price 55 = .ok (.aload_n 0, 1) := by decide +kernel
theorem dX9_price_56 : decode cX9_price 56 = .ok (.getfield 49, 3) := by decide +kernel
theorem dX9_price_59 : decode cX9_price 59 = .ok (.aload 5, 2) := by decide +kernel
theorem dX9_price_61 : decode cX9_price 61 = .ok (.iload_n 2, 1) := by decide +kernel
theorem dX9_price_62 : decode cX9_price 62 = .ok (.iload_n 3, 1) := by decide +kernel
theorem dX9_price_63 : decode cX9_price 63 = .ok (.invokevirtual 204, 3) := by decide +kernel
theorem dX9_price_66 : decode cX9_price 66 = .ok (.aload_n 0, 1) := by decide +kernel
theorem dX9_price_67 : decode cX9_price 67 = .ok (.getfield 49, 3) := by decide +kernel
theorem dX9_price_70 : decode cX9_price 70 = .ok (.getfield 207, 3) := by decide +kernel
theorem dX9_price_73 : decode cX9_price 73 = .ok (.iload 4, 2) := by decide +kernel
theorem dX9_price_75 : decode cX9_price 75 = .ok (.baload, 1) := by decide +kernel
theorem dX9_price_76 : decode cX9_price 76 = .ok (.ifCond .eq 13, 3) := by decide +kernel
theorem dX9_price_79 : decode cX9_price 79 = .ok (.aload_n 0, 1) := by decide +kernel
theorem dX9_price_80 : decode cX9_price 80 = .ok (.getfield 49, 3) := by decide +kernel
theorem dX9_price_83 : decode cX9_price 83 = .ok (.invokevirtual 222, 3) := by decide +kernel
theorem dX9_price_86 : decode cX9_price 86 = .ok (.ifCond .eq 13, 3) := by decide +kernel
theorem dX9_price_89 : decode cX9_price 89 = .ok (.new 211, 3) := by decide +kernel
theorem dX9_price_92 : decode cX9_price 92 = .ok (.dup, 1) := by decide +kernel
theorem dX9_price_93 : decode cX9_price 93 = .ok (.ldc 226, 2) := by decide +kernel
theorem dX9_price_95 : decode cX9_price 95 = .ok (.invokespecial 215, 3) := by decide +kernel
theorem dX9_price_98 : decode cX9_price 98 = .ok (.athrow, 1) := by decide +kernel
theorem dX9_price_99 : decode cX9_price 99 = .ok (.aload_n 0, 1) := by decide +kernel
theorem dX9_price_100 : decode cX9_price 100 = .ok (.getfield 49, 3) := by decide +kernel
theorem dX9_price_103 : decode cX9_price 103 = .ok (.iload 4, 2) := by decide +kernel
theorem dX9_price_105 : decode cX9_price 105 = .ok (.invokevirtual 228, 3) := by decide +kernel
theorem dX9_price_108 : decode cX9_price 108 = .ok (.ireturn, 1) := by decide +kernel
theorem dX9_honest_0 : decode cX9_honest 0 = .ok (.aload_n 0, 1) := by decide +kernel
theorem dX9_honest_1 : decode cX9_honest 1 = .ok (.iload_n 1, 1) := by decide +kernel
theorem dX9_honest_2 : decode cX9_honest 2 = .ok (.invokevirtual 155, 3) := by decide +kernel
theorem dX9_honest_5 : decode cX9_honest 5 = .ok (.astore_n 2, 1) := by decide +kernel
