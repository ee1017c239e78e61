theorem dX9_honest_6 : decode cX9_honest 6 = .ok (.aload_n 2, 1) := by decide +kernel
theorem dX9_honest_7 : decode cX9_honest 7 = .ok (.ifnonnull 5, 3) := by decide +kernel
theorem dX9_honest_10 : decode cX9_honest 10 = .ok (.iconst (-1), 1) := by decide +kernel
theorem dX9_honest_11 : decode cX9_honest 11 = .ok (.ireturn, 1) := by decide +kernel
theorem dX9_honest_12 : decode cX9_honest 12 = .ok (.aload_n 0, 1) := by decide +kernel
theorem dX9_honest_13 : decode cX9_honest 13 = .ok (.getfield 72, 3) := by decide +kernel
theorem dX9_honest_16 : decode cX9_honest 16 = .ok (.bipush 8, 2) := by decide +kernel
theorem dX9_honest_18 : decode cX9_honest 18 = .ok (.if_icmp .lt 6, 3) := by decide +kernel
theorem dX9_honest_21 : decode cX9_honest 21 = .ok (.bipush (-2), 2) := by decide +kernel
theorem dX9_honest_23 : decode cX9_honest 23 = .ok (.ireturn, 1) := by decide +kernel
theorem dX9_honest_24 : decode cX9_honest 24 = .ok (.aload_n 0, 1) := by decide +kernel
theorem dX9_honest_25 : decode cX9_honest 25 = .ok (.aload_n 2, 1) := by decide +kernel
theorem dX9_honest_26 : decode cX9_honest 26 = .ok (.iconst 0, 1) := by decide +kernel
theorem dX9_honest_27 : decode cX9_honest 27 = .ok (.invokevirtual 219, 3) := by decide +kernel
theorem dX9_honest_30 : decode cX9_honest 30 = .ok (.bipush (-2), 2) := by decide +kernel
theorem dX9_honest_32 : decode cX9_honest 32 = .ok (.if_icmp .ne 15, 3) := by decide +kernel
theorem dX9_honest_35 : decode cX9_honest 35 = .ok (.aload_n 0, 1) := by decide +kernel
theorem dX9_honest_36 : decode cX9_honest 36 = .ok (.aload_n 0, 1) := by decide +kernel
theorem dX9_honest_37 : decode cX9_honest 37 = .ok (.aload_n 2, 1) := by decide +kernel
theorem dX9_honest_38 : decode cX9_honest 38 = .ok (.invokevirtual 231, 3) := by decide +kernel
theorem dX9_honest_41 : decode cX9_honest 41 = .ok (.invokevirtual 98, 3) := by decide +kernel
theorem dX9_honest_44 : decode cX9_honest 44 = .ok (.goto 5, 3) := by decide +kernel
theorem dX9_honest_47 : decode cX9_honest 47 = .ok (.bipush (-3), 2) := by decide +kernel
theorem dX9_honest_49 : decode cX9_honest 49 = .ok (.ireturn, 1) := by decide +kernel
theorem dX9_same_0 : decode cX9_same 0 = .ok (.aload_n 0, 1) := by decide +kernel
theorem dX9_same_1 : decode cX9_same 1 = .ok (.iload_n 1, 1) := by decide +kernel
theorem dX9_same_2 : decode cX9_same 2 = .ok (.invokevirtual 155, 3) := by decide +kernel
theorem dX9_same_5 : decode cX9_same 5 = .ok (.astore_n 3, 1) := by decide +kernel
theorem dX9_same_6 : decode cX9_same 6 = .ok (.aload_n 0, 1) := by decide +kernel
theorem dX9_same_7 : decode cX9_same 7 = .ok (.iload_n 2, 1) := by decide +kernel
theorem dX9_same_8 : decode cX9_same 8 = .ok (.invokevirtual 155, 3) := by decide +kernel
theorem dX9_same_11 : decode cX9_same 11 = .ok (.astore 4, 2) := by decide +kernel
theorem dX9_same_13 : decode cX9_same 13 = .ok (.aload_n 3, 1) := by decide +kernel
theorem dX9_same_14 : decode cX9_same 14 = .ok (.ifnull 8, 3) := by decide +kernel
theorem dX9_same_17 : decode cX9_same 17 = .ok (.aload 4, 2) := by decide +kernel
theorem dX9_same_19 : decode cX9_same 19 = .ok (.ifnonnull 5, 3) := by decide +kernel
theorem dX9_same_22 : decode cX9_same 22 = .ok (.iconst (-1), 1) := by decide +kernel
theorem dX9_same_23 : decode cX9_same 23 = .ok (.ireturn, 1) := by decide +kernel
theorem dX9_same_24 : decode cX9_same 24 = .ok (.iconst 0, 1) := by decide +kernel
theorem dX9_same_25 : decode cX9_same 25 = .ok (.istore 5, 2) := by decide +kernel
theorem dX9_same_27 : decode cX9_same 27 = .ok (.iload 5, 2) := by decide +kernel
theorem dX9_same_29 : decode cX9_same 29 = .ok (.aload_n 0, 1) := by decide +kernel
theorem dX9_same_30 : decode cX9_same 30 = .ok (.getfield 27, 3) := by decide +kernel
theorem dX9_same_33 : decode cX9_same 33 = .ok (.getfield 162, 3) := by decide +kernel
theorem dX9_same_36 : decode cX9_same 36 = .ok (.if_icmp .ge 23, 3) := by decide +kernel
theorem dX9_same_39 : decode cX9_same 39 = .ok (.aload_n 0, 1) := by decide +kernel
theorem dX9_same_40 : decode cX9_same 40 = .ok (.aload_n 3, 1) := by decide +kernel
theorem dX9_same_41 : decode cX9_same 41 = .ok (.aload 4, 2) := by decide +kernel
theorem dX9_same_43 : decode cX9_same 43 = .ok (.iload 5, 2) := by decide +kernel
theorem dX9_same_45 : decode cX9_same 45 = .ok (.invokevirtual 235, 3) := by decide +kernel
theorem dX9_same_48 : decode cX9_same 48 = .ok (.ifCond .ne 5, 3) := by decide +kernel
theorem dX9_same_51 : decode cX9_same 51 = .ok (.iconst 0, 1) := by decide +kernel
theorem dX9_same_52 : decode cX9_same 52 = .ok (.ireturn, 1) := by decide +kernel
theorem dX9_same_53 : decode cX9_same 53 = .ok (.iinc 5 1, 3) := by decide +kernel
theorem dX9_same_56 : decode cX9_same 56 = .ok (.goto (-29), 3) := by decide +kernel
theorem dX9_same_59 : decode cX9_same 59 = .ok (.iconst 1, 1) := by decide +kernel
theorem dX9_same_60 : decode cX9_same 60 = .ok (.ireturn, 1) := by decide +kernel
theorem dX9_fair_0 : decode cX9_fair 0 = .ok (.aload_n 0, 1) := by decide +kernel
theorem dX9_fair_1 : decode cX9_fair 1 = .ok (.iload_n 1, 1) := by decide +kernel
theorem dX9_fair_2 : decode cX9_fair 2 = .ok (.invokevirtual 155, 3) := by decide +kernel
theorem dX9_fair_5 : decode cX9_fair 5 = .ok (.astore_n 2, 1) := by decide +kernel
theorem dX9_fair_6 : decode cX9_fair 6 = .ok (.aload_n 2, 1) := by decide +kernel
theorem dX9_fair_7 : decode cX9_fair 7 = .ok (.ifnonnull 5, 3) := by decide +kernel
theorem dX9_fair_10 : decode cX9_fair 10 = .ok (.iconst (-1), 1) := by decide +kernel
theorem dX9_fair_11 : decode cX9_fair 11 = .ok (.ireturn, 1) := by decide +kernel
theorem dX9_fair_12 : decode cX9_fair 12 = .ok (.iconst 0, 1) := by decide +kernel
theorem dX9_fair_13 : decode cX9_fair 13 = .ok (.istore_n 3, 1) := by decide +kernel
theorem dX9_fair_14 : decode cX9_fair 14 = .ok (.iload_n 3, 1) := by decide +kernel
theorem dX9_fair_15 : decode cX9_fair 15 = .ok (.aload_n 0, 1) := by decide +kernel
theorem dX9_fair_16 : decode cX9_fair 16 = .ok (.getfield 27, 3) := by decide +kernel
theorem dX9_fair_19 : decode cX9_fair 19 = .ok (.getfield 162, 3) := by decide +kernel
theorem dX9_fair_22 : decode cX9_fair 22 = .ok (.if_icmp .ge 20, 3) := by decide +kernel
theorem dX9_fair_25 : decode cX9_fair 25 = .ok (.aload_n 0, 1) := by decide +kernel
theorem dX9_fair_26 : decode cX9_fair 26 = .ok (.aload_n 2, 1) := by decide +kernel
theorem dX9_fair_27 : decode cX9_fair 27 = .ok (.iload_n 3, 1) := by decide +kernel
theorem dX9_fair_28 : decode cX9_fair 28 = .ok (.invokevirtual 239, 3) := by decide +kernel
theorem dX9_fair_31 : decode cX9_fair 31 = .ok (.ifCond .ne 5, 3) := by decide +kernel
theorem dX9_fair_34 : decode cX9_fair 34 = .ok (.iconst 0, 1) := by decide +kernel
theorem dX9_fair_35 : decode cX9_fair 35 = .ok (.ireturn, 1) := by decide +kernel
theorem dX9_fair_36 : decode cX9_fair 36 = .ok (.iinc 3 1, 3) := by decide +kernel
theorem dX9_fair_39 : decode cX9_fair 39 = .ok (.goto (-25), 3) := by decide +kernel
theorem dX9_fair_42 : decode cX9_fair 42 = .ok (.iconst 1, 1) := by decide +kernel
theorem dX9_fair_43 : decode cX9_fair 43 = .ok (.ireturn, 1) := by decide +kernel
theorem dX9_likes_0 : decode cX9_likes 0 = .ok (.aload_n 0, 1) := by decide +kernel
theorem dX9_likes_1 : decode cX9_likes 1 = .ok (.iload_n 1, 1) := by decide +kernel
theorem dX9_likes_2 : decode cX9_likes 2 = .ok (.invokevirtual 112, 3) := by decide +kernel
theorem dX9_likes_5 : decode cX9_likes 5 = .ok (.ifCond .eq 14, 3) := by decide +kernel
theorem dX9_likes_8 : decode cX9_likes 8 = .ok (.aload_n 0, 1) := by decide +kernel
theorem dX9_likes_9 : decode cX9_likes 9 = .ok (.getfield 58, 3) := by decide +kernel
theorem dX9_likes_12 : decode cX9_likes 12 = .ok (.iload_n 2, 1) := by decide +kernel
theorem dX9_likes_13 : decode cX9_likes 13 = .ok (.invokevirtual 242, 3) := by decide +kernel
theorem dX9_likes_16 : decode cX9_likes 16 = .ok (.ifCond .ne 5, 3) := by decide +kernel
theorem dX9_likes_19 : decode cX9_likes 19 = .ok (.iconst (-1), 1) := by decide +kernel
theorem dX9_likes_20 : decode cX9_likes 20 = .ok (.ireturn, 1) := by decide +kernel
theorem dX9_likes_21 : decode cX9_likes 21 = .ok (.aload_n 0, 1) := by decide +kernel
theorem dX9_likes_22 : decode cX9_likes 22 = .ok (.getfield 58, 3) := by decide +kernel
theorem dX9_likes_25 : decode cX9_likes 25 = .ok (.iload_n 1, 1) := by decide +kernel
theorem dX9_likes_26 : decode cX9_likes 26 = .ok (.iload_n 2, 1) := by decide +kernel
theorem dX9_likes_27 : decode cX9_likes 27 = .ok (.invokevirtual 245, 3) := by decide +kernel
theorem dX9_likes_30 : decode cX9_likes 30 = .ok (.iconst 0, 1) := by decide +kernel
theorem dX9_likes_31 : decode cX9_likes 31 = .ok (.ireturn, 1) := by decide +kernel
theorem dX9_rings_0 : decode cX9_rings 0 = .ok (.aload_n 0, 1) := by decide +kernel
theorem dX9_rings_1 : decode cX9_rings 1 = .ok (.getfield 58, 3) := by decide +kernel
theorem dX9_rings_4 : decode cX9_rings 4 = .ok (.invokevirtual 248, 3) := by decide +kernel
theorem dX9_rings_7 : decode cX9_rings 7 = .ok (.ireturn, 1) := by decide +kernel
theorem dX9_leaves_0 : decode cX9_leaves 0 = .ok (.aload_n 0, 1) := by decide +kernel
theorem dX9_leaves_1 : decode cX9_leaves 1 = .ok (.iload_n 1, 1) := by decide +kernel
theorem dX9_leaves_2 : decode cX9_leaves 2 = .ok (.invokevirtual 112, 3) := by decide +kernel
theorem dX9_leaves_5 : decode cX9_leaves 5 = .ok (.ifCond .ne 5, 3) := by decide +kernel
theorem dX9_leaves_8 : decode cX9_leaves 8 = .ok (.iconst (-1), 1) := by decide +kernel
theorem dX9_leaves_9 : decode cX9_leaves 9 = .ok (.ireturn, 1) := by decide +kernel
theorem dX9_leaves_10 : decode cX9_leaves 10 = .ok (.aload_n 0, 1) := by decide +kernel
theorem dX9_leaves_11 : decode cX9_leaves 11 = .ok (.getfield 58, 3) := by decide +kernel
theorem dX9_leaves_14 : decode cX9_leaves 14 = .ok (.invokevirtual 248, 3) := by decide +kernel
theorem dX9_leaves_17 : decode cX9_leaves 17 = .ok (.pop, 1) := by decide +kernel
theorem dX9_leaves_18 : decode cX9_leaves 18 = .ok (.aload_n 0, 1) := by decide +kernel
theorem dX9_leaves_19 : decode cX9_leaves 19 = .ok (.getfield 58, 3) := by decide +kernel
theorem dX9_leaves_22 : decode cX9_leaves 22 = .ok (.getfield 251, 3) := by decide +kernel
theorem dX9_leaves_25 : decode cX9_leaves 25 = .ok (.iload_n 1, 1) := by decide +kernel
theorem dX9_leaves_26 : decode cX9_leaves 26 = .ok (.iaload, 1) := by decide +kernel
theorem dX9_leaves_27 : decode cX9_leaves 27 = .ok (.ireturn, 1) := by decide +kernel
theorem dX9_turns_0 : decode cX9_turns 0 = .ok (.aload_n 0, 1) := by decide +kernel
theorem dX9_turns_1 : decode cX9_turns 1 = .ok (.getfield 58, 3) := by decide +kernel
theorem dX9_turns_4 : decode cX9_turns 4 = .ok (.iload_n 1, 1) := by decide +kernel
theorem dX9_turns_5 : decode cX9_turns 5 = .ok (.invokevirtual 242, 3) := by decide +kernel
theorem dX9_turns_8 : decode cX9_turns 8 = .ok (.ifCond .eq 14, 3) := by decide +kernel
theorem dX9_turns_11 : decode cX9_turns 11 = .ok (.aload_n 0, 1) := by decide +kernel
theorem dX9_turns_12 : decode cX9_turns 12 = .ok (.getfield 58, 3) := by decide +kernel
theorem dX9_turns_15 : decode cX9_turns 15 = .ok (.iload_n 1, 1) := by decide +kernel
theorem dX9_turns_16 : decode cX9_turns 16 = .ok (.invokevirtual 255, 3) := by decide +kernel
theorem dX9_turns_19 : decode cX9_turns 19 = .ok (.goto 4, 3) := by decide +kernel
theorem dX9_turns_22 : decode cX9_turns 22 = .ok (.iconst (-1), 1) := by decide +kernel
theorem dX9_turns_23 : decode cX9_turns 23 = .ok (.ireturn, 1) := by decide +kernel
theorem dX9_blocks_0 : decode cX9_blocks 0 = .ok (.aload_n 0, 1) := by decide +kernel
theorem dX9_blocks_1 : decode cX9_blocks 1 = .ok (.getfield 58, 3) := by decide +kernel
theorem dX9_blocks_4 : decode cX9_blocks 4 = .ok (.iload_n 1, 1) := by decide +kernel
theorem dX9_blocks_5 : decode cX9_blocks 5 = .ok (.invokevirtual 242, 3) := by decide +kernel
theorem dX9_blocks_8 : decode cX9_blocks 8 = .ok (.ifCond .ne 5, 3) := by decide +kernel
theorem dX9_blocks_11 : decode cX9_blocks 11 = .ok (.iconst (-1), 1) := by decide +kernel
theorem dX9_blocks_12 : decode cX9_blocks 12 = .ok (.ireturn, 1) := by decide +kernel
theorem dX9_blocks_13 : decode cX9_blocks 13 = .ok (.aload_n 0, 1) := by decide +kernel
theorem dX9_blocks_14 : decode cX9_blocks 14 = .ok (.getfield 58, 3) := by decide +kernel
theorem dX9_blocks_17 : decode cX9_blocks 17 = .ok (.iload_n 1, 1) := by decide +kernel
theorem dX9_blocks_18 : decode cX9_blocks 18 = .ok (.invokevirtual 258, 3) := by decide +kernel
theorem dX9_blocks_21 : decode cX9_blocks 21 = .ok (.istore_n 2, 1) := by decide +kernel
theorem dX9_blocks_22 : decode cX9_blocks 22 = .ok (.iload_n 2, 1) := by decide +kernel
theorem dX9_blocks_23 : decode cX9_blocks 23 = .ok (.ifCond .ne 8, 3) := by decide +kernel
theorem dX9_blocks_26 : decode cX9_blocks 26 = .ok (.bipush (-2), 2) := by decide +kernel
theorem dX9_blocks_28 : decode cX9_blocks 28 = .ok (.goto 4, 3) := by decide +kernel
theorem dX9_blocks_31 : decode cX9_blocks 31 = .ok (.iload_n 2, 1) := by decide +kernel
theorem dX9_blocks_32 : decode cX9_blocks 32 = .ok (.ireturn, 1) := by decide +kernel
theorem dX9_core_0 : decode cX9_core 0 = .ok (.iload_n 1, 1) := by decide +kernel
theorem dX9_core_1 : decode cX9_core 1 = .ok (.ifCond .ge 5, 3) := by decide +kernel
theorem dX9_core_4 : decode cX9_core 4 = .ok (.iconst (-1), 1) := by decide +kernel
theorem dX9_core_5 : decode cX9_core 5 = .ok (.ireturn, 1) := by decide +kernel
theorem dX9_core_6 : decode cX9_core 6 = .ok (.iconst 0, 1) := by decide +kernel
theorem dX9_core_7 : decode cX9_core 7 = .ok (.istore_n 2, 1) := by decide +kernel
theorem dX9_core_8 : decode cX9_core 8 = .ok (.aload_n 0, 1) := by decide +kernel
theorem dX9_core_9 : decode cX9_core 9 = .ok (.getfield 58, 3) := by decide +kernel
theorem dX9_core_12 : decode cX9_core 12 = .ok (.getfield 261, 3) := by decide +kernel
theorem dX9_core_15 : decode cX9_core 15 = .ok (.astore_n 3, 1) := by decide +kernel
theorem dX9_core_16 : decode cX9_core 16 = .ok (.aload_n 3, 1) := by decide +kernel
theorem dX9_core_17 : decode cX9_core 17 = .ok (.arraylength, 1) := by decide +kernel
theorem dX9_core_18 : decode cX9_core 18 = .ok (.istore 4, 2) := by decide +kernel
theorem dX9_core_20 : decode cX9_core 20 = .ok (.iconst 0, 1) := by decide +kernel
theorem dX9_core_21 : decode cX9_core 21 = .ok (.istore 5, 2) := by decide +kernel
theorem dX9_core_23 : decode cX9_core 23 = .ok (.iload 5, 2) := by decide +kernel
theorem dX9_core_25 : decode cX9_core 25 = .ok (.iload 4, 2) := by decide +kernel
theorem dX9_core_27 : decode cX9_core 27 = .ok (.if_icmp .ge 38, 3) := by decide +kernel
theorem dX9_core_30 : decode cX9_core 30 = .ok (.aload_n 3, 1) := by decide +kernel
theorem dX9_core_31 : decode cX9_core 31 = .ok (.iload 5, 2) := by decide +kernel
theorem dX9_core_33 : decode cX9_core 33 = .ok (.iaload, 1) := by decide +kernel
theorem dX9_core_34 : decode cX9_core 34 = .ok (.istore 6, 2) := by decide +kernel
theorem dX9_core_36 : decode cX9_core 36 = .ok (.aload_n 0, 1) := by decide +kernel
theorem dX9_core_37 : decode cX9_core 37 = .ok (.getfield 58, 3) := by decide +kernel
theorem dX9_core_40 : decode cX9_core 40 = .ok (.iload 6, 2) := by decide +kernel
theorem dX9_core_42 : decode cX9_core 42 = .ok (.invokevirtual 258, 3) := by decide +kernel
theorem dX9_core_45 : decode cX9_core 45 = .ok (.ifCond .ne 14, 3) := by decide +kernel
theorem dX9_core_48 : decode cX9_core 48 = .ok (.iload_n 2, 1) := by decide +kernel
theorem dX9_core_49 : decode cX9_core 49 = .ok (.iload_n 1, 1) := by decide +kernel
theorem dX9_core_50 : decode cX9_core 50 = .ok (.if_icmp .ne 6, 3) := by decide +kernel
theorem dX9_core_53 : decode cX9_core 53 = .ok (.iload 6, 2) := by decide +kernel
theorem dX9_core_55 : decode cX9_core 55 = .ok (.ireturn, 1) := by decide +kernel
theorem dX9_core_56 : decode cX9_core 56 = .ok (.iinc 2 1, 3) := by decide +kernel
theorem dX9_core_59 : decode cX9_core 59 = .ok (.iinc 5 1, 3) := by decide +kernel
theorem dX9_core_62 : decode cX9_core 62 = .ok (.goto (-39), 3) := by decide +kernel
theorem dX9_core_65 : decode cX9_core 65 = .ok (.bipush (-2), 2) := by decide +kernel
theorem dX9_core_67 : decode cX9_core 67 = .ok (.ireturn, 1) := by decide +kernel
theorem dX9_good_0 : decode cX9_good 0 = .ok (.aload_n 0, 1) := by decide +kernel
theorem dX9_good_1 : decode cX9_good 1 = .ok (.getfield 58, 3) := by decide +kernel
theorem dX9_good_4 : decode cX9_good 4 = .ok (.iload_n 1, 1) := by decide +kernel
theorem dX9_good_5 : decode cX9_good 5 = .ok (.invokevirtual 242, 3) := by decide +kernel
theorem dX9_good_8 : decode cX9_good 8 = .ok (.ifCond .ne 5, 3) := by decide +kernel
theorem dX9_good_11 : decode cX9_good 11 = .ok (.iconst (-1), 1) := by decide +kernel
theorem dX9_good_12 : decode cX9_good 12 = .ok (.ireturn, 1) := by decide +kernel
theorem dX9_good_13 : decode cX9_good 13 = .ok (.aload_n 0, 1) := by decide +kernel
theorem dX9_good_14 : decode cX9_good 14 = .ok (.getfield 58, 3) := by decide +kernel
theorem dX9_good_17 : decode cX9_good 17 = .ok (.iload_n 1, 1) := by decide +kernel
theorem dX9_good_18 : decode cX9_good 18 = .ok (.invokevirtual 264, 3) := by decide +kernel
theorem dX9_good_21 : decode cX9_good 21 = .ok (.ifCond .eq 7, 3) := by decide +kernel
theorem dX9_good_24 : decode cX9_good 24 = .ok (.iconst 0, 1) := by decide +kernel
theorem dX9_good_25 : decode cX9_good 25 = .ok (.goto 4, 3) := by decide +kernel
theorem dX9_good_28 : decode cX9_good 28 = .ok (.iconst 1, 1) := by decide +kernel
theorem dX9_good_29 : decode cX9_good 29 = .ok (.ireturn, 1) := by decide +kernel
theorem dX9_by_0 : decode cX9_by 0 = .ok (.aload_n 0, 1) := by decide +kernel
theorem dX9_by_1 : decode cX9_by 1 = .ok (.getfield 58, 3) := by decide +kernel
theorem dX9_by_4 : decode cX9_by 4 = .ok (.iload_n 1, 1) := by decide +kernel
theorem dX9_by_5 : decode cX9_by 5 = .ok (.invokevirtual 242, 3) := by decide +kernel
theorem dX9_by_8 : decode cX9_by 8 = .ok (.ifCond .ne 5, 3) := by decide +kernel
theorem dX9_by_11 : decode cX9_by 11 = .ok (.iconst (-1), 1) := by decide +kernel
theorem dX9_by_12 : decode cX9_by 12 = .ok (.ireturn, 1) := by decide +kernel
theorem dX9_by_13 : decode cX9_by 13 = .ok (.aload_n 0, 1) := by decide +kernel
theorem dX9_by_14 : decode cX9_by 14 = .ok (.getfield 58, 3) := by decide +kernel
theorem dX9_by_17 : decode cX9_by 17 = .ok (.getfield 261, 3) := by decide +kernel
theorem dX9_by_20 : decode cX9_by 20 = .ok (.astore_n 2, 1) := by decide +kernel
theorem dX9_by_21 : decode cX9_by 21 = .ok (.aload_n 2, 1) := by decide +kernel
theorem dX9_by_22 : decode cX9_by 22 = .ok (.arraylength, 1) := by decide +kernel
theorem dX9_by_23 : decode cX9_by 23 = .ok (.istore_n 3, 1) := by decide +kernel
theorem dX9_by_24 : decode cX9_by 24 = .ok (.iconst 0, 1) := by decide +kernel
theorem dX9_by_25 : decode cX9_by 25 = .ok (.istore 4, 2) := by decide +kernel
theorem dX9_by_27 : decode cX9_by 27 = .ok (.iload 4, 2) := by decide +kernel
theorem dX9_by_29 : decode cX9_by 29 = .ok (.iload_n 3, 1) := by decide +kernel
theorem dX9_by_30 : decode cX9_by 30 = .ok (.if_icmp .ge 31, 3) := by decide +kernel
theorem dX9_by_33 : decode cX9_by 33 = .ok (.aload_n 2, 1) := by decide +kernel
theorem dX9_by_34 : decode cX9_by 34 = .ok (.iload 4, 2) := by decide +kernel
theorem dX9_by_36 : decode cX9_by 36 = .ok (.iaload, 1) := by decide +kernel
theorem dX9_by_37 : decode cX9_by 37 = .ok (.istore 5, 2) := by decide +kernel
theorem dX9_by_39 : decode cX9_by 39 = .ok (.aload_n 0, 1) := by decide +kernel
theorem dX9_by_40 : decode cX9_by 40 = .ok (.getfield 58, 3) := by decide +kernel
theorem dX9_by_43 : decode cX9_by 43 = .ok (.iload 5, 2) := by decide +kernel
theorem dX9_by_45 : decode cX9_by 45 = .ok (.invokevirtual 255, 3) := by decide +kernel
theorem dX9_by_48 : decode cX9_by 48 = .ok (.iload_n 1, 1) := by decide +kernel
theorem dX9_by_49 : decode cX9_by 49 = .ok (.if_icmp .ne 6, 3) := by decide +kernel
theorem dX9_by_52 : decode cX9_by 52 = .ok (.iload 5, 2) := by decide +kernel
theorem dX9_by_54 : decode cX9_by 54 = .ok (.ireturn, 1) := by decide +kernel
theorem dX9_by_55 : decode cX9_by 55 = .ok (.iinc 4 1, 3) := by decide +kernel
theorem dX9_by_58 : decode cX9_by 58 = .ok (.goto (-31), 3) := by decide +kernel
theorem dX9_by_61 : decode cX9_by 61 = .ok (.bipush (-2), 2) := by decide +kernel
theorem dX9_by_63 : decode cX9_by 63 = .ok (.ireturn, 1) := by decide +kernel
theorem dX9_wrong_0 : decode cX9_wrong 0 = .ok (.aload_n 0, 1) := by decide +kernel
theorem dX9_wrong_1 : decode cX9_wrong 1 = .ok (.iload_n 1, 1) := by decide +kernel
theorem dX9_wrong_2 : decode cX9_wrong 2 = .ok (.invokevirtual 112, 3) := by decide +kernel
theorem dX9_wrong_5 : decode cX9_wrong 5 = .ok (.ifCond .eq 14, 3) := by decide +kernel
theorem dX9_wrong_8 : decode cX9_wrong 8 = .ok (.aload_n 0, 1) := by decide +kernel
theorem dX9_wrong_9 : decode cX9_wrong 9 = .ok (.getfield 58, 3) := by decide +kernel
theorem dX9_wrong_12 : decode cX9_wrong 12 = .ok (.iload_n 1, 1) := by decide +kernel
theorem dX9_wrong_13 : decode cX9_wrong 13 = .ok (.invokevirtual 267, 3) := by decide +kernel
theorem dX9_wrong_16 : decode cX9_wrong 16 = .ok (.goto 4, 3) := by decide +kernel
theorem dX9_wrong_19 : decode cX9_wrong 19 = .ok (.iconst (-1), 1) := by decide +kernel
theorem dX9_wrong_20 : decode cX9_wrong 20 = .ok (.ireturn, 1) := by decide +kernel
theorem dX9_count_0 : decode cX9_count 0 = .ok (.iload_n 1, 1) := by decide +kernel
theorem dX9_count_1 : decode cX9_count 1 = .ok (.tableswitch 90 0 6 #[43, 48, 53, 61, 66, 74, 82], 43) := by decide +kernel
theorem dX9_count_44 : decode cX9_count 44 = .ok (.aload_n 0, 1) := by decide +kernel
theorem dX9_count_45 : decode cX9_count 45 = .ok (.getfield 18, 3) := by decide +kernel
theorem dX9_count_48 : decode cX9_count 48 = .ok (.ireturn, 1) := by decide +kernel
theorem dX9_count_49 : decode cX9_count 49 = .ok (.aload_n 0, 1) := by decide +kernel
theorem dX9_count_50 : decode cX9_count 50 = .ok (.getfield 24, 3) := by decide +kernel
theorem dX9_count_53 : decode cX9_count 53 = .ok (.ireturn, 1) := by decide +kernel
theorem dX9_count_54 : decode cX9_count 54 = .ok (.aload_n 0, 1) := by decide +kernel
theorem dX9_count_55 : decode cX9_count 55 = .ok (.getfield 27, 3) := by decide +kernel
theorem dX9_count_58 : decode cX9_count 58 = .ok (.getfield 69, 3) := by decide +kernel
theorem dX9_count_61 : decode cX9_count 61 = .ok (.ireturn, 1) := by decide +kernel
theorem dX9_count_62 : decode cX9_count 62 = .ok (.aload_n 0, 1) := by decide +kernel
theorem dX9_count_63 : decode cX9_count 63 = .ok (.getfield 72, 3) := by decide +kernel
theorem dX9_count_66 : decode cX9_count 66 = .ok (.ireturn, 1) := by decide +kernel
theorem dX9_count_67 : decode cX9_count 67 = .ok (.aload_n 0, 1) := by decide +kernel
theorem dX9_count_68 : decode cX9_count 68 = .ok (.getfield 27, 3) := by decide +kernel
theorem dX9_count_71 : decode cX9_count 71 = .ok (.getfield 162, 3) := by decide +kernel
theorem dX9_count_74 : decode cX9_count 74 = .ok (.ireturn, 1) := by decide +kernel
theorem dX9_count_75 : decode cX9_count 75 = .ok (.aload_n 0, 1) := by decide +kernel
theorem dX9_count_76 : decode cX9_count 76 = .ok (.getfield 58, 3) := by decide +kernel
theorem dX9_count_79 : decode cX9_count 79 = .ok (.invokevirtual 270, 3) := by decide +kernel
theorem dX9_count_82 : decode cX9_count 82 = .ok (.ireturn, 1) := by decide +kernel
theorem dX9_count_83 : decode cX9_count 83 = .ok (.aload_n 0, 1) := by decide +kernel
theorem dX9_count_84 : decode cX9_count 84 = .ok (.getfield 58, 3) := by decide +kernel
theorem dX9_count_87 : decode cX9_count 87 = .ok (.invokevirtual 273, 3) := by decide +kernel
theorem dX9_count_90 : decode cX9_count 90 = .ok (.ireturn, 1) := by decide +kernel
theorem dX9_count_91 : decode cX9_count 91 = .ok (.iconst (-1), 1) := by decide +kernel
theorem dX9_count_92 : decode cX9_count 92 = .ok (.ireturn, 1) := by decide +kernel
theorem dX9_keep_0 : decode cX9_keep 0 = .ok (.aload_n 0, 1) := by decide +kernel
theorem dX9_keep_1 : decode cX9_keep 1 = .ok (.iload_n 1, 1) := by decide +kernel
theorem dX9_keep_2 : decode cX9_keep 2 = .ok (.invokevirtual 276, 3) := by decide +kernel
theorem dX9_keep_5 : decode cX9_keep 5 = .ok (.astore 4, 2) := by decide +kernel
theorem dX9_keep_7 : decode cX9_keep 7 = .ok (.aload 4, 2) := by decide +kernel
theorem dX9_keep_9 : decode cX9_keep 9 = .ok (.ifnonnull 5, 3) := by decide +kernel
theorem dX9_keep_12 : decode cX9_keep 12 = .ok (.iconst (-1), 1) := by decide +kernel
theorem dX9_keep_13 : decode cX9_keep 13 = .ok (.ireturn, 1) := by decide +kernel
theorem dX9_keep_14 : decode cX9_keep 14 = .ok (.iload_n 2, 1) := by decide +kernel
theorem dX9_keep_15 : decode cX9_keep 15 = .ok (.tableswitch 64 0 4 #[33, 40, 64, 48, 56], 33) := by decide +kernel
theorem dX9_keep_48 : decode cX9_keep 48 = .ok (.aload 4, 2) := by decide +kernel
theorem dX9_keep_50 : decode cX9_keep 50 = .ok (.invokevirtual 280, 3) := by decide +kernel
theorem dX9_keep_53 : decode cX9_keep 53 = .ok (.iconst 0, 1) := by decide +kernel
theorem dX9_keep_54 : decode cX9_keep 54 = .ok (.ireturn, 1) := by decide +kernel
theorem dX9_keep_55 : decode cX9_keep 55 = .ok (.aload_n 0, 1) := by decide +kernel
theorem dX9_keep_56 : decode cX9_keep 56 = .ok (.aload 4, 2) := by decide +kernel
theorem dX9_keep_58 : decode cX9_keep 58 = .ok (.iload_n 3, 1) := by decide +kernel
theorem dX9_keep_59 : decode cX9_keep 59 = .ok (.invokevirtual 283, 3) := by decide +kernel
theorem dX9_keep_62 : decode cX9_keep 62 = .ok (.ireturn, 1) := by decide +kernel
theorem dX9_keep_63 : decode cX9_keep 63 = .ok (.aload_n 0, 1) := by decide +kernel
theorem dX9_keep_64 : decode cX9_keep 64 = .ok (.aload 4, 2) := by decide +kernel
theorem dX9_keep_66 : decode cX9_keep 66 = .ok (.iload_n 3, 1) := by decide +kernel
theorem dX9_keep_67 : decode cX9_keep 67 = .ok (.invokevirtual 287, 3) := by decide +kernel
theorem dX9_keep_70 : decode cX9_keep 70 = .ok (.ireturn, 1) := by decide +kernel
theorem dX9_keep_71 : decode cX9_keep 71 = .ok (.aload_n 0, 1) := by decide +kernel
theorem dX9_keep_72 : decode cX9_keep 72 = .ok (.aload 4, 2) := by decide +kernel
theorem dX9_keep_74 : decode cX9_keep 74 = .ok (.iload_n 3, 1) := by decide +kernel
theorem dX9_keep_75 : decode cX9_keep 75 = .ok (.invokevirtual 290, 3) := by decide +kernel
theorem dX9_keep_78 : decode cX9_keep 78 = .ok (.ireturn, 1) := by decide +kernel
theorem dX9_keep_79 : decode cX9_keep 79 = .ok (.iconst (-1), 1) := by decide +kernel
theorem dX9_keep_80 : decode cX9_keep 80 = .ok (.ireturn, 1) := by decide +kernel
theorem dX9_make_0 : decode cX9_make 0 = .ok (.aload_n 0, 1) := by decide +kernel
theorem dX9_make_1 : decode cX9_make 1 = .ok (.iload_n 1, 1) := by decide +kernel
theorem dX9_make_2 : decode cX9_make 2 = .ok (.invokevirtual 276, 3) := by decide +kernel
theorem dX9_make_5 : decode cX9_make 5 = .ok (.astore 4, 2) := by decide +kernel
theorem dX9_make_7 : decode cX9_make 7 = .ok (.aload 4, 2) := by decide +kernel
theorem dX9_make_9 : decode cX9_make 9 = .ok (.ifnull 18, 3) := by decide +kernel
theorem dX9_make_12 : decode cX9_make 12 = .ok (.iload_n 2, 1) := by decide +kernel
theorem dX9_make_13 : decode cX9_make 13 = .ok (.iconst 3, 1) := by decide +kernel
theorem dX9_make_14 : decode cX9_make 14 = .ok (.iconst 4, 1) := by decide +kernel
theorem dX9_make_15 : decode cX9_make 15 = .ok (.invokestatic 86, 3) := by decide +kernel
theorem dX9_make_18 : decode cX9_make 18 = .ok (.ifCond .eq 9, 3) := by decide +kernel
theorem dX9_make_21 : decode cX9_make 21 = .ok (.iload_n 3, 1) := by decide +kernel
theorem dX9_make_22 : decode cX9_make 22 = .ok (.bipush 60, 2) := by decide +kernel
theorem dX9_make_24 : decode cX9_make 24 = .ok (.if_icmp .le 5, 3) := by decide +kernel
theorem dX9_make_27 : decode cX9_make 27 = .ok (.iconst (-1), 1) := by decide +kernel
theorem dX9_make_28 : decode cX9_make 28 = .ok (.ireturn, 1) := by decide +kernel
theorem dX9_make_29 : decode cX9_make 29 = .ok (.iload_n 3, 1) := by decide +kernel
theorem dX9_make_30 : decode cX9_make 30 = .ok (.ifCond .ge 6, 3) := by decide +kernel
theorem dX9_make_33 : decode cX9_make 33 = .ok (.bipush (-14), 2) := by decide +kernel
theorem dX9_make_35 : decode cX9_make 35 = .ok (.ireturn, 1) := by decide +kernel
theorem dX9_make_36 : decode cX9_make 36 = .ok (.aload 4, 2) := by decide +kernel
theorem dX9_make_38 : decode cX9_make 38 = .ok (.iload_n 2, 1) := by decide +kernel
theorem dX9_make_39 : decode cX9_make 39 = .ok (.iload_n 3, 1) := by decide +kernel
theorem dX9_make_40 : decode cX9_make 40 = .ok (.invokevirtual 293, 3) := by decide +kernel
theorem dX9_make_43 : decode cX9_make 43 = .ok (.iconst 0, 1) := by decide +kernel
theorem dX9_make_44 : decode cX9_make 44 = .ok (.ireturn, 1) := by decide +kernel
theorem dX9_element_0 : decode cX9_element 0 = .ok (.aload_n 0, 1) := by decide +kernel
theorem dX9_element_1 : decode cX9_element 1 = .ok (.iload_n 1, 1) := by decide +kernel
theorem dX9_element_2 : decode cX9_element 2 = .ok (.invokevirtual 276, 3) := by decide +kernel
theorem dX9_element_5 : decode cX9_element 5 = .ok (.astore_n 3, 1) := by decide +kernel
theorem dX9_element_6 : decode cX9_element 6 = .ok (.aload_n 3, 1) := by decide +kernel
theorem dX9_element_7 : decode cX9_element 7 = .ok (.ifnonnull 14, 3) := by decide +kernel
theorem dX9_element_10 : decode cX9_element 10 = .ok (.new 134, 3) := by decide +kernel
theorem dX9_element_13 : decode cX9_element 13 = .ok (.dup, 1) := by decide +kernel
theorem dX9_element_14 : decode cX9_element 14 = .ok (.ldc_w 296, 3) := by decide +kernel
theorem dX9_element_17 : decode cX9_element 17 = .ok (.invokespecial 138, 3) := by decide +kernel
theorem dX9_element_20 : decode cX9_element 20 = .ok (.athrow, 1) := by decide +kernel
theorem dX9_element_21 : decode cX9_element 21 = .ok (.aload_n 3, 1) := by decide +kernel
theorem dX9_element_22 : decode cX9_element 22 = .ok (.invokevirtual 298, 3) := by decide +kernel
theorem dX9_element_25 : decode cX9_element 25 = .ok (.ifCond .eq 17, 3) := by decide +kernel
theorem dX9_element_28 : decode cX9_element 28 = .ok (.iload_n 2, 1) := by decide +kernel
theorem dX9_element_29 : decode cX9_element 29 = .ok (.iconst 0, 1) := by decide +kernel
theorem dX9_element_30 : decode cX9_element 30 = .ok (.aload_n 3, 1) := by decide +kernel
theorem dX9_element_31 : decode cX9_element 31 = .ok (.getfield 301, 3) := by decide +kernel
theorem dX9_element_34 : decode cX9_element 34 = .ok (.iconst 1, 1) := by decide +kernel
theorem dX9_element_35 : decode cX9_element 35 = .ok (.isub, 1) := by decide +kernel
theorem dX9_element_36 : decode cX9_element 36 = .ok (.invokestatic 86, 3) := by decide +kernel
theorem dX9_element_39 : decode cX9_element 39 = .ok (.ifCond .ne 14, 3) := by decide +kernel
theorem dX9_element_42 : decode cX9_element 42 = .ok (.new 211, 3) := by decide +kernel
theorem dX9_element_45 : decode cX9_element 45 = .ok (.dup, 1) := by decide +kernel
theorem dX9_element_46 : decode cX9_element 46 = .ok (.ldc_w 304, 3) := by decide +kernel
theorem dX9_element_49 : decode cX9_element 49 = .ok (.invokespecial 215, 3) := by decide +kernel
theorem dX9_element_52 : decode cX9_element 52 = .ok (.athrow, 1) := by decide +kernel
theorem dX9_element_53 : decode cX9_element 53 = .ok (.aload_n 3, 1) := by decide +kernel
theorem dX9_element_54 : decode cX9_element 54 = .ok (.getfield 306, 3) := by decide +kernel
theorem dX9_element_57 : decode cX9_element 57 = .ok (.iload_n 2, 1) := by decide +kernel
theorem dX9_element_58 : decode cX9_element 58 = .ok (.laload, 1) := by decide +kernel
theorem dX9_element_59 : decode cX9_element 59 = .ok (.lreturn, 1) := by decide +kernel
theorem dX9_copy_0 : decode cX9_copy 0 = .ok (.aload_n 0, 1) := by decide +kernel
theorem dX9_copy_1 : decode cX9_copy 1 = .ok (.iload_n 1, 1) := by decide +kernel
theorem dX9_copy_2 : decode cX9_copy 2 = .ok (.invokevirtual 276, 3) := by decide +kernel
theorem dX9_copy_5 : decode cX9_copy 5 = .ok (.astore 6, 2) := by decide +kernel
theorem dX9_copy_7 : decode cX9_copy 7 = .ok (.aload_n 0, 1) := by decide +kernel
theorem dX9_copy_8 : decode cX9_copy 8 = .ok (.iload_n 3, 1) := by decide +kernel
theorem dX9_copy_9 : decode cX9_copy 9 = .ok (.invokevirtual 276, 3) := by decide +kernel
theorem dX9_copy_12 : decode cX9_copy 12 = .ok (.astore 7, 2) := by decide +kernel
theorem dX9_copy_14 : decode cX9_copy 14 = .ok (.aload 6, 2) := by decide +kernel
theorem dX9_copy_16 : decode cX9_copy 16 = .ok (.ifnull 8, 3) := by decide +kernel
theorem dX9_copy_19 : decode cX9_copy 19 = .ok (.aload 7, 2) := by decide +kernel
theorem dX9_copy_21 : decode cX9_copy 21 = .ok (.ifnonnull 5, 3) := by decide +kernel
theorem dX9_copy_24 : decode cX9_copy 24 = .ok (.iconst (-1), 1) := by decide +kernel
theorem dX9_copy_25 : decode cX9_copy 25 = .ok (.ireturn, 1) := by decide +kernel
theorem dX9_copy_26 : decode cX9_copy 26 = .ok (.aload 6, 2) := by decide +kernel
theorem dX9_copy_28 : decode cX9_copy 28 = .ok (.getfield 310, 3) := by decide +kernel
theorem dX9_copy_31 : decode cX9_copy 31 = .ok (.ifCond .eq 11, 3) := by decide +kernel
theorem dX9_copy_34 : decode cX9_copy 34 = .ok (.aload 7, 2) := by decide +kernel
theorem dX9_copy_36 : decode cX9_copy 36 = .ok (.getfield 310, 3) := by decide +kernel
theorem dX9_copy_39 : decode cX9_copy 39 = .ok (.ifCond .ne 6, 3) := by decide +kernel
theorem dX9_copy_42 : decode cX9_copy 42 = .ok (.bipush (-11), 2) := by decide +kernel
theorem dX9_copy_44 : decode cX9_copy 44 = .ok (.ireturn, 1) := by decide +kernel
theorem dX9_copy_45 : decode cX9_copy 45 = .ok (.aload 6, 2) := by decide +kernel
theorem dX9_copy_47 : decode cX9_copy 47 = .ok (.invokevirtual 298, 3) := by decide +kernel
theorem dX9_copy_50 : decode cX9_copy 50 = .ok (.ifCond .eq 16, 3) := by decide +kernel
theorem dX9_copy_53 : decode cX9_copy 53 = .ok (.aload 6, 2) := by decide +kernel
theorem dX9_copy_55 : decode cX9_copy 55 = .ok (.getfield 310, 3) := by decide +kernel
theorem dX9_copy_58 : decode cX9_copy 58 = .ok (.aload 7, 2) := by decide +kernel
theorem dX9_copy_60 : decode cX9_copy 60 = .ok (.getfield 310, 3) := by decide +kernel
theorem dX9_copy_63 : decode cX9_copy 63 = .ok (.if_icmp .eq 6, 3) := by decide +kernel
theorem dX9_copy_66 : decode cX9_copy 66 = .ok (.bipush (-12), 2) := by decide +kernel
theorem dX9_copy_68 : decode cX9_copy 68 = .ok (.ireturn, 1) := by decide +kernel
theorem dX9_copy_69 : decode cX9_copy 69 = .ok (.aload 6, 2) := by decide +kernel
theorem dX9_copy_71 : decode cX9_copy 71 = .ok (.iload_n 2, 1) := by decide +kernel
theorem dX9_copy_72 : decode cX9_copy 72 = .ok (.iload 5, 2) := by decide +kernel
theorem dX9_copy_74 : decode cX9_copy 74 = .ok (.invokevirtual 313, 3) := by decide +kernel
theorem dX9_copy_77 : decode cX9_copy 77 = .ok (.ifCond .eq 15, 3) := by decide +kernel
theorem dX9_copy_80 : decode cX9_copy 80 = .ok (.aload 7, 2) := by decide +kernel
theorem dX9_copy_82 : decode cX9_copy 82 = .ok (.iload 4, 2) := by decide +kernel
theorem dX9_copy_84 : decode cX9_copy 84 = .ok (.iload 5, 2) := by decide +kernel
theorem dX9_copy_86 : decode cX9_copy 86 = .ok (.invokevirtual 313, 3) := by decide +kernel
theorem dX9_copy_89 : decode cX9_copy 89 = .ok (.ifCond .ne 6, 3) := by decide +kernel
theorem dX9_copy_92 : decode cX9_copy 92 = .ok (.bipush (-13), 2) := by decide +kernel
theorem dX9_copy_94 : decode cX9_copy 94 = .ok (.ireturn, 1) := by decide +kernel
theorem dX9_copy_95 : decode cX9_copy 95 = .ok (.aload 6, 2) := by decide +kernel
theorem dX9_copy_97 : decode cX9_copy 97 = .ok (.getfield 306, 3) := by decide +kernel
theorem dX9_copy_100 : decode cX9_copy 100 = .ok (.iload_n 2, 1) := by decide +kernel
theorem dX9_copy_101 : decode cX9_copy 101 = .ok (.aload 7, 2) := by decide +kernel
theorem dX9_copy_103 : decode cX9_copy 103 = .ok (.getfield 306, 3) := by decide +kernel
theorem dX9_copy_106 : decode cX9_copy 106 = .ok (.iload 4, 2) := by decide +kernel
theorem dX9_copy_108 : decode cX9_copy 108 = .ok (.iload 5, 2) := by decide +kernel
theorem dX9_copy_110 : decode cX9_copy 110 = .ok (.invokestatic 317, 3) := by decide +kernel
theorem dX9_copy_113 : decode cX9_copy 113 = .ok (.iload 5, 2) := by decide +kernel
theorem dX9_copy_115 : decode cX9_copy 115 = .ok (.ireturn, 1) := by decide +kernel
theorem dX9_weight_0 : decode cX9_weight 0 = .ok (.aload_n 0, 1) := by decide +kernel
theorem dX9_weight_1 : decode cX9_weight 1 = .ok (.iload_n 1, 1) := by decide +kernel
theorem dX9_weight_2 : decode cX9_weight 2 = .ok (.invokevirtual 276, 3) := by decide +kernel
theorem dX9_weight_5 : decode cX9_weight 5 = .ok (.astore_n 2, 1) := by decide +kernel
theorem dX9_weight_6 : decode cX9_weight 6 = .ok (.aload_n 2, 1) := by decide +kernel
theorem dX9_weight_7 : decode cX9_weight 7 = .ok (.invokestatic 323, 3) := by decide +kernel
theorem dX9_weight_10 : decode cX9_weight 10 = .ok (.istore_n 3, 1) := by decide +kernel
theorem dX9_weight_11 : decode cX9_weight 11 = .ok (.aload_n 2, 1) := by decide +kernel
theorem dX9_weight_12 : decode cX9_weight 12 = .ok (.ifnull 7, 3) := by decide +kernel
theorem dX9_weight_15 : decode cX9_weight 15 = .ok (.iload_n 3, 1) := by decide +kernel
theorem dX9_weight_16 : decode cX9_weight 16 = .ok (.ifCond .eq 7, 3) := by decide +kernel
theorem dX9_weight_19 : decode cX9_weight 19 = .ok (.iload_n 3, 1) := by decide +kernel
theorem dX9_weight_20 : decode cX9_weight 20 = .ok (.goto 7, 3) := by decide +kernel
theorem dX9_weight_23 : decode cX9_weight 23 = .ok (.aload_n 2, 1) := by decide +kernel
theorem dX9_weight_24 : decode cX9_weight 24 = .ok (.getfield 327, 3) := by decide +kernel
theorem dX9_weight_27 : decode cX9_weight 27 = .ok (.ireturn, 1) := by decide +kernel
theorem dX9_toss_0 : decode cX9_toss 0 = .ok (.aload_n 0, 1) := by decide +kernel
theorem dX9_toss_1 : decode cX9_toss 1 = .ok (.iload_n 1, 1) := by decide +kernel
theorem dX9_toss_2 : decode cX9_toss 2 = .ok (.invokevirtual 276, 3) := by decide +kernel
theorem dX9_toss_5 : decode cX9_toss 5 = .ok (.astore_n 2, 1) := by decide +kernel
theorem dX9_toss_6 : decode cX9_toss 6 = .ok (.aload_n 2, 1) := by decide +kernel
theorem dX9_toss_7 : decode cX9_toss 7 = .ok (.invokestatic 323, 3) := by decide +kernel
theorem dX9_toss_10 : decode cX9_toss 10 = .ok (.istore_n 3, 1) := by decide +kernel
theorem dX9_toss_11 : decode cX9_toss 11 = .ok (.aload_n 2, 1) := by decide +kernel
theorem dX9_toss_12 : decode cX9_toss 12 = .ok (.ifnull 7, 3) := by decide +kernel
theorem dX9_toss_15 : decode cX9_toss 15 = .ok (.iload_n 3, 1) := by decide +kernel
theorem dX9_toss_16 : decode cX9_toss 16 = .ok (.ifCond .eq 7, 3) := by decide +kernel
theorem dX9_toss_19 : decode cX9_toss 19 = .ok (.iload_n 3, 1) := by decide +kernel
theorem dX9_toss_20 : decode cX9_toss 20 = .ok (.goto 10, 3) := by decide +kernel
theorem dX9_toss_23 : decode cX9_toss 23 = .ok (.aload_n 2, 1) := by decide +kernel
theorem dX9_toss_24 : decode cX9_toss 24 = .ok (.getfield 330, 3) := by decide +kernel
theorem dX9_toss_27 : decode cX9_toss 27 = .ok (.invokestatic 334, 3) := by decide +kernel
theorem dX9_toss_30 : decode cX9_toss 30 = .ok (.ireturn, 1) := by decide +kernel
theorem dX9_isWithin_0 : decode cX9_isWithin 0 = .ok (.iload_n 0, 1) := by decide +kernel
theorem dX9_isWithin_1 : decode cX9_isWithin 1 = .ok (.iload_n 1, 1) := by decide +kernel
theorem dX9_isWithin_2 : decode cX9_isWithin 2 = .ok (.if_icmp .lt 12, 3) := by decide +kernel
theorem dX9_isWithin_5 : decode cX9_isWithin 5 = .ok (.iload_n 0, 1) := by decide +kernel
theorem dX9_isWithin_6 : decode cX9_isWithin 6 = .ok (.iload_n 2, 1) := by decide +kernel
theorem dX9_isWithin_7 : decode cX9_isWithin 7 = .ok (.if_icmp .gt 7, 3) := by decide +kernel
theorem dX9_isWithin_10 : decode cX9_isWithin 10 = .ok (.iconst 1, 1) := by decide +kernel
theorem dX9_isWithin_11 : decode cX9_isWithin 11 = .ok (.goto 4, 3) := by decide +kernel
theorem dX9_isWithin_14 : decode cX9_isWithin 14 = .ok (.iconst 0, 1) := by decide +kernel
theorem dX9_isWithin_15 : decode cX9_isWithin 15 = .ok (.ireturn, 1) := by decide +kernel
theorem dX9_isPerson_0 : decode cX9_isPerson 0 = .ok (.iload_n 1, 1) := by decide +kernel
theorem dX9_isPerson_1 : decode cX9_isPerson 1 = .ok (.ifCond .lt 15, 3) := by decide +kernel
theorem dX9_isPerson_4 : decode cX9_isPerson 4 = .ok (.iload_n 1, 1) := by decide +kernel
theorem dX9_isPerson_5 : decode cX9_isPerson 5 = .ok (.aload_n 0, 1) := by decide +kernel
theorem dX9_isPerson_6 : decode cX9_isPerson 6 = .ok (.getfield 18, 3) := by decide +kernel
theorem dX9_isPerson_9 : decode cX9_isPerson 9 = .ok (.if_icmp .ge 7, 3) := by decide +kernel
theorem dX9_isPerson_12 : decode cX9_isPerson 12 = .ok (.iconst 1, 1) := by decide +kernel
theorem dX9_isPerson_13 : decode cX9_isPerson 13 = .ok (.goto 4, 3) := by decide +kernel
theorem dX9_isPerson_16 : decode cX9_isPerson 16 = .ok (.iconst 0, 1) := by decide +kernel
theorem dX9_isPerson_17 : decode cX9_isPerson 17 = .ok (.ireturn, 1) := by decide +kernel
theorem dX9_isEnd_0 : decode cX9_isEnd 0 = .ok (.iload_n 1, 1) := by decide +kernel
theorem dX9_isEnd_1 : decode cX9_isEnd 1 = .ok (.ifCond .lt 15, 3) := by decide +kernel
theorem dX9_isEnd_4 : decode cX9_isEnd 4 = .ok (.iload_n 1, 1) := by decide +kernel
theorem dX9_isEnd_5 : decode cX9_isEnd 5 = .ok (.aload_n 0, 1) := by decide +kernel
theorem dX9_isEnd_6 : decode cX9_isEnd 6 = .ok (.getfield 24, 3) := by decide +kernel
theorem dX9_isEnd_9 : decode cX9_isEnd 9 = .ok (.if_icmp .ge 7, 3) := by decide +kernel
theorem dX9_isEnd_12 : decode cX9_isEnd 12 = .ok (.iconst 1, 1) := by decide +kernel
theorem dX9_isEnd_13 : decode cX9_isEnd 13 = .ok (.goto 4, 3) := by decide +kernel
theorem dX9_isEnd_16 : decode cX9_isEnd 16 = .ok (.iconst 0, 1) := by decide +kernel
theorem dX9_isEnd_17 : decode cX9_isEnd 17 = .ok (.ireturn, 1) := by decide +kernel
theorem dX9_isWish_0 : decode cX9_isWish 0 = .ok (.iload_n 1, 1) := by decide +kernel
theorem dX9_isWish_1 : decode cX9_isWish 1 = .ok (.ifCond .lt 18, 3) := by decide +kernel
theorem dX9_isWish_4 : decode cX9_isWish 4 = .ok (.iload_n 1, 1) := by decide +kernel
theorem dX9_isWish_5 : decode cX9_isWish 5 = .ok (.aload_n 0, 1) := by decide +kernel
theorem dX9_isWish_6 : decode cX9_isWish 6 = .ok (.getfield 27, 3) := by decide +kernel
theorem dX9_isWish_9 : decode cX9_isWish 9 = .ok (.getfield 69, 3) := by decide +kernel
theorem dX9_isWish_12 : decode cX9_isWish 12 = .ok (.if_icmp .ge 7, 3) := by decide +kernel
theorem dX9_isWish_15 : decode cX9_isWish 15 = .ok (.iconst 1, 1) := by decide +kernel
theorem dX9_isWish_16 : decode cX9_isWish 16 = .ok (.goto 4, 3) := by decide +kernel
theorem dX9_isWish_19 : decode cX9_isWish 19 = .ok (.iconst 0, 1) := by decide +kernel
theorem dX9_isWish_20 : decode cX9_isWish 20 = .ok (.ireturn, 1) := by decide +kernel
theorem dX9_isRow_0 : decode cX9_isRow 0 = .ok (.iload_n 1, 1) := by decide +kernel
theorem dX9_isRow_1 : decode cX9_isRow 1 = .ok (.ifCond .lt 18, 3) := by decide +kernel
theorem dX9_isRow_4 : decode cX9_isRow 4 = .ok (.iload_n 1, 1) := by decide +kernel
theorem dX9_isRow_5 : decode cX9_isRow 5 = .ok (.aload_n 0, 1) := by decide +kernel
theorem dX9_isRow_6 : decode cX9_isRow 6 = .ok (.getfield 27, 3) := by decide +kernel
theorem dX9_isRow_9 : decode cX9_isRow 9 = .ok (.getfield 162, 3) := by decide +kernel
theorem dX9_isRow_12 : decode cX9_isRow 12 = .ok (.if_icmp .ge 7, 3) := by decide +kernel
theorem dX9_isRow_15 : decode cX9_isRow 15 = .ok (.iconst 1, 1) := by decide +kernel
theorem dX9_isRow_16 : decode cX9_isRow 16 = .ok (.goto 4, 3) := by decide +kernel
theorem dX9_isRow_19 : decode cX9_isRow 19 = .ok (.iconst 0, 1) := by decide +kernel
theorem dX9_isRow_20 : decode cX9_isRow 20 = .ok (.ireturn, 1) := by decide +kernel
theorem dX9_ruleAt_0 : decode cX9_ruleAt 0 = .ok (.iload_n 1, 1) := by decide +kernel
theorem dX9_ruleAt_1 : decode cX9_ruleAt 1 = .ok (.ifCond .lt 20, 3) := by decide +kernel
theorem dX9_ruleAt_4 : decode cX9_ruleAt 4 = .ok (.iload_n 1, 1) := by decide +kernel
theorem dX9_ruleAt_5 : decode cX9_ruleAt 5 = .ok (.aload_n 0, 1) := by decide +kernel
theorem dX9_ruleAt_6 : decode cX9_ruleAt 6 = .ok (.getfield 72, 3) := by decide +kernel
theorem dX9_ruleAt_9 : decode cX9_ruleAt 9 = .ok (.if_icmp .ge 12, 3) := by decide +kernel
theorem dX9_ruleAt_12 : decode cX9_ruleAt 12 = .ok (.aload_n 0, 1) := by decide +kernel
theorem dX9_ruleAt_13 : decode cX9_ruleAt 13 = .ok (.getfield 33, 3) := by decide +kernel
theorem dX9_ruleAt_16 : decode cX9_ruleAt 16 = .ok (.iload_n 1, 1) := by decide +kernel
theorem dX9_ruleAt_17 : decode cX9_ruleAt 17 = .ok (.aaload, 1) := by decide +kernel
theorem dX9_ruleAt_18 : decode cX9_ruleAt 18 = .ok (.goto 4, 3) := by decide +kernel
theorem dX9_ruleAt_21 : decode cX9_ruleAt 21 = .ok (.aconst_null, 1) := by decide +kernel
theorem dX9_ruleAt_22 : decode cX9_ruleAt 22 = .ok (.areturn, 1) := by decide +kernel
theorem dX9_settledRule_0 : decode cX9_settledRule 0 = .ok (.aload_n 0, 1) := by decide +kernel
theorem dX9_settledRule_1 : decode cX9_settledRule 1 = .ok (.iload_n 1, 1) := by decide +kernel
theorem dX9_settledRule_2 : decode cX9_settledRule 2 = .ok (.invokevirtual 102, 3) := by decide +kernel
theorem dX9_settledRule_5 : decode cX9_settledRule 5 = .ok (.astore_n 2, 1) := by decide +kernel
theorem dX9_settledRule_6 : decode cX9_settledRule 6 = .ok (.aload_n 2, 1) := by decide +kernel
theorem dX9_settledRule_7 : decode cX9_settledRule 7 = .ok (.ifnull 27, 3) := by decide +kernel
theorem dX9_settledRule_10 : decode cX9_settledRule 10 = .ok (.iconst 0, 1) := by decide +kernel
theorem dX9_settledRule_11 : decode cX9_settledRule 11 = .ok (.istore_n 3, 1) := by decide +kernel
theorem dX9_settledRule_12 : decode cX9_settledRule 12 = .ok (.iload_n 3, 1) := by decide +kernel
theorem dX9_settledRule_13 : decode cX9_settledRule 13 = .ok (.aload_n 0, 1) := by decide +kernel
theorem dX9_settledRule_14 : decode cX9_settledRule 14 = .ok (.getfield 27, 3) := by decide +kernel
theorem dX9_settledRule_17 : decode cX9_settledRule 17 = .ok (.getfield 162, 3) := by decide +kernel
theorem dX9_settledRule_20 : decode cX9_settledRule 20 = .ok (.if_icmp .ge 14, 3) := by decide +kernel
theorem dX9_settledRule_23 : decode cX9_settledRule 23 = .ok (.aload_n 2, 1) := by decide +kernel
theorem dX9_settledRule_24 : decode cX9_settledRule 24 = .ok (.iload_n 3, 1) := by decide +kernel
theorem dX9_settledRule_25 : decode cX9_settledRule 25 = .ok (.invokevirtual 127, 3) := by decide +kernel
theorem dX9_settledRule_28 : decode cX9_settledRule 28 = .ok (.iinc 3 1, 3) := by decide +kernel
theorem dX9_settledRule_31 : decode cX9_settledRule 31 = .ok (.goto (-19), 3) := by decide +kernel
theorem dX9_settledRule_34 : decode cX9_settledRule 34 = .ok (.aload_n 2, 1) := by decide +kernel
theorem dX9_settledRule_35 : decode cX9_settledRule 35 = .ok (.areturn, 1) := by decide +kernel
theorem dX9_settleFor_0 : decode cX9_settleFor 0 = .ok (.iconst 0, 1) := by decide +kernel
theorem dX9_settleFor_1 : decode cX9_settleFor 1 = .ok (.istore 4, 2) := by decide +kernel
theorem dX9_settleFor_3 : decode cX9_settleFor 3 = .ok (.iload 4, 2) := by decide +kernel
theorem dX9_settleFor_5 : decode cX9_settleFor 5 = .ok (.aload_n 0, 1) := by decide +kernel
theorem dX9_settleFor_6 : decode cX9_settleFor 6 = .ok (.getfield 27, 3) := by decide +kernel
theorem dX9_settleFor_9 : decode cX9_settleFor 9 = .ok (.getfield 69, 3) := by decide +kernel
theorem dX9_settleFor_12 : decode cX9_settleFor 12 = .ok (.if_icmp .ge 24, 3) := by decide +kernel
theorem dX9_settleFor_15 : decode cX9_settleFor 15 = .ok (.aload_n 1, 1) := by decide +kernel
theorem dX9_settleFor_16 : decode cX9_settleFor 16 = .ok (.aload_n 0, 1) := by decide +kernel
theorem dX9_settleFor_17 : decode cX9_settleFor 17 = .ok (.getfield 27, 3) := by decide +kernel
theorem dX9_settleFor_20 : decode cX9_settleFor 20 = .ok (.iload_n 2, 1) := by decide +kernel
theorem dX9_settleFor_21 : decode cX9_settleFor 21 = .ok (.iload_n 3, 1) := by decide +kernel
theorem dX9_settleFor_22 : decode cX9_settleFor 22 = .ok (.iload 4, 2) := by decide +kernel
theorem dX9_settleFor_24 : decode cX9_settleFor 24 = .ok (.invokevirtual 144, 3) := by decide +kernel
theorem dX9_settleFor_27 : decode cX9_settleFor 27 = .ok (.invokevirtual 127, 3) := by decide +kernel
theorem dX9_settleFor_30 : decode cX9_settleFor 30 = .ok (.iinc 4 1, 3) := by decide +kernel
theorem dX9_settleFor_33 : decode cX9_settleFor 33 = .ok (.goto (-30), 3) := by decide +kernel
theorem dX9_settleFor_36 : decode cX9_settleFor 36 = .ok (.return_, 1) := by decide +kernel
theorem dX9_shelfAt_0 : decode cX9_shelfAt 0 = .ok (.iload_n 1, 1) := by decide +kernel
theorem dX9_shelfAt_1 : decode cX9_shelfAt 1 = .ok (.ifCond .lt 18, 3) := by decide +kernel
theorem dX9_shelfAt_4 : decode cX9_shelfAt 4 = .ok (.iload_n 1, 1) := by decide +kernel
theorem dX9_shelfAt_5 : decode cX9_shelfAt 5 = .ok (.bipush 8, 2) := by decide +kernel
theorem dX9_shelfAt_7 : decode cX9_shelfAt 7 = .ok (.if_icmp .ge 12, 3) := by decide +kernel
theorem dX9_shelfAt_10 : decode cX9_shelfAt 10 = .ok (.aload_n 0, 1) := by decide +kernel
theorem dX9_shelfAt_11 : decode cX9_shelfAt 11 = .ok (.getfield 64, 3) := by decide +kernel
theorem dX9_shelfAt_14 : decode cX9_shelfAt 14 = .ok (.iload_n 1, 1) := by decide +kernel
theorem dX9_shelfAt_15 : decode cX9_shelfAt 15 = .ok (.aaload, 1) := by decide +kernel
theorem dX9_shelfAt_16 : decode cX9_shelfAt 16 = .ok (.goto 4, 3) := by decide +kernel
theorem dX9_shelfAt_19 : decode cX9_shelfAt 19 = .ok (.aconst_null, 1) := by decide +kernel
theorem dX9_shelfAt_20 : decode cX9_shelfAt 20 = .ok (.areturn, 1) := by decide +kernel
theorem dX9_newRule_0 : decode cX9_newRule 0 = .ok (.iload_n 0, 1) := by decide +kernel
theorem dX9_newRule_1 : decode cX9_newRule 1 = .ok (.tableswitch 57 1 3 #[27, 37, 47], 27) := by decide +kernel
theorem dX9_newRule_28 : decode cX9_newRule 28 = .ok (.new 337, 3) := by decide +kernel
theorem dX9_newRule_31 : decode cX9_newRule 31 = .ok (.dup, 1) := by decide +kernel
theorem dX9_newRule_32 : decode cX9_newRule 32 = .ok (.iload_n 1, 1) := by decide +kernel
theorem dX9_newRule_33 : decode cX9_newRule 33 = .ok (.aload_n 2, 1) := by decide +kernel
theorem dX9_newRule_34 : decode cX9_newRule 34 = .ok (.invokespecial 339, 3) := by decide +kernel
theorem dX9_newRule_37 : decode cX9_newRule 37 = .ok (.areturn, 1) := by decide +kernel
theorem dX9_newRule_38 : decode cX9_newRule 38 = .ok (.new 342, 3) := by decide +kernel
theorem dX9_newRule_41 : decode cX9_newRule 41 = .ok (.dup, 1) := by decide +kernel
theorem dX9_newRule_42 : decode cX9_newRule 42 = .ok (.iload_n 1, 1) := by decide +kernel
theorem dX9_newRule_43 : decode cX9_newRule 43 = .ok (.aload_n 2, 1) := by decide +kernel
theorem dX9_newRule_44 : decode cX9_newRule 44 = .ok (.invokespecial 344, 3) := by decide +kernel
theorem dX9_newRule_47 : decode cX9_newRule 47 = .ok (.areturn, 1) := by decide +kernel
theorem dX9_newRule_48 : decode cX9_newRule 48 = .ok (.new 345, 3) := by decide +kernel
theorem dX9_newRule_51 : decode cX9_newRule 51 = .ok (.dup, 1) := by decide +kernel
theorem dX9_newRule_52 : decode cX9_newRule 52 = .ok (.iload_n 1, 1) := by decide +kernel
theorem dX9_newRule_53 : decode cX9_newRule 53 = .ok (.aload_n 2, 1) := by decide +kernel
theorem dX9_newRule_54 : decode cX9_newRule 54 = .ok (.invokespecial 347, 3) := by decide +kernel
theorem dX9_newRule_57 : decode cX9_newRule 57 = .ok (.areturn, 1) := by decide +kernel
theorem dX9_newRule_58 : decode cX9_newRule 58 = .ok (.new 31, 3) := by decide +kernel
theorem dX9_newRule_61 : decode cX9_newRule 61 = .ok (.dup, 1) := by decide +kernel
theorem dX9_newRule_62 : decode cX9_newRule 62 = .ok (.iload_n 1, 1) := by decide +kernel
theorem dX9_newRule_63 : decode cX9_newRule 63 = .ok (.aload_n 2, 1) := by decide +kernel
theorem dX9_newRule_64 : decode cX9_newRule 64 = .ok (.invokespecial 348, 3) := by decide +kernel
theorem dX9_newRule_67 : decode cX9_newRule 67 = .ok (.areturn, 1) := by decide +kernel
theorem dX9_add_0 : decode cX9_add 0 = .ok (.aload_n 0, 1) := by decide +kernel
theorem dX9_add_1 : decode cX9_add 1 = .ok (.getfield 33, 3) := by decide +kernel
theorem dX9_add_4 : decode cX9_add 4 = .ok (.aload_n 0, 1) := by decide +kernel
theorem dX9_add_5 : decode cX9_add 5 = .ok (.getfield 72, 3) := by decide +kernel
theorem dX9_add_8 : decode cX9_add 8 = .ok (.aload_n 1, 1) := by decide +kernel
theorem dX9_add_9 : decode cX9_add 9 = .ok (.aastore, 1) := by decide +kernel
theorem dX9_add_10 : decode cX9_add 10 = .ok (.aload_n 0, 1) := by decide +kernel
theorem dX9_add_11 : decode cX9_add 11 = .ok (.dup, 1) := by decide +kernel
theorem dX9_add_12 : decode cX9_add 12 = .ok (.getfield 72, 3) := by decide +kernel
theorem dX9_add_15 : decode cX9_add 15 = .ok (.iconst 1, 1) := by decide +kernel
theorem dX9_add_16 : decode cX9_add 16 = .ok (.iadd, 1) := by decide +kernel
theorem dX9_add_17 : decode cX9_add 17 = .ok (.putfield 72, 3) := by decide +kernel
theorem dX9_add_20 : decode cX9_add 20 = .ok (.aload_n 0, 1) := by decide +kernel
theorem dX9_add_21 : decode cX9_add 21 = .ok (.getfield 72, 3) := by decide +kernel
theorem dX9_add_24 : decode cX9_add 24 = .ok (.iconst 1, 1) := by decide +kernel
theorem dX9_add_25 : decode cX9_add 25 = .ok (.isub, 1) := by decide +kernel
theorem dX9_add_26 : decode cX9_add 26 = .ok (.ireturn, 1) := by decide +kernel
theorem dX9_pricedRule_0 : decode cX9_pricedRule 0 = .ok (.new 337, 3) := by decide +kernel
theorem dX9_pricedRule_3 : decode cX9_pricedRule 3 = .ok (.dup, 1) := by decide +kernel
theorem dX9_pricedRule_4 : decode cX9_pricedRule 4 = .ok (.aload_n 0, 1) := by decide +kernel
theorem dX9_pricedRule_5 : decode cX9_pricedRule 5 = .ok (.getfield 72, 3) := by decide +kernel
theorem dX9_pricedRule_8 : decode cX9_pricedRule 8 = .ok (.aload_n 0, 1) := by decide +kernel
theorem dX9_pricedRule_9 : decode cX9_pricedRule 9 = .ok (.getfield 27, 3) := by decide +kernel
theorem dX9_pricedRule_12 : decode cX9_pricedRule 12 = .ok (.invokespecial 339, 3) := by decide +kernel
theorem dX9_pricedRule_15 : decode cX9_pricedRule 15 = .ok (.astore_n 2, 1) := by decide +kernel
theorem dX9_pricedRule_16 : decode cX9_pricedRule 16 = .ok (.iconst 0, 1) := by decide +kernel
theorem dX9_pricedRule_17 : decode cX9_pricedRule 17 = .ok (.istore_n 3, 1) := by decide +kernel
theorem dX9_pricedRule_18 : decode cX9_pricedRule 18 = .ok (.iload_n 3, 1) := by decide +kernel
theorem dX9_pricedRule_19 : decode cX9_pricedRule 19 = .ok (.aload_n 0, 1) := by decide +kernel
theorem dX9_pricedRule_20 : decode cX9_pricedRule 20 = .ok (.getfield 27, 3) := by decide +kernel
theorem dX9_pricedRule_23 : decode cX9_pricedRule 23 = .ok (.getfield 162, 3) := by decide +kernel
theorem dX9_pricedRule_26 : decode cX9_pricedRule 26 = .ok (.if_icmp .ge 20, 3) := by decide +kernel
theorem dX9_pricedRule_29 : decode cX9_pricedRule 29 = .ok (.aload_n 2, 1) := by decide +kernel
theorem dX9_pricedRule_30 : decode cX9_pricedRule 30 = .ok (.iload_n 3, 1) := by decide +kernel
theorem dX9_pricedRule_31 : decode cX9_pricedRule 31 = .ok (.aload_n 1, 1) := by decide +kernel
theorem dX9_pricedRule_32 : decode cX9_pricedRule 32 = .ok (.iload_n 3, 1) := by decide +kernel
theorem dX9_pricedRule_33 : decode cX9_pricedRule 33 = .ok (.invokevirtual 130, 3) := by decide +kernel
theorem dX9_pricedRule_36 : decode cX9_pricedRule 36 = .ok (.invokevirtual 349, 3) := by decide +kernel
theorem dX9_pricedRule_39 : decode cX9_pricedRule 39 = .ok (.pop, 1) := by decide +kernel
theorem dX9_pricedRule_40 : decode cX9_pricedRule 40 = .ok (.iinc 3 1, 3) := by decide +kernel
theorem dX9_pricedRule_43 : decode cX9_pricedRule 43 = .ok (.goto (-25), 3) := by decide +kernel
theorem dX9_pricedRule_46 : decode cX9_pricedRule 46 = .ok (.iconst 0, 1) := by decide +kernel
theorem dX9_pricedRule_47 : decode cX9_pricedRule 47 = .ok (.istore_n 3, 1) := by decide +kernel
theorem dX9_pricedRule_48 : decode cX9_pricedRule 48 = .ok (.iload_n 3, 1) := by decide +kernel
theorem dX9_pricedRule_49 : decode cX9_pricedRule 49 = .ok (.aload_n 0, 1) := by decide +kernel
theorem dX9_pricedRule_50 : decode cX9_pricedRule 50 = .ok (.getfield 18, 3) := by decide +kernel
theorem dX9_pricedRule_53 : decode cX9_pricedRule 53 = .ok (.if_icmp .ge 51, 3) := by decide +kernel
theorem dX9_pricedRule_56 : decode cX9_pricedRule 56 = .ok (.iconst 0, 1) := by decide +kernel
theorem dX9_pricedRule_57 : decode cX9_pricedRule 57 = .ok (.istore 4, 2) := by decide +kernel
theorem dX9_pricedRule_59 : decode cX9_pricedRule 59 = .ok (.iload 4, 2) := by decide +kernel
theorem dX9_pricedRule_61 : decode cX9_pricedRule 61 = .ok (.aload_n 0, 1) := by decide +kernel
theorem dX9_pricedRule_62 : decode cX9_pricedRule 62 = .ok (.getfield 27, 3) := by decide +kernel
theorem dX9_pricedRule_65 : decode cX9_pricedRule 65 = .ok (.getfield 162, 3) := by decide +kernel
theorem dX9_pricedRule_68 : decode cX9_pricedRule 68 = .ok (.if_icmp .ge 30, 3) := by decide +kernel
theorem dX9_pricedRule_71 : decode cX9_pricedRule 71 = .ok (.aload_n 0, 1) := by decide +kernel
theorem dX9_pricedRule_72 : decode cX9_pricedRule 72 = .ok (.getfield 27, 3) := by decide +kernel
theorem dX9_pricedRule_75 : decode cX9_pricedRule 75 = .ok (.iload 4, 2) := by decide +kernel
theorem dX9_pricedRule_77 : decode cX9_pricedRule 77 = .ok (.iload_n 3, 1) := by decide +kernel
theorem dX9_pricedRule_78 : decode cX9_pricedRule 78 = .ok (.invokevirtual 149, 3) := by decide +kernel
theorem dX9_pricedRule_81 : decode cX9_pricedRule 81 = .ok (.ifCond .ne 11, 3) := by decide +kernel
theorem dX9_pricedRule_84 : decode cX9_pricedRule 84 = .ok (.aload_n 0, 1) := by decide +kernel
theorem dX9_pricedRule_85 : decode cX9_pricedRule 85 = .ok (.aload_n 2, 1) := by decide +kernel
theorem dX9_pricedRule_86 : decode cX9_pricedRule 86 = .ok (.iload 4, 2) := by decide +kernel
theorem dX9_pricedRule_88 : decode cX9_pricedRule 88 = .ok (.iload_n 3, 1) := by decide +kernel
theorem dX9_pricedRule_89 : decode cX9_pricedRule 89 = .ok (.invokevirtual 350, 3) := by decide +kernel
theorem dX9_pricedRule_92 : decode cX9_pricedRule 92 = .ok (.iinc 4 1, 3) := by decide +kernel
theorem dX9_pricedRule_95 : decode cX9_pricedRule 95 = .ok (.goto (-36), 3) := by decide +kernel
theorem dX9_pricedRule_98 : decode cX9_pricedRule 98 = .ok (.iinc 3 1, 3) := by decide +kernel
theorem dX9_pricedRule_101 : decode cX9_pricedRule 101 = .ok (.goto (-53), 3) := by decide +kernel
theorem dX9_pricedRule_104 : decode cX9_pricedRule 104 = .ok (.aload_n 2, 1) := by decide +kernel
theorem dX9_pricedRule_105 : decode cX9_pricedRule 105 = .ok (.areturn, 1) := by decide +kernel
theorem dX9_payPrices_0 : decode cX9_payPrices 0 = .ok (.aload_n 0, 1) := by decide +kernel
theorem dX9_payPrices_1 : decode cX9_payPrices 1 = .ok (.getfield 49, 3) := by decide +kernel
theorem dX9_payPrices_4 : decode cX9_payPrices 4 = .ok (.aload_n 1, 1) := by decide +kernel
theorem dX9_payPrices_5 : decode cX9_payPrices 5 = .ok (.iload_n 2, 1) := by decide +kernel
theorem dX9_payPrices_6 : decode cX9_payPrices 6 = .ok (.iload_n 3, 1) := by decide +kernel
theorem dX9_payPrices_7 : decode cX9_payPrices 7 = .ok (.invokevirtual 204, 3) := by decide +kernel
theorem dX9_payPrices_10 : decode cX9_payPrices 10 = .ok (.aload_n 0, 1) := by decide +kernel
theorem dX9_payPrices_11 : decode cX9_payPrices 11 = .ok (.getfield 49, 3) := by decide +kernel
theorem dX9_payPrices_14 : decode cX9_payPrices 14 = .ok (.invokevirtual 354, 3) := by decide +kernel
theorem dX9_payPrices_17 : decode cX9_payPrices 17 = .ok (.iconst 0, 1) := by decide +kernel
theorem dX9_payPrices_18 : decode cX9_payPrices 18 = .ok (.istore 4, 2) := by decide +kernel
theorem dX9_payPrices_20 : decode cX9_payPrices 20 = .ok (.iload 4, 2) := by decide +kernel
theorem dX9_payPrices_22 : decode cX9_payPrices 22 = .ok (.aload_n 0, 1) := by decide +kernel
theorem dX9_payPrices_23 : decode cX9_payPrices 23 = .ok (.getfield 27, 3) := by decide +kernel
theorem dX9_payPrices_26 : decode cX9_payPrices 26 = .ok (.getfield 69, 3) := by decide +kernel
theorem dX9_payPrices_29 : decode cX9_payPrices 29 = .ok (.if_icmp .ge 43, 3) := by decide +kernel
theorem dX9_payPrices_32 : decode cX9_payPrices 32 = .ok (.aload_n 0, 1) := by decide +kernel
theorem dX9_payPrices_33 : decode cX9_payPrices 33 = .ok (.getfield 27, 3) := by decide +kernel
theorem dX9_payPrices_36 : decode cX9_payPrices 36 = .ok (.iload_n 2, 1) := by decide +kernel
theorem dX9_payPrices_37 : decode cX9_payPrices 37 = .ok (.iload_n 3, 1) := by decide +kernel
theorem dX9_payPrices_38 : decode cX9_payPrices 38 = .ok (.iload 4, 2) := by decide +kernel
theorem dX9_payPrices_40 : decode cX9_payPrices 40 = .ok (.invokevirtual 144, 3) := by decide +kernel
theorem dX9_payPrices_43 : decode cX9_payPrices 43 = .ok (.istore 5, 2) := by decide +kernel
theorem dX9_payPrices_45 : decode cX9_payPrices 45 = .ok (.aload_n 1, 1) := by decide +kernel
theorem dX9_payPrices_46 : decode cX9_payPrices 46 = .ok (.iload 5, 2) := by decide +kernel
theorem dX9_payPrices_48 : decode cX9_payPrices 48 = .ok (.iload_n 3, 1) := by decide +kernel
theorem dX9_payPrices_49 : decode cX9_payPrices 49 = .ok (.aload_n 0, 1) := by decide +kernel
theorem dX9_payPrices_50 : decode cX9_payPrices 50 = .ok (.getfield 49, 3) := by decide +kernel
theorem dX9_payPrices_53 : decode cX9_payPrices 53 = .ok (.aload_n 1, 1) := by decide +kernel
theorem dX9_payPrices_54 : decode cX9_payPrices 54 = .ok (.iload 5, 2) := by decide +kernel
theorem dX9_payPrices_56 : decode cX9_payPrices 56 = .ok (.invokevirtual 357, 3) := by decide +kernel
theorem dX9_payPrices_59 : decode cX9_payPrices 59 = .ok (.invokevirtual 228, 3) := by decide +kernel
theorem dX9_payPrices_62 : decode cX9_payPrices 62 = .ok (.invokevirtual 358, 3) := by decide +kernel
theorem dX9_payPrices_65 : decode cX9_payPrices 65 = .ok (.pop, 1) := by decide +kernel
theorem dX9_payPrices_66 : decode cX9_payPrices 66 = .ok (.iinc 4 1, 3) := by decide +kernel
theorem dX9_payPrices_69 : decode cX9_payPrices 69 = .ok (.goto (-49), 3) := by decide +kernel
theorem dX9_payPrices_72 : decode cX9_payPrices 72 = .ok (.return_, 1) := by decide +kernel
theorem dX9_firstLie_0 : decode cX9_firstLie 0 = .ok (.iconst 0, 1) := by decide +kernel
theorem dX9_firstLie_1 : decode cX9_firstLie 1 = .ok (.istore_n 3, 1) := by decide +kernel
theorem dX9_firstLie_2 : decode cX9_firstLie 2 = .ok (.iload_n 3, 1) := by decide +kernel
theorem dX9_firstLie_3 : decode cX9_firstLie 3 = .ok (.aload_n 0, 1) := by decide +kernel
theorem dX9_firstLie_4 : decode cX9_firstLie 4 = .ok (.getfield 27, 3) := by decide +kernel
theorem dX9_firstLie_7 : decode cX9_firstLie 7 = .ok (.getfield 162, 3) := by decide +kernel
theorem dX9_firstLie_10 : decode cX9_firstLie 10 = .ok (.if_icmp .ge 113, 3) := by decide +kernel
theorem dX9_firstLie_13 : decode cX9_firstLie 13 = .ok (.iconst 0, 1) := by decide +kernel
theorem dX9_firstLie_14 : decode cX9_firstLie 14 = .ok (.istore 4, 2) := by decide +kernel
theorem dX9_firstLie_16 : decode cX9_firstLie 16 = .ok (.iload 4, 2) := by decide +kernel
theorem dX9_firstLie_18 : decode cX9_firstLie 18 = .ok (.aload_n 0, 1) := by decide +kernel
theorem dX9_firstLie_19 : decode cX9_firstLie 19 = .ok (.getfield 18, 3) := by decide +kernel
theorem dX9_firstLie_22 : decode cX9_firstLie 22 = .ok (.if_icmp .ge 95, 3) := by decide +kernel
theorem dX9_firstLie_25 : decode cX9_firstLie 25 = .ok (.aload_n 0, 1) := by decide +kernel
theorem dX9_firstLie_26 : decode cX9_firstLie 26 = .ok (.getfield 27, 3) := by decide +kernel
theorem dX9_firstLie_29 : decode cX9_firstLie 29 = .ok (.iload_n 3, 1) := by decide +kernel
theorem dX9_firstLie_30 : decode cX9_firstLie 30 = .ok (.iload 4, 2) := by decide +kernel
theorem dX9_firstLie_32 : decode cX9_firstLie 32 = .ok (.invokevirtual 149, 3) := by decide +kernel
theorem dX9_firstLie_35 : decode cX9_firstLie 35 = .ok (.istore 5, 2) := by decide +kernel
theorem dX9_firstLie_37 : decode cX9_firstLie 37 = .ok (.aload_n 1, 1) := by decide +kernel
theorem dX9_firstLie_38 : decode cX9_firstLie 38 = .ok (.iload_n 3, 1) := by decide +kernel
theorem dX9_firstLie_39 : decode cX9_firstLie 39 = .ok (.iload 4, 2) := by decide +kernel
theorem dX9_firstLie_41 : decode cX9_firstLie 41 = .ok (.iload 5, 2) := by decide +kernel
theorem dX9_firstLie_43 : decode cX9_firstLie 43 = .ok (.invokevirtual 152, 3) := by decide +kernel
theorem dX9_firstLie_46 : decode cX9_firstLie 46 = .ok (.istore 6, 2) := by decide +kernel
theorem dX9_firstLie_48 : decode cX9_firstLie 48 = .ok (.iconst 0, 1) := by decide +kernel
theorem dX9_firstLie_49 : decode cX9_firstLie 49 = .ok (.istore 7, 2) := by decide +kernel
theorem dX9_firstLie_51 : decode cX9_firstLie 51 = .ok (.iload 7, 2) := by decide +kernel
theorem dX9_firstLie_53 : decode cX9_firstLie 53 = .ok (.aload_n 0, 1) := by decide +kernel
theorem dX9_firstLie_54 : decode cX9_firstLie 54 = .ok (.getfield 27, 3) := by decide +kernel
theorem dX9_firstLie_57 : decode cX9_firstLie 57 = .ok (.getfield 69, 3) := by decide +kernel
theorem dX9_firstLie_60 : decode cX9_firstLie 60 = .ok (.if_icmp .ge 51, 3) := by decide +kernel
theorem dX9_firstLie_63 : decode cX9_firstLie 63 = .ok (.aload_n 1, 1) := by decide +kernel
theorem dX9_firstLie_64 : decode cX9_firstLie 64 = .ok (.aload_n 0, 1) := by decide +kernel
theorem dX9_firstLie_65 : decode cX9_firstLie 65 = .ok (.getfield 27, 3) := by decide +kernel
theorem dX9_firstLie_68 : decode cX9_firstLie 68 = .ok (.iload_n 3, 1) := by decide +kernel
theorem dX9_firstLie_69 : decode cX9_firstLie 69 = .ok (.iload 4, 2) := by decide +kernel
theorem dX9_firstLie_71 : decode cX9_firstLie 71 = .ok (.iload 7, 2) := by decide +kernel
theorem dX9_firstLie_73 : decode cX9_firstLie 73 = .ok (.invokevirtual 144, 3) := by decide +kernel
theorem dX9_firstLie_76 : decode cX9_firstLie 76 = .ok (.iload 4, 2) := by decide +kernel
theorem dX9_firstLie_78 : decode cX9_firstLie 78 = .ok (.iload 5, 2) := by decide +kernel
theorem dX9_firstLie_80 : decode cX9_firstLie 80 = .ok (.invokevirtual 152, 3) := by decide +kernel
theorem dX9_firstLie_83 : decode cX9_firstLie 83 = .ok (.iload 6, 2) := by decide +kernel
theorem dX9_firstLie_85 : decode cX9_firstLie 85 = .ok (.isub, 1) := by decide +kernel
theorem dX9_firstLie_86 : decode cX9_firstLie 86 = .ok (.istore 8, 2) := by decide +kernel
theorem dX9_firstLie_88 : decode cX9_firstLie 88 = .ok (.iload 8, 2) := by decide +kernel
theorem dX9_firstLie_90 : decode cX9_firstLie 90 = .ok (.ifCond .le 15, 3) := by decide +kernel
theorem dX9_firstLie_93 : decode cX9_firstLie 93 = .ok (.iload_n 2, 1) := by decide +kernel
theorem dX9_firstLie_94 : decode cX9_firstLie 94 = .ok (.iload_n 3, 1) := by decide +kernel
theorem dX9_firstLie_95 : decode cX9_firstLie 95 = .ok (.iload 4, 2) := by decide +kernel
theorem dX9_firstLie_97 : decode cX9_firstLie 97 = .ok (.iload 7, 2) := by decide +kernel
theorem dX9_firstLie_99 : decode cX9_firstLie 99 = .ok (.iload 8, 2) := by decide +kernel
theorem dX9_firstLie_101 : decode cX9_firstLie 101 = .ok (.invokestatic 359, 3) := by decide +kernel
theorem dX9_firstLie_104 : decode cX9_firstLie 104 = .ok (.ireturn, 1) := by decide +kernel
theorem dX9_firstLie_105 : decode cX9_firstLie 105 = .ok (.iinc 7 1, 3) := by decide +kernel
theorem dX9_firstLie_108 : decode cX9_firstLie 108 = .ok (.goto (-57), 3) := by decide +kernel
theorem dX9_firstLie_111 : decode cX9_firstLie 111 = .ok (.iinc 4 1, 3) := by decide +kernel
theorem dX9_firstLie_114 : decode cX9_firstLie 114 = .ok (.goto (-98), 3) := by decide +kernel
theorem dX9_firstLie_117 : decode cX9_firstLie 117 = .ok (.iinc 3 1, 3) := by decide +kernel
theorem dX9_firstLie_120 : decode cX9_firstLie 120 = .ok (.goto (-118), 3) := by decide +kernel
theorem dX9_firstLie_123 : decode cX9_firstLie 123 = .ok (.bipush (-2), 2) := by decide +kernel
theorem dX9_firstLie_125 : decode cX9_firstLie 125 = .ok (.ireturn, 1) := by decide +kernel
theorem dX9_partOfLie_0 : decode cX9_partOfLie 0 = .ok (.iload_n 0, 1) := by decide +kernel
theorem dX9_partOfLie_1 : decode cX9_partOfLie 1 = .ok (.tableswitch 33 0 2 #[27, 29, 31], 27) := by decide +kernel
theorem dX9_partOfLie_28 : decode cX9_partOfLie 28 = .ok (.iload_n 1, 1) := by decide +kernel
theorem dX9_partOfLie_29 : decode cX9_partOfLie 29 = .ok (.ireturn, 1) := by decide +kernel
theorem dX9_partOfLie_30 : decode cX9_partOfLie 30 = .ok (.iload_n 2, 1) := by decide +kernel
theorem dX9_partOfLie_31 : decode cX9_partOfLie 31 = .ok (.ireturn, 1) := by decide +kernel
theorem dX9_partOfLie_32 : decode cX9_partOfLie 32 = .ok (.iload_n 3, 1) := by decide +kernel
theorem dX9_partOfLie_33 : decode cX9_partOfLie 33 = .ok (.ireturn, 1) := by decide +kernel
theorem dX9_partOfLie_34 : decode cX9_partOfLie 34 = .ok (.iload 4, 2) := by decide +kernel
theorem dX9_partOfLie_36 : decode cX9_partOfLie 36 = .ok (.ireturn, 1) := by decide +kernel
theorem dX9_liesAt_0 : decode cX9_liesAt 0 = .ok (.aload_n 0, 1) := by decide +kernel
theorem dX9_liesAt_1 : decode cX9_liesAt 1 = .ok (.getfield 27, 3) := by decide +kernel
theorem dX9_liesAt_4 : decode cX9_liesAt 4 = .ok (.iload_n 2, 1) := by decide +kernel
theorem dX9_liesAt_5 : decode cX9_liesAt 5 = .ok (.iload_n 3, 1) := by decide +kernel
theorem dX9_liesAt_6 : decode cX9_liesAt 6 = .ok (.invokevirtual 149, 3) := by decide +kernel
theorem dX9_liesAt_9 : decode cX9_liesAt 9 = .ok (.istore 4, 2) := by decide +kernel
theorem dX9_liesAt_11 : decode cX9_liesAt 11 = .ok (.aload_n 1, 1) := by decide +kernel
theorem dX9_liesAt_12 : decode cX9_liesAt 12 = .ok (.iload_n 2, 1) := by decide +kernel
theorem dX9_liesAt_13 : decode cX9_liesAt 13 = .ok (.iload_n 3, 1) := by decide +kernel
theorem dX9_liesAt_14 : decode cX9_liesAt 14 = .ok (.iload 4, 2) := by decide +kernel
theorem dX9_liesAt_16 : decode cX9_liesAt 16 = .ok (.invokevirtual 152, 3) := by decide +kernel
theorem dX9_liesAt_19 : decode cX9_liesAt 19 = .ok (.istore 5, 2) := by decide +kernel
theorem dX9_liesAt_21 : decode cX9_liesAt 21 = .ok (.iconst 0, 1) := by decide +kernel
theorem dX9_liesAt_22 : decode cX9_liesAt 22 = .ok (.istore 6, 2) := by decide +kernel
theorem dX9_liesAt_24 : decode cX9_liesAt 24 = .ok (.iconst 0, 1) := by decide +kernel
theorem dX9_liesAt_25 : decode cX9_liesAt 25 = .ok (.istore 7, 2) := by decide +kernel
theorem dX9_liesAt_27 : decode cX9_liesAt 27 = .ok (.iload 7, 2) := by decide +kernel
theorem dX9_liesAt_29 : decode cX9_liesAt 29 = .ok (.aload_n 0, 1) := by decide +kernel
theorem dX9_liesAt_30 : decode cX9_liesAt 30 = .ok (.getfield 27, 3) := by decide +kernel
theorem dX9_liesAt_33 : decode cX9_liesAt 33 = .ok (.getfield 69, 3) := by decide +kernel
theorem dX9_liesAt_36 : decode cX9_liesAt 36 = .ok (.if_icmp .ge 35, 3) := by decide +kernel
theorem dX9_liesAt_39 : decode cX9_liesAt 39 = .ok (.aload_n 1, 1) := by decide +kernel
theorem dX9_liesAt_40 : decode cX9_liesAt 40 = .ok (.aload_n 0, 1) := by decide +kernel
theorem dX9_liesAt_41 : decode cX9_liesAt 41 = .ok (.getfield 27, 3) := by decide +kernel
theorem dX9_liesAt_44 : decode cX9_liesAt 44 = .ok (.iload_n 2, 1) := by decide +kernel
theorem dX9_liesAt_45 : decode cX9_liesAt 45 = .ok (.iload_n 3, 1) := by decide +kernel
theorem dX9_liesAt_46 : decode cX9_liesAt 46 = .ok (.iload 7, 2) := by decide +kernel
theorem dX9_liesAt_48 : decode cX9_liesAt 48 = .ok (.invokevirtual 144, 3) := by decide +kernel
theorem dX9_liesAt_51 : decode cX9_liesAt 51 = .ok (.iload_n 3, 1) := by decide +kernel
theorem dX9_liesAt_52 : decode cX9_liesAt 52 = .ok (.iload 4, 2) := by decide +kernel
theorem dX9_liesAt_54 : decode cX9_liesAt 54 = .ok (.invokevirtual 152, 3) := by decide +kernel
theorem dX9_liesAt_57 : decode cX9_liesAt 57 = .ok (.iload 5, 2) := by decide +kernel
theorem dX9_liesAt_59 : decode cX9_liesAt 59 = .ok (.if_icmp .le 6, 3) := by decide +kernel
theorem dX9_liesAt_62 : decode cX9_liesAt 62 = .ok (.iinc 6 1, 3) := by decide +kernel
theorem dX9_liesAt_65 : decode cX9_liesAt 65 = .ok (.iinc 7 1, 3) := by decide +kernel
theorem dX9_liesAt_68 : decode cX9_liesAt 68 = .ok (.goto (-41), 3) := by decide +kernel
theorem dX9_liesAt_71 : decode cX9_liesAt 71 = .ok (.iload 6, 2) := by decide +kernel
theorem dX9_liesAt_73 : decode cX9_liesAt 73 = .ok (.ireturn, 1) := by decide +kernel
theorem dX9_isDictator_0 : decode cX9_isDictator 0 = .ok (.iconst 0, 1) := by decide +kernel
theorem dX9_isDictator_1 : decode cX9_isDictator 1 = .ok (.istore_n 3, 1) := by decide +kernel
theorem dX9_isDictator_2 : decode cX9_isDictator 2 = .ok (.iload_n 3, 1) := by decide +kernel
theorem dX9_isDictator_3 : decode cX9_isDictator 3 = .ok (.aload_n 0, 1) := by decide +kernel
theorem dX9_isDictator_4 : decode cX9_isDictator 4 = .ok (.getfield 27, 3) := by decide +kernel
theorem dX9_isDictator_7 : decode cX9_isDictator 7 = .ok (.getfield 162, 3) := by decide +kernel
theorem dX9_isDictator_10 : decode cX9_isDictator 10 = .ok (.if_icmp .ge 35, 3) := by decide +kernel
theorem dX9_isDictator_13 : decode cX9_isDictator 13 = .ok (.aload_n 1, 1) := by decide +kernel
theorem dX9_isDictator_14 : decode cX9_isDictator 14 = .ok (.iload_n 3, 1) := by decide +kernel
theorem dX9_isDictator_15 : decode cX9_isDictator 15 = .ok (.invokevirtual 130, 3) := by decide +kernel
theorem dX9_isDictator_18 : decode cX9_isDictator 18 = .ok (.aload_n 0, 1) := by decide +kernel
theorem dX9_isDictator_19 : decode cX9_isDictator 19 = .ok (.getfield 27, 3) := by decide +kernel
theorem dX9_isDictator_22 : decode cX9_isDictator 22 = .ok (.aload_n 0, 1) := by decide +kernel
theorem dX9_isDictator_23 : decode cX9_isDictator 23 = .ok (.getfield 27, 3) := by decide +kernel
theorem dX9_isDictator_26 : decode cX9_isDictator 26 = .ok (.iload_n 3, 1) := by decide +kernel
theorem dX9_isDictator_27 : decode cX9_isDictator 27 = .ok (.iload_n 2, 1) := by decide +kernel
theorem dX9_isDictator_28 : decode cX9_isDictator 28 = .ok (.invokevirtual 149, 3) := by decide +kernel
theorem dX9_isDictator_31 : decode cX9_isDictator 31 = .ok (.invokevirtual 363, 3) := by decide +kernel
theorem dX9_isDictator_34 : decode cX9_isDictator 34 = .ok (.if_icmp .eq 5, 3) := by decide +kernel
theorem dX9_isDictator_37 : decode cX9_isDictator 37 = .ok (.iconst 0, 1) := by decide +kernel
theorem dX9_isDictator_38 : decode cX9_isDictator 38 = .ok (.ireturn, 1) := by decide +kernel
theorem dX9_isDictator_39 : decode cX9_isDictator 39 = .ok (.iinc 3 1, 3) := by decide +kernel
theorem dX9_isDictator_42 : decode cX9_isDictator 42 = .ok (.goto (-40), 3) := by decide +kernel
theorem dX9_isDictator_45 : decode cX9_isDictator 45 = .ok (.iconst 1, 1) := by decide +kernel
theorem dX9_isDictator_46 : decode cX9_isDictator 46 = .ok (.ireturn, 1) := by decide +kernel
theorem dX9_paidByAll_0 : decode cX9_paidByAll 0 = .ok (.iconst 0, 1) := by decide +kernel
theorem dX9_paidByAll_1 : decode cX9_paidByAll 1 = .ok (.istore_n 3, 1) := by decide +kernel
theorem dX9_paidByAll_2 : decode cX9_paidByAll 2 = .ok (.iconst 0, 1) := by decide +kernel
theorem dX9_paidByAll_3 : decode cX9_paidByAll 3 = .ok (.istore 4, 2) := by decide +kernel
theorem dX9_paidByAll_5 : decode cX9_paidByAll 5 = .ok (.iload 4, 2) := by decide +kernel
theorem dX9_paidByAll_7 : decode cX9_paidByAll 7 = .ok (.aload_n 0, 1) := by decide +kernel
theorem dX9_paidByAll_8 : decode cX9_paidByAll 8 = .ok (.getfield 18, 3) := by decide +kernel
theorem dX9_paidByAll_11 : decode cX9_paidByAll 11 = .ok (.if_icmp .ge 19, 3) := by decide +kernel
theorem dX9_paidByAll_14 : decode cX9_paidByAll 14 = .ok (.iload_n 3, 1) := by decide +kernel
theorem dX9_paidByAll_15 : decode cX9_paidByAll 15 = .ok (.aload_n 1, 1) := by decide +kernel
theorem dX9_paidByAll_16 : decode cX9_paidByAll 16 = .ok (.iload_n 2, 1) := by decide +kernel
theorem dX9_paidByAll_17 : decode cX9_paidByAll 17 = .ok (.iload 4, 2) := by decide +kernel
theorem dX9_paidByAll_19 : decode cX9_paidByAll 19 = .ok (.invokevirtual 141, 3) := by decide +kernel
theorem dX9_paidByAll_22 : decode cX9_paidByAll 22 = .ok (.iadd, 1) := by decide +kernel
theorem dX9_paidByAll_23 : decode cX9_paidByAll 23 = .ok (.istore_n 3, 1) := by decide +kernel
theorem dX9_paidByAll_24 : decode cX9_paidByAll 24 = .ok (.iinc 4 1, 3) := by decide +kernel
theorem dX9_paidByAll_27 : decode cX9_paidByAll 27 = .ok (.goto (-22), 3) := by decide +kernel
theorem dX9_paidByAll_30 : decode cX9_paidByAll 30 = .ok (.iload_n 3, 1) := by decide +kernel
theorem dX9_paidByAll_31 : decode cX9_paidByAll 31 = .ok (.ireturn, 1) := by decide +kernel
theorem dX9_isSameAt_0 : decode cX9_isSameAt 0 = .ok (.aload_n 1, 1) := by decide +kernel
theorem dX9_isSameAt_1 : decode cX9_isSameAt 1 = .ok (.iload_n 3, 1) := by decide +kernel
theorem dX9_isSameAt_2 : decode cX9_isSameAt 2 = .ok (.invokevirtual 130, 3) := by decide +kernel
theorem dX9_isSameAt_5 : decode cX9_isSameAt 5 = .ok (.aload_n 2, 1) := by decide +kernel
theorem dX9_isSameAt_6 : decode cX9_isSameAt 6 = .ok (.iload_n 3, 1) := by decide +kernel
theorem dX9_isSameAt_7 : decode cX9_isSameAt 7 = .ok (.invokevirtual 130, 3) := by decide +kernel
theorem dX9_isSameAt_10 : decode cX9_isSameAt 10 = .ok (.if_icmp .eq 5, 3) := by decide +kernel
theorem dX9_isSameAt_13 : decode cX9_isSameAt 13 = .ok (.iconst 0, 1) := by decide +kernel
theorem dX9_isSameAt_14 : decode cX9_isSameAt 14 = .ok (.ireturn, 1) := by decide +kernel
theorem dX9_isSameAt_15 : decode cX9_isSameAt 15 = .ok (.iconst 0, 1) := by decide +kernel
theorem dX9_isSameAt_16 : decode cX9_isSameAt 16 = .ok (.istore 4, 2) := by decide +kernel
theorem dX9_isSameAt_18 : decode cX9_isSameAt 18 = .ok (.iload 4, 2) := by decide +kernel
theorem dX9_isSameAt_20 : decode cX9_isSameAt 20 = .ok (.aload_n 0, 1) := by decide +kernel
theorem dX9_isSameAt_21 : decode cX9_isSameAt 21 = .ok (.getfield 18, 3) := by decide +kernel
theorem dX9_isSameAt_24 : decode cX9_isSameAt 24 = .ok (.if_icmp .ge 28, 3) := by decide +kernel
theorem dX9_isSameAt_27 : decode cX9_isSameAt 27 = .ok (.aload_n 1, 1) := by decide +kernel
theorem dX9_isSameAt_28 : decode cX9_isSameAt 28 = .ok (.iload_n 3, 1) := by decide +kernel
theorem dX9_isSameAt_29 : decode cX9_isSameAt 29 = .ok (.iload 4, 2) := by decide +kernel
theorem dX9_isSameAt_31 : decode cX9_isSameAt 31 = .ok (.invokevirtual 141, 3) := by decide +kernel
theorem dX9_isSameAt_34 : decode cX9_isSameAt 34 = .ok (.aload_n 2, 1) := by decide +kernel
theorem dX9_isSameAt_35 : decode cX9_isSameAt 35 = .ok (.iload_n 3, 1) := by decide +kernel
theorem dX9_isSameAt_36 : decode cX9_isSameAt 36 = .ok (.iload 4, 2) := by decide +kernel
theorem dX9_isSameAt_38 : decode cX9_isSameAt 38 = .ok (.invokevirtual 141, 3) := by decide +kernel
theorem dX9_isSameAt_41 : decode cX9_isSameAt 41 = .ok (.if_icmp .eq 5, 3) := by decide +kernel
theorem dX9_isSameAt_44 : decode cX9_isSameAt 44 = .ok (.iconst 0, 1) := by decide +kernel
theorem dX9_isSameAt_45 : decode cX9_isSameAt 45 = .ok (.ireturn, 1) := by decide +kernel
theorem dX9_isSameAt_46 : decode cX9_isSameAt 46 = .ok (.iinc 4 1, 3) := by decide +kernel
theorem dX9_isSameAt_49 : decode cX9_isSameAt 49 = .ok (.goto (-31), 3) := by decide +kernel
theorem dX9_isSameAt_52 : decode cX9_isSameAt 52 = .ok (.iconst 1, 1) := by decide +kernel
theorem dX9_isSameAt_53 : decode cX9_isSameAt 53 = .ok (.ireturn, 1) := by decide +kernel
theorem dX9_isFairAt_0 : decode cX9_isFairAt 0 = .ok (.aload_n 1, 1) := by decide +kernel
theorem dX9_isFairAt_1 : decode cX9_isFairAt 1 = .ok (.iload_n 2, 1) := by decide +kernel
theorem dX9_isFairAt_2 : decode cX9_isFairAt 2 = .ok (.invokevirtual 130, 3) := by decide +kernel
theorem dX9_isFairAt_5 : decode cX9_isFairAt 5 = .ok (.istore_n 3, 1) := by decide +kernel
theorem dX9_isFairAt_6 : decode cX9_isFairAt 6 = .ok (.iconst 0, 1) := by decide +kernel
theorem dX9_isFairAt_7 : decode cX9_isFairAt 7 = .ok (.istore 4, 2) := by decide +kernel
theorem dX9_isFairAt_9 : decode cX9_isFairAt 9 = .ok (.iload 4, 2) := by decide +kernel
theorem dX9_isFairAt_11 : decode cX9_isFairAt 11 = .ok (.iconst 1, 1) := by decide +kernel
theorem dX9_isFairAt_12 : decode cX9_isFairAt 12 = .ok (.iadd, 1) := by decide +kernel
theorem dX9_isFairAt_13 : decode cX9_isFairAt 13 = .ok (.aload_n 0, 1) := by decide +kernel
theorem dX9_isFairAt_14 : decode cX9_isFairAt 14 = .ok (.getfield 18, 3) := by decide +kernel
theorem dX9_isFairAt_17 : decode cX9_isFairAt 17 = .ok (.if_icmp .ge 74, 3) := by decide +kernel
theorem dX9_isFairAt_20 : decode cX9_isFairAt 20 = .ok (.aload_n 0, 1) := by decide +kernel
theorem dX9_isFairAt_21 : decode cX9_isFairAt 21 = .ok (.getfield 27, 3) := by decide +kernel
theorem dX9_isFairAt_24 : decode cX9_isFairAt 24 = .ok (.iload_n 2, 1) := by decide +kernel
theorem dX9_isFairAt_25 : decode cX9_isFairAt 25 = .ok (.iload 4, 2) := by decide +kernel
theorem dX9_isFairAt_27 : decode cX9_isFairAt 27 = .ok (.invokevirtual 149, 3) := by decide +kernel
theorem dX9_isFairAt_30 : decode cX9_isFairAt 30 = .ok (.istore 5, 2) := by decide +kernel
theorem dX9_isFairAt_32 : decode cX9_isFairAt 32 = .ok (.aload_n 0, 1) := by decide +kernel
theorem dX9_isFairAt_33 : decode cX9_isFairAt 33 = .ok (.getfield 27, 3) := by decide +kernel
theorem dX9_isFairAt_36 : decode cX9_isFairAt 36 = .ok (.iload_n 2, 1) := by decide +kernel
theorem dX9_isFairAt_37 : decode cX9_isFairAt 37 = .ok (.iload 4, 2) := by decide +kernel
theorem dX9_isFairAt_39 : decode cX9_isFairAt 39 = .ok (.iconst 1, 1) := by decide +kernel
theorem dX9_isFairAt_40 : decode cX9_isFairAt 40 = .ok (.iadd, 1) := by decide +kernel
theorem dX9_isFairAt_41 : decode cX9_isFairAt 41 = .ok (.invokevirtual 149, 3) := by decide +kernel
theorem dX9_isFairAt_44 : decode cX9_isFairAt 44 = .ok (.istore 6, 2) := by decide +kernel
theorem dX9_isFairAt_46 : decode cX9_isFairAt 46 = .ok (.aload_n 0, 1) := by decide +kernel
theorem dX9_isFairAt_47 : decode cX9_isFairAt 47 = .ok (.getfield 27, 3) := by decide +kernel
theorem dX9_isFairAt_50 : decode cX9_isFairAt 50 = .ok (.iload_n 2, 1) := by decide +kernel
theorem dX9_isFairAt_51 : decode cX9_isFairAt 51 = .ok (.iload 4, 2) := by decide +kernel
theorem dX9_isFairAt_53 : decode cX9_isFairAt 53 = .ok (.iload 6, 2) := by decide +kernel
theorem dX9_isFairAt_55 : decode cX9_isFairAt 55 = .ok (.invokevirtual 144, 3) := by decide +kernel
theorem dX9_isFairAt_58 : decode cX9_isFairAt 58 = .ok (.istore 7, 2) := by decide +kernel
theorem dX9_isFairAt_60 : decode cX9_isFairAt 60 = .ok (.aload_n 1, 1) := by decide +kernel
theorem dX9_isFairAt_61 : decode cX9_isFairAt 61 = .ok (.aload_n 0, 1) := by decide +kernel
theorem dX9_isFairAt_62 : decode cX9_isFairAt 62 = .ok (.getfield 27, 3) := by decide +kernel
theorem dX9_isFairAt_65 : decode cX9_isFairAt 65 = .ok (.iload 7, 2) := by decide +kernel
theorem dX9_isFairAt_67 : decode cX9_isFairAt 67 = .ok (.iload 4, 2) := by decide +kernel
theorem dX9_isFairAt_69 : decode cX9_isFairAt 69 = .ok (.iconst 1, 1) := by decide +kernel
theorem dX9_isFairAt_70 : decode cX9_isFairAt 70 = .ok (.iadd, 1) := by decide +kernel
theorem dX9_isFairAt_71 : decode cX9_isFairAt 71 = .ok (.iload 5, 2) := by decide +kernel
theorem dX9_isFairAt_73 : decode cX9_isFairAt 73 = .ok (.invokevirtual 144, 3) := by decide +kernel
theorem dX9_isFairAt_76 : decode cX9_isFairAt 76 = .ok (.invokevirtual 130, 3) := by decide +kernel
theorem dX9_isFairAt_79 : decode cX9_isFairAt 79 = .ok (.iload_n 3, 1) := by decide +kernel
theorem dX9_isFairAt_80 : decode cX9_isFairAt 80 = .ok (.if_icmp .eq 5, 3) := by decide +kernel
theorem dX9_isFairAt_83 : decode cX9_isFairAt 83 = .ok (.iconst 0, 1) := by decide +kernel
theorem dX9_isFairAt_84 : decode cX9_isFairAt 84 = .ok (.ireturn, 1) := by decide +kernel
theorem dX9_isFairAt_85 : decode cX9_isFairAt 85 = .ok (.iinc 4 1, 3) := by decide +kernel
theorem dX9_isFairAt_88 : decode cX9_isFairAt 88 = .ok (.goto (-79), 3) := by decide +kernel
theorem dX9_isFairAt_91 : decode cX9_isFairAt 91 = .ok (.iconst 1, 1) := by decide +kernel
theorem dX9_isFairAt_92 : decode cX9_isFairAt 92 = .ok (.ireturn, 1) := by decide +kernel
theorem dX9_firstRound_0 : decode cX9_firstRound 0 = .ok (.iconst 0, 1) := by decide +kernel
theorem dX9_firstRound_1 : decode cX9_firstRound 1 = .ok (.istore_n 3, 1) := by decide +kernel
theorem dX9_firstRound_2 : decode cX9_firstRound 2 = .ok (.iload_n 3, 1) := by decide +kernel
theorem dX9_firstRound_3 : decode cX9_firstRound 3 = .ok (.aload_n 0, 1) := by decide +kernel
theorem dX9_firstRound_4 : decode cX9_firstRound 4 = .ok (.getfield 18, 3) := by decide +kernel
theorem dX9_firstRound_7 : decode cX9_firstRound 7 = .ok (.if_icmp .ge 63, 3) := by decide +kernel
theorem dX9_firstRound_10 : decode cX9_firstRound 10 = .ok (.iconst 0, 1) := by decide +kernel
theorem dX9_firstRound_11 : decode cX9_firstRound 11 = .ok (.istore 4, 2) := by decide +kernel
theorem dX9_firstRound_13 : decode cX9_firstRound 13 = .ok (.iload 4, 2) := by decide +kernel
theorem dX9_firstRound_15 : decode cX9_firstRound 15 = .ok (.aload_n 0, 1) := by decide +kernel
theorem dX9_firstRound_16 : decode cX9_firstRound 16 = .ok (.getfield 27, 3) := by decide +kernel
theorem dX9_firstRound_19 : decode cX9_firstRound 19 = .ok (.getfield 162, 3) := by decide +kernel
theorem dX9_firstRound_22 : decode cX9_firstRound 22 = .ok (.if_icmp .ge 42, 3) := by decide +kernel
theorem dX9_firstRound_25 : decode cX9_firstRound 25 = .ok (.aload_n 0, 1) := by decide +kernel
theorem dX9_firstRound_26 : decode cX9_firstRound 26 = .ok (.getfield 27, 3) := by decide +kernel
theorem dX9_firstRound_29 : decode cX9_firstRound 29 = .ok (.iload 4, 2) := by decide +kernel
theorem dX9_firstRound_31 : decode cX9_firstRound 31 = .ok (.iload_n 3, 1) := by decide +kernel
theorem dX9_firstRound_32 : decode cX9_firstRound 32 = .ok (.invokevirtual 149, 3) := by decide +kernel
theorem dX9_firstRound_35 : decode cX9_firstRound 35 = .ok (.ifCond .ne 23, 3) := by decide +kernel
theorem dX9_firstRound_38 : decode cX9_firstRound 38 = .ok (.aload_n 0, 1) := by decide +kernel
theorem dX9_firstRound_39 : decode cX9_firstRound 39 = .ok (.aload_n 1, 1) := by decide +kernel
theorem dX9_firstRound_40 : decode cX9_firstRound 40 = .ok (.iload 4, 2) := by decide +kernel
theorem dX9_firstRound_42 : decode cX9_firstRound 42 = .ok (.iload_n 3, 1) := by decide +kernel
theorem dX9_firstRound_43 : decode cX9_firstRound 43 = .ok (.invokevirtual 366, 3) := by decide +kernel
theorem dX9_firstRound_46 : decode cX9_firstRound 46 = .ok (.ifCond .eq 12, 3) := by decide +kernel
theorem dX9_firstRound_49 : decode cX9_firstRound 49 = .ok (.aload_n 0, 1) := by decide +kernel
theorem dX9_firstRound_50 : decode cX9_firstRound 50 = .ok (.iload_n 2, 1) := by decide +kernel
theorem dX9_firstRound_51 : decode cX9_firstRound 51 = .ok (.iload_n 3, 1) := by decide +kernel
theorem dX9_firstRound_52 : decode cX9_firstRound 52 = .ok (.iload 4, 2) := by decide +kernel
theorem dX9_firstRound_54 : decode cX9_firstRound 54 = .ok (.invokevirtual 370, 3) := by decide +kernel
theorem dX9_firstRound_57 : decode cX9_firstRound 57 = .ok (.ireturn, 1) := by decide +kernel
theorem dX9_firstRound_58 : decode cX9_firstRound 58 = .ok (.iinc 4 1, 3) := by decide +kernel
theorem dX9_firstRound_61 : decode cX9_firstRound 61 = .ok (.goto (-48), 3) := by decide +kernel
theorem dX9_firstRound_64 : decode cX9_firstRound 64 = .ok (.iinc 3 1, 3) := by decide +kernel
theorem dX9_firstRound_67 : decode cX9_firstRound 67 = .ok (.goto (-65), 3) := by decide +kernel
theorem dX9_firstRound_70 : decode cX9_firstRound 70 = .ok (.bipush (-2), 2) := by decide +kernel
theorem dX9_firstRound_72 : decode cX9_firstRound 72 = .ok (.ireturn, 1) := by decide +kernel
theorem dX9_isRoundAt_0 : decode cX9_isRoundAt 0 = .ok (.aload_n 0, 1) := by decide +kernel
theorem dX9_isRoundAt_1 : decode cX9_isRoundAt 1 = .ok (.getfield 49, 3) := by decide +kernel
theorem dX9_isRoundAt_4 : decode cX9_isRoundAt 4 = .ok (.aload_n 1, 1) := by decide +kernel
theorem dX9_isRoundAt_5 : decode cX9_isRoundAt 5 = .ok (.iload_n 2, 1) := by decide +kernel
theorem dX9_isRoundAt_6 : decode cX9_isRoundAt 6 = .ok (.iload_n 3, 1) := by decide +kernel
theorem dX9_isRoundAt_7 : decode cX9_isRoundAt 7 = .ok (.invokevirtual 204, 3) := by decide +kernel
theorem dX9_isRoundAt_10 : decode cX9_isRoundAt 10 = .ok (.aload_n 0, 1) := by decide +kernel
theorem dX9_isRoundAt_11 : decode cX9_isRoundAt 11 = .ok (.getfield 49, 3) := by decide +kernel
theorem dX9_isRoundAt_14 : decode cX9_isRoundAt 14 = .ok (.invokevirtual 222, 3) := by decide +kernel
theorem dX9_isRoundAt_17 : decode cX9_isRoundAt 17 = .ok (.ireturn, 1) := by decide +kernel
theorem dX9_partOfRound_0 : decode cX9_partOfRound 0 = .ok (.iload_n 1, 1) := by decide +kernel
theorem dX9_partOfRound_1 : decode cX9_partOfRound 1 = .ok (.lookupswitch 31 #[(0, 27), (1, 29)], 27) := by decide +kernel
theorem dX9_partOfRound_28 : decode cX9_partOfRound 28 = .ok (.iload_n 2, 1) := by decide +kernel
theorem dX9_partOfRound_29 : decode cX9_partOfRound 29 = .ok (.ireturn, 1) := by decide +kernel
theorem dX9_partOfRound_30 : decode cX9_partOfRound 30 = .ok (.iload_n 3, 1) := by decide +kernel
theorem dX9_partOfRound_31 : decode cX9_partOfRound 31 = .ok (.ireturn, 1) := by decide +kernel
theorem dX9_partOfRound_32 : decode cX9_partOfRound 32 = .ok (.aload_n 0, 1) := by decide +kernel
theorem dX9_partOfRound_33 : decode cX9_partOfRound 33 = .ok (.getfield 49, 3) := by decide +kernel
theorem dX9_partOfRound_36 : decode cX9_partOfRound 36 = .ok (.invokevirtual 373, 3) := by decide +kernel
theorem dX9_partOfRound_39 : decode cX9_partOfRound 39 = .ok (.ineg, 1) := by decide +kernel
theorem dX9_partOfRound_40 : decode cX9_partOfRound 40 = .ok (.ireturn, 1) := by decide +kernel
theorem dX9_keepRule_0 : decode cX9_keepRule 0 = .ok (.aload_n 0, 1) := by decide +kernel
theorem dX9_keepRule_1 : decode cX9_keepRule 1 = .ok (.iload_n 2, 1) := by decide +kernel
theorem dX9_keepRule_2 : decode cX9_keepRule 2 = .ok (.invokevirtual 102, 3) := by decide +kernel
theorem dX9_keepRule_5 : decode cX9_keepRule 5 = .ok (.astore_n 3, 1) := by decide +kernel
theorem dX9_keepRule_6 : decode cX9_keepRule 6 = .ok (.aload_n 3, 1) := by decide +kernel
theorem dX9_keepRule_7 : decode cX9_keepRule 7 = .ok (.ifnonnull 5, 3) := by decide +kernel
theorem dX9_keepRule_10 : decode cX9_keepRule 10 = .ok (.iconst (-1), 1) := by decide +kernel
theorem dX9_keepRule_11 : decode cX9_keepRule 11 = .ok (.ireturn, 1) := by decide +kernel
theorem dX9_keepRule_12 : decode cX9_keepRule 12 = .ok (.aload_n 1, 1) := by decide +kernel
theorem dX9_keepRule_13 : decode cX9_keepRule 13 = .ok (.aload_n 3, 1) := by decide +kernel
theorem dX9_keepRule_14 : decode cX9_keepRule 14 = .ok (.invokevirtual 376, 3) := by decide +kernel
theorem dX9_keepRule_17 : decode cX9_keepRule 17 = .ok (.iconst 0, 1) := by decide +kernel
theorem dX9_keepRule_18 : decode cX9_keepRule 18 = .ok (.ireturn, 1) := by decide +kernel
theorem dX9_keepEnds_0 : decode cX9_keepEnds 0 = .ok (.aload_n 0, 1) := by decide +kernel
theorem dX9_keepEnds_1 : decode cX9_keepEnds 1 = .ok (.iload_n 2, 1) := by decide +kernel
theorem dX9_keepEnds_2 : decode cX9_keepEnds 2 = .ok (.invokevirtual 102, 3) := by decide +kernel
theorem dX9_keepEnds_5 : decode cX9_keepEnds 5 = .ok (.astore_n 3, 1) := by decide +kernel
theorem dX9_keepEnds_6 : decode cX9_keepEnds 6 = .ok (.aload_n 3, 1) := by decide +kernel
theorem dX9_keepEnds_7 : decode cX9_keepEnds 7 = .ok (.ifnonnull 5, 3) := by decide +kernel
theorem dX9_keepEnds_10 : decode cX9_keepEnds 10 = .ok (.iconst (-1), 1) := by decide +kernel
theorem dX9_keepEnds_11 : decode cX9_keepEnds 11 = .ok (.ireturn, 1) := by decide +kernel
theorem dX9_keepEnds_12 : decode cX9_keepEnds 12 = .ok (.aload_n 1, 1) := by decide +kernel
theorem dX9_keepEnds_13 : decode cX9_keepEnds 13 = .ok (.iconst 3, 1) := by decide +kernel
theorem dX9_keepEnds_14 : decode cX9_keepEnds 14 = .ok (.bipush 60, 2) := by decide +kernel
theorem dX9_keepEnds_16 : decode cX9_keepEnds 16 = .ok (.aload_n 0, 1) := by decide +kernel
theorem dX9_keepEnds_17 : decode cX9_keepEnds 17 = .ok (.getfield 27, 3) := by decide +kernel
theorem dX9_keepEnds_20 : decode cX9_keepEnds 20 = .ok (.getfield 162, 3) := by decide +kernel
theorem dX9_keepEnds_23 : decode cX9_keepEnds 23 = .ok (.invokestatic 192, 3) := by decide +kernel
theorem dX9_keepEnds_26 : decode cX9_keepEnds 26 = .ok (.invokevirtual 293, 3) := by decide +kernel
theorem dX9_keepEnds_29 : decode cX9_keepEnds 29 = .ok (.iconst 0, 1) := by decide +kernel
theorem dX9_keepEnds_30 : decode cX9_keepEnds 30 = .ok (.istore 4, 2) := by decide +kernel
theorem dX9_keepEnds_32 : decode cX9_keepEnds 32 = .ok (.iload 4, 2) := by decide +kernel
theorem dX9_keepEnds_34 : decode cX9_keepEnds 34 = .ok (.aload_n 1, 1) := by decide +kernel
theorem dX9_keepEnds_35 : decode cX9_keepEnds 35 = .ok (.getfield 301, 3) := by decide +kernel
theorem dX9_keepEnds_38 : decode cX9_keepEnds 38 = .ok (.if_icmp .ge 29, 3) := by decide +kernel
theorem dX9_keepEnds_41 : decode cX9_keepEnds 41 = .ok (.aload_n 3, 1) := by decide +kernel
theorem dX9_keepEnds_42 : decode cX9_keepEnds 42 = .ok (.iload 4, 2) := by decide +kernel
theorem dX9_keepEnds_44 : decode cX9_keepEnds 44 = .ok (.invokevirtual 127, 3) := by decide +kernel
theorem dX9_keepEnds_47 : decode cX9_keepEnds 47 = .ok (.aload_n 1, 1) := by decide +kernel
theorem dX9_keepEnds_48 : decode cX9_keepEnds 48 = .ok (.getfield 306, 3) := by decide +kernel
theorem dX9_keepEnds_51 : decode cX9_keepEnds 51 = .ok (.iload 4, 2) := by decide +kernel
theorem dX9_keepEnds_53 : decode cX9_keepEnds 53 = .ok (.aload_n 3, 1) := by decide +kernel
theorem dX9_keepEnds_54 : decode cX9_keepEnds 54 = .ok (.iload 4, 2) := by decide +kernel
theorem dX9_keepEnds_56 : decode cX9_keepEnds 56 = .ok (.invokevirtual 130, 3) := by decide +kernel
theorem dX9_keepEnds_59 : decode cX9_keepEnds 59 = .ok (.i2l, 1) := by decide +kernel
theorem dX9_keepEnds_60 : decode cX9_keepEnds 60 = .ok (.lastore, 1) := by decide +kernel
theorem dX9_keepEnds_61 : decode cX9_keepEnds 61 = .ok (.iinc 4 1, 3) := by decide +kernel
theorem dX9_keepEnds_64 : decode cX9_keepEnds 64 = .ok (.goto (-32), 3) := by decide +kernel
theorem dX9_keepEnds_67 : decode cX9_keepEnds 67 = .ok (.iconst 0, 1) := by decide +kernel
theorem dX9_keepEnds_68 : decode cX9_keepEnds 68 = .ok (.ireturn, 1) := by decide +kernel
theorem dX9_keepNumbers_0 : decode cX9_keepNumbers 0 = .ok (.aload_n 0, 1) := by decide +kernel
theorem dX9_keepNumbers_1 : decode cX9_keepNumbers 1 = .ok (.iload_n 2, 1) := by decide +kernel
theorem dX9_keepNumbers_2 : decode cX9_keepNumbers 2 = .ok (.invokevirtual 79, 3) := by decide +kernel
theorem dX9_keepNumbers_5 : decode cX9_keepNumbers 5 = .ok (.ifCond .ne 5, 3) := by decide +kernel
theorem dX9_keepNumbers_8 : decode cX9_keepNumbers 8 = .ok (.iconst (-1), 1) := by decide +kernel
theorem dX9_keepNumbers_9 : decode cX9_keepNumbers 9 = .ok (.ireturn, 1) := by decide +kernel
theorem dX9_keepNumbers_10 : decode cX9_keepNumbers 10 = .ok (.aload_n 1, 1) := by decide +kernel
theorem dX9_keepNumbers_11 : decode cX9_keepNumbers 11 = .ok (.iconst 4, 1) := by decide +kernel
theorem dX9_keepNumbers_12 : decode cX9_keepNumbers 12 = .ok (.aload_n 0, 1) := by decide +kernel
theorem dX9_keepNumbers_13 : decode cX9_keepNumbers 13 = .ok (.getfield 24, 3) := by decide +kernel
theorem dX9_keepNumbers_16 : decode cX9_keepNumbers 16 = .ok (.invokevirtual 293, 3) := by decide +kernel
theorem dX9_keepNumbers_19 : decode cX9_keepNumbers 19 = .ok (.iconst 0, 1) := by decide +kernel
theorem dX9_keepNumbers_20 : decode cX9_keepNumbers 20 = .ok (.istore_n 3, 1) := by decide +kernel
theorem dX9_keepNumbers_21 : decode cX9_keepNumbers 21 = .ok (.iload_n 3, 1) := by decide +kernel
theorem dX9_keepNumbers_22 : decode cX9_keepNumbers 22 = .ok (.aload_n 0, 1) := by decide +kernel
theorem dX9_keepNumbers_23 : decode cX9_keepNumbers 23 = .ok (.getfield 24, 3) := by decide +kernel
theorem dX9_keepNumbers_26 : decode cX9_keepNumbers 26 = .ok (.if_icmp .ge 25, 3) := by decide +kernel
theorem dX9_keepNumbers_29 : decode cX9_keepNumbers 29 = .ok (.aload_n 1, 1) := by decide +kernel
theorem dX9_keepNumbers_30 : decode cX9_keepNumbers 30 = .ok (.getfield 306, 3) := by decide +kernel
theorem dX9_keepNumbers_33 : decode cX9_keepNumbers 33 = .ok (.iload_n 3, 1) := by decide +kernel
theorem dX9_keepNumbers_34 : decode cX9_keepNumbers 34 = .ok (.aload_n 0, 1) := by decide +kernel
theorem dX9_keepNumbers_35 : decode cX9_keepNumbers 35 = .ok (.getfield 27, 3) := by decide +kernel
theorem dX9_keepNumbers_38 : decode cX9_keepNumbers 38 = .ok (.iload_n 2, 1) := by decide +kernel
theorem dX9_keepNumbers_39 : decode cX9_keepNumbers 39 = .ok (.iload_n 3, 1) := by decide +kernel
theorem dX9_keepNumbers_40 : decode cX9_keepNumbers 40 = .ok (.invokevirtual 195, 3) := by decide +kernel
theorem dX9_keepNumbers_43 : decode cX9_keepNumbers 43 = .ok (.i2l, 1) := by decide +kernel
theorem dX9_keepNumbers_44 : decode cX9_keepNumbers 44 = .ok (.lastore, 1) := by decide +kernel
theorem dX9_keepNumbers_45 : decode cX9_keepNumbers 45 = .ok (.iinc 3 1, 3) := by decide +kernel
theorem dX9_keepNumbers_48 : decode cX9_keepNumbers 48 = .ok (.goto (-27), 3) := by decide +kernel
theorem dX9_keepNumbers_51 : decode cX9_keepNumbers 51 = .ok (.iconst 0, 1) := by decide +kernel
theorem dX9_keepNumbers_52 : decode cX9_keepNumbers 52 = .ok (.ireturn, 1) := by decide +kernel
theorem dX9_refusalOfRule_0 : decode cX9_refusalOfRule 0 = .ok (.aload_n 0, 1) := by decide +kernel
theorem dX9_refusalOfRule_1 : decode cX9_refusalOfRule 1 = .ok (.ifnonnull 5, 3) := by decide +kernel
theorem dX9_refusalOfRule_4 : decode cX9_refusalOfRule 4 = .ok (.iconst (-1), 1) := by decide +kernel
theorem dX9_refusalOfRule_5 : decode cX9_refusalOfRule 5 = .ok (.ireturn, 1) := by decide +kernel
theorem dX9_refusalOfRule_6 : decode cX9_refusalOfRule 6 = .ok (.aload_n 0, 1) := by decide +kernel
theorem dX9_refusalOfRule_7 : decode cX9_refusalOfRule 7 = .ok (.getfield 310, 3) := by decide +kernel
theorem dX9_refusalOfRule_10 : decode cX9_refusalOfRule 10 = .ok (.ifCond .ne 6, 3) := by decide +kernel
theorem dX9_refusalOfRule_13 : decode cX9_refusalOfRule 13 = .ok (.bipush (-11), 2) := by decide +kernel
theorem dX9_refusalOfRule_15 : decode cX9_refusalOfRule 15 = .ok (.ireturn, 1) := by decide +kernel
theorem dX9_refusalOfRule_16 : decode cX9_refusalOfRule 16 = .ok (.aload_n 0, 1) := by decide +kernel
theorem dX9_refusalOfRule_17 : decode cX9_refusalOfRule 17 = .ok (.getfield 310, 3) := by decide +kernel
theorem dX9_refusalOfRule_20 : decode cX9_refusalOfRule 20 = .ok (.iconst 1, 1) := by decide +kernel
theorem dX9_refusalOfRule_21 : decode cX9_refusalOfRule 21 = .ok (.if_icmp .ne 7, 3) := by decide +kernel
theorem dX9_refusalOfRule_24 : decode cX9_refusalOfRule 24 = .ok (.iconst 0, 1) := by decide +kernel
theorem dX9_refusalOfRule_25 : decode cX9_refusalOfRule 25 = .ok (.goto 5, 3) := by decide +kernel
theorem dX9_refusalOfRule_28 : decode cX9_refusalOfRule 28 = .ok (.bipush (-12), 2) := by decide +kernel
theorem dX9_refusalOfRule_30 : decode cX9_refusalOfRule 30 = .ok (.ireturn, 1) := by decide +kernel
theorem dX9_numberOfFailure_0 : decode cX9_numberOfFailure 0 = .ok (.aload_n 0, 1) := by decide +kernel
theorem dX9_numberOfFailure_1 : decode cX9_numberOfFailure 1 = .ok (.ifnonnull 6, 3) := by decide +kernel
theorem dX9_numberOfFailure_4 : decode cX9_numberOfFailure 4 = .ok (.bipush (-15), 2) := by decide +kernel
theorem dX9_numberOfFailure_6 : decode cX9_numberOfFailure 6 = .ok (.ireturn, 1) := by decide +kernel
theorem dX9_numberOfFailure_7 : decode cX9_numberOfFailure 7 = .ok (.aload_n 0, 1) := by decide +kernel
theorem dX9_numberOfFailure_8 : decode cX9_numberOfFailure 8 = .ok (.invokevirtual 380, 3) := by decide +kernel
theorem dX9_numberOfFailure_11 : decode cX9_numberOfFailure 11 = .ok (.goto 9, 3) := by decide +kernel
theorem dX9_numberOfFailure_14 : decode cX9_numberOfFailure 14 = .ok (.astore_n 1, 1) := by decide +kernel
theorem dX9_numberOfFailure_15 : decode cX9_numberOfFailure 15 = .ok (.aload_n 0, 1) := by decide +kernel
theorem dX9_numberOfFailure_16 : decode cX9_numberOfFailure 16 = .ok (.getfield 383, 3) := by decide +kernel
theorem dX9_numberOfFailure_19 : decode cX9_numberOfFailure 19 = .ok (.ireturn, 1) := by decide +kernel
theorem dX9_numberOfFailure_20 : decode cX9_numberOfFailure 20 = .ok (.bipush (-15), 2) := by decide +kernel
theorem dX9_numberOfFailure_22 : decode cX9_numberOfFailure 22 = .ok (.ireturn, 1) := by decide +kernel
theorem dX10_init_0 : decode cX10_init 0 = .ok (.aload_n 0, 1) := by decide +kernel
theorem dX10_init_1 : decode cX10_init 1 = .ok (.invokespecial 1, 3) := by decide +kernel
theorem dX10_init_4 : decode cX10_init 4 = .ok (.aload_n 0, 1) := by decide +kernel
theorem dX10_init_5 : decode cX10_init 5 = .ok (.bipush 30, 2) := by decide +kernel
theorem dX10_init_7 : decode cX10_init 7 = .ok (.newarray .int, 2) := by decide +kernel
theorem dX10_init_9 : decode cX10_init 9 = .ok (.putfield 9, 3) := by decide +kernel
theorem dX10_init_12 : decode cX10_init 12 = .ok (.aload_n 0, 1) := by decide +kernel
theorem dX10_init_13 : decode cX10_init 13 = .ok (.iconst 5, 1) := by decide +kernel
theorem dX10_init_14 : decode cX10_init 14 = .ok (.newarray .int, 2) := by decide +kernel
theorem dX10_init_16 : decode cX10_init 16 = .ok (.putfield 13, 3) := by decide +kernel
theorem dX10_init_19 : decode cX10_init 19 = .ok (.aload_n 0, 1) := by decide +kernel
theorem dX10_init_20 : decode cX10_init 20 = .ok (.bipush 8, 2) := by decide +kernel
theorem dX10_init_22 : decode cX10_init 22 = .ok (.newarray .int, 2) := by decide +kernel
theorem dX10_init_24 : decode cX10_init 24 = .ok (.putfield 16, 3) := by decide +kernel
theorem dX10_init_27 : decode cX10_init 27 = .ok (.aload_n 0, 1) := by decide +kernel
theorem dX10_init_28 : decode cX10_init 28 = .ok (.sipush 10368, 3) := by decide +kernel
theorem dX10_init_31 : decode cX10_init 31 = .ok (.newarray .int, 2) := by decide +kernel
theorem dX10_init_33 : decode cX10_init 33 = .ok (.putfield 19, 3) := by decide +kernel
theorem dX10_init_36 : decode cX10_init 36 = .ok (.aload_n 0, 1) := by decide +kernel
theorem dX10_init_37 : decode cX10_init 37 = .ok (.ldc 22, 2) := by decide +kernel
theorem dX10_init_39 : decode cX10_init 39 = .ok (.newarray .int, 2) := by decide +kernel
theorem dX10_init_41 : decode cX10_init 41 = .ok (.putfield 23, 3) := by decide +kernel
theorem dX10_init_44 : decode cX10_init 44 = .ok (.aload_n 0, 1) := by decide +kernel
theorem dX10_init_45 : decode cX10_init 45 = .ok (.bipush 40, 2) := by decide +kernel
theorem dX10_init_47 : decode cX10_init 47 = .ok (.newarray .int, 2) := by decide +kernel
theorem dX10_init_49 : decode cX10_init 49 = .ok (.putfield 26, 3) := by decide +kernel
theorem dX10_init_52 : decode cX10_init 52 = .ok (.aload_n 0, 1) := by decide +kernel
theorem dX10_init_53 : decode cX10_init 53 = .ok (.bipush 32, 2) := by decide +kernel
theorem dX10_init_55 : decode cX10_init 55 = .ok (.newarray .int, 2) := by decide +kernel
theorem dX10_init_57 : decode cX10_init 57 = .ok (.putfield 29, 3) := by decide +kernel
theorem dX10_init_60 : decode cX10_init 60 = .ok (.aload_n 0, 1) := by decide +kernel
theorem dX10_init_61 : decode cX10_init 61 = .ok (.bipush 32, 2) := by decide +kernel
theorem dX10_init_63 : decode cX10_init 63 = .ok (.newarray .int, 2) := by decide +kernel
theorem dX10_init_65 : decode cX10_init 65 = .ok (.putfield 32, 3) := by decide +kernel
theorem dX10_init_68 : decode cX10_init 68 = .ok (.aload_n 0, 1) := by decide +kernel
theorem dX10_init_69 : decode cX10_init 69 = .ok (.sipush 1296, 3) := by decide +kernel
theorem dX10_init_72 : decode cX10_init 72 = .ok (.newarray .int, 2) := by decide +kernel
theorem dX10_init_74 : decode cX10_init 74 = .ok (.putfield 35, 3) := by decide +kernel
theorem dX10_init_77 : decode cX10_init 77 = .ok (.aload_n 0, 1) := by decide +kernel
theorem dX10_init_78 : decode cX10_init 78 = .ok (.sipush 5184, 3) := by decide +kernel
theorem dX10_init_81 : decode cX10_init 81 = .ok (.newarray .int, 2) := by decide +kernel
theorem dX10_init_83 : decode cX10_init 83 = .ok (.putfield 38, 3) := by decide +kernel
theorem dX10_init_86 : decode cX10_init 86 = .ok (.aload_n 0, 1) := by decide +kernel
theorem dX10_init_87 : decode cX10_init 87 = .ok (.iconst 5, 1) := by decide +kernel
theorem dX10_init_88 : decode cX10_init 88 = .ok (.newarray .boolean, 2) := by decide +kernel
theorem dX10_init_90 : decode cX10_init 90 = .ok (.putfield 41, 3) := by decide +kernel
theorem dX10_init_93 : decode cX10_init 93 = .ok (.aload_n 0, 1) := by decide +kernel
theorem dX10_init_94 : decode cX10_init 94 = .ok (.bipush 25, 2) := by decide +kernel
theorem dX10_init_96 : decode cX10_init 96 = .ok (.newarray .int, 2) := by decide +kernel
theorem dX10_init_98 : decode cX10_init 98 = .ok (.putfield 45, 3) := by decide +kernel
theorem dX10_init_101 : decode cX10_init 101 = .ok (.aload_n 0, 1) := by decide +kernel
theorem dX10_init_102 : decode cX10_init 102 = .ok (.iconst 5, 1) := by decide +kernel
theorem dX10_init_103 : decode cX10_init 103 = .ok (.newarray .int, 2) := by decide +kernel
theorem dX10_init_105 : decode cX10_init 105 = .ok (.putfield 48, 3) := by decide +kernel
theorem dX10_init_108 : decode cX10_init 108 = .ok (.aload_n 0, 1) := by decide +kernel
theorem dX10_init_109 : decode cX10_init 109 = .ok (.bipush 16, 2) := by decide +kernel
theorem dX10_init_111 : decode cX10_init 111 = .ok (.newarray .int, 2) := by decide +kernel
theorem dX10_init_113 : decode cX10_init 113 = .ok (.putfield 51, 3) := by decide +kernel
theorem dX10_init_116 : decode cX10_init 116 = .ok (.aload_n 0, 1) := by decide +kernel
theorem dX10_init_117 : decode cX10_init 117 = .ok (.iconst 4, 1) := by decide +kernel
theorem dX10_init_118 : decode cX10_init 118 = .ok (.newarray .int, 2) := by decide +kernel
theorem dX10_init_120 : decode cX10_init 120 = .ok (.putfield 54, 3) := by decide +kernel
theorem dX10_init_123 : decode cX10_init 123 = .ok (.aload_n 0, 1) := by decide +kernel
theorem dX10_init_124 : decode cX10_init 124 = .ok (.iconst 4, 1) := by decide +kernel
theorem dX10_init_125 : decode cX10_init 125 = .ok (.newarray .int, 2) := by decide +kernel
theorem dX10_init_127 : decode cX10_init 127 = .ok (.putfield 57, 3) := by decide +kernel
theorem dX10_init_130 : decode cX10_init 130 = .ok (.aload_n 0, 1) := by decide +kernel
theorem dX10_init_131 : decode cX10_init 131 = .ok (.iconst 4, 1) := by decide +kernel
theorem dX10_init_132 : decode cX10_init 132 = .ok (.newarray .int, 2) := by decide +kernel
theorem dX10_init_134 : decode cX10_init 134 = .ok (.putfield 60, 3) := by decide +kernel
theorem dX10_init_137 : decode cX10_init 137 = .ok (.aload_n 0, 1) := by decide +kernel
theorem dX10_init_138 : decode cX10_init 138 = .ok (.iconst 4, 1) := by decide +kernel
theorem dX10_init_139 : decode cX10_init 139 = .ok (.newarray .int, 2) := by decide +kernel
theorem dX10_init_141 : decode cX10_init 141 = .ok (.putfield 63, 3) := by decide +kernel
theorem dX10_init_144 : decode cX10_init 144 = .ok (.aload_n 0, 1) := by decide +kernel
theorem dX10_init_145 : decode cX10_init 145 = .ok (.iconst 4, 1) := by decide +kernel
theorem dX10_init_146 : decode cX10_init 146 = .ok (.newarray .int, 2) := by decide +kernel
theorem dX10_init_148 : decode cX10_init 148 = .ok (.putfield 66, 3) := by decide +kernel
theorem dX10_init_151 : decode cX10_init 151 = .ok (.aload_n 0, 1) := by decide +kernel
theorem dX10_init_152 : decode cX10_init 152 = .ok (.bipush 8, 2) := by decide +kernel
theorem dX10_init_154 : decode cX10_init 154 = .ok (.newarray .int, 2) := by decide +kernel
theorem dX10_init_156 : decode cX10_init 156 = .ok (.putfield 69, 3) := by decide +kernel
theorem dX10_init_159 : decode cX10_init 159 = .ok (.aload_n 0, 1) := by decide +kernel
theorem dX10_init_160 : decode cX10_init 160 = .ok (.bipush 8, 2) := by decide +kernel
theorem dX10_init_162 : decode cX10_init 162 = .ok (.newarray .int, 2) := by decide +kernel
theorem dX10_init_164 : decode cX10_init 164 = .ok (.putfield 72, 3) := by decide +kernel
theorem dX10_init_167 : decode cX10_init 167 = .ok (.aload_n 0, 1) := by decide +kernel
theorem dX10_init_168 : decode cX10_init 168 = .ok (.bipush 8, 2) := by decide +kernel
theorem dX10_init_170 : decode cX10_init 170 = .ok (.newarray .int, 2) := by decide +kernel
theorem dX10_init_172 : decode cX10_init 172 = .ok (.putfield 75, 3) := by decide +kernel
theorem dX10_init_175 : decode cX10_init 175 = .ok (.aload_n 0, 1) := by decide +kernel
theorem dX10_init_176 : decode cX10_init 176 = .ok (.bipush 8, 2) := by decide +kernel
theorem dX10_init_178 : decode cX10_init 178 = .ok (.newarray .int, 2) := by decide +kernel
theorem dX10_init_180 : decode cX10_init 180 = .ok (.putfield 78, 3) := by decide +kernel
theorem dX10_init_183 : decode cX10_init 183 = .ok (.aload_n 0, 1) := by decide +kernel
theorem dX10_init_184 : decode cX10_init 184 = .ok (.bipush 8, 2) := by decide +kernel
theorem dX10_init_186 : decode cX10_init 186 = .ok (.newarray .int, 2) := by decide +kernel
theorem dX10_init_188 : decode cX10_init 188 = .ok (.putfield 81, 3) := by decide +kernel
theorem dX10_init_191 : decode cX10_init 191 = .ok (.aload_n 0, 1) := by decide +kernel
theorem dX10_init_192 : decode cX10_init 192 = .ok (.sipush 480, 3) := by decide +kernel
theorem dX10_init_195 : decode cX10_init 195 = .ok (.newarray .long, 2) := by decide +kernel
theorem dX10_init_197 : decode cX10_init 197 = .ok (.putfield 84, 3) := by decide +kernel
theorem dX10_init_200 : decode cX10_init 200 = .ok (.aload_n 0, 1) := by decide +kernel
theorem dX10_init_201 : decode cX10_init 201 = .ok (.bipush 60, 2) := by decide +kernel
theorem dX10_init_203 : decode cX10_init 203 = .ok (.newarray .long, 2) := by decide +kernel
theorem dX10_init_205 : decode cX10_init 205 = .ok (.putfield 88, 3) := by decide +kernel
theorem dX10_init_208 : decode cX10_init 208 = .ok (.aload_n 0, 1) := by decide +kernel
theorem dX10_init_209 : decode cX10_init 209 = .ok (.iconst 2, 1) := by decide +kernel
theorem dX10_init_210 : decode cX10_init 210 = .ok (.iload_n 1, 1) := by decide +kernel
theorem dX10_init_211 : decode cX10_init 211 = .ok (.iconst 3, 1) := by decide +kernel
theorem dX10_init_212 : decode cX10_init 212 = .ok (.invokestatic 91, 3) := by decide +kernel
theorem dX10_init_215 : decode cX10_init 215 = .ok (.iadd, 1) := by decide +kernel
theorem dX10_init_216 : decode cX10_init 216 = .ok (.putfield 97, 3) := by decide +kernel
theorem dX10_init_219 : decode cX10_init 219 = .ok (.aload_n 0, 1) := by decide +kernel
theorem dX10_init_220 : decode cX10_init 220 = .ok (.iconst 2, 1) := by decide +kernel
theorem dX10_init_221 : decode cX10_init 221 = .ok (.iload_n 2, 1) := by decide +kernel
theorem dX10_init_222 : decode cX10_init 222 = .ok (.iconst 4, 1) := by decide +kernel
theorem dX10_init_223 : decode cX10_init 223 = .ok (.invokestatic 91, 3) := by decide +kernel
theorem dX10_init_226 : decode cX10_init 226 = .ok (.iadd, 1) := by decide +kernel
theorem dX10_init_227 : decode cX10_init 227 = .ok (.putfield 101, 3) := by decide +kernel
theorem dX10_init_230 : decode cX10_init 230 = .ok (.iconst 0, 1) := by decide +kernel
theorem dX10_init_231 : decode cX10_init 231 = .ok (.istore_n 3, 1) := by decide +kernel
theorem dX10_init_232 : decode cX10_init 232 = .ok (.iload_n 3, 1) := by decide +kernel
theorem dX10_init_233 : decode cX10_init 233 = .ok (.aload_n 0, 1) := by decide +kernel
theorem dX10_init_234 : decode cX10_init 234 = .ok (.getfield 97, 3) := by decide +kernel
theorem dX10_init_237 : decode cX10_init 237 = .ok (.if_icmp .ge 40, 3) := by decide +kernel
theorem dX10_init_240 : decode cX10_init 240 = .ok (.iconst 0, 1) := by decide +kernel
theorem dX10_init_241 : decode cX10_init 241 = .ok (.istore 4, 2) := by decide +kernel
theorem dX10_init_243 : decode cX10_init 243 = .ok (.iload 4, 2) := by decide +kernel
theorem dX10_init_245 : decode cX10_init 245 = .ok (.aload_n 0, 1) := by decide +kernel
theorem dX10_init_246 : decode cX10_init 246 = .ok (.getfield 97, 3) := by decide +kernel
theorem dX10_init_249 : decode cX10_init 249 = .ok (.if_icmp .ge 22, 3) := by decide +kernel
theorem dX10_init_252 : decode cX10_init 252 = .ok (.aload_n 0, 1) := by decide +kernel
theorem dX10_init_253 : decode cX10_init 253 = .ok (.getfield 51, 3) := by decide +kernel
theorem dX10_init_256 : decode cX10_init 256 = .ok (.iconst 4, 1) := by decide +kernel
theorem dX10_init_257 : decode cX10_init 257 = .ok (.iload_n 3, 1) := by decide +kernel
theorem dX10_init_258 : decode cX10_init 258 = .ok (.imul, 1) := by decide +kernel
theorem dX10_init_259 : decode cX10_init 259 = .ok (.iload 4, 2) := by decide +kernel
theorem dX10_init_261 : decode cX10_init 261 = .ok (.iadd, 1) := by decide +kernel
theorem dX10_init_262 : decode cX10_init 262 = .ok (.iload 4, 2) := by decide +kernel
theorem dX10_init_264 : decode cX10_init 264 = .ok (.iastore, 1) := by decide +kernel
theorem dX10_init_265 : decode cX10_init 265 = .ok (.iinc 4 1, 3) := by decide +kernel
theorem dX10_init_268 : decode cX10_init 268 = .ok (.goto (-25), 3) := by decide +kernel
theorem dX10_init_271 : decode cX10_init 271 = .ok (.iinc 3 1, 3) := by decide +kernel
theorem dX10_init_274 : decode cX10_init 274 = .ok (.goto (-42), 3) := by decide +kernel
theorem dX10_init_277 : decode cX10_init 277 = .ok (.aload_n 0, 1) := by decide +kernel
theorem dX10_init_278 : decode cX10_init 278 = .ok (.invokevirtual 104, 3) := by decide +kernel
theorem dX10_init_281 : decode cX10_init 281 = .ok (.return_, 1) := by decide +kernel
theorem dX10_thrown_0 : decode cX10_thrown 0 = .ok (.aload_n 0, 1) := by decide +kernel
theorem dX10_thrown_1 : decode cX10_thrown 1 = .ok (.getfield 107, 3) := by decide +kernel
theorem dX10_thrown_4 : decode cX10_thrown 4 = .ok (.ireturn, 1) := by decide +kernel
theorem dX10_raises_0 : decode cX10_raises 0 = .ok (.aload_n 0, 1) := by decide +kernel
theorem dX10_raises_1 : decode cX10_raises 1 = .ok (.iload_n 1, 1) := by decide +kernel
theorem dX10_raises_2 : decode cX10_raises 2 = .ok (.putfield 107, 3) := by decide +kernel
theorem dX10_raises_5 : decode cX10_raises 5 = .ok (.iconst 0, 1) := by decide +kernel
theorem dX10_raises_6 : decode cX10_raises 6 = .ok (.ireturn, 1) := by decide +kernel
theorem dX10_isIn_0 : decode cX10_isIn 0 = .ok (.iload_n 0, 1) := by decide +kernel
theorem dX10_isIn_1 : decode cX10_isIn 1 = .ok (.ifCond .lt 12, 3) := by decide +kernel
theorem dX10_isIn_4 : decode cX10_isIn 4 = .ok (.iload_n 0, 1) := by decide +kernel
theorem dX10_isIn_5 : decode cX10_isIn 5 = .ok (.iload_n 1, 1) := by decide +kernel
theorem dX10_isIn_6 : decode cX10_isIn 6 = .ok (.if_icmp .ge 7, 3) := by decide +kernel
theorem dX10_isIn_9 : decode cX10_isIn 9 = .ok (.iconst 1, 1) := by decide +kernel
theorem dX10_isIn_10 : decode cX10_isIn 10 = .ok (.goto 4, 3) := by decide +kernel
theorem dX10_isIn_13 : decode cX10_isIn 13 = .ok (.iconst 0, 1) := by decide +kernel
theorem dX10_isIn_14 : decode cX10_isIn 14 = .ok (.ireturn, 1) := by decide +kernel
theorem dX10_counts_0 : decode cX10_counts 0 = .ok (.aload_n 0, 1) := by decide +kernel
theorem dX10_counts_1 : decode cX10_counts 1 = .ok (.getfield 13, 3) := by decide +kernel
theorem dX10_counts_4 : decode cX10_counts 4 = .ok (.iconst 0, 1) := by decide +kernel
theorem dX10_counts_5 : decode cX10_counts 5 = .ok (.iconst 1, 1) := by decide +kernel
theorem dX10_counts_6 : decode cX10_counts 6 = .ok (.iastore, 1) := by decide +kernel
theorem dX10_counts_7 : decode cX10_counts 7 = .ok (.iconst 1, 1) := by decide +kernel
theorem dX10_counts_8 : decode cX10_counts 8 = .ok (.istore_n 1, 1) := by decide +kernel
theorem dX10_counts_9 : decode cX10_counts 9 = .ok (.iload_n 1, 1) := by decide +kernel
theorem dX10_counts_10 : decode cX10_counts 10 = .ok (.aload_n 0, 1) := by decide +kernel
theorem dX10_counts_11 : decode cX10_counts 11 = .ok (.getfield 97, 3) := by decide +kernel
theorem dX10_counts_14 : decode cX10_counts 14 = .ok (.if_icmp .gt 28, 3) := by decide +kernel
theorem dX10_counts_17 : decode cX10_counts 17 = .ok (.aload_n 0, 1) := by decide +kernel
theorem dX10_counts_18 : decode cX10_counts 18 = .ok (.getfield 13, 3) := by decide +kernel
theorem dX10_counts_21 : decode cX10_counts 21 = .ok (.iload_n 1, 1) := by decide +kernel
theorem dX10_counts_22 : decode cX10_counts 22 = .ok (.aload_n 0, 1) := by decide +kernel
theorem dX10_counts_23 : decode cX10_counts 23 = .ok (.getfield 13, 3) := by decide +kernel
theorem dX10_counts_26 : decode cX10_counts 26 = .ok (.iload_n 1, 1) := by decide +kernel
theorem dX10_counts_27 : decode cX10_counts 27 = .ok (.iconst 1, 1) := by decide +kernel
theorem dX10_counts_28 : decode cX10_counts 28 = .ok (.isub, 1) := by decide +kernel
theorem dX10_counts_29 : decode cX10_counts 29 = .ok (.iaload, 1) := by decide +kernel
theorem dX10_counts_30 : decode cX10_counts 30 = .ok (.aload_n 0, 1) := by decide +kernel
theorem dX10_counts_31 : decode cX10_counts 31 = .ok (.getfield 110, 3) := by decide +kernel
theorem dX10_counts_34 : decode cX10_counts 34 = .ok (.imul, 1) := by decide +kernel
theorem dX10_counts_35 : decode cX10_counts 35 = .ok (.iastore, 1) := by decide +kernel
theorem dX10_counts_36 : decode cX10_counts 36 = .ok (.iinc 1 1, 3) := by decide +kernel
theorem dX10_counts_39 : decode cX10_counts 39 = .ok (.goto (-30), 3) := by decide +kernel
theorem dX10_counts_42 : decode cX10_counts 42 = .ok (.aload_n 0, 1) := by decide +kernel
theorem dX10_counts_43 : decode cX10_counts 43 = .ok (.aload_n 0, 1) := by decide +kernel
theorem dX10_counts_44 : decode cX10_counts 44 = .ok (.getfield 110, 3) := by decide +kernel
theorem dX10_counts_47 : decode cX10_counts 47 = .ok (.ifCond .ne 7, 3) := by decide +kernel
theorem dX10_counts_50 : decode cX10_counts 50 = .ok (.iconst 0, 1) := by decide +kernel
theorem dX10_counts_51 : decode cX10_counts 51 = .ok (.goto 12, 3) := by decide +kernel
theorem dX10_counts_54 : decode cX10_counts 54 = .ok (.aload_n 0, 1) := by decide +kernel
theorem dX10_counts_55 : decode cX10_counts 55 = .ok (.getfield 13, 3) := by decide +kernel
theorem dX10_counts_58 : decode cX10_counts 58 = .ok (.aload_n 0, 1) := by decide +kernel
theorem dX10_counts_59 : decode cX10_counts 59 = .ok (.getfield 97, 3) := by decide +kernel
theorem dX10_counts_62 : decode cX10_counts 62 = .ok (.iaload, 1) := by decide +kernel
theorem dX10_counts_63 : decode cX10_counts 63 = .ok (.putfield 113, 3) := by decide +kernel
theorem dX10_counts_66 : decode cX10_counts 66 = .ok (.return_, 1) := by decide +kernel
theorem dX10_wish_0 : decode cX10_wish 0 = .ok (.aload_n 0, 1) := by decide +kernel
theorem dX10_wish_1 : decode cX10_wish 1 = .ok (.getfield 110, 3) := by decide +kernel
theorem dX10_wish_4 : decode cX10_wish 4 = .ok (.bipush 6, 2) := by decide +kernel
theorem dX10_wish_6 : decode cX10_wish 6 = .ok (.if_icmp .ne 6, 3) := by decide +kernel
theorem dX10_wish_9 : decode cX10_wish 9 = .ok (.bipush (-2), 2) := by decide +kernel
theorem dX10_wish_11 : decode cX10_wish 11 = .ok (.ireturn, 1) := by decide +kernel
theorem dX10_wish_12 : decode cX10_wish 12 = .ok (.aload_n 0, 1) := by decide +kernel
theorem dX10_wish_13 : decode cX10_wish 13 = .ok (.getfield 116, 3) := by decide +kernel
theorem dX10_wish_16 : decode cX10_wish 16 = .ok (.ifCond .le 6, 3) := by decide +kernel
theorem dX10_wish_19 : decode cX10_wish 19 = .ok (.bipush (-3), 2) := by decide +kernel
theorem dX10_wish_21 : decode cX10_wish 21 = .ok (.ireturn, 1) := by decide +kernel
theorem dX10_wish_22 : decode cX10_wish 22 = .ok (.aload_n 0, 1) := by decide +kernel
theorem dX10_wish_23 : decode cX10_wish 23 = .ok (.dup, 1) := by decide +kernel
theorem dX10_wish_24 : decode cX10_wish 24 = .ok (.getfield 110, 3) := by decide +kernel
theorem dX10_wish_27 : decode cX10_wish 27 = .ok (.iconst 1, 1) := by decide +kernel
theorem dX10_wish_28 : decode cX10_wish 28 = .ok (.iadd, 1) := by decide +kernel
theorem dX10_wish_29 : decode cX10_wish 29 = .ok (.putfield 110, 3) := by decide +kernel
theorem dX10_wish_32 : decode cX10_wish 32 = .ok (.aload_n 0, 1) := by decide +kernel
theorem dX10_wish_33 : decode cX10_wish 33 = .ok (.invokevirtual 104, 3) := by decide +kernel
theorem dX10_wish_36 : decode cX10_wish 36 = .ok (.aload_n 0, 1) := by decide +kernel
theorem dX10_wish_37 : decode cX10_wish 37 = .ok (.getfield 110, 3) := by decide +kernel
theorem dX10_wish_40 : decode cX10_wish 40 = .ok (.iconst 1, 1) := by decide +kernel
theorem dX10_wish_41 : decode cX10_wish 41 = .ok (.isub, 1) := by decide +kernel
theorem dX10_wish_42 : decode cX10_wish 42 = .ok (.ireturn, 1) := by decide +kernel
theorem dX10_worth_0 : decode cX10_worth 0 = .ok (.iload_n 1, 1) := by decide +kernel
theorem dX10_worth_1 : decode cX10_worth 1 = .ok (.aload_n 0, 1) := by decide +kernel
theorem dX10_worth_2 : decode cX10_worth 2 = .ok (.getfield 110, 3) := by decide +kernel
theorem dX10_worth_5 : decode cX10_worth 5 = .ok (.invokestatic 119, 3) := by decide +kernel
theorem dX10_worth_8 : decode cX10_worth 8 = .ok (.ifCond .eq 26, 3) := by decide +kernel
theorem dX10_worth_11 : decode cX10_worth 11 = .ok (.iload_n 2, 1) := by decide +kernel
theorem dX10_worth_12 : decode cX10_worth 12 = .ok (.aload_n 0, 1) := by decide +kernel
theorem dX10_worth_13 : decode cX10_worth 13 = .ok (.getfield 101, 3) := by decide +kernel
theorem dX10_worth_16 : decode cX10_worth 16 = .ok (.invokestatic 119, 3) := by decide +kernel
theorem dX10_worth_19 : decode cX10_worth 19 = .ok (.ifCond .eq 15, 3) := by decide +kernel
theorem dX10_worth_22 : decode cX10_worth 22 = .ok (.iload_n 3, 1) := by decide +kernel
theorem dX10_worth_23 : decode cX10_worth 23 = .ok (.bipush (-99), 2) := by decide +kernel
theorem dX10_worth_25 : decode cX10_worth 25 = .ok (.if_icmp .lt 9, 3) := by decide +kernel
theorem dX10_worth_28 : decode cX10_worth 28 = .ok (.iload_n 3, 1) := by decide +kernel
theorem dX10_worth_29 : decode cX10_worth 29 = .ok (.bipush 99, 2) := by decide +kernel
theorem dX10_worth_31 : decode cX10_worth 31 = .ok (.if_icmp .le 5, 3) := by decide +kernel
theorem dX10_worth_34 : decode cX10_worth 34 = .ok (.iconst (-1), 1) := by decide +kernel
theorem dX10_worth_35 : decode cX10_worth 35 = .ok (.ireturn, 1) := by decide +kernel
theorem dX10_worth_36 : decode cX10_worth 36 = .ok (.aload_n 0, 1) := by decide +kernel
theorem dX10_worth_37 : decode cX10_worth 37 = .ok (.getfield 116, 3) := by decide +kernel
theorem dX10_worth_40 : decode cX10_worth 40 = .ok (.ifCond .le 6, 3) := by decide +kernel
theorem dX10_worth_43 : decode cX10_worth 43 = .ok (.bipush (-3), 2) := by decide +kernel
theorem dX10_worth_45 : decode cX10_worth 45 = .ok (.ireturn, 1) := by decide +kernel
theorem dX10_worth_46 : decode cX10_worth 46 = .ok (.aload_n 0, 1) := by decide +kernel
theorem dX10_worth_47 : decode cX10_worth 47 = .ok (.getfield 9, 3) := by decide +kernel
theorem dX10_worth_50 : decode cX10_worth 50 = .ok (.iconst 5, 1) := by decide +kernel
theorem dX10_worth_51 : decode cX10_worth 51 = .ok (.iload_n 1, 1) := by decide +kernel
theorem dX10_worth_52 : decode cX10_worth 52 = .ok (.imul, 1) := by decide +kernel
theorem dX10_worth_53 : decode cX10_worth 53 = .ok (.iload_n 2, 1) := by decide +kernel
theorem dX10_worth_54 : decode cX10_worth 54 = .ok (.iadd, 1) := by decide +kernel
theorem dX10_worth_55 : decode cX10_worth 55 = .ok (.iaload, 1) := by decide +kernel
theorem dX10_worth_56 : decode cX10_worth 56 = .ok (.istore 4, 2) := by decide +kernel
theorem dX10_worth_58 : decode cX10_worth 58 = .ok (.aload_n 0, 1) := by decide +kernel
theorem dX10_worth_59 : decode cX10_worth 59 = .ok (.getfield 9, 3) := by decide +kernel
theorem dX10_worth_62 : decode cX10_worth 62 = .ok (.iconst 5, 1) := by decide +kernel
theorem dX10_worth_63 : decode cX10_worth 63 = .ok (.iload_n 1, 1) := by decide +kernel
theorem dX10_worth_64 : decode cX10_worth 64 = .ok (.imul, 1) := by decide +kernel
theorem dX10_worth_65 : decode cX10_worth 65 = .ok (.iload_n 2, 1) := by decide +kernel
theorem dX10_worth_66 : decode cX10_worth 66 = .ok (.iadd, 1) := by decide +kernel
theorem dX10_worth_67 : decode cX10_worth 67 = .ok (.iload_n 3, 1) := by decide +kernel
theorem dX10_worth_68 : decode cX10_worth 68 = .ok (.iastore, 1) := by decide +kernel
theorem dX10_worth_69 : decode cX10_worth 69 = .ok (.iload 4, 2) := by decide +kernel
theorem dX10_worth_71 : decode cX10_worth 71 = .ok (.iload_n 3, 1) := by decide +kernel
theorem dX10_worth_72 : decode cX10_worth 72 = .ok (.if_icmp .ne 7, 3) := by decide +kernel
theorem dX10_worth_75 : decode cX10_worth 75 = .ok (.iconst 0, 1) := by decide +kernel
theorem dX10_worth_76 : decode cX10_worth 76 = .ok (.goto 4, 3) := by decide +kernel
theorem dX10_worth_79 : decode cX10_worth 79 = .ok (.iconst 1, 1) := by decide +kernel
theorem dX10_worth_80 : decode cX10_worth 80 = .ok (.ireturn, 1) := by decide +kernel
theorem dX10_rule_0 : decode cX10_rule 0 = .ok (.iload_n 1, 1) := by decide +kernel
theorem dX10_rule_1 : decode cX10_rule 1 = .ok (.iconst 4, 1) := by decide +kernel
theorem dX10_rule_2 : decode cX10_rule 2 = .ok (.invokestatic 119, 3) := by decide +kernel
theorem dX10_rule_5 : decode cX10_rule 5 = .ok (.ifCond .eq 10, 3) := by decide +kernel
theorem dX10_rule_8 : decode cX10_rule 8 = .ok (.aload_n 0, 1) := by decide +kernel
theorem dX10_rule_9 : decode cX10_rule 9 = .ok (.getfield 110, 3) := by decide +kernel
theorem dX10_rule_12 : decode cX10_rule 12 = .ok (.ifCond .ne 5, 3) := by decide +kernel
theorem dX10_rule_15 : decode cX10_rule 15 = .ok (.iconst (-1), 1) := by decide +kernel
theorem dX10_rule_16 : decode cX10_rule 16 = .ok (.ireturn, 1) := by decide +kernel
theorem dX10_rule_17 : decode cX10_rule 17 = .ok (.aload_n 0, 1) := by decide +kernel
theorem dX10_rule_18 : decode cX10_rule 18 = .ok (.getfield 116, 3) := by decide +kernel
theorem dX10_rule_21 : decode cX10_rule 21 = .ok (.bipush 8, 2) := by decide +kernel
theorem dX10_rule_23 : decode cX10_rule 23 = .ok (.if_icmp .ne 6, 3) := by decide +kernel
theorem dX10_rule_26 : decode cX10_rule 26 = .ok (.bipush (-2), 2) := by decide +kernel
theorem dX10_rule_28 : decode cX10_rule 28 = .ok (.ireturn, 1) := by decide +kernel
theorem dX10_rule_29 : decode cX10_rule 29 = .ok (.aload_n 0, 1) := by decide +kernel
theorem dX10_rule_30 : decode cX10_rule 30 = .ok (.getfield 16, 3) := by decide +kernel
theorem dX10_rule_33 : decode cX10_rule 33 = .ok (.aload_n 0, 1) := by decide +kernel
theorem dX10_rule_34 : decode cX10_rule 34 = .ok (.getfield 116, 3) := by decide +kernel
theorem dX10_rule_37 : decode cX10_rule 37 = .ok (.iload_n 1, 1) := by decide +kernel
theorem dX10_rule_38 : decode cX10_rule 38 = .ok (.iastore, 1) := by decide +kernel
theorem dX10_rule_39 : decode cX10_rule 39 = .ok (.iconst 0, 1) := by decide +kernel
theorem dX10_rule_40 : decode cX10_rule 40 = .ok (.istore_n 2, 1) := by decide +kernel
theorem dX10_rule_41 : decode cX10_rule 41 = .ok (.iload_n 2, 1) := by decide +kernel
theorem dX10_rule_42 : decode cX10_rule 42 = .ok (.aload_n 0, 1) := by decide +kernel
theorem dX10_rule_43 : decode cX10_rule 43 = .ok (.getfield 113, 3) := by decide +kernel
theorem dX10_rule_46 : decode cX10_rule 46 = .ok (.if_icmp .ge 25, 3) := by decide +kernel
theorem dX10_rule_49 : decode cX10_rule 49 = .ok (.aload_n 0, 1) := by decide +kernel
theorem dX10_rule_50 : decode cX10_rule 50 = .ok (.getfield 19, 3) := by decide +kernel
theorem dX10_rule_53 : decode cX10_rule 53 = .ok (.sipush 1296, 3) := by decide +kernel
theorem dX10_rule_56 : decode cX10_rule 56 = .ok (.aload_n 0, 1) := by decide +kernel
theorem dX10_rule_57 : decode cX10_rule 57 = .ok (.getfield 116, 3) := by decide +kernel
theorem dX10_rule_60 : decode cX10_rule 60 = .ok (.imul, 1) := by decide +kernel
theorem dX10_rule_61 : decode cX10_rule 61 = .ok (.iload_n 2, 1) := by decide +kernel
theorem dX10_rule_62 : decode cX10_rule 62 = .ok (.iadd, 1) := by decide +kernel
theorem dX10_rule_63 : decode cX10_rule 63 = .ok (.iconst 0, 1) := by decide +kernel
theorem dX10_rule_64 : decode cX10_rule 64 = .ok (.iastore, 1) := by decide +kernel
theorem dX10_rule_65 : decode cX10_rule 65 = .ok (.iinc 2 1, 3) := by decide +kernel
theorem dX10_rule_68 : decode cX10_rule 68 = .ok (.goto (-27), 3) := by decide +kernel
theorem dX10_rule_71 : decode cX10_rule 71 = .ok (.iconst 0, 1) := by decide +kernel
theorem dX10_rule_72 : decode cX10_rule 72 = .ok (.istore_n 2, 1) := by decide +kernel
theorem dX10_rule_73 : decode cX10_rule 73 = .ok (.iload_n 2, 1) := by decide +kernel
theorem dX10_rule_74 : decode cX10_rule 74 = .ok (.iconst 4, 1) := by decide +kernel
theorem dX10_rule_75 : decode cX10_rule 75 = .ok (.aload_n 0, 1) := by decide +kernel
theorem dX10_rule_76 : decode cX10_rule 76 = .ok (.getfield 113, 3) := by decide +kernel
theorem dX10_rule_79 : decode cX10_rule 79 = .ok (.imul, 1) := by decide +kernel
theorem dX10_rule_80 : decode cX10_rule 80 = .ok (.if_icmp .ge 25, 3) := by decide +kernel
theorem dX10_rule_83 : decode cX10_rule 83 = .ok (.aload_n 0, 1) := by decide +kernel
theorem dX10_rule_84 : decode cX10_rule 84 = .ok (.getfield 23, 3) := by decide +kernel
theorem dX10_rule_87 : decode cX10_rule 87 = .ok (.sipush 5184, 3) := by decide +kernel
theorem dX10_rule_90 : decode cX10_rule 90 = .ok (.aload_n 0, 1) := by decide +kernel
theorem dX10_rule_91 : decode cX10_rule 91 = .ok (.getfield 116, 3) := by decide +kernel
theorem dX10_rule_94 : decode cX10_rule 94 = .ok (.imul, 1) := by decide +kernel
theorem dX10_rule_95 : decode cX10_rule 95 = .ok (.iload_n 2, 1) := by decide +kernel
theorem dX10_rule_96 : decode cX10_rule 96 = .ok (.iadd, 1) := by decide +kernel
theorem dX10_rule_97 : decode cX10_rule 97 = .ok (.iconst 0, 1) := by decide +kernel
theorem dX10_rule_98 : decode cX10_rule 98 = .ok (.iastore, 1) := by decide +kernel
theorem dX10_rule_99 : decode cX10_rule 99 = .ok (.iinc 2 1, 3) := by decide +kernel
theorem dX10_rule_102 : decode cX10_rule 102 = .ok (.goto (-29), 3) := by decide +kernel
theorem dX10_rule_105 : decode cX10_rule 105 = .ok (.iconst 0, 1) := by decide +kernel
theorem dX10_rule_106 : decode cX10_rule 106 = .ok (.istore_n 2, 1) := by decide +kernel
theorem dX10_rule_107 : decode cX10_rule 107 = .ok (.iload_n 2, 1) := by decide +kernel
theorem dX10_rule_108 : decode cX10_rule 108 = .ok (.aload_n 0, 1) := by decide +kernel
theorem dX10_rule_109 : decode cX10_rule 109 = .ok (.getfield 101, 3) := by decide +kernel
theorem dX10_rule_112 : decode cX10_rule 112 = .ok (.if_icmp .ge 23, 3) := by decide +kernel
theorem dX10_rule_115 : decode cX10_rule 115 = .ok (.aload_n 0, 1) := by decide +kernel
theorem dX10_rule_116 : decode cX10_rule 116 = .ok (.getfield 26, 3) := by decide +kernel
theorem dX10_rule_119 : decode cX10_rule 119 = .ok (.iconst 5, 1) := by decide +kernel
theorem dX10_rule_120 : decode cX10_rule 120 = .ok (.aload_n 0, 1) := by decide +kernel
theorem dX10_rule_121 : decode cX10_rule 121 = .ok (.getfield 116, 3) := by decide +kernel
theorem dX10_rule_124 : decode cX10_rule 124 = .ok (.imul, 1) := by decide +kernel
theorem dX10_rule_125 : decode cX10_rule 125 = .ok (.iload_n 2, 1) := by decide +kernel
theorem dX10_rule_126 : decode cX10_rule 126 = .ok (.iadd, 1) := by decide +kernel
theorem dX10_rule_127 : decode cX10_rule 127 = .ok (.iconst 0, 1) := by decide +kernel
theorem dX10_rule_128 : decode cX10_rule 128 = .ok (.iastore, 1) := by decide +kernel
theorem dX10_rule_129 : decode cX10_rule 129 = .ok (.iinc 2 1, 3) := by decide +kernel
theorem dX10_rule_132 : decode cX10_rule 132 = .ok (.goto (-25), 3) := by decide +kernel
theorem dX10_rule_135 : decode cX10_rule 135 = .ok (.iconst 0, 1) := by decide +kernel
theorem dX10_rule_136 : decode cX10_rule 136 = .ok (.istore_n 2, 1) := by decide +kernel
theorem dX10_rule_137 : decode cX10_rule 137 = .ok (.iload_n 2, 1) := by decide +kernel
theorem dX10_rule_138 : decode cX10_rule 138 = .ok (.aload_n 0, 1) := by decide +kernel
theorem dX10_rule_139 : decode cX10_rule 139 = .ok (.getfield 97, 3) := by decide +kernel
theorem dX10_rule_142 : decode cX10_rule 142 = .ok (.if_icmp .ge 23, 3) := by decide +kernel
theorem dX10_rule_145 : decode cX10_rule 145 = .ok (.aload_n 0, 1) := by decide +kernel
theorem dX10_rule_146 : decode cX10_rule 146 = .ok (.getfield 29, 3) := by decide +kernel
theorem dX10_rule_149 : decode cX10_rule 149 = .ok (.iconst 4, 1) := by decide +kernel
theorem dX10_rule_150 : decode cX10_rule 150 = .ok (.aload_n 0, 1) := by decide +kernel
theorem dX10_rule_151 : decode cX10_rule 151 = .ok (.getfield 116, 3) := by decide +kernel
theorem dX10_rule_154 : decode cX10_rule 154 = .ok (.imul, 1) := by decide +kernel
theorem dX10_rule_155 : decode cX10_rule 155 = .ok (.iload_n 2, 1) := by decide +kernel
theorem dX10_rule_156 : decode cX10_rule 156 = .ok (.iadd, 1) := by decide +kernel
theorem dX10_rule_157 : decode cX10_rule 157 = .ok (.iconst 1, 1) := by decide +kernel
theorem dX10_rule_158 : decode cX10_rule 158 = .ok (.iastore, 1) := by decide +kernel
theorem dX10_rule_159 : decode cX10_rule 159 = .ok (.iinc 2 1, 3) := by decide +kernel
theorem dX10_rule_162 : decode cX10_rule 162 = .ok (.goto (-25), 3) := by decide +kernel
theorem dX10_rule_165 : decode cX10_rule 165 = .ok (.iconst 0, 1) := by decide +kernel
theorem dX10_rule_166 : decode cX10_rule 166 = .ok (.istore_n 2, 1) := by decide +kernel
theorem dX10_rule_167 : decode cX10_rule 167 = .ok (.iload_n 2, 1) := by decide +kernel
theorem dX10_rule_168 : decode cX10_rule 168 = .ok (.aload_n 0, 1) := by decide +kernel
theorem dX10_rule_169 : decode cX10_rule 169 = .ok (.getfield 97, 3) := by decide +kernel
theorem dX10_rule_172 : decode cX10_rule 172 = .ok (.iconst 1, 1) := by decide +kernel
theorem dX10_rule_173 : decode cX10_rule 173 = .ok (.isub, 1) := by decide +kernel
theorem dX10_rule_174 : decode cX10_rule 174 = .ok (.if_icmp .ge 23, 3) := by decide +kernel
theorem dX10_rule_177 : decode cX10_rule 177 = .ok (.aload_n 0, 1) := by decide +kernel
theorem dX10_rule_178 : decode cX10_rule 178 = .ok (.getfield 32, 3) := by decide +kernel
theorem dX10_rule_181 : decode cX10_rule 181 = .ok (.iconst 4, 1) := by decide +kernel
theorem dX10_rule_182 : decode cX10_rule 182 = .ok (.aload_n 0, 1) := by decide +kernel
theorem dX10_rule_183 : decode cX10_rule 183 = .ok (.getfield 116, 3) := by decide +kernel
theorem dX10_rule_186 : decode cX10_rule 186 = .ok (.imul, 1) := by decide +kernel
theorem dX10_rule_187 : decode cX10_rule 187 = .ok (.iload_n 2, 1) := by decide +kernel
theorem dX10_rule_188 : decode cX10_rule 188 = .ok (.iadd, 1) := by decide +kernel
theorem dX10_rule_189 : decode cX10_rule 189 = .ok (.iconst 0, 1) := by decide +kernel
theorem dX10_rule_190 : decode cX10_rule 190 = .ok (.iastore, 1) := by decide +kernel
theorem dX10_rule_191 : decode cX10_rule 191 = .ok (.iinc 2 1, 3) := by decide +kernel
theorem dX10_rule_194 : decode cX10_rule 194 = .ok (.goto (-27), 3) := by decide +kernel
theorem dX10_rule_197 : decode cX10_rule 197 = .ok (.aload_n 0, 1) := by decide +kernel
