theorem dX0_init_0 : decode cX0_init 0 = .ok (.aload_n 0, 1) := by decide +kernel
theorem dX0_init_1 : decode cX0_init 1 = .ok (.invokespecial 3, 3) := by decide +kernel
theorem dX0_init_4 : decode cX0_init 4 = .ok (.aload_n 0, 1) := by decide +kernel
theorem dX0_init_5 : decode cX0_init 5 = .ok (.aload_n 1, 1) := by decide +kernel
theorem dX0_init_6 : decode cX0_init 6 = .ok (.putfield 9, 3) := by decide +kernel
theorem dX0_init_9 : decode cX0_init 9 = .ok (.aload_n 0, 1) := by decide +kernel
theorem dX0_init_10 : decode cX0_init 10 = .ok (.bipush 20, 2) := by decide +kernel
theorem dX0_init_12 : decode cX0_init 12 = .ok (.newarray .int, 2) := by decide +kernel
theorem dX0_init_14 : decode cX0_init 14 = .ok (.putfield 15, 3) := by decide +kernel
theorem dX0_init_17 : decode cX0_init 17 = .ok (.aload_n 0, 1) := by decide +kernel
theorem dX0_init_18 : decode cX0_init 18 = .ok (.iconst 4, 1) := by decide +kernel
theorem dX0_init_19 : decode cX0_init 19 = .ok (.newarray .int, 2) := by decide +kernel
theorem dX0_init_21 : decode cX0_init 21 = .ok (.putfield 19, 3) := by decide +kernel
theorem dX0_init_24 : decode cX0_init 24 = .ok (.aload_n 0, 1) := by decide +kernel
theorem dX0_init_25 : decode cX0_init 25 = .ok (.iconst 4, 1) := by decide +kernel
theorem dX0_init_26 : decode cX0_init 26 = .ok (.newarray .int, 2) := by decide +kernel
theorem dX0_init_28 : decode cX0_init 28 = .ok (.putfield 22, 3) := by decide +kernel
theorem dX0_init_31 : decode cX0_init 31 = .ok (.return_, 1) := by decide +kernel
theorem dX0_firstRow_0 : decode cX0_firstRow 0 = .ok (.aload_n 0, 1) := by decide +kernel
theorem dX0_firstRow_1 : decode cX0_firstRow 1 = .ok (.iload_n 2, 1) := by decide +kernel
theorem dX0_firstRow_2 : decode cX0_firstRow 2 = .ok (.putfield 25, 3) := by decide +kernel
theorem dX0_firstRow_5 : decode cX0_firstRow 5 = .ok (.aload_n 0, 1) := by decide +kernel
theorem dX0_firstRow_6 : decode cX0_firstRow 6 = .ok (.aload_n 0, 1) := by decide +kernel
theorem dX0_firstRow_7 : decode cX0_firstRow 7 = .ok (.getfield 9, 3) := by decide +kernel
theorem dX0_firstRow_10 : decode cX0_firstRow 10 = .ok (.getfield 29, 3) := by decide +kernel
theorem dX0_firstRow_13 : decode cX0_firstRow 13 = .ok (.iload_n 2, 1) := by decide +kernel
theorem dX0_firstRow_14 : decode cX0_firstRow 14 = .ok (.invokestatic 34, 3) := by decide +kernel
theorem dX0_firstRow_17 : decode cX0_firstRow 17 = .ok (.aload_n 0, 1) := by decide +kernel
theorem dX0_firstRow_18 : decode cX0_firstRow 18 = .ok (.getfield 9, 3) := by decide +kernel
theorem dX0_firstRow_21 : decode cX0_firstRow 21 = .ok (.getfield 40, 3) := by decide +kernel
theorem dX0_firstRow_24 : decode cX0_firstRow 24 = .ok (.invokestatic 43, 3) := by decide +kernel
theorem dX0_firstRow_27 : decode cX0_firstRow 27 = .ok (.iaload, 1) := by decide +kernel
theorem dX0_firstRow_28 : decode cX0_firstRow 28 = .ok (.putfield 49, 3) := by decide +kernel
theorem dX0_firstRow_31 : decode cX0_firstRow 31 = .ok (.aload_n 0, 1) := by decide +kernel
theorem dX0_firstRow_32 : decode cX0_firstRow 32 = .ok (.getfield 9, 3) := by decide +kernel
theorem dX0_firstRow_35 : decode cX0_firstRow 35 = .ok (.getfield 52, 3) := by decide +kernel
theorem dX0_firstRow_38 : decode cX0_firstRow 38 = .ok (.istore_n 3, 1) := by decide +kernel
theorem dX0_firstRow_39 : decode cX0_firstRow 39 = .ok (.iconst 0, 1) := by decide +kernel
theorem dX0_firstRow_40 : decode cX0_firstRow 40 = .ok (.istore 4, 2) := by decide +kernel
theorem dX0_firstRow_42 : decode cX0_firstRow 42 = .ok (.iload 4, 2) := by decide +kernel
theorem dX0_firstRow_44 : decode cX0_firstRow 44 = .ok (.aload_n 0, 1) := by decide +kernel
theorem dX0_firstRow_45 : decode cX0_firstRow 45 = .ok (.getfield 9, 3) := by decide +kernel
theorem dX0_firstRow_48 : decode cX0_firstRow 48 = .ok (.getfield 52, 3) := by decide +kernel
theorem dX0_firstRow_51 : decode cX0_firstRow 51 = .ok (.if_icmp .ge 29, 3) := by decide +kernel
theorem dX0_firstRow_54 : decode cX0_firstRow 54 = .ok (.aload_n 0, 1) := by decide +kernel
theorem dX0_firstRow_55 : decode cX0_firstRow 55 = .ok (.iload 4, 2) := by decide +kernel
theorem dX0_firstRow_57 : decode cX0_firstRow 57 = .ok (.invokevirtual 55, 3) := by decide +kernel
theorem dX0_firstRow_60 : decode cX0_firstRow 60 = .ok (.iload 4, 2) := by decide +kernel
theorem dX0_firstRow_62 : decode cX0_firstRow 62 = .ok (.if_icmp .ne 12, 3) := by decide +kernel
theorem dX0_firstRow_65 : decode cX0_firstRow 65 = .ok (.aload_n 0, 1) := by decide +kernel
theorem dX0_firstRow_66 : decode cX0_firstRow 66 = .ok (.aload_n 1, 1) := by decide +kernel
theorem dX0_firstRow_67 : decode cX0_firstRow 67 = .ok (.iload 4, 2) := by decide +kernel
theorem dX0_firstRow_69 : decode cX0_firstRow 69 = .ok (.iload_n 3, 1) := by decide +kernel
theorem dX0_firstRow_70 : decode cX0_firstRow 70 = .ok (.invokevirtual 58, 3) := by decide +kernel
theorem dX0_firstRow_73 : decode cX0_firstRow 73 = .ok (.istore_n 3, 1) := by decide +kernel
theorem dX0_firstRow_74 : decode cX0_firstRow 74 = .ok (.iinc 4 1, 3) := by decide +kernel
theorem dX0_firstRow_77 : decode cX0_firstRow 77 = .ok (.goto (-35), 3) := by decide +kernel
theorem dX0_firstRow_80 : decode cX0_firstRow 80 = .ok (.iload_n 3, 1) := by decide +kernel
theorem dX0_firstRow_81 : decode cX0_firstRow 81 = .ok (.ireturn, 1) := by decide +kernel
theorem dX0_firstRowFrom_0 : decode cX0_firstRowFrom 0 = .ok (.aload_n 0, 1) := by decide +kernel
theorem dX0_firstRowFrom_1 : decode cX0_firstRowFrom 1 = .ok (.aload_n 1, 1) := by decide +kernel
theorem dX0_firstRowFrom_2 : decode cX0_firstRowFrom 2 = .ok (.iload_n 2, 1) := by decide +kernel
theorem dX0_firstRowFrom_3 : decode cX0_firstRowFrom 3 = .ok (.invokevirtual 62, 3) := by decide +kernel
theorem dX0_firstRowFrom_6 : decode cX0_firstRowFrom 6 = .ok (.iload_n 2, 1) := by decide +kernel
theorem dX0_firstRowFrom_7 : decode cX0_firstRowFrom 7 = .ok (.istore 4, 2) := by decide +kernel
theorem dX0_firstRowFrom_9 : decode cX0_firstRowFrom 9 = .ok (.iconst 0, 1) := by decide +kernel
theorem dX0_firstRowFrom_10 : decode cX0_firstRowFrom 10 = .ok (.istore 5, 2) := by decide +kernel
theorem dX0_firstRowFrom_12 : decode cX0_firstRowFrom 12 = .ok (.iload 5, 2) := by decide +kernel
theorem dX0_firstRowFrom_14 : decode cX0_firstRowFrom 14 = .ok (.aload_n 0, 1) := by decide +kernel
theorem dX0_firstRowFrom_15 : decode cX0_firstRowFrom 15 = .ok (.getfield 49, 3) := by decide +kernel
theorem dX0_firstRowFrom_18 : decode cX0_firstRowFrom 18 = .ok (.if_icmp .ge 49, 3) := by decide +kernel
theorem dX0_firstRowFrom_21 : decode cX0_firstRowFrom 21 = .ok (.iload 4, 2) := by decide +kernel
theorem dX0_firstRowFrom_23 : decode cX0_firstRowFrom 23 = .ok (.iload_n 3, 1) := by decide +kernel
theorem dX0_firstRowFrom_24 : decode cX0_firstRowFrom 24 = .ok (.if_icmp .ge 43, 3) := by decide +kernel
theorem dX0_firstRowFrom_27 : decode cX0_firstRowFrom 27 = .ok (.aload_n 0, 1) := by decide +kernel
theorem dX0_firstRowFrom_28 : decode cX0_firstRowFrom 28 = .ok (.aload_n 1, 1) := by decide +kernel
theorem dX0_firstRowFrom_29 : decode cX0_firstRowFrom 29 = .ok (.iload 4, 2) := by decide +kernel
theorem dX0_firstRowFrom_31 : decode cX0_firstRowFrom 31 = .ok (.invokevirtual 66, 3) := by decide +kernel
theorem dX0_firstRowFrom_34 : decode cX0_firstRowFrom 34 = .ok (.aload_n 0, 1) := by decide +kernel
theorem dX0_firstRowFrom_35 : decode cX0_firstRowFrom 35 = .ok (.invokevirtual 69, 3) := by decide +kernel
theorem dX0_firstRowFrom_38 : decode cX0_firstRowFrom 38 = .ok (.ifCond .eq 15, 3) := by decide +kernel
theorem dX0_firstRowFrom_41 : decode cX0_firstRowFrom 41 = .ok (.aload_n 0, 1) := by decide +kernel
theorem dX0_firstRowFrom_42 : decode cX0_firstRowFrom 42 = .ok (.aload_n 1, 1) := by decide +kernel
theorem dX0_firstRowFrom_43 : decode cX0_firstRowFrom 43 = .ok (.iload_n 2, 1) := by decide +kernel
theorem dX0_firstRowFrom_44 : decode cX0_firstRowFrom 44 = .ok (.invokevirtual 73, 3) := by decide +kernel
theorem dX0_firstRowFrom_47 : decode cX0_firstRowFrom 47 = .ok (.ifCond .lt 6, 3) := by decide +kernel
theorem dX0_firstRowFrom_50 : decode cX0_firstRowFrom 50 = .ok (.iload 4, 2) := by decide +kernel
theorem dX0_firstRowFrom_52 : decode cX0_firstRowFrom 52 = .ok (.ireturn, 1) := by decide +kernel
theorem dX0_firstRowFrom_53 : decode cX0_firstRowFrom 53 = .ok (.aload_n 0, 1) := by decide +kernel
theorem dX0_firstRowFrom_54 : decode cX0_firstRowFrom 54 = .ok (.iload 4, 2) := by decide +kernel
theorem dX0_firstRowFrom_56 : decode cX0_firstRowFrom 56 = .ok (.invokevirtual 77, 3) := by decide +kernel
theorem dX0_firstRowFrom_59 : decode cX0_firstRowFrom 59 = .ok (.istore 4, 2) := by decide +kernel
theorem dX0_firstRowFrom_61 : decode cX0_firstRowFrom 61 = .ok (.iinc 5 1, 3) := by decide +kernel
theorem dX0_firstRowFrom_64 : decode cX0_firstRowFrom 64 = .ok (.goto (-52), 3) := by decide +kernel
theorem dX0_firstRowFrom_67 : decode cX0_firstRowFrom 67 = .ok (.iload_n 3, 1) := by decide +kernel
theorem dX0_firstRowFrom_68 : decode cX0_firstRowFrom 68 = .ok (.ireturn, 1) := by decide +kernel
theorem dX0_leastSaid_0 : decode cX0_leastSaid 0 = .ok (.aload_n 0, 1) := by decide +kernel
theorem dX0_leastSaid_1 : decode cX0_leastSaid 1 = .ok (.aload_n 1, 1) := by decide +kernel
theorem dX0_leastSaid_2 : decode cX0_leastSaid 2 = .ok (.iload_n 2, 1) := by decide +kernel
theorem dX0_leastSaid_3 : decode cX0_leastSaid 3 = .ok (.invokevirtual 66, 3) := by decide +kernel
theorem dX0_leastSaid_6 : decode cX0_leastSaid 6 = .ok (.aload_n 0, 1) := by decide +kernel
theorem dX0_leastSaid_7 : decode cX0_leastSaid 7 = .ok (.aload_n 1, 1) := by decide +kernel
theorem dX0_leastSaid_8 : decode cX0_leastSaid 8 = .ok (.aload_n 0, 1) := by decide +kernel
theorem dX0_leastSaid_9 : decode cX0_leastSaid 9 = .ok (.iload_n 2, 1) := by decide +kernel
theorem dX0_leastSaid_10 : decode cX0_leastSaid 10 = .ok (.invokevirtual 55, 3) := by decide +kernel
theorem dX0_leastSaid_13 : decode cX0_leastSaid 13 = .ok (.invokevirtual 73, 3) := by decide +kernel
theorem dX0_leastSaid_16 : decode cX0_leastSaid 16 = .ok (.ireturn, 1) := by decide +kernel
theorem dX0_leastSaidFrom_0 : decode cX0_leastSaidFrom 0 = .ok (.iload_n 2, 1) := by decide +kernel
theorem dX0_leastSaidFrom_1 : decode cX0_leastSaidFrom 1 = .ok (.istore_n 3, 1) := by decide +kernel
theorem dX0_leastSaidFrom_2 : decode cX0_leastSaidFrom 2 = .ok (.iconst 0, 1) := by decide +kernel
theorem dX0_leastSaidFrom_3 : decode cX0_leastSaidFrom 3 = .ok (.istore 4, 2) := by decide +kernel
theorem dX0_leastSaidFrom_5 : decode cX0_leastSaidFrom 5 = .ok (.iload 4, 2) := by decide +kernel
theorem dX0_leastSaidFrom_7 : decode cX0_leastSaidFrom 7 = .ok (.aload_n 0, 1) := by decide +kernel
theorem dX0_leastSaidFrom_8 : decode cX0_leastSaidFrom 8 = .ok (.getfield 49, 3) := by decide +kernel
theorem dX0_leastSaidFrom_11 : decode cX0_leastSaidFrom 11 = .ok (.if_icmp .ge 26, 3) := by decide +kernel
theorem dX0_leastSaidFrom_14 : decode cX0_leastSaidFrom 14 = .ok (.aload_n 0, 1) := by decide +kernel
theorem dX0_leastSaidFrom_15 : decode cX0_leastSaidFrom 15 = .ok (.aload_n 1, 1) := by decide +kernel
theorem dX0_leastSaidFrom_16 : decode cX0_leastSaidFrom 16 = .ok (.iload_n 3, 1) := by decide +kernel
theorem dX0_leastSaidFrom_17 : decode cX0_leastSaidFrom 17 = .ok (.invokevirtual 80, 3) := by decide +kernel
theorem dX0_leastSaidFrom_20 : decode cX0_leastSaidFrom 20 = .ok (.ifCond .eq 5, 3) := by decide +kernel
theorem dX0_leastSaidFrom_23 : decode cX0_leastSaidFrom 23 = .ok (.iload_n 3, 1) := by decide +kernel
theorem dX0_leastSaidFrom_24 : decode cX0_leastSaidFrom 24 = .ok (.ireturn, 1) := by decide +kernel
theorem dX0_leastSaidFrom_25 : decode cX0_leastSaidFrom 25 = .ok (.aload_n 0, 1) := by decide +kernel
theorem dX0_leastSaidFrom_26 : decode cX0_leastSaidFrom 26 = .ok (.iload_n 3, 1) := by decide +kernel
theorem dX0_leastSaidFrom_27 : decode cX0_leastSaidFrom 27 = .ok (.invokevirtual 77, 3) := by decide +kernel
theorem dX0_leastSaidFrom_30 : decode cX0_leastSaidFrom 30 = .ok (.istore_n 3, 1) := by decide +kernel
theorem dX0_leastSaidFrom_31 : decode cX0_leastSaidFrom 31 = .ok (.iinc 4 1, 3) := by decide +kernel
theorem dX0_leastSaidFrom_34 : decode cX0_leastSaidFrom 34 = .ok (.goto (-29), 3) := by decide +kernel
theorem dX0_leastSaidFrom_37 : decode cX0_leastSaidFrom 37 = .ok (.bipush (-2), 2) := by decide +kernel
theorem dX0_leastSaidFrom_39 : decode cX0_leastSaidFrom 39 = .ok (.ireturn, 1) := by decide +kernel
theorem dX0_isMember_0 : decode cX0_isMember 0 = .ok (.aload_n 0, 1) := by decide +kernel
theorem dX0_isMember_1 : decode cX0_isMember 1 = .ok (.getfield 25, 3) := by decide +kernel
theorem dX0_isMember_4 : decode cX0_isMember 4 = .ok (.iload_n 1, 1) := by decide +kernel
theorem dX0_isMember_5 : decode cX0_isMember 5 = .ok (.ishr, 1) := by decide +kernel
theorem dX0_isMember_6 : decode cX0_isMember 6 = .ok (.iconst 1, 1) := by decide +kernel
theorem dX0_isMember_7 : decode cX0_isMember 7 = .ok (.iand, 1) := by decide +kernel
theorem dX0_isMember_8 : decode cX0_isMember 8 = .ok (.iconst 1, 1) := by decide +kernel
theorem dX0_isMember_9 : decode cX0_isMember 9 = .ok (.if_icmp .ne 7, 3) := by decide +kernel
theorem dX0_isMember_12 : decode cX0_isMember 12 = .ok (.iconst 1, 1) := by decide +kernel
theorem dX0_isMember_13 : decode cX0_isMember 13 = .ok (.goto 4, 3) := by decide +kernel
theorem dX0_isMember_16 : decode cX0_isMember 16 = .ok (.iconst 0, 1) := by decide +kernel
theorem dX0_isMember_17 : decode cX0_isMember 17 = .ok (.ireturn, 1) := by decide +kernel
theorem dX0_startOf_0 : decode cX0_startOf 0 = .ok (.iload_n 1, 1) := by decide +kernel
theorem dX0_startOf_1 : decode cX0_startOf 1 = .ok (.istore_n 2, 1) := by decide +kernel
theorem dX0_startOf_2 : decode cX0_startOf 2 = .ok (.iconst 0, 1) := by decide +kernel
theorem dX0_startOf_3 : decode cX0_startOf 3 = .ok (.istore_n 3, 1) := by decide +kernel
theorem dX0_startOf_4 : decode cX0_startOf 4 = .ok (.iload_n 3, 1) := by decide +kernel
theorem dX0_startOf_5 : decode cX0_startOf 5 = .ok (.aload_n 0, 1) := by decide +kernel
theorem dX0_startOf_6 : decode cX0_startOf 6 = .ok (.getfield 9, 3) := by decide +kernel
theorem dX0_startOf_9 : decode cX0_startOf 9 = .ok (.getfield 40, 3) := by decide +kernel
theorem dX0_startOf_12 : decode cX0_startOf 12 = .ok (.if_icmp .ge 28, 3) := by decide +kernel
theorem dX0_startOf_15 : decode cX0_startOf 15 = .ok (.aload_n 0, 1) := by decide +kernel
theorem dX0_startOf_16 : decode cX0_startOf 16 = .ok (.iload_n 3, 1) := by decide +kernel
theorem dX0_startOf_17 : decode cX0_startOf 17 = .ok (.invokevirtual 84, 3) := by decide +kernel
theorem dX0_startOf_20 : decode cX0_startOf 20 = .ok (.ifCond .eq 14, 3) := by decide +kernel
theorem dX0_startOf_23 : decode cX0_startOf 23 = .ok (.aload_n 0, 1) := by decide +kernel
theorem dX0_startOf_24 : decode cX0_startOf 24 = .ok (.getfield 9, 3) := by decide +kernel
theorem dX0_startOf_27 : decode cX0_startOf 27 = .ok (.iload_n 2, 1) := by decide +kernel
theorem dX0_startOf_28 : decode cX0_startOf 28 = .ok (.iload_n 3, 1) := by decide +kernel
theorem dX0_startOf_29 : decode cX0_startOf 29 = .ok (.iconst 0, 1) := by decide +kernel
theorem dX0_startOf_30 : decode cX0_startOf 30 = .ok (.invokevirtual 88, 3) := by decide +kernel
theorem dX0_startOf_33 : decode cX0_startOf 33 = .ok (.istore_n 2, 1) := by decide +kernel
theorem dX0_startOf_34 : decode cX0_startOf 34 = .ok (.iinc 3 1, 3) := by decide +kernel
theorem dX0_startOf_37 : decode cX0_startOf 37 = .ok (.goto (-33), 3) := by decide +kernel
theorem dX0_startOf_40 : decode cX0_startOf 40 = .ok (.iload_n 2, 1) := by decide +kernel
theorem dX0_startOf_41 : decode cX0_startOf 41 = .ok (.ireturn, 1) := by decide +kernel
theorem dX0_nextRow_0 : decode cX0_nextRow 0 = .ok (.iload_n 1, 1) := by decide +kernel
theorem dX0_nextRow_1 : decode cX0_nextRow 1 = .ok (.istore_n 2, 1) := by decide +kernel
theorem dX0_nextRow_2 : decode cX0_nextRow 2 = .ok (.iconst 0, 1) := by decide +kernel
theorem dX0_nextRow_3 : decode cX0_nextRow 3 = .ok (.istore_n 3, 1) := by decide +kernel
theorem dX0_nextRow_4 : decode cX0_nextRow 4 = .ok (.iload_n 3, 1) := by decide +kernel
theorem dX0_nextRow_5 : decode cX0_nextRow 5 = .ok (.aload_n 0, 1) := by decide +kernel
theorem dX0_nextRow_6 : decode cX0_nextRow 6 = .ok (.getfield 9, 3) := by decide +kernel
theorem dX0_nextRow_9 : decode cX0_nextRow 9 = .ok (.getfield 40, 3) := by decide +kernel
theorem dX0_nextRow_12 : decode cX0_nextRow 12 = .ok (.if_icmp .ge 67, 3) := by decide +kernel
theorem dX0_nextRow_15 : decode cX0_nextRow 15 = .ok (.aload_n 0, 1) := by decide +kernel
theorem dX0_nextRow_16 : decode cX0_nextRow 16 = .ok (.iload_n 3, 1) := by decide +kernel
theorem dX0_nextRow_17 : decode cX0_nextRow 17 = .ok (.invokevirtual 84, 3) := by decide +kernel
theorem dX0_nextRow_20 : decode cX0_nextRow 20 = .ok (.ifCond .eq 53, 3) := by decide +kernel
theorem dX0_nextRow_23 : decode cX0_nextRow 23 = .ok (.aload_n 0, 1) := by decide +kernel
theorem dX0_nextRow_24 : decode cX0_nextRow 24 = .ok (.getfield 9, 3) := by decide +kernel
theorem dX0_nextRow_27 : decode cX0_nextRow 27 = .ok (.iload_n 2, 1) := by decide +kernel
theorem dX0_nextRow_28 : decode cX0_nextRow 28 = .ok (.iload_n 3, 1) := by decide +kernel
theorem dX0_nextRow_29 : decode cX0_nextRow 29 = .ok (.invokevirtual 92, 3) := by decide +kernel
theorem dX0_nextRow_32 : decode cX0_nextRow 32 = .ok (.istore 4, 2) := by decide +kernel
theorem dX0_nextRow_34 : decode cX0_nextRow 34 = .ok (.iload 4, 2) := by decide +kernel
theorem dX0_nextRow_36 : decode cX0_nextRow 36 = .ok (.iconst 1, 1) := by decide +kernel
theorem dX0_nextRow_37 : decode cX0_nextRow 37 = .ok (.iadd, 1) := by decide +kernel
theorem dX0_nextRow_38 : decode cX0_nextRow 38 = .ok (.aload_n 0, 1) := by decide +kernel
theorem dX0_nextRow_39 : decode cX0_nextRow 39 = .ok (.getfield 9, 3) := by decide +kernel
theorem dX0_nextRow_42 : decode cX0_nextRow 42 = .ok (.getfield 95, 3) := by decide +kernel
theorem dX0_nextRow_45 : decode cX0_nextRow 45 = .ok (.if_icmp .ge 17, 3) := by decide +kernel
theorem dX0_nextRow_48 : decode cX0_nextRow 48 = .ok (.aload_n 0, 1) := by decide +kernel
theorem dX0_nextRow_49 : decode cX0_nextRow 49 = .ok (.getfield 9, 3) := by decide +kernel
theorem dX0_nextRow_52 : decode cX0_nextRow 52 = .ok (.iload_n 2, 1) := by decide +kernel
theorem dX0_nextRow_53 : decode cX0_nextRow 53 = .ok (.iload_n 3, 1) := by decide +kernel
theorem dX0_nextRow_54 : decode cX0_nextRow 54 = .ok (.iload 4, 2) := by decide +kernel
theorem dX0_nextRow_56 : decode cX0_nextRow 56 = .ok (.iconst 1, 1) := by decide +kernel
theorem dX0_nextRow_57 : decode cX0_nextRow 57 = .ok (.iadd, 1) := by decide +kernel
theorem dX0_nextRow_58 : decode cX0_nextRow 58 = .ok (.invokevirtual 88, 3) := by decide +kernel
theorem dX0_nextRow_61 : decode cX0_nextRow 61 = .ok (.ireturn, 1) := by decide +kernel
theorem dX0_nextRow_62 : decode cX0_nextRow 62 = .ok (.aload_n 0, 1) := by decide +kernel
theorem dX0_nextRow_63 : decode cX0_nextRow 63 = .ok (.getfield 9, 3) := by decide +kernel
theorem dX0_nextRow_66 : decode cX0_nextRow 66 = .ok (.iload_n 2, 1) := by decide +kernel
theorem dX0_nextRow_67 : decode cX0_nextRow 67 = .ok (.iload_n 3, 1) := by decide +kernel
theorem dX0_nextRow_68 : decode cX0_nextRow 68 = .ok (.iconst 0, 1) := by decide +kernel
theorem dX0_nextRow_69 : decode cX0_nextRow 69 = .ok (.invokevirtual 88, 3) := by decide +kernel
theorem dX0_nextRow_72 : decode cX0_nextRow 72 = .ok (.istore_n 2, 1) := by decide +kernel
theorem dX0_nextRow_73 : decode cX0_nextRow 73 = .ok (.iinc 3 1, 3) := by decide +kernel
theorem dX0_nextRow_76 : decode cX0_nextRow 76 = .ok (.goto (-72), 3) := by decide +kernel
theorem dX0_nextRow_79 : decode cX0_nextRow 79 = .ok (.iload_n 2, 1) := by decide +kernel
theorem dX0_nextRow_80 : decode cX0_nextRow 80 = .ok (.ireturn, 1) := by decide +kernel
theorem dX0_findCheapest_0 : decode cX0_findCheapest 0 = .ok (.aload_n 0, 1) := by decide +kernel
theorem dX0_findCheapest_1 : decode cX0_findCheapest 1 = .ok (.getfield 15, 3) := by decide +kernel
theorem dX0_findCheapest_4 : decode cX0_findCheapest 4 = .ok (.ldc 98, 2) := by decide +kernel
theorem dX0_findCheapest_6 : decode cX0_findCheapest 6 = .ok (.invokestatic 99, 3) := by decide +kernel
theorem dX0_findCheapest_9 : decode cX0_findCheapest 9 = .ok (.iload_n 2, 1) := by decide +kernel
theorem dX0_findCheapest_10 : decode cX0_findCheapest 10 = .ok (.istore_n 3, 1) := by decide +kernel
theorem dX0_findCheapest_11 : decode cX0_findCheapest 11 = .ok (.iconst 0, 1) := by decide +kernel
theorem dX0_findCheapest_12 : decode cX0_findCheapest 12 = .ok (.istore 4, 2) := by decide +kernel
theorem dX0_findCheapest_14 : decode cX0_findCheapest 14 = .ok (.iload 4, 2) := by decide +kernel
theorem dX0_findCheapest_16 : decode cX0_findCheapest 16 = .ok (.aload_n 0, 1) := by decide +kernel
theorem dX0_findCheapest_17 : decode cX0_findCheapest 17 = .ok (.getfield 49, 3) := by decide +kernel
theorem dX0_findCheapest_20 : decode cX0_findCheapest 20 = .ok (.if_icmp .ge 76, 3) := by decide +kernel
theorem dX0_findCheapest_23 : decode cX0_findCheapest 23 = .ok (.aload_n 1, 1) := by decide +kernel
theorem dX0_findCheapest_24 : decode cX0_findCheapest 24 = .ok (.iload_n 3, 1) := by decide +kernel
theorem dX0_findCheapest_25 : decode cX0_findCheapest 25 = .ok (.invokevirtual 105, 3) := by decide +kernel
theorem dX0_findCheapest_28 : decode cX0_findCheapest 28 = .ok (.istore 5, 2) := by decide +kernel
theorem dX0_findCheapest_30 : decode cX0_findCheapest 30 = .ok (.iconst 0, 1) := by decide +kernel
theorem dX0_findCheapest_31 : decode cX0_findCheapest 31 = .ok (.istore 6, 2) := by decide +kernel
theorem dX0_findCheapest_33 : decode cX0_findCheapest 33 = .ok (.iload 6, 2) := by decide +kernel
theorem dX0_findCheapest_35 : decode cX0_findCheapest 35 = .ok (.aload_n 0, 1) := by decide +kernel
theorem dX0_findCheapest_36 : decode cX0_findCheapest 36 = .ok (.getfield 9, 3) := by decide +kernel
theorem dX0_findCheapest_39 : decode cX0_findCheapest 39 = .ok (.getfield 40, 3) := by decide +kernel
theorem dX0_findCheapest_42 : decode cX0_findCheapest 42 = .ok (.if_icmp .ge 42, 3) := by decide +kernel
theorem dX0_findCheapest_45 : decode cX0_findCheapest 45 = .ok (.iload 5, 2) := by decide +kernel
theorem dX0_findCheapest_47 : decode cX0_findCheapest 47 = .ok (.iconst 4, 1) := by decide +kernel
theorem dX0_findCheapest_48 : decode cX0_findCheapest 48 = .ok (.imul, 1) := by decide +kernel
theorem dX0_findCheapest_49 : decode cX0_findCheapest 49 = .ok (.iload 6, 2) := by decide +kernel
theorem dX0_findCheapest_51 : decode cX0_findCheapest 51 = .ok (.iadd, 1) := by decide +kernel
theorem dX0_findCheapest_52 : decode cX0_findCheapest 52 = .ok (.istore 7, 2) := by decide +kernel
theorem dX0_findCheapest_54 : decode cX0_findCheapest 54 = .ok (.aload_n 0, 1) := by decide +kernel
theorem dX0_findCheapest_55 : decode cX0_findCheapest 55 = .ok (.getfield 15, 3) := by decide +kernel
theorem dX0_findCheapest_58 : decode cX0_findCheapest 58 = .ok (.iload 7, 2) := by decide +kernel
theorem dX0_findCheapest_60 : decode cX0_findCheapest 60 = .ok (.aload_n 0, 1) := by decide +kernel
theorem dX0_findCheapest_61 : decode cX0_findCheapest 61 = .ok (.getfield 15, 3) := by decide +kernel
theorem dX0_findCheapest_64 : decode cX0_findCheapest 64 = .ok (.iload 7, 2) := by decide +kernel
theorem dX0_findCheapest_66 : decode cX0_findCheapest 66 = .ok (.iaload, 1) := by decide +kernel
theorem dX0_findCheapest_67 : decode cX0_findCheapest 67 = .ok (.aload_n 1, 1) := by decide +kernel
theorem dX0_findCheapest_68 : decode cX0_findCheapest 68 = .ok (.iload_n 3, 1) := by decide +kernel
theorem dX0_findCheapest_69 : decode cX0_findCheapest 69 = .ok (.iload 6, 2) := by decide +kernel
theorem dX0_findCheapest_71 : decode cX0_findCheapest 71 = .ok (.invokevirtual 110, 3) := by decide +kernel
theorem dX0_findCheapest_74 : decode cX0_findCheapest 74 = .ok (.invokestatic 43, 3) := by decide +kernel
theorem dX0_findCheapest_77 : decode cX0_findCheapest 77 = .ok (.iastore, 1) := by decide +kernel
theorem dX0_findCheapest_78 : decode cX0_findCheapest 78 = .ok (.iinc 6 1, 3) := by decide +kernel
theorem dX0_findCheapest_81 : decode cX0_findCheapest 81 = .ok (.goto (-48), 3) := by decide +kernel
theorem dX0_findCheapest_84 : decode cX0_findCheapest 84 = .ok (.aload_n 0, 1) := by decide +kernel
theorem dX0_findCheapest_85 : decode cX0_findCheapest 85 = .ok (.iload_n 3, 1) := by decide +kernel
theorem dX0_findCheapest_86 : decode cX0_findCheapest 86 = .ok (.invokevirtual 77, 3) := by decide +kernel
theorem dX0_findCheapest_89 : decode cX0_findCheapest 89 = .ok (.istore_n 3, 1) := by decide +kernel
theorem dX0_findCheapest_90 : decode cX0_findCheapest 90 = .ok (.iinc 4 1, 3) := by decide +kernel
theorem dX0_findCheapest_93 : decode cX0_findCheapest 93 = .ok (.goto (-79), 3) := by decide +kernel
theorem dX0_findCheapest_96 : decode cX0_findCheapest 96 = .ok (.return_, 1) := by decide +kernel
theorem dX0_stand_0 : decode cX0_stand 0 = .ok (.iconst 0, 1) := by decide +kernel
theorem dX0_stand_1 : decode cX0_stand 1 = .ok (.istore_n 3, 1) := by decide +kernel
theorem dX0_stand_2 : decode cX0_stand 2 = .ok (.iload_n 3, 1) := by decide +kernel
theorem dX0_stand_3 : decode cX0_stand 3 = .ok (.aload_n 0, 1) := by decide +kernel
theorem dX0_stand_4 : decode cX0_stand 4 = .ok (.getfield 9, 3) := by decide +kernel
theorem dX0_stand_7 : decode cX0_stand 7 = .ok (.getfield 40, 3) := by decide +kernel
theorem dX0_stand_10 : decode cX0_stand 10 = .ok (.if_icmp .ge 42, 3) := by decide +kernel
theorem dX0_stand_13 : decode cX0_stand 13 = .ok (.aload_n 0, 1) := by decide +kernel
theorem dX0_stand_14 : decode cX0_stand 14 = .ok (.getfield 19, 3) := by decide +kernel
theorem dX0_stand_17 : decode cX0_stand 17 = .ok (.iload_n 3, 1) := by decide +kernel
theorem dX0_stand_18 : decode cX0_stand 18 = .ok (.aload_n 0, 1) := by decide +kernel
theorem dX0_stand_19 : decode cX0_stand 19 = .ok (.getfield 9, 3) := by decide +kernel
theorem dX0_stand_22 : decode cX0_stand 22 = .ok (.iload_n 2, 1) := by decide +kernel
theorem dX0_stand_23 : decode cX0_stand 23 = .ok (.iload_n 3, 1) := by decide +kernel
theorem dX0_stand_24 : decode cX0_stand 24 = .ok (.invokevirtual 92, 3) := by decide +kernel
theorem dX0_stand_27 : decode cX0_stand 27 = .ok (.iastore, 1) := by decide +kernel
theorem dX0_stand_28 : decode cX0_stand 28 = .ok (.aload_n 0, 1) := by decide +kernel
theorem dX0_stand_29 : decode cX0_stand 29 = .ok (.getfield 22, 3) := by decide +kernel
theorem dX0_stand_32 : decode cX0_stand 32 = .ok (.iload_n 3, 1) := by decide +kernel
theorem dX0_stand_33 : decode cX0_stand 33 = .ok (.aload_n 1, 1) := by decide +kernel
theorem dX0_stand_34 : decode cX0_stand 34 = .ok (.iload_n 2, 1) := by decide +kernel
theorem dX0_stand_35 : decode cX0_stand 35 = .ok (.iload_n 3, 1) := by decide +kernel
theorem dX0_stand_36 : decode cX0_stand 36 = .ok (.aload_n 0, 1) := by decide +kernel
theorem dX0_stand_37 : decode cX0_stand 37 = .ok (.getfield 19, 3) := by decide +kernel
theorem dX0_stand_40 : decode cX0_stand 40 = .ok (.iload_n 3, 1) := by decide +kernel
theorem dX0_stand_41 : decode cX0_stand 41 = .ok (.iaload, 1) := by decide +kernel
theorem dX0_stand_42 : decode cX0_stand 42 = .ok (.invokevirtual 113, 3) := by decide +kernel
theorem dX0_stand_45 : decode cX0_stand 45 = .ok (.iastore, 1) := by decide +kernel
theorem dX0_stand_46 : decode cX0_stand 46 = .ok (.iinc 3 1, 3) := by decide +kernel
theorem dX0_stand_49 : decode cX0_stand 49 = .ok (.goto (-47), 3) := by decide +kernel
theorem dX0_stand_52 : decode cX0_stand 52 = .ok (.return_, 1) := by decide +kernel
theorem dX0_mayLie_0 : decode cX0_mayLie 0 = .ok (.iconst 0, 1) := by decide +kernel
theorem dX0_mayLie_1 : decode cX0_mayLie 1 = .ok (.istore_n 1, 1) := by decide +kernel
theorem dX0_mayLie_2 : decode cX0_mayLie 2 = .ok (.iload_n 1, 1) := by decide +kernel
theorem dX0_mayLie_3 : decode cX0_mayLie 3 = .ok (.aload_n 0, 1) := by decide +kernel
theorem dX0_mayLie_4 : decode cX0_mayLie 4 = .ok (.getfield 9, 3) := by decide +kernel
theorem dX0_mayLie_7 : decode cX0_mayLie 7 = .ok (.getfield 116, 3) := by decide +kernel
theorem dX0_mayLie_10 : decode cX0_mayLie 10 = .ok (.if_icmp .ge 19, 3) := by decide +kernel
theorem dX0_mayLie_13 : decode cX0_mayLie 13 = .ok (.aload_n 0, 1) := by decide +kernel
theorem dX0_mayLie_14 : decode cX0_mayLie 14 = .ok (.iload_n 1, 1) := by decide +kernel
theorem dX0_mayLie_15 : decode cX0_mayLie 15 = .ok (.invokevirtual 119, 3) := by decide +kernel
theorem dX0_mayLie_18 : decode cX0_mayLie 18 = .ok (.ifCond .eq 5, 3) := by decide +kernel
theorem dX0_mayLie_21 : decode cX0_mayLie 21 = .ok (.iconst 1, 1) := by decide +kernel
theorem dX0_mayLie_22 : decode cX0_mayLie 22 = .ok (.ireturn, 1) := by decide +kernel
theorem dX0_mayLie_23 : decode cX0_mayLie 23 = .ok (.iinc 1 1, 3) := by decide +kernel
theorem dX0_mayLie_26 : decode cX0_mayLie 26 = .ok (.goto (-24), 3) := by decide +kernel
theorem dX0_mayLie_29 : decode cX0_mayLie 29 = .ok (.iconst 0, 1) := by decide +kernel
theorem dX0_mayLie_30 : decode cX0_mayLie 30 = .ok (.ireturn, 1) := by decide +kernel
theorem dX0_mayLieFor_0 : decode cX0_mayLieFor 0 = .ok (.iconst 0, 1) := by decide +kernel
theorem dX0_mayLieFor_1 : decode cX0_mayLieFor 1 = .ok (.istore_n 2, 1) := by decide +kernel
theorem dX0_mayLieFor_2 : decode cX0_mayLieFor 2 = .ok (.iload_n 2, 1) := by decide +kernel
theorem dX0_mayLieFor_3 : decode cX0_mayLieFor 3 = .ok (.aload_n 0, 1) := by decide +kernel
theorem dX0_mayLieFor_4 : decode cX0_mayLieFor 4 = .ok (.getfield 9, 3) := by decide +kernel
theorem dX0_mayLieFor_7 : decode cX0_mayLieFor 7 = .ok (.getfield 40, 3) := by decide +kernel
theorem dX0_mayLieFor_10 : decode cX0_mayLieFor 10 = .ok (.if_icmp .ge 55, 3) := by decide +kernel
theorem dX0_mayLieFor_13 : decode cX0_mayLieFor 13 = .ok (.aload_n 0, 1) := by decide +kernel
theorem dX0_mayLieFor_14 : decode cX0_mayLieFor 14 = .ok (.getfield 9, 3) := by decide +kernel
theorem dX0_mayLieFor_17 : decode cX0_mayLieFor 17 = .ok (.aload_n 0, 1) := by decide +kernel
theorem dX0_mayLieFor_18 : decode cX0_mayLieFor 18 = .ok (.getfield 19, 3) := by decide +kernel
theorem dX0_mayLieFor_21 : decode cX0_mayLieFor 21 = .ok (.iload_n 2, 1) := by decide +kernel
theorem dX0_mayLieFor_22 : decode cX0_mayLieFor 22 = .ok (.iaload, 1) := by decide +kernel
theorem dX0_mayLieFor_23 : decode cX0_mayLieFor 23 = .ok (.iload_n 1, 1) := by decide +kernel
theorem dX0_mayLieFor_24 : decode cX0_mayLieFor 24 = .ok (.invokevirtual 122, 3) := by decide +kernel
theorem dX0_mayLieFor_27 : decode cX0_mayLieFor 27 = .ok (.aload_n 0, 1) := by decide +kernel
theorem dX0_mayLieFor_28 : decode cX0_mayLieFor 28 = .ok (.getfield 15, 3) := by decide +kernel
theorem dX0_mayLieFor_31 : decode cX0_mayLieFor 31 = .ok (.iload_n 1, 1) := by decide +kernel
theorem dX0_mayLieFor_32 : decode cX0_mayLieFor 32 = .ok (.iconst 4, 1) := by decide +kernel
theorem dX0_mayLieFor_33 : decode cX0_mayLieFor 33 = .ok (.imul, 1) := by decide +kernel
theorem dX0_mayLieFor_34 : decode cX0_mayLieFor 34 = .ok (.iload_n 2, 1) := by decide +kernel
theorem dX0_mayLieFor_35 : decode cX0_mayLieFor 35 = .ok (.iadd, 1) := by decide +kernel
theorem dX0_mayLieFor_36 : decode cX0_mayLieFor 36 = .ok (.iaload, 1) := by decide +kernel
theorem dX0_mayLieFor_37 : decode cX0_mayLieFor 37 = .ok (.isub, 1) := by decide +kernel
theorem dX0_mayLieFor_38 : decode cX0_mayLieFor 38 = .ok (.istore_n 3, 1) := by decide +kernel
theorem dX0_mayLieFor_39 : decode cX0_mayLieFor 39 = .ok (.aload_n 0, 1) := by decide +kernel
theorem dX0_mayLieFor_40 : decode cX0_mayLieFor 40 = .ok (.iload_n 2, 1) := by decide +kernel
theorem dX0_mayLieFor_41 : decode cX0_mayLieFor 41 = .ok (.invokevirtual 84, 3) := by decide +kernel
theorem dX0_mayLieFor_44 : decode cX0_mayLieFor 44 = .ok (.ifCond .eq 15, 3) := by decide +kernel
theorem dX0_mayLieFor_47 : decode cX0_mayLieFor 47 = .ok (.iload_n 3, 1) := by decide +kernel
theorem dX0_mayLieFor_48 : decode cX0_mayLieFor 48 = .ok (.aload_n 0, 1) := by decide +kernel
theorem dX0_mayLieFor_49 : decode cX0_mayLieFor 49 = .ok (.getfield 22, 3) := by decide +kernel
theorem dX0_mayLieFor_52 : decode cX0_mayLieFor 52 = .ok (.iload_n 2, 1) := by decide +kernel
theorem dX0_mayLieFor_53 : decode cX0_mayLieFor 53 = .ok (.iaload, 1) := by decide +kernel
theorem dX0_mayLieFor_54 : decode cX0_mayLieFor 54 = .ok (.if_icmp .gt 5, 3) := by decide +kernel
theorem dX0_mayLieFor_57 : decode cX0_mayLieFor 57 = .ok (.iconst 0, 1) := by decide +kernel
theorem dX0_mayLieFor_58 : decode cX0_mayLieFor 58 = .ok (.ireturn, 1) := by decide +kernel
theorem dX0_mayLieFor_59 : decode cX0_mayLieFor 59 = .ok (.iinc 2 1, 3) := by decide +kernel
theorem dX0_mayLieFor_62 : decode cX0_mayLieFor 62 = .ok (.goto (-60), 3) := by decide +kernel
theorem dX0_mayLieFor_65 : decode cX0_mayLieFor 65 = .ok (.iconst 1, 1) := by decide +kernel
theorem dX0_mayLieFor_66 : decode cX0_mayLieFor 66 = .ok (.ireturn, 1) := by decide +kernel
theorem dX0_allGain_0 : decode cX0_allGain 0 = .ok (.iconst 0, 1) := by decide +kernel
theorem dX0_allGain_1 : decode cX0_allGain 1 = .ok (.istore_n 3, 1) := by decide +kernel
theorem dX0_allGain_2 : decode cX0_allGain 2 = .ok (.iload_n 3, 1) := by decide +kernel
theorem dX0_allGain_3 : decode cX0_allGain 3 = .ok (.aload_n 0, 1) := by decide +kernel
theorem dX0_allGain_4 : decode cX0_allGain 4 = .ok (.getfield 9, 3) := by decide +kernel
theorem dX0_allGain_7 : decode cX0_allGain 7 = .ok (.getfield 40, 3) := by decide +kernel
theorem dX0_allGain_10 : decode cX0_allGain 10 = .ok (.if_icmp .ge 40, 3) := by decide +kernel
theorem dX0_allGain_13 : decode cX0_allGain 13 = .ok (.aload_n 0, 1) := by decide +kernel
theorem dX0_allGain_14 : decode cX0_allGain 14 = .ok (.iload_n 3, 1) := by decide +kernel
theorem dX0_allGain_15 : decode cX0_allGain 15 = .ok (.invokevirtual 84, 3) := by decide +kernel
theorem dX0_allGain_18 : decode cX0_allGain 18 = .ok (.ifCond .eq 26, 3) := by decide +kernel
theorem dX0_allGain_21 : decode cX0_allGain 21 = .ok (.aload_n 1, 1) := by decide +kernel
theorem dX0_allGain_22 : decode cX0_allGain 22 = .ok (.iload_n 2, 1) := by decide +kernel
theorem dX0_allGain_23 : decode cX0_allGain 23 = .ok (.iload_n 3, 1) := by decide +kernel
theorem dX0_allGain_24 : decode cX0_allGain 24 = .ok (.aload_n 0, 1) := by decide +kernel
theorem dX0_allGain_25 : decode cX0_allGain 25 = .ok (.getfield 19, 3) := by decide +kernel
theorem dX0_allGain_28 : decode cX0_allGain 28 = .ok (.iload_n 3, 1) := by decide +kernel
theorem dX0_allGain_29 : decode cX0_allGain 29 = .ok (.iaload, 1) := by decide +kernel
theorem dX0_allGain_30 : decode cX0_allGain 30 = .ok (.invokevirtual 113, 3) := by decide +kernel
theorem dX0_allGain_33 : decode cX0_allGain 33 = .ok (.aload_n 0, 1) := by decide +kernel
theorem dX0_allGain_34 : decode cX0_allGain 34 = .ok (.getfield 22, 3) := by decide +kernel
theorem dX0_allGain_37 : decode cX0_allGain 37 = .ok (.iload_n 3, 1) := by decide +kernel
theorem dX0_allGain_38 : decode cX0_allGain 38 = .ok (.iaload, 1) := by decide +kernel
theorem dX0_allGain_39 : decode cX0_allGain 39 = .ok (.if_icmp .gt 5, 3) := by decide +kernel
theorem dX0_allGain_42 : decode cX0_allGain 42 = .ok (.iconst 0, 1) := by decide +kernel
theorem dX0_allGain_43 : decode cX0_allGain 43 = .ok (.ireturn, 1) := by decide +kernel
theorem dX0_allGain_44 : decode cX0_allGain 44 = .ok (.iinc 3 1, 3) := by decide +kernel
theorem dX0_allGain_47 : decode cX0_allGain 47 = .ok (.goto (-45), 3) := by decide +kernel
theorem dX0_allGain_50 : decode cX0_allGain 50 = .ok (.iconst 1, 1) := by decide +kernel
theorem dX0_allGain_51 : decode cX0_allGain 51 = .ok (.ireturn, 1) := by decide +kernel
theorem dX1_init_0 : decode cX1_init 0 = .ok (.aload_n 0, 1) := by decide +kernel
theorem dX1_init_1 : decode cX1_init 1 = .ok (.invokespecial 3, 3) := by decide +kernel
theorem dX1_init_4 : decode cX1_init 4 = .ok (.aload_n 0, 1) := by decide +kernel
theorem dX1_init_5 : decode cX1_init 5 = .ok (.iload_n 1, 1) := by decide +kernel
theorem dX1_init_6 : decode cX1_init 6 = .ok (.putfield 9, 3) := by decide +kernel
theorem dX1_init_9 : decode cX1_init 9 = .ok (.aload_n 0, 1) := by decide +kernel
theorem dX1_init_10 : decode cX1_init 10 = .ok (.iload_n 1, 1) := by decide +kernel
theorem dX1_init_11 : decode cX1_init 11 = .ok (.iconst 2, 1) := by decide +kernel
theorem dX1_init_12 : decode cX1_init 12 = .ok (.if_icmp .ne 9, 3) := by decide +kernel
theorem dX1_init_15 : decode cX1_init 15 = .ok (.getstatic 15, 3) := by decide +kernel
theorem dX1_init_18 : decode cX1_init 18 = .ok (.goto 17, 3) := by decide +kernel
theorem dX1_init_21 : decode cX1_init 21 = .ok (.iload_n 1, 1) := by decide +kernel
theorem dX1_init_22 : decode cX1_init 22 = .ok (.iconst 3, 1) := by decide +kernel
theorem dX1_init_23 : decode cX1_init 23 = .ok (.if_icmp .ne 9, 3) := by decide +kernel
theorem dX1_init_26 : decode cX1_init 26 = .ok (.getstatic 19, 3) := by decide +kernel
theorem dX1_init_29 : decode cX1_init 29 = .ok (.goto 6, 3) := by decide +kernel
theorem dX1_init_32 : decode cX1_init 32 = .ok (.getstatic 22, 3) := by decide +kernel
theorem dX1_init_35 : decode cX1_init 35 = .ok (.putfield 25, 3) := by decide +kernel
theorem dX1_init_38 : decode cX1_init 38 = .ok (.aload_n 0, 1) := by decide +kernel
theorem dX1_init_39 : decode cX1_init 39 = .ok (.bipush 16, 2) := by decide +kernel
theorem dX1_init_41 : decode cX1_init 41 = .ok (.newarray .int, 2) := by decide +kernel
theorem dX1_init_43 : decode cX1_init 43 = .ok (.putfield 28, 3) := by decide +kernel
theorem dX1_init_46 : decode cX1_init 46 = .ok (.aload_n 0, 1) := by decide +kernel
theorem dX1_init_47 : decode cX1_init 47 = .ok (.bipush 16, 2) := by decide +kernel
theorem dX1_init_49 : decode cX1_init 49 = .ok (.newarray .int, 2) := by decide +kernel
theorem dX1_init_51 : decode cX1_init 51 = .ok (.putfield 31, 3) := by decide +kernel
theorem dX1_init_54 : decode cX1_init 54 = .ok (.aload_n 0, 1) := by decide +kernel
theorem dX1_init_55 : decode cX1_init 55 = .ok (.iconst 4, 1) := by decide +kernel
theorem dX1_init_56 : decode cX1_init 56 = .ok (.newarray .int, 2) := by decide +kernel
theorem dX1_init_58 : decode cX1_init 58 = .ok (.putfield 34, 3) := by decide +kernel
theorem dX1_init_61 : decode cX1_init 61 = .ok (.aload_n 0, 1) := by decide +kernel
theorem dX1_init_62 : decode cX1_init 62 = .ok (.iconst 4, 1) := by decide +kernel
theorem dX1_init_63 : decode cX1_init 63 = .ok (.newarray .int, 2) := by decide +kernel
theorem dX1_init_65 : decode cX1_init 65 = .ok (.putfield 37, 3) := by decide +kernel
theorem dX1_init_68 : decode cX1_init 68 = .ok (.aload_n 0, 1) := by decide +kernel
theorem dX1_init_69 : decode cX1_init 69 = .ok (.iconst 4, 1) := by decide +kernel
theorem dX1_init_70 : decode cX1_init 70 = .ok (.newarray .int, 2) := by decide +kernel
theorem dX1_init_72 : decode cX1_init 72 = .ok (.putfield 40, 3) := by decide +kernel
theorem dX1_init_75 : decode cX1_init 75 = .ok (.aload_n 0, 1) := by decide +kernel
theorem dX1_init_76 : decode cX1_init 76 = .ok (.iconst 4, 1) := by decide +kernel
theorem dX1_init_77 : decode cX1_init 77 = .ok (.newarray .int, 2) := by decide +kernel
theorem dX1_init_79 : decode cX1_init 79 = .ok (.putfield 43, 3) := by decide +kernel
theorem dX1_init_82 : decode cX1_init 82 = .ok (.aload_n 0, 1) := by decide +kernel
theorem dX1_init_83 : decode cX1_init 83 = .ok (.iconst 4, 1) := by decide +kernel
theorem dX1_init_84 : decode cX1_init 84 = .ok (.newarray .int, 2) := by decide +kernel
theorem dX1_init_86 : decode cX1_init 86 = .ok (.putfield 46, 3) := by decide +kernel
theorem dX1_init_89 : decode cX1_init 89 = .ok (.iconst 0, 1) := by decide +kernel
theorem dX1_init_90 : decode cX1_init 90 = .ok (.istore_n 2, 1) := by decide +kernel
theorem dX1_init_91 : decode cX1_init 91 = .ok (.iload_n 2, 1) := by decide +kernel
theorem dX1_init_92 : decode cX1_init 92 = .ok (.bipush 16, 2) := by decide +kernel
theorem dX1_init_94 : decode cX1_init 94 = .ok (.if_icmp .ge 27, 3) := by decide +kernel
theorem dX1_init_97 : decode cX1_init 97 = .ok (.aload_n 0, 1) := by decide +kernel
theorem dX1_init_98 : decode cX1_init 98 = .ok (.getfield 28, 3) := by decide +kernel
theorem dX1_init_101 : decode cX1_init 101 = .ok (.iload_n 2, 1) := by decide +kernel
theorem dX1_init_102 : decode cX1_init 102 = .ok (.iload_n 2, 1) := by decide +kernel
theorem dX1_init_103 : decode cX1_init 103 = .ok (.iconst 4, 1) := by decide +kernel
theorem dX1_init_104 : decode cX1_init 104 = .ok (.irem, 1) := by decide +kernel
theorem dX1_init_105 : decode cX1_init 105 = .ok (.iastore, 1) := by decide +kernel
theorem dX1_init_106 : decode cX1_init 106 = .ok (.aload_n 0, 1) := by decide +kernel
theorem dX1_init_107 : decode cX1_init 107 = .ok (.getfield 31, 3) := by decide +kernel
theorem dX1_init_110 : decode cX1_init 110 = .ok (.iload_n 2, 1) := by decide +kernel
theorem dX1_init_111 : decode cX1_init 111 = .ok (.iload_n 2, 1) := by decide +kernel
theorem dX1_init_112 : decode cX1_init 112 = .ok (.iconst 4, 1) := by decide +kernel
theorem dX1_init_113 : decode cX1_init 113 = .ok (.irem, 1) := by decide +kernel
theorem dX1_init_114 : decode cX1_init 114 = .ok (.iastore, 1) := by decide +kernel
theorem dX1_init_115 : decode cX1_init 115 = .ok (.iinc 2 1, 3) := by decide +kernel
theorem dX1_init_118 : decode cX1_init 118 = .ok (.goto (-27), 3) := by decide +kernel
theorem dX1_init_121 : decode cX1_init 121 = .ok (.return_, 1) := by decide +kernel
theorem dX1_isOrder_0 : decode cX1_isOrder 0 = .ok (.aload_n 0, 1) := by decide +kernel
theorem dX1_isOrder_1 : decode cX1_isOrder 1 = .ok (.getfield 25, 3) := by decide +kernel
theorem dX1_isOrder_4 : decode cX1_isOrder 4 = .ok (.astore_n 2, 1) := by decide +kernel
theorem dX1_isOrder_5 : decode cX1_isOrder 5 = .ok (.aload_n 2, 1) := by decide +kernel
theorem dX1_isOrder_6 : decode cX1_isOrder 6 = .ok (.arraylength, 1) := by decide +kernel
theorem dX1_isOrder_7 : decode cX1_isOrder 7 = .ok (.istore_n 3, 1) := by decide +kernel
theorem dX1_isOrder_8 : decode cX1_isOrder 8 = .ok (.iconst 0, 1) := by decide +kernel
theorem dX1_isOrder_9 : decode cX1_isOrder 9 = .ok (.istore 4, 2) := by decide +kernel
theorem dX1_isOrder_11 : decode cX1_isOrder 11 = .ok (.iload 4, 2) := by decide +kernel
theorem dX1_isOrder_13 : decode cX1_isOrder 13 = .ok (.iload_n 3, 1) := by decide +kernel
theorem dX1_isOrder_14 : decode cX1_isOrder 14 = .ok (.if_icmp .ge 23, 3) := by decide +kernel
theorem dX1_isOrder_17 : decode cX1_isOrder 17 = .ok (.aload_n 2, 1) := by decide +kernel
theorem dX1_isOrder_18 : decode cX1_isOrder 18 = .ok (.iload 4, 2) := by decide +kernel
theorem dX1_isOrder_20 : decode cX1_isOrder 20 = .ok (.iaload, 1) := by decide +kernel
theorem dX1_isOrder_21 : decode cX1_isOrder 21 = .ok (.istore 5, 2) := by decide +kernel
theorem dX1_isOrder_23 : decode cX1_isOrder 23 = .ok (.iload 5, 2) := by decide +kernel
theorem dX1_isOrder_25 : decode cX1_isOrder 25 = .ok (.iload_n 1, 1) := by decide +kernel
theorem dX1_isOrder_26 : decode cX1_isOrder 26 = .ok (.if_icmp .ne 5, 3) := by decide +kernel
theorem dX1_isOrder_29 : decode cX1_isOrder 29 = .ok (.iconst 1, 1) := by decide +kernel
theorem dX1_isOrder_30 : decode cX1_isOrder 30 = .ok (.ireturn, 1) := by decide +kernel
theorem dX1_isOrder_31 : decode cX1_isOrder 31 = .ok (.iinc 4 1, 3) := by decide +kernel
theorem dX1_isOrder_34 : decode cX1_isOrder 34 = .ok (.goto (-23), 3) := by decide +kernel
theorem dX1_isOrder_37 : decode cX1_isOrder 37 = .ok (.iconst 0, 1) := by decide +kernel
theorem dX1_isOrder_38 : decode cX1_isOrder 38 = .ok (.ireturn, 1) := by decide +kernel
theorem dX1_read_0 : decode cX1_read 0 = .ok (.iload_n 1, 1) := by decide +kernel
theorem dX1_read_1 : decode cX1_read 1 = .ok (.istore_n 3, 1) := by decide +kernel
theorem dX1_read_2 : decode cX1_read 2 = .ok (.aload_n 0, 1) := by decide +kernel
theorem dX1_read_3 : decode cX1_read 3 = .ok (.getfield 9, 3) := by decide +kernel
theorem dX1_read_6 : decode cX1_read 6 = .ok (.iconst 1, 1) := by decide +kernel
theorem dX1_read_7 : decode cX1_read 7 = .ok (.isub, 1) := by decide +kernel
theorem dX1_read_8 : decode cX1_read 8 = .ok (.istore 4, 2) := by decide +kernel
theorem dX1_read_10 : decode cX1_read 10 = .ok (.iload 4, 2) := by decide +kernel
theorem dX1_read_12 : decode cX1_read 12 = .ok (.ifCond .lt 22, 3) := by decide +kernel
theorem dX1_read_15 : decode cX1_read 15 = .ok (.aload_n 2, 1) := by decide +kernel
theorem dX1_read_16 : decode cX1_read 16 = .ok (.iload 4, 2) := by decide +kernel
theorem dX1_read_18 : decode cX1_read 18 = .ok (.iload_n 3, 1) := by decide +kernel
theorem dX1_read_19 : decode cX1_read 19 = .ok (.bipush 10, 2) := by decide +kernel
theorem dX1_read_21 : decode cX1_read 21 = .ok (.irem, 1) := by decide +kernel
theorem dX1_read_22 : decode cX1_read 22 = .ok (.iastore, 1) := by decide +kernel
theorem dX1_read_23 : decode cX1_read 23 = .ok (.iload_n 3, 1) := by decide +kernel
theorem dX1_read_24 : decode cX1_read 24 = .ok (.bipush 10, 2) := by decide +kernel
theorem dX1_read_26 : decode cX1_read 26 = .ok (.idiv, 1) := by decide +kernel
theorem dX1_read_27 : decode cX1_read 27 = .ok (.istore_n 3, 1) := by decide +kernel
theorem dX1_read_28 : decode cX1_read 28 = .ok (.iinc 4 (-1), 3) := by decide +kernel
theorem dX1_read_31 : decode cX1_read 31 = .ok (.goto (-21), 3) := by decide +kernel
theorem dX1_read_34 : decode cX1_read 34 = .ok (.return_, 1) := by decide +kernel
theorem dX1_told_0 : decode cX1_told 0 = .ok (.iconst 0, 1) := by decide +kernel
theorem dX1_told_1 : decode cX1_told 1 = .ok (.istore_n 2, 1) := by decide +kernel
theorem dX1_told_2 : decode cX1_told 2 = .ok (.iconst 0, 1) := by decide +kernel
theorem dX1_told_3 : decode cX1_told 3 = .ok (.istore_n 3, 1) := by decide +kernel
theorem dX1_told_4 : decode cX1_told 4 = .ok (.iload_n 3, 1) := by decide +kernel
theorem dX1_told_5 : decode cX1_told 5 = .ok (.aload_n 0, 1) := by decide +kernel
theorem dX1_told_6 : decode cX1_told 6 = .ok (.getfield 9, 3) := by decide +kernel
theorem dX1_told_9 : decode cX1_told 9 = .ok (.if_icmp .ge 18, 3) := by decide +kernel
theorem dX1_told_12 : decode cX1_told 12 = .ok (.iload_n 2, 1) := by decide +kernel
theorem dX1_told_13 : decode cX1_told 13 = .ok (.bipush 10, 2) := by decide +kernel
theorem dX1_told_15 : decode cX1_told 15 = .ok (.imul, 1) := by decide +kernel
theorem dX1_told_16 : decode cX1_told 16 = .ok (.aload_n 1, 1) := by decide +kernel
theorem dX1_told_17 : decode cX1_told 17 = .ok (.iload_n 3, 1) := by decide +kernel
theorem dX1_told_18 : decode cX1_told 18 = .ok (.iaload, 1) := by decide +kernel
theorem dX1_told_19 : decode cX1_told 19 = .ok (.iadd, 1) := by decide +kernel
theorem dX1_told_20 : decode cX1_told 20 = .ok (.istore_n 2, 1) := by decide +kernel
theorem dX1_told_21 : decode cX1_told 21 = .ok (.iinc 3 1, 3) := by decide +kernel
theorem dX1_told_24 : decode cX1_told 24 = .ok (.goto (-20), 3) := by decide +kernel
theorem dX1_told_27 : decode cX1_told 27 = .ok (.iload_n 2, 1) := by decide +kernel
theorem dX1_told_28 : decode cX1_told 28 = .ok (.ireturn, 1) := by decide +kernel
theorem dX1_learn_0 : decode cX1_learn 0 = .ok (.aload_n 0, 1) := by decide +kernel
theorem dX1_learn_1 : decode cX1_learn 1 = .ok (.iload_n 2, 1) := by decide +kernel
theorem dX1_learn_2 : decode cX1_learn 2 = .ok (.aload_n 0, 1) := by decide +kernel
theorem dX1_learn_3 : decode cX1_learn 3 = .ok (.getfield 46, 3) := by decide +kernel
theorem dX1_learn_6 : decode cX1_learn 6 = .ok (.invokevirtual 49, 3) := by decide +kernel
theorem dX1_learn_9 : decode cX1_learn 9 = .ok (.iconst 0, 1) := by decide +kernel
theorem dX1_learn_10 : decode cX1_learn 10 = .ok (.istore_n 3, 1) := by decide +kernel
theorem dX1_learn_11 : decode cX1_learn 11 = .ok (.iload_n 3, 1) := by decide +kernel
theorem dX1_learn_12 : decode cX1_learn 12 = .ok (.aload_n 0, 1) := by decide +kernel
theorem dX1_learn_13 : decode cX1_learn 13 = .ok (.getfield 9, 3) := by decide +kernel
theorem dX1_learn_16 : decode cX1_learn 16 = .ok (.if_icmp .ge 41, 3) := by decide +kernel
theorem dX1_learn_19 : decode cX1_learn 19 = .ok (.aload_n 0, 1) := by decide +kernel
theorem dX1_learn_20 : decode cX1_learn 20 = .ok (.getfield 28, 3) := by decide +kernel
theorem dX1_learn_23 : decode cX1_learn 23 = .ok (.iload_n 1, 1) := by decide +kernel
theorem dX1_learn_24 : decode cX1_learn 24 = .ok (.iconst 4, 1) := by decide +kernel
theorem dX1_learn_25 : decode cX1_learn 25 = .ok (.imul, 1) := by decide +kernel
theorem dX1_learn_26 : decode cX1_learn 26 = .ok (.iload_n 3, 1) := by decide +kernel
theorem dX1_learn_27 : decode cX1_learn 27 = .ok (.iadd, 1) := by decide +kernel
theorem dX1_learn_28 : decode cX1_learn 28 = .ok (.aload_n 0, 1) := by decide +kernel
theorem dX1_learn_29 : decode cX1_learn 29 = .ok (.getfield 46, 3) := by decide +kernel
theorem dX1_learn_32 : decode cX1_learn 32 = .ok (.iload_n 3, 1) := by decide +kernel
theorem dX1_learn_33 : decode cX1_learn 33 = .ok (.iaload, 1) := by decide +kernel
theorem dX1_learn_34 : decode cX1_learn 34 = .ok (.iastore, 1) := by decide +kernel
theorem dX1_learn_35 : decode cX1_learn 35 = .ok (.aload_n 0, 1) := by decide +kernel
theorem dX1_learn_36 : decode cX1_learn 36 = .ok (.getfield 31, 3) := by decide +kernel
theorem dX1_learn_39 : decode cX1_learn 39 = .ok (.iload_n 1, 1) := by decide +kernel
theorem dX1_learn_40 : decode cX1_learn 40 = .ok (.iconst 4, 1) := by decide +kernel
theorem dX1_learn_41 : decode cX1_learn 41 = .ok (.imul, 1) := by decide +kernel
theorem dX1_learn_42 : decode cX1_learn 42 = .ok (.aload_n 0, 1) := by decide +kernel
theorem dX1_learn_43 : decode cX1_learn 43 = .ok (.getfield 46, 3) := by decide +kernel
theorem dX1_learn_46 : decode cX1_learn 46 = .ok (.iload_n 3, 1) := by decide +kernel
theorem dX1_learn_47 : decode cX1_learn 47 = .ok (.iaload, 1) := by decide +kernel
theorem dX1_learn_48 : decode cX1_learn 48 = .ok (.iadd, 1) := by decide +kernel
theorem dX1_learn_49 : decode cX1_learn 49 = .ok (.iload_n 3, 1) := by decide +kernel
theorem dX1_learn_50 : decode cX1_learn 50 = .ok (.iastore, 1) := by decide +kernel
theorem dX1_learn_51 : decode cX1_learn 51 = .ok (.iinc 3 1, 3) := by decide +kernel
theorem dX1_learn_54 : decode cX1_learn 54 = .ok (.goto (-43), 3) := by decide +kernel
theorem dX1_learn_57 : decode cX1_learn 57 = .ok (.return_, 1) := by decide +kernel
theorem dX1_orderOf_0 : decode cX1_orderOf 0 = .ok (.iconst 0, 1) := by decide +kernel
theorem dX1_orderOf_1 : decode cX1_orderOf 1 = .ok (.istore_n 2, 1) := by decide +kernel
theorem dX1_orderOf_2 : decode cX1_orderOf 2 = .ok (.iload_n 2, 1) := by decide +kernel
theorem dX1_orderOf_3 : decode cX1_orderOf 3 = .ok (.aload_n 0, 1) := by decide +kernel
theorem dX1_orderOf_4 : decode cX1_orderOf 4 = .ok (.getfield 9, 3) := by decide +kernel
theorem dX1_orderOf_7 : decode cX1_orderOf 7 = .ok (.if_icmp .ge 25, 3) := by decide +kernel
theorem dX1_orderOf_10 : decode cX1_orderOf 10 = .ok (.aload_n 0, 1) := by decide +kernel
theorem dX1_orderOf_11 : decode cX1_orderOf 11 = .ok (.getfield 46, 3) := by decide +kernel
theorem dX1_orderOf_14 : decode cX1_orderOf 14 = .ok (.iload_n 2, 1) := by decide +kernel
theorem dX1_orderOf_15 : decode cX1_orderOf 15 = .ok (.aload_n 0, 1) := by decide +kernel
theorem dX1_orderOf_16 : decode cX1_orderOf 16 = .ok (.getfield 28, 3) := by decide +kernel
theorem dX1_orderOf_19 : decode cX1_orderOf 19 = .ok (.iload_n 1, 1) := by decide +kernel
theorem dX1_orderOf_20 : decode cX1_orderOf 20 = .ok (.iconst 4, 1) := by decide +kernel
theorem dX1_orderOf_21 : decode cX1_orderOf 21 = .ok (.imul, 1) := by decide +kernel
theorem dX1_orderOf_22 : decode cX1_orderOf 22 = .ok (.iload_n 2, 1) := by decide +kernel
theorem dX1_orderOf_23 : decode cX1_orderOf 23 = .ok (.iadd, 1) := by decide +kernel
theorem dX1_orderOf_24 : decode cX1_orderOf 24 = .ok (.iaload, 1) := by decide +kernel
theorem dX1_orderOf_25 : decode cX1_orderOf 25 = .ok (.iastore, 1) := by decide +kernel
theorem dX1_orderOf_26 : decode cX1_orderOf 26 = .ok (.iinc 2 1, 3) := by decide +kernel
theorem dX1_orderOf_29 : decode cX1_orderOf 29 = .ok (.goto (-27), 3) := by decide +kernel
theorem dX1_orderOf_32 : decode cX1_orderOf 32 = .ok (.aload_n 0, 1) := by decide +kernel
theorem dX1_orderOf_33 : decode cX1_orderOf 33 = .ok (.aload_n 0, 1) := by decide +kernel
theorem dX1_orderOf_34 : decode cX1_orderOf 34 = .ok (.getfield 46, 3) := by decide +kernel
theorem dX1_orderOf_37 : decode cX1_orderOf 37 = .ok (.invokevirtual 53, 3) := by decide +kernel
theorem dX1_orderOf_40 : decode cX1_orderOf 40 = .ok (.ireturn, 1) := by decide +kernel
theorem dX1_placeFor_0 : decode cX1_placeFor 0 = .ok (.aload_n 0, 1) := by decide +kernel
theorem dX1_placeFor_1 : decode cX1_placeFor 1 = .ok (.getfield 31, 3) := by decide +kernel
theorem dX1_placeFor_4 : decode cX1_placeFor 4 = .ok (.iload_n 1, 1) := by decide +kernel
theorem dX1_placeFor_5 : decode cX1_placeFor 5 = .ok (.iconst 4, 1) := by decide +kernel
theorem dX1_placeFor_6 : decode cX1_placeFor 6 = .ok (.imul, 1) := by decide +kernel
theorem dX1_placeFor_7 : decode cX1_placeFor 7 = .ok (.iload_n 2, 1) := by decide +kernel
theorem dX1_placeFor_8 : decode cX1_placeFor 8 = .ok (.iadd, 1) := by decide +kernel
theorem dX1_placeFor_9 : decode cX1_placeFor 9 = .ok (.iaload, 1) := by decide +kernel
theorem dX1_placeFor_10 : decode cX1_placeFor 10 = .ok (.ireturn, 1) := by decide +kernel
theorem dX1_bestOf_0 : decode cX1_bestOf 0 = .ok (.iconst 0, 1) := by decide +kernel
theorem dX1_bestOf_1 : decode cX1_bestOf 1 = .ok (.istore_n 3, 1) := by decide +kernel
theorem dX1_bestOf_2 : decode cX1_bestOf 2 = .ok (.iload_n 3, 1) := by decide +kernel
theorem dX1_bestOf_3 : decode cX1_bestOf 3 = .ok (.aload_n 0, 1) := by decide +kernel
theorem dX1_bestOf_4 : decode cX1_bestOf 4 = .ok (.getfield 9, 3) := by decide +kernel
theorem dX1_bestOf_7 : decode cX1_bestOf 7 = .ok (.if_icmp .ge 34, 3) := by decide +kernel
theorem dX1_bestOf_10 : decode cX1_bestOf 10 = .ok (.aload_n 0, 1) := by decide +kernel
theorem dX1_bestOf_11 : decode cX1_bestOf 11 = .ok (.getfield 28, 3) := by decide +kernel
theorem dX1_bestOf_14 : decode cX1_bestOf 14 = .ok (.iload_n 1, 1) := by decide +kernel
theorem dX1_bestOf_15 : decode cX1_bestOf 15 = .ok (.iconst 4, 1) := by decide +kernel
theorem dX1_bestOf_16 : decode cX1_bestOf 16 = .ok (.imul, 1) := by decide +kernel
theorem dX1_bestOf_17 : decode cX1_bestOf 17 = .ok (.iload_n 3, 1) := by decide +kernel
theorem dX1_bestOf_18 : decode cX1_bestOf 18 = .ok (.iadd, 1) := by decide +kernel
theorem dX1_bestOf_19 : decode cX1_bestOf 19 = .ok (.iaload, 1) := by decide +kernel
theorem dX1_bestOf_20 : decode cX1_bestOf 20 = .ok (.istore 4, 2) := by decide +kernel
theorem dX1_bestOf_22 : decode cX1_bestOf 22 = .ok (.iload_n 2, 1) := by decide +kernel
theorem dX1_bestOf_23 : decode cX1_bestOf 23 = .ok (.iload 4, 2) := by decide +kernel
theorem dX1_bestOf_25 : decode cX1_bestOf 25 = .ok (.ishr, 1) := by decide +kernel
theorem dX1_bestOf_26 : decode cX1_bestOf 26 = .ok (.iconst 1, 1) := by decide +kernel
theorem dX1_bestOf_27 : decode cX1_bestOf 27 = .ok (.iand, 1) := by decide +kernel
theorem dX1_bestOf_28 : decode cX1_bestOf 28 = .ok (.iconst 1, 1) := by decide +kernel
theorem dX1_bestOf_29 : decode cX1_bestOf 29 = .ok (.if_icmp .ne 6, 3) := by decide +kernel
theorem dX1_bestOf_32 : decode cX1_bestOf 32 = .ok (.iload 4, 2) := by decide +kernel
theorem dX1_bestOf_34 : decode cX1_bestOf 34 = .ok (.ireturn, 1) := by decide +kernel
theorem dX1_bestOf_35 : decode cX1_bestOf 35 = .ok (.iinc 3 1, 3) := by decide +kernel
theorem dX1_bestOf_38 : decode cX1_bestOf 38 = .ok (.goto (-36), 3) := by decide +kernel
theorem dX1_bestOf_41 : decode cX1_bestOf 41 = .ok (.iconst 0, 1) := by decide +kernel
theorem dX1_bestOf_42 : decode cX1_bestOf 42 = .ok (.ireturn, 1) := by decide +kernel
theorem dX1_tradeByRings_0 : decode cX1_tradeByRings 0 = .ok (.iconst 1, 1) := by decide +kernel
theorem dX1_tradeByRings_1 : decode cX1_tradeByRings 1 = .ok (.aload_n 0, 1) := by decide +kernel
theorem dX1_tradeByRings_2 : decode cX1_tradeByRings 2 = .ok (.getfield 9, 3) := by decide +kernel
theorem dX1_tradeByRings_5 : decode cX1_tradeByRings 5 = .ok (.ishl, 1) := by decide +kernel
theorem dX1_tradeByRings_6 : decode cX1_tradeByRings 6 = .ok (.iconst 1, 1) := by decide +kernel
theorem dX1_tradeByRings_7 : decode cX1_tradeByRings 7 = .ok (.isub, 1) := by decide +kernel
theorem dX1_tradeByRings_8 : decode cX1_tradeByRings 8 = .ok (.istore_n 1, 1) := by decide +kernel
theorem dX1_tradeByRings_9 : decode cX1_tradeByRings 9 = .ok (.iconst 1, 1) := by decide +kernel
theorem dX1_tradeByRings_10 : decode cX1_tradeByRings 10 = .ok (.istore_n 2, 1) := by decide +kernel
theorem dX1_tradeByRings_11 : decode cX1_tradeByRings 11 = .ok (.iload_n 2, 1) := by decide +kernel
theorem dX1_tradeByRings_12 : decode cX1_tradeByRings 12 = .ok (.aload_n 0, 1) := by decide +kernel
theorem dX1_tradeByRings_13 : decode cX1_tradeByRings 13 = .ok (.getfield 9, 3) := by decide +kernel
theorem dX1_tradeByRings_16 : decode cX1_tradeByRings 16 = .ok (.if_icmp .gt 20, 3) := by decide +kernel
theorem dX1_tradeByRings_19 : decode cX1_tradeByRings 19 = .ok (.iload_n 1, 1) := by decide +kernel
theorem dX1_tradeByRings_20 : decode cX1_tradeByRings 20 = .ok (.ifCond .eq 16, 3) := by decide +kernel
theorem dX1_tradeByRings_23 : decode cX1_tradeByRings 23 = .ok (.aload_n 0, 1) := by decide +kernel
theorem dX1_tradeByRings_24 : decode cX1_tradeByRings 24 = .ok (.iload_n 1, 1) := by decide +kernel
theorem dX1_tradeByRings_25 : decode cX1_tradeByRings 25 = .ok (.iload_n 2, 1) := by decide +kernel
theorem dX1_tradeByRings_26 : decode cX1_tradeByRings 26 = .ok (.invokevirtual 57, 3) := by decide +kernel
theorem dX1_tradeByRings_29 : decode cX1_tradeByRings 29 = .ok (.istore_n 1, 1) := by decide +kernel
theorem dX1_tradeByRings_30 : decode cX1_tradeByRings 30 = .ok (.iinc 2 1, 3) := by decide +kernel
theorem dX1_tradeByRings_33 : decode cX1_tradeByRings 33 = .ok (.goto (-22), 3) := by decide +kernel
theorem dX1_tradeByRings_36 : decode cX1_tradeByRings 36 = .ok (.aload_n 0, 1) := by decide +kernel
theorem dX1_tradeByRings_37 : decode cX1_tradeByRings 37 = .ok (.aload_n 0, 1) := by decide +kernel
theorem dX1_tradeByRings_38 : decode cX1_tradeByRings 38 = .ok (.getfield 37, 3) := by decide +kernel
theorem dX1_tradeByRings_41 : decode cX1_tradeByRings 41 = .ok (.invokevirtual 53, 3) := by decide +kernel
theorem dX1_tradeByRings_44 : decode cX1_tradeByRings 44 = .ok (.ireturn, 1) := by decide +kernel
theorem dX1_leaveByRings_0 : decode cX1_leaveByRings 0 = .ok (.iconst 0, 1) := by decide +kernel
theorem dX1_leaveByRings_1 : decode cX1_leaveByRings 1 = .ok (.istore_n 3, 1) := by decide +kernel
theorem dX1_leaveByRings_2 : decode cX1_leaveByRings 2 = .ok (.iload_n 3, 1) := by decide +kernel
theorem dX1_leaveByRings_3 : decode cX1_leaveByRings 3 = .ok (.aload_n 0, 1) := by decide +kernel
theorem dX1_leaveByRings_4 : decode cX1_leaveByRings 4 = .ok (.getfield 9, 3) := by decide +kernel
theorem dX1_leaveByRings_7 : decode cX1_leaveByRings 7 = .ok (.if_icmp .ge 21, 3) := by decide +kernel
theorem dX1_leaveByRings_10 : decode cX1_leaveByRings 10 = .ok (.aload_n 0, 1) := by decide +kernel
theorem dX1_leaveByRings_11 : decode cX1_leaveByRings 11 = .ok (.getfield 34, 3) := by decide +kernel
theorem dX1_leaveByRings_14 : decode cX1_leaveByRings 14 = .ok (.iload_n 3, 1) := by decide +kernel
theorem dX1_leaveByRings_15 : decode cX1_leaveByRings 15 = .ok (.aload_n 0, 1) := by decide +kernel
theorem dX1_leaveByRings_16 : decode cX1_leaveByRings 16 = .ok (.iload_n 3, 1) := by decide +kernel
theorem dX1_leaveByRings_17 : decode cX1_leaveByRings 17 = .ok (.iload_n 1, 1) := by decide +kernel
theorem dX1_leaveByRings_18 : decode cX1_leaveByRings 18 = .ok (.invokevirtual 61, 3) := by decide +kernel
theorem dX1_leaveByRings_21 : decode cX1_leaveByRings 21 = .ok (.iastore, 1) := by decide +kernel
theorem dX1_leaveByRings_22 : decode cX1_leaveByRings 22 = .ok (.iinc 3 1, 3) := by decide +kernel
theorem dX1_leaveByRings_25 : decode cX1_leaveByRings 25 = .ok (.goto (-23), 3) := by decide +kernel
theorem dX1_leaveByRings_28 : decode cX1_leaveByRings 28 = .ok (.iload_n 1, 1) := by decide +kernel
theorem dX1_leaveByRings_29 : decode cX1_leaveByRings 29 = .ok (.istore_n 3, 1) := by decide +kernel
theorem dX1_leaveByRings_30 : decode cX1_leaveByRings 30 = .ok (.iconst 0, 1) := by decide +kernel
theorem dX1_leaveByRings_31 : decode cX1_leaveByRings 31 = .ok (.istore 4, 2) := by decide +kernel
theorem dX1_leaveByRings_33 : decode cX1_leaveByRings 33 = .ok (.iload 4, 2) := by decide +kernel
theorem dX1_leaveByRings_35 : decode cX1_leaveByRings 35 = .ok (.aload_n 0, 1) := by decide +kernel
theorem dX1_leaveByRings_36 : decode cX1_leaveByRings 36 = .ok (.getfield 9, 3) := by decide +kernel
theorem dX1_leaveByRings_39 : decode cX1_leaveByRings 39 = .ok (.if_icmp .ge 59, 3) := by decide +kernel
theorem dX1_leaveByRings_42 : decode cX1_leaveByRings 42 = .ok (.iload_n 1, 1) := by decide +kernel
theorem dX1_leaveByRings_43 : decode cX1_leaveByRings 43 = .ok (.iload 4, 2) := by decide +kernel
theorem dX1_leaveByRings_45 : decode cX1_leaveByRings 45 = .ok (.ishr, 1) := by decide +kernel
theorem dX1_leaveByRings_46 : decode cX1_leaveByRings 46 = .ok (.iconst 1, 1) := by decide +kernel
theorem dX1_leaveByRings_47 : decode cX1_leaveByRings 47 = .ok (.iand, 1) := by decide +kernel
theorem dX1_leaveByRings_48 : decode cX1_leaveByRings 48 = .ok (.iconst 1, 1) := by decide +kernel
theorem dX1_leaveByRings_49 : decode cX1_leaveByRings 49 = .ok (.if_icmp .ne 43, 3) := by decide +kernel
theorem dX1_leaveByRings_52 : decode cX1_leaveByRings 52 = .ok (.aload_n 0, 1) := by decide +kernel
theorem dX1_leaveByRings_53 : decode cX1_leaveByRings 53 = .ok (.iload 4, 2) := by decide +kernel
theorem dX1_leaveByRings_55 : decode cX1_leaveByRings 55 = .ok (.invokevirtual 64, 3) := by decide +kernel
theorem dX1_leaveByRings_58 : decode cX1_leaveByRings 58 = .ok (.ifCond .eq 34, 3) := by decide +kernel
theorem dX1_leaveByRings_61 : decode cX1_leaveByRings 61 = .ok (.aload_n 0, 1) := by decide +kernel
theorem dX1_leaveByRings_62 : decode cX1_leaveByRings 62 = .ok (.getfield 37, 3) := by decide +kernel
theorem dX1_leaveByRings_65 : decode cX1_leaveByRings 65 = .ok (.iload 4, 2) := by decide +kernel
theorem dX1_leaveByRings_67 : decode cX1_leaveByRings 67 = .ok (.aload_n 0, 1) := by decide +kernel
theorem dX1_leaveByRings_68 : decode cX1_leaveByRings 68 = .ok (.getfield 34, 3) := by decide +kernel
theorem dX1_leaveByRings_71 : decode cX1_leaveByRings 71 = .ok (.iload 4, 2) := by decide +kernel
theorem dX1_leaveByRings_73 : decode cX1_leaveByRings 73 = .ok (.iaload, 1) := by decide +kernel
theorem dX1_leaveByRings_74 : decode cX1_leaveByRings 74 = .ok (.iastore, 1) := by decide +kernel
theorem dX1_leaveByRings_75 : decode cX1_leaveByRings 75 = .ok (.aload_n 0, 1) := by decide +kernel
theorem dX1_leaveByRings_76 : decode cX1_leaveByRings 76 = .ok (.getfield 40, 3) := by decide +kernel
theorem dX1_leaveByRings_79 : decode cX1_leaveByRings 79 = .ok (.iload 4, 2) := by decide +kernel
theorem dX1_leaveByRings_81 : decode cX1_leaveByRings 81 = .ok (.iload_n 2, 1) := by decide +kernel
theorem dX1_leaveByRings_82 : decode cX1_leaveByRings 82 = .ok (.iastore, 1) := by decide +kernel
theorem dX1_leaveByRings_83 : decode cX1_leaveByRings 83 = .ok (.iload_n 3, 1) := by decide +kernel
theorem dX1_leaveByRings_84 : decode cX1_leaveByRings 84 = .ok (.iconst 1, 1) := by decide +kernel
theorem dX1_leaveByRings_85 : decode cX1_leaveByRings 85 = .ok (.iload 4, 2) := by decide +kernel
theorem dX1_leaveByRings_87 : decode cX1_leaveByRings 87 = .ok (.ishl, 1) := by decide +kernel
theorem dX1_leaveByRings_88 : decode cX1_leaveByRings 88 = .ok (.iconst (-1), 1) := by decide +kernel
theorem dX1_leaveByRings_89 : decode cX1_leaveByRings 89 = .ok (.ixor, 1) := by decide +kernel
theorem dX1_leaveByRings_90 : decode cX1_leaveByRings 90 = .ok (.iand, 1) := by decide +kernel
theorem dX1_leaveByRings_91 : decode cX1_leaveByRings 91 = .ok (.istore_n 3, 1) := by decide +kernel
theorem dX1_leaveByRings_92 : decode cX1_leaveByRings 92 = .ok (.iinc 4 1, 3) := by decide +kernel
theorem dX1_leaveByRings_95 : decode cX1_leaveByRings 95 = .ok (.goto (-62), 3) := by decide +kernel
theorem dX1_leaveByRings_98 : decode cX1_leaveByRings 98 = .ok (.iload_n 3, 1) := by decide +kernel
theorem dX1_leaveByRings_99 : decode cX1_leaveByRings 99 = .ok (.ireturn, 1) := by decide +kernel
theorem dX1_isOnRing_0 : decode cX1_isOnRing 0 = .ok (.aload_n 0, 1) := by decide +kernel
theorem dX1_isOnRing_1 : decode cX1_isOnRing 1 = .ok (.getfield 34, 3) := by decide +kernel
theorem dX1_isOnRing_4 : decode cX1_isOnRing 4 = .ok (.iload_n 1, 1) := by decide +kernel
theorem dX1_isOnRing_5 : decode cX1_isOnRing 5 = .ok (.iaload, 1) := by decide +kernel
theorem dX1_isOnRing_6 : decode cX1_isOnRing 6 = .ok (.istore_n 2, 1) := by decide +kernel
theorem dX1_isOnRing_7 : decode cX1_isOnRing 7 = .ok (.iconst 1, 1) := by decide +kernel
theorem dX1_isOnRing_8 : decode cX1_isOnRing 8 = .ok (.istore_n 3, 1) := by decide +kernel
theorem dX1_isOnRing_9 : decode cX1_isOnRing 9 = .ok (.iload_n 3, 1) := by decide +kernel
theorem dX1_isOnRing_10 : decode cX1_isOnRing 10 = .ok (.aload_n 0, 1) := by decide +kernel
theorem dX1_isOnRing_11 : decode cX1_isOnRing 11 = .ok (.getfield 9, 3) := by decide +kernel
theorem dX1_isOnRing_14 : decode cX1_isOnRing 14 = .ok (.if_icmp .ge 21, 3) := by decide +kernel
theorem dX1_isOnRing_17 : decode cX1_isOnRing 17 = .ok (.iload_n 2, 1) := by decide +kernel
theorem dX1_isOnRing_18 : decode cX1_isOnRing 18 = .ok (.iload_n 1, 1) := by decide +kernel
theorem dX1_isOnRing_19 : decode cX1_isOnRing 19 = .ok (.if_icmp .eq 16, 3) := by decide +kernel
theorem dX1_isOnRing_22 : decode cX1_isOnRing 22 = .ok (.aload_n 0, 1) := by decide +kernel
theorem dX1_isOnRing_23 : decode cX1_isOnRing 23 = .ok (.getfield 34, 3) := by decide +kernel
theorem dX1_isOnRing_26 : decode cX1_isOnRing 26 = .ok (.iload_n 2, 1) := by decide +kernel
theorem dX1_isOnRing_27 : decode cX1_isOnRing 27 = .ok (.iaload, 1) := by decide +kernel
theorem dX1_isOnRing_28 : decode cX1_isOnRing 28 = .ok (.istore_n 2, 1) := by decide +kernel
theorem dX1_isOnRing_29 : decode cX1_isOnRing 29 = .ok (.iinc 3 1, 3) := by decide +kernel
theorem dX1_isOnRing_32 : decode cX1_isOnRing 32 = .ok (.goto (-23), 3) := by decide +kernel
theorem dX1_isOnRing_35 : decode cX1_isOnRing 35 = .ok (.iload_n 2, 1) := by decide +kernel
theorem dX1_isOnRing_36 : decode cX1_isOnRing 36 = .ok (.iload_n 1, 1) := by decide +kernel
theorem dX1_isOnRing_37 : decode cX1_isOnRing 37 = .ok (.if_icmp .ne 7, 3) := by decide +kernel
theorem dX1_isOnRing_40 : decode cX1_isOnRing 40 = .ok (.iconst 1, 1) := by decide +kernel
theorem dX1_isOnRing_41 : decode cX1_isOnRing 41 = .ok (.goto 4, 3) := by decide +kernel
theorem dX1_isOnRing_44 : decode cX1_isOnRing 44 = .ok (.iconst 0, 1) := by decide +kernel
theorem dX1_isOnRing_45 : decode cX1_isOnRing 45 = .ok (.ireturn, 1) := by decide +kernel
theorem dX1_tradeByTurns_0 : decode cX1_tradeByTurns 0 = .ok (.aload_n 0, 1) := by decide +kernel
theorem dX1_tradeByTurns_1 : decode cX1_tradeByTurns 1 = .ok (.iload_n 1, 1) := by decide +kernel
theorem dX1_tradeByTurns_2 : decode cX1_tradeByTurns 2 = .ok (.aload_n 0, 1) := by decide +kernel
theorem dX1_tradeByTurns_3 : decode cX1_tradeByTurns 3 = .ok (.getfield 46, 3) := by decide +kernel
theorem dX1_tradeByTurns_6 : decode cX1_tradeByTurns 6 = .ok (.invokevirtual 49, 3) := by decide +kernel
theorem dX1_tradeByTurns_9 : decode cX1_tradeByTurns 9 = .ok (.iconst 1, 1) := by decide +kernel
theorem dX1_tradeByTurns_10 : decode cX1_tradeByTurns 10 = .ok (.aload_n 0, 1) := by decide +kernel
theorem dX1_tradeByTurns_11 : decode cX1_tradeByTurns 11 = .ok (.getfield 9, 3) := by decide +kernel
theorem dX1_tradeByTurns_14 : decode cX1_tradeByTurns 14 = .ok (.ishl, 1) := by decide +kernel
theorem dX1_tradeByTurns_15 : decode cX1_tradeByTurns 15 = .ok (.iconst 1, 1) := by decide +kernel
theorem dX1_tradeByTurns_16 : decode cX1_tradeByTurns 16 = .ok (.isub, 1) := by decide +kernel
theorem dX1_tradeByTurns_17 : decode cX1_tradeByTurns 17 = .ok (.istore_n 2, 1) := by decide +kernel
theorem dX1_tradeByTurns_18 : decode cX1_tradeByTurns 18 = .ok (.iconst 0, 1) := by decide +kernel
theorem dX1_tradeByTurns_19 : decode cX1_tradeByTurns 19 = .ok (.istore_n 3, 1) := by decide +kernel
theorem dX1_tradeByTurns_20 : decode cX1_tradeByTurns 20 = .ok (.iload_n 3, 1) := by decide +kernel
theorem dX1_tradeByTurns_21 : decode cX1_tradeByTurns 21 = .ok (.aload_n 0, 1) := by decide +kernel
theorem dX1_tradeByTurns_22 : decode cX1_tradeByTurns 22 = .ok (.getfield 9, 3) := by decide +kernel
theorem dX1_tradeByTurns_25 : decode cX1_tradeByTurns 25 = .ok (.if_icmp .ge 45, 3) := by decide +kernel
theorem dX1_tradeByTurns_28 : decode cX1_tradeByTurns 28 = .ok (.aload_n 0, 1) := by decide +kernel
theorem dX1_tradeByTurns_29 : decode cX1_tradeByTurns 29 = .ok (.getfield 46, 3) := by decide +kernel
theorem dX1_tradeByTurns_32 : decode cX1_tradeByTurns 32 = .ok (.iload_n 3, 1) := by decide +kernel
theorem dX1_tradeByTurns_33 : decode cX1_tradeByTurns 33 = .ok (.iaload, 1) := by decide +kernel
theorem dX1_tradeByTurns_34 : decode cX1_tradeByTurns 34 = .ok (.istore 4, 2) := by decide +kernel
theorem dX1_tradeByTurns_36 : decode cX1_tradeByTurns 36 = .ok (.aload_n 0, 1) := by decide +kernel
theorem dX1_tradeByTurns_37 : decode cX1_tradeByTurns 37 = .ok (.getfield 37, 3) := by decide +kernel
theorem dX1_tradeByTurns_40 : decode cX1_tradeByTurns 40 = .ok (.iload 4, 2) := by decide +kernel
theorem dX1_tradeByTurns_42 : decode cX1_tradeByTurns 42 = .ok (.aload_n 0, 1) := by decide +kernel
theorem dX1_tradeByTurns_43 : decode cX1_tradeByTurns 43 = .ok (.iload 4, 2) := by decide +kernel
theorem dX1_tradeByTurns_45 : decode cX1_tradeByTurns 45 = .ok (.iload_n 2, 1) := by decide +kernel
theorem dX1_tradeByTurns_46 : decode cX1_tradeByTurns 46 = .ok (.invokevirtual 61, 3) := by decide +kernel
theorem dX1_tradeByTurns_49 : decode cX1_tradeByTurns 49 = .ok (.iastore, 1) := by decide +kernel
theorem dX1_tradeByTurns_50 : decode cX1_tradeByTurns 50 = .ok (.iload_n 2, 1) := by decide +kernel
theorem dX1_tradeByTurns_51 : decode cX1_tradeByTurns 51 = .ok (.iconst 1, 1) := by decide +kernel
theorem dX1_tradeByTurns_52 : decode cX1_tradeByTurns 52 = .ok (.aload_n 0, 1) := by decide +kernel
theorem dX1_tradeByTurns_53 : decode cX1_tradeByTurns 53 = .ok (.getfield 37, 3) := by decide +kernel
theorem dX1_tradeByTurns_56 : decode cX1_tradeByTurns 56 = .ok (.iload 4, 2) := by decide +kernel
theorem dX1_tradeByTurns_58 : decode cX1_tradeByTurns 58 = .ok (.iaload, 1) := by decide +kernel
theorem dX1_tradeByTurns_59 : decode cX1_tradeByTurns 59 = .ok (.ishl, 1) := by decide +kernel
theorem dX1_tradeByTurns_60 : decode cX1_tradeByTurns 60 = .ok (.iconst (-1), 1) := by decide +kernel
theorem dX1_tradeByTurns_61 : decode cX1_tradeByTurns 61 = .ok (.ixor, 1) := by decide +kernel
theorem dX1_tradeByTurns_62 : decode cX1_tradeByTurns 62 = .ok (.iand, 1) := by decide +kernel
theorem dX1_tradeByTurns_63 : decode cX1_tradeByTurns 63 = .ok (.istore_n 2, 1) := by decide +kernel
theorem dX1_tradeByTurns_64 : decode cX1_tradeByTurns 64 = .ok (.iinc 3 1, 3) := by decide +kernel
theorem dX1_tradeByTurns_67 : decode cX1_tradeByTurns 67 = .ok (.goto (-47), 3) := by decide +kernel
theorem dX1_tradeByTurns_70 : decode cX1_tradeByTurns 70 = .ok (.aload_n 0, 1) := by decide +kernel
theorem dX1_tradeByTurns_71 : decode cX1_tradeByTurns 71 = .ok (.aload_n 0, 1) := by decide +kernel
theorem dX1_tradeByTurns_72 : decode cX1_tradeByTurns 72 = .ok (.getfield 37, 3) := by decide +kernel
theorem dX1_tradeByTurns_75 : decode cX1_tradeByTurns 75 = .ok (.invokevirtual 53, 3) := by decide +kernel
theorem dX1_tradeByTurns_78 : decode cX1_tradeByTurns 78 = .ok (.ireturn, 1) := by decide +kernel
theorem dX1_leastBlocking_0 : decode cX1_leastBlocking 0 = .ok (.aload_n 0, 1) := by decide +kernel
theorem dX1_leastBlocking_1 : decode cX1_leastBlocking 1 = .ok (.iload_n 1, 1) := by decide +kernel
theorem dX1_leastBlocking_2 : decode cX1_leastBlocking 2 = .ok (.aload_n 0, 1) := by decide +kernel
theorem dX1_leastBlocking_3 : decode cX1_leastBlocking 3 = .ok (.getfield 43, 3) := by decide +kernel
theorem dX1_leastBlocking_6 : decode cX1_leastBlocking 6 = .ok (.invokevirtual 49, 3) := by decide +kernel
theorem dX1_leastBlocking_9 : decode cX1_leastBlocking 9 = .ok (.iconst 1, 1) := by decide +kernel
theorem dX1_leastBlocking_10 : decode cX1_leastBlocking 10 = .ok (.istore_n 2, 1) := by decide +kernel
theorem dX1_leastBlocking_11 : decode cX1_leastBlocking 11 = .ok (.iload_n 2, 1) := by decide +kernel
theorem dX1_leastBlocking_12 : decode cX1_leastBlocking 12 = .ok (.iconst 1, 1) := by decide +kernel
theorem dX1_leastBlocking_13 : decode cX1_leastBlocking 13 = .ok (.aload_n 0, 1) := by decide +kernel
theorem dX1_leastBlocking_14 : decode cX1_leastBlocking 14 = .ok (.getfield 9, 3) := by decide +kernel
theorem dX1_leastBlocking_17 : decode cX1_leastBlocking 17 = .ok (.ishl, 1) := by decide +kernel
theorem dX1_leastBlocking_18 : decode cX1_leastBlocking 18 = .ok (.if_icmp .ge 68, 3) := by decide +kernel
theorem dX1_leastBlocking_21 : decode cX1_leastBlocking 21 = .ok (.aload_n 0, 1) := by decide +kernel
theorem dX1_leastBlocking_22 : decode cX1_leastBlocking 22 = .ok (.getfield 25, 3) := by decide +kernel
theorem dX1_leastBlocking_25 : decode cX1_leastBlocking 25 = .ok (.astore_n 3, 1) := by decide +kernel
theorem dX1_leastBlocking_26 : decode cX1_leastBlocking 26 = .ok (.aload_n 3, 1) := by decide +kernel
theorem dX1_leastBlocking_27 : decode cX1_leastBlocking 27 = .ok (.arraylength, 1) := by decide +kernel
theorem dX1_leastBlocking_28 : decode cX1_leastBlocking 28 = .ok (.istore 4, 2) := by decide +kernel
theorem dX1_leastBlocking_30 : decode cX1_leastBlocking 30 = .ok (.iconst 0, 1) := by decide +kernel
theorem dX1_leastBlocking_31 : decode cX1_leastBlocking 31 = .ok (.istore 5, 2) := by decide +kernel
theorem dX1_leastBlocking_33 : decode cX1_leastBlocking 33 = .ok (.iload 5, 2) := by decide +kernel
theorem dX1_leastBlocking_35 : decode cX1_leastBlocking 35 = .ok (.iload 4, 2) := by decide +kernel
theorem dX1_leastBlocking_37 : decode cX1_leastBlocking 37 = .ok (.if_icmp .ge 43, 3) := by decide +kernel
theorem dX1_leastBlocking_40 : decode cX1_leastBlocking 40 = .ok (.aload_n 3, 1) := by decide +kernel
theorem dX1_leastBlocking_41 : decode cX1_leastBlocking 41 = .ok (.iload 5, 2) := by decide +kernel
theorem dX1_leastBlocking_43 : decode cX1_leastBlocking 43 = .ok (.iaload, 1) := by decide +kernel
theorem dX1_leastBlocking_44 : decode cX1_leastBlocking 44 = .ok (.istore 6, 2) := by decide +kernel
theorem dX1_leastBlocking_46 : decode cX1_leastBlocking 46 = .ok (.aload_n 0, 1) := by decide +kernel
theorem dX1_leastBlocking_47 : decode cX1_leastBlocking 47 = .ok (.iload 6, 2) := by decide +kernel
theorem dX1_leastBlocking_49 : decode cX1_leastBlocking 49 = .ok (.aload_n 0, 1) := by decide +kernel
theorem dX1_leastBlocking_50 : decode cX1_leastBlocking 50 = .ok (.getfield 46, 3) := by decide +kernel
theorem dX1_leastBlocking_53 : decode cX1_leastBlocking 53 = .ok (.invokevirtual 49, 3) := by decide +kernel
theorem dX1_leastBlocking_56 : decode cX1_leastBlocking 56 = .ok (.aload_n 0, 1) := by decide +kernel
theorem dX1_leastBlocking_57 : decode cX1_leastBlocking 57 = .ok (.iload_n 2, 1) := by decide +kernel
theorem dX1_leastBlocking_58 : decode cX1_leastBlocking 58 = .ok (.invokevirtual 68, 3) := by decide +kernel
theorem dX1_leastBlocking_61 : decode cX1_leastBlocking 61 = .ok (.ifCond .eq 13, 3) := by decide +kernel
theorem dX1_leastBlocking_64 : decode cX1_leastBlocking 64 = .ok (.aload_n 0, 1) := by decide +kernel
theorem dX1_leastBlocking_65 : decode cX1_leastBlocking 65 = .ok (.iload_n 2, 1) := by decide +kernel
theorem dX1_leastBlocking_66 : decode cX1_leastBlocking 66 = .ok (.invokevirtual 71, 3) := by decide +kernel
theorem dX1_leastBlocking_69 : decode cX1_leastBlocking 69 = .ok (.ifCond .eq 5, 3) := by decide +kernel
theorem dX1_leastBlocking_72 : decode cX1_leastBlocking 72 = .ok (.iload_n 2, 1) := by decide +kernel
theorem dX1_leastBlocking_73 : decode cX1_leastBlocking 73 = .ok (.ireturn, 1) := by decide +kernel
theorem dX1_leastBlocking_74 : decode cX1_leastBlocking 74 = .ok (.iinc 5 1, 3) := by decide +kernel
theorem dX1_leastBlocking_77 : decode cX1_leastBlocking 77 = .ok (.goto (-44), 3) := by decide +kernel
theorem dX1_leastBlocking_80 : decode cX1_leastBlocking 80 = .ok (.iinc 2 1, 3) := by decide +kernel
theorem dX1_leastBlocking_83 : decode cX1_leastBlocking 83 = .ok (.goto (-72), 3) := by decide +kernel
theorem dX1_leastBlocking_86 : decode cX1_leastBlocking 86 = .ok (.iconst 0, 1) := by decide +kernel
theorem dX1_leastBlocking_87 : decode cX1_leastBlocking 87 = .ok (.ireturn, 1) := by decide +kernel
theorem dX1_keepsWithin_0 : decode cX1_keepsWithin 0 = .ok (.iconst 0, 1) := by decide +kernel
theorem dX1_keepsWithin_1 : decode cX1_keepsWithin 1 = .ok (.istore_n 2, 1) := by decide +kernel
theorem dX1_keepsWithin_2 : decode cX1_keepsWithin 2 = .ok (.iload_n 2, 1) := by decide +kernel
theorem dX1_keepsWithin_3 : decode cX1_keepsWithin 3 = .ok (.aload_n 0, 1) := by decide +kernel
theorem dX1_keepsWithin_4 : decode cX1_keepsWithin 4 = .ok (.getfield 9, 3) := by decide +kernel
theorem dX1_keepsWithin_7 : decode cX1_keepsWithin 7 = .ok (.if_icmp .ge 33, 3) := by decide +kernel
theorem dX1_keepsWithin_10 : decode cX1_keepsWithin 10 = .ok (.iload_n 1, 1) := by decide +kernel
theorem dX1_keepsWithin_11 : decode cX1_keepsWithin 11 = .ok (.iload_n 2, 1) := by decide +kernel
theorem dX1_keepsWithin_12 : decode cX1_keepsWithin 12 = .ok (.ishr, 1) := by decide +kernel
theorem dX1_keepsWithin_13 : decode cX1_keepsWithin 13 = .ok (.iconst 1, 1) := by decide +kernel
theorem dX1_keepsWithin_14 : decode cX1_keepsWithin 14 = .ok (.iand, 1) := by decide +kernel
theorem dX1_keepsWithin_15 : decode cX1_keepsWithin 15 = .ok (.iconst 1, 1) := by decide +kernel
theorem dX1_keepsWithin_16 : decode cX1_keepsWithin 16 = .ok (.if_icmp .ne 18, 3) := by decide +kernel
theorem dX1_keepsWithin_19 : decode cX1_keepsWithin 19 = .ok (.iload_n 1, 1) := by decide +kernel
theorem dX1_keepsWithin_20 : decode cX1_keepsWithin 20 = .ok (.aload_n 0, 1) := by decide +kernel
theorem dX1_keepsWithin_21 : decode cX1_keepsWithin 21 = .ok (.getfield 46, 3) := by decide +kernel
theorem dX1_keepsWithin_24 : decode cX1_keepsWithin 24 = .ok (.iload_n 2, 1) := by decide +kernel
theorem dX1_keepsWithin_25 : decode cX1_keepsWithin 25 = .ok (.iaload, 1) := by decide +kernel
theorem dX1_keepsWithin_26 : decode cX1_keepsWithin 26 = .ok (.ishr, 1) := by decide +kernel
theorem dX1_keepsWithin_27 : decode cX1_keepsWithin 27 = .ok (.iconst 1, 1) := by decide +kernel
theorem dX1_keepsWithin_28 : decode cX1_keepsWithin 28 = .ok (.iand, 1) := by decide +kernel
theorem dX1_keepsWithin_29 : decode cX1_keepsWithin 29 = .ok (.ifCond .ne 5, 3) := by decide +kernel
theorem dX1_keepsWithin_32 : decode cX1_keepsWithin 32 = .ok (.iconst 0, 1) := by decide +kernel
theorem dX1_keepsWithin_33 : decode cX1_keepsWithin 33 = .ok (.ireturn, 1) := by decide +kernel
theorem dX1_keepsWithin_34 : decode cX1_keepsWithin 34 = .ok (.iinc 2 1, 3) := by decide +kernel
theorem dX1_keepsWithin_37 : decode cX1_keepsWithin 37 = .ok (.goto (-35), 3) := by decide +kernel
theorem dX1_keepsWithin_40 : decode cX1_keepsWithin 40 = .ok (.iconst 1, 1) := by decide +kernel
theorem dX1_keepsWithin_41 : decode cX1_keepsWithin 41 = .ok (.ireturn, 1) := by decide +kernel
theorem dX1_isBetterFor_0 : decode cX1_isBetterFor 0 = .ok (.iconst 0, 1) := by decide +kernel
theorem dX1_isBetterFor_1 : decode cX1_isBetterFor 1 = .ok (.istore_n 2, 1) := by decide +kernel
theorem dX1_isBetterFor_2 : decode cX1_isBetterFor 2 = .ok (.iconst 0, 1) := by decide +kernel
theorem dX1_isBetterFor_3 : decode cX1_isBetterFor 3 = .ok (.istore_n 3, 1) := by decide +kernel
theorem dX1_isBetterFor_4 : decode cX1_isBetterFor 4 = .ok (.iload_n 3, 1) := by decide +kernel
theorem dX1_isBetterFor_5 : decode cX1_isBetterFor 5 = .ok (.aload_n 0, 1) := by decide +kernel
theorem dX1_isBetterFor_6 : decode cX1_isBetterFor 6 = .ok (.getfield 9, 3) := by decide +kernel
theorem dX1_isBetterFor_9 : decode cX1_isBetterFor 9 = .ok (.if_icmp .ge 63, 3) := by decide +kernel
theorem dX1_isBetterFor_12 : decode cX1_isBetterFor 12 = .ok (.aload_n 0, 1) := by decide +kernel
theorem dX1_isBetterFor_13 : decode cX1_isBetterFor 13 = .ok (.iload_n 3, 1) := by decide +kernel
theorem dX1_isBetterFor_14 : decode cX1_isBetterFor 14 = .ok (.aload_n 0, 1) := by decide +kernel
theorem dX1_isBetterFor_15 : decode cX1_isBetterFor 15 = .ok (.getfield 43, 3) := by decide +kernel
theorem dX1_isBetterFor_18 : decode cX1_isBetterFor 18 = .ok (.iload_n 3, 1) := by decide +kernel
theorem dX1_isBetterFor_19 : decode cX1_isBetterFor 19 = .ok (.iaload, 1) := by decide +kernel
theorem dX1_isBetterFor_20 : decode cX1_isBetterFor 20 = .ok (.invokevirtual 74, 3) := by decide +kernel
theorem dX1_isBetterFor_23 : decode cX1_isBetterFor 23 = .ok (.aload_n 0, 1) := by decide +kernel
theorem dX1_isBetterFor_24 : decode cX1_isBetterFor 24 = .ok (.iload_n 3, 1) := by decide +kernel
theorem dX1_isBetterFor_25 : decode cX1_isBetterFor 25 = .ok (.aload_n 0, 1) := by decide +kernel
theorem dX1_isBetterFor_26 : decode cX1_isBetterFor 26 = .ok (.getfield 46, 3) := by decide +kernel
theorem dX1_isBetterFor_29 : decode cX1_isBetterFor 29 = .ok (.iload_n 3, 1) := by decide +kernel
theorem dX1_isBetterFor_30 : decode cX1_isBetterFor 30 = .ok (.iaload, 1) := by decide +kernel
theorem dX1_isBetterFor_31 : decode cX1_isBetterFor 31 = .ok (.invokevirtual 74, 3) := by decide +kernel
theorem dX1_isBetterFor_34 : decode cX1_isBetterFor 34 = .ok (.isub, 1) := by decide +kernel
theorem dX1_isBetterFor_35 : decode cX1_isBetterFor 35 = .ok (.istore 4, 2) := by decide +kernel
theorem dX1_isBetterFor_37 : decode cX1_isBetterFor 37 = .ok (.iload_n 1, 1) := by decide +kernel
theorem dX1_isBetterFor_38 : decode cX1_isBetterFor 38 = .ok (.iload_n 3, 1) := by decide +kernel
theorem dX1_isBetterFor_39 : decode cX1_isBetterFor 39 = .ok (.ishr, 1) := by decide +kernel
theorem dX1_isBetterFor_40 : decode cX1_isBetterFor 40 = .ok (.iconst 1, 1) := by decide +kernel
theorem dX1_isBetterFor_41 : decode cX1_isBetterFor 41 = .ok (.iand, 1) := by decide +kernel
theorem dX1_isBetterFor_42 : decode cX1_isBetterFor 42 = .ok (.iconst 1, 1) := by decide +kernel
theorem dX1_isBetterFor_43 : decode cX1_isBetterFor 43 = .ok (.if_icmp .ne 23, 3) := by decide +kernel
theorem dX1_isBetterFor_46 : decode cX1_isBetterFor 46 = .ok (.iload 4, 2) := by decide +kernel
theorem dX1_isBetterFor_48 : decode cX1_isBetterFor 48 = .ok (.ifCond .ge 5, 3) := by decide +kernel
theorem dX1_isBetterFor_51 : decode cX1_isBetterFor 51 = .ok (.iconst 0, 1) := by decide +kernel
theorem dX1_isBetterFor_52 : decode cX1_isBetterFor 52 = .ok (.ireturn, 1) := by decide +kernel
theorem dX1_isBetterFor_53 : decode cX1_isBetterFor 53 = .ok (.iload_n 2, 1) := by decide +kernel
theorem dX1_isBetterFor_54 : decode cX1_isBetterFor 54 = .ok (.iload 4, 2) := by decide +kernel
theorem dX1_isBetterFor_56 : decode cX1_isBetterFor 56 = .ok (.ifCond .le 7, 3) := by decide +kernel
theorem dX1_isBetterFor_59 : decode cX1_isBetterFor 59 = .ok (.iconst 1, 1) := by decide +kernel
theorem dX1_isBetterFor_60 : decode cX1_isBetterFor 60 = .ok (.goto 4, 3) := by decide +kernel
theorem dX1_isBetterFor_63 : decode cX1_isBetterFor 63 = .ok (.iconst 0, 1) := by decide +kernel
theorem dX1_isBetterFor_64 : decode cX1_isBetterFor 64 = .ok (.ior, 1) := by decide +kernel
theorem dX1_isBetterFor_65 : decode cX1_isBetterFor 65 = .ok (.istore_n 2, 1) := by decide +kernel
theorem dX1_isBetterFor_66 : decode cX1_isBetterFor 66 = .ok (.iinc 3 1, 3) := by decide +kernel
theorem dX1_isBetterFor_69 : decode cX1_isBetterFor 69 = .ok (.goto (-65), 3) := by decide +kernel
theorem dX1_isBetterFor_72 : decode cX1_isBetterFor 72 = .ok (.iload_n 2, 1) := by decide +kernel
theorem dX1_isBetterFor_73 : decode cX1_isBetterFor 73 = .ok (.ireturn, 1) := by decide +kernel
theorem dX1_isBettered_0 : decode cX1_isBettered 0 = .ok (.aload_n 0, 1) := by decide +kernel
theorem dX1_isBettered_1 : decode cX1_isBettered 1 = .ok (.iload_n 1, 1) := by decide +kernel
theorem dX1_isBettered_2 : decode cX1_isBettered 2 = .ok (.aload_n 0, 1) := by decide +kernel
theorem dX1_isBettered_3 : decode cX1_isBettered 3 = .ok (.getfield 43, 3) := by decide +kernel
theorem dX1_isBettered_6 : decode cX1_isBettered 6 = .ok (.invokevirtual 49, 3) := by decide +kernel
theorem dX1_isBettered_9 : decode cX1_isBettered 9 = .ok (.aload_n 0, 1) := by decide +kernel
theorem dX1_isBettered_10 : decode cX1_isBettered 10 = .ok (.getfield 25, 3) := by decide +kernel
theorem dX1_isBettered_13 : decode cX1_isBettered 13 = .ok (.astore_n 2, 1) := by decide +kernel
theorem dX1_isBettered_14 : decode cX1_isBettered 14 = .ok (.aload_n 2, 1) := by decide +kernel
theorem dX1_isBettered_15 : decode cX1_isBettered 15 = .ok (.arraylength, 1) := by decide +kernel
theorem dX1_isBettered_16 : decode cX1_isBettered 16 = .ok (.istore_n 3, 1) := by decide +kernel
theorem dX1_isBettered_17 : decode cX1_isBettered 17 = .ok (.iconst 0, 1) := by decide +kernel
theorem dX1_isBettered_18 : decode cX1_isBettered 18 = .ok (.istore 4, 2) := by decide +kernel
theorem dX1_isBettered_20 : decode cX1_isBettered 20 = .ok (.iload 4, 2) := by decide +kernel
theorem dX1_isBettered_22 : decode cX1_isBettered 22 = .ok (.iload_n 3, 1) := by decide +kernel
theorem dX1_isBettered_23 : decode cX1_isBettered 23 = .ok (.if_icmp .ge 42, 3) := by decide +kernel
theorem dX1_isBettered_26 : decode cX1_isBettered 26 = .ok (.aload_n 2, 1) := by decide +kernel
theorem dX1_isBettered_27 : decode cX1_isBettered 27 = .ok (.iload 4, 2) := by decide +kernel
theorem dX1_isBettered_29 : decode cX1_isBettered 29 = .ok (.iaload, 1) := by decide +kernel
theorem dX1_isBettered_30 : decode cX1_isBettered 30 = .ok (.istore 5, 2) := by decide +kernel
theorem dX1_isBettered_32 : decode cX1_isBettered 32 = .ok (.aload_n 0, 1) := by decide +kernel
theorem dX1_isBettered_33 : decode cX1_isBettered 33 = .ok (.iload 5, 2) := by decide +kernel
theorem dX1_isBettered_35 : decode cX1_isBettered 35 = .ok (.aload_n 0, 1) := by decide +kernel
theorem dX1_isBettered_36 : decode cX1_isBettered 36 = .ok (.getfield 46, 3) := by decide +kernel
theorem dX1_isBettered_39 : decode cX1_isBettered 39 = .ok (.invokevirtual 49, 3) := by decide +kernel
theorem dX1_isBettered_42 : decode cX1_isBettered 42 = .ok (.aload_n 0, 1) := by decide +kernel
theorem dX1_isBettered_43 : decode cX1_isBettered 43 = .ok (.iconst 1, 1) := by decide +kernel
theorem dX1_isBettered_44 : decode cX1_isBettered 44 = .ok (.aload_n 0, 1) := by decide +kernel
theorem dX1_isBettered_45 : decode cX1_isBettered 45 = .ok (.getfield 9, 3) := by decide +kernel
theorem dX1_isBettered_48 : decode cX1_isBettered 48 = .ok (.ishl, 1) := by decide +kernel
theorem dX1_isBettered_49 : decode cX1_isBettered 49 = .ok (.iconst 1, 1) := by decide +kernel
theorem dX1_isBettered_50 : decode cX1_isBettered 50 = .ok (.isub, 1) := by decide +kernel
theorem dX1_isBettered_51 : decode cX1_isBettered 51 = .ok (.invokevirtual 71, 3) := by decide +kernel
theorem dX1_isBettered_54 : decode cX1_isBettered 54 = .ok (.ifCond .eq 5, 3) := by decide +kernel
theorem dX1_isBettered_57 : decode cX1_isBettered 57 = .ok (.iconst 1, 1) := by decide +kernel
theorem dX1_isBettered_58 : decode cX1_isBettered 58 = .ok (.ireturn, 1) := by decide +kernel
theorem dX1_isBettered_59 : decode cX1_isBettered 59 = .ok (.iinc 4 1, 3) := by decide +kernel
theorem dX1_isBettered_62 : decode cX1_isBettered 62 = .ok (.goto (-42), 3) := by decide +kernel
theorem dX1_isBettered_65 : decode cX1_isBettered 65 = .ok (.iconst 0, 1) := by decide +kernel
theorem dX1_isBettered_66 : decode cX1_isBettered 66 = .ok (.ireturn, 1) := by decide +kernel
theorem dX1_goodTrades_0 : decode cX1_goodTrades 0 = .ok (.iconst 0, 1) := by decide +kernel
theorem dX1_goodTrades_1 : decode cX1_goodTrades 1 = .ok (.istore_n 1, 1) := by decide +kernel
theorem dX1_goodTrades_2 : decode cX1_goodTrades 2 = .ok (.aload_n 0, 1) := by decide +kernel
theorem dX1_goodTrades_3 : decode cX1_goodTrades 3 = .ok (.getfield 25, 3) := by decide +kernel
theorem dX1_goodTrades_6 : decode cX1_goodTrades 6 = .ok (.astore_n 2, 1) := by decide +kernel
theorem dX1_goodTrades_7 : decode cX1_goodTrades 7 = .ok (.aload_n 2, 1) := by decide +kernel
theorem dX1_goodTrades_8 : decode cX1_goodTrades 8 = .ok (.arraylength, 1) := by decide +kernel
theorem dX1_goodTrades_9 : decode cX1_goodTrades 9 = .ok (.istore_n 3, 1) := by decide +kernel
theorem dX1_goodTrades_10 : decode cX1_goodTrades 10 = .ok (.iconst 0, 1) := by decide +kernel
theorem dX1_goodTrades_11 : decode cX1_goodTrades 11 = .ok (.istore 4, 2) := by decide +kernel
theorem dX1_goodTrades_13 : decode cX1_goodTrades 13 = .ok (.iload 4, 2) := by decide +kernel
theorem dX1_goodTrades_15 : decode cX1_goodTrades 15 = .ok (.iload_n 3, 1) := by decide +kernel
theorem dX1_goodTrades_16 : decode cX1_goodTrades 16 = .ok (.if_icmp .ge 27, 3) := by decide +kernel
theorem dX1_goodTrades_19 : decode cX1_goodTrades 19 = .ok (.aload_n 2, 1) := by decide +kernel
theorem dX1_goodTrades_20 : decode cX1_goodTrades 20 = .ok (.iload 4, 2) := by decide +kernel
theorem dX1_goodTrades_22 : decode cX1_goodTrades 22 = .ok (.iaload, 1) := by decide +kernel
theorem dX1_goodTrades_23 : decode cX1_goodTrades 23 = .ok (.istore 5, 2) := by decide +kernel
theorem dX1_goodTrades_25 : decode cX1_goodTrades 25 = .ok (.aload_n 0, 1) := by decide +kernel
theorem dX1_goodTrades_26 : decode cX1_goodTrades 26 = .ok (.iload 5, 2) := by decide +kernel
theorem dX1_goodTrades_28 : decode cX1_goodTrades 28 = .ok (.invokevirtual 77, 3) := by decide +kernel
theorem dX1_goodTrades_31 : decode cX1_goodTrades 31 = .ok (.ifCond .ne 6, 3) := by decide +kernel
theorem dX1_goodTrades_34 : decode cX1_goodTrades 34 = .ok (.iinc 1 1, 3) := by decide +kernel
theorem dX1_goodTrades_37 : decode cX1_goodTrades 37 = .ok (.iinc 4 1, 3) := by decide +kernel
theorem dX1_goodTrades_40 : decode cX1_goodTrades 40 = .ok (.goto (-27), 3) := by decide +kernel
theorem dX1_goodTrades_43 : decode cX1_goodTrades 43 = .ok (.iload_n 1, 1) := by decide +kernel
theorem dX1_goodTrades_44 : decode cX1_goodTrades 44 = .ok (.ireturn, 1) := by decide +kernel
theorem dX1_coreTrades_0 : decode cX1_coreTrades 0 = .ok (.iconst 0, 1) := by decide +kernel
theorem dX1_coreTrades_1 : decode cX1_coreTrades 1 = .ok (.istore_n 1, 1) := by decide +kernel
theorem dX1_coreTrades_2 : decode cX1_coreTrades 2 = .ok (.aload_n 0, 1) := by decide +kernel
theorem dX1_coreTrades_3 : decode cX1_coreTrades 3 = .ok (.getfield 25, 3) := by decide +kernel
theorem dX1_coreTrades_6 : decode cX1_coreTrades 6 = .ok (.astore_n 2, 1) := by decide +kernel
theorem dX1_coreTrades_7 : decode cX1_coreTrades 7 = .ok (.aload_n 2, 1) := by decide +kernel
theorem dX1_coreTrades_8 : decode cX1_coreTrades 8 = .ok (.arraylength, 1) := by decide +kernel
theorem dX1_coreTrades_9 : decode cX1_coreTrades 9 = .ok (.istore_n 3, 1) := by decide +kernel
theorem dX1_coreTrades_10 : decode cX1_coreTrades 10 = .ok (.iconst 0, 1) := by decide +kernel
theorem dX1_coreTrades_11 : decode cX1_coreTrades 11 = .ok (.istore 4, 2) := by decide +kernel
theorem dX1_coreTrades_13 : decode cX1_coreTrades 13 = .ok (.iload 4, 2) := by decide +kernel
theorem dX1_coreTrades_15 : decode cX1_coreTrades 15 = .ok (.iload_n 3, 1) := by decide +kernel
theorem dX1_coreTrades_16 : decode cX1_coreTrades 16 = .ok (.if_icmp .ge 27, 3) := by decide +kernel
theorem dX1_coreTrades_19 : decode cX1_coreTrades 19 = .ok (.aload_n 2, 1) := by decide +kernel
theorem dX1_coreTrades_20 : decode cX1_coreTrades 20 = .ok (.iload 4, 2) := by decide +kernel
theorem dX1_coreTrades_22 : decode cX1_coreTrades 22 = .ok (.iaload, 1) := by decide +kernel
theorem dX1_coreTrades_23 : decode cX1_coreTrades 23 = .ok (.istore 5, 2) := by decide +kernel
theorem dX1_coreTrades_25 : decode cX1_coreTrades 25 = .ok (.aload_n 0, 1) := by decide +kernel
theorem dX1_coreTrades_26 : decode cX1_coreTrades 26 = .ok (.iload 5, 2) := by decide +kernel
theorem dX1_coreTrades_28 : decode cX1_coreTrades 28 = .ok (.invokevirtual 80, 3) := by decide +kernel
theorem dX1_coreTrades_31 : decode cX1_coreTrades 31 = .ok (.ifCond .ne 6, 3) := by decide +kernel
theorem dX1_coreTrades_34 : decode cX1_coreTrades 34 = .ok (.iinc 1 1, 3) := by decide +kernel
theorem dX1_coreTrades_37 : decode cX1_coreTrades 37 = .ok (.iinc 4 1, 3) := by decide +kernel
theorem dX1_coreTrades_40 : decode cX1_coreTrades 40 = .ok (.goto (-27), 3) := by decide +kernel
theorem dX1_coreTrades_43 : decode cX1_coreTrades 43 = .ok (.iload_n 1, 1) := by decide +kernel
theorem dX1_coreTrades_44 : decode cX1_coreTrades 44 = .ok (.ireturn, 1) := by decide +kernel
theorem dX1_leastLie_0 : decode cX1_leastLie 0 = .ok (.aload_n 0, 1) := by decide +kernel
theorem dX1_leastLie_1 : decode cX1_leastLie 1 = .ok (.iload_n 1, 1) := by decide +kernel
theorem dX1_leastLie_2 : decode cX1_leastLie 2 = .ok (.invokevirtual 84, 3) := by decide +kernel
theorem dX1_leastLie_5 : decode cX1_leastLie 5 = .ok (.istore_n 2, 1) := by decide +kernel
theorem dX1_leastLie_6 : decode cX1_leastLie 6 = .ok (.aload_n 0, 1) := by decide +kernel
theorem dX1_leastLie_7 : decode cX1_leastLie 7 = .ok (.invokevirtual 87, 3) := by decide +kernel
theorem dX1_leastLie_10 : decode cX1_leastLie 10 = .ok (.pop, 1) := by decide +kernel
theorem dX1_leastLie_11 : decode cX1_leastLie 11 = .ok (.aload_n 0, 1) := by decide +kernel
theorem dX1_leastLie_12 : decode cX1_leastLie 12 = .ok (.iload_n 1, 1) := by decide +kernel
theorem dX1_leastLie_13 : decode cX1_leastLie 13 = .ok (.aload_n 0, 1) := by decide +kernel
theorem dX1_leastLie_14 : decode cX1_leastLie 14 = .ok (.getfield 37, 3) := by decide +kernel
theorem dX1_leastLie_17 : decode cX1_leastLie 17 = .ok (.iload_n 1, 1) := by decide +kernel
theorem dX1_leastLie_18 : decode cX1_leastLie 18 = .ok (.iaload, 1) := by decide +kernel
theorem dX1_leastLie_19 : decode cX1_leastLie 19 = .ok (.invokevirtual 74, 3) := by decide +kernel
theorem dX1_leastLie_22 : decode cX1_leastLie 22 = .ok (.istore_n 3, 1) := by decide +kernel
theorem dX1_leastLie_23 : decode cX1_leastLie 23 = .ok (.bipush (-2), 2) := by decide +kernel
theorem dX1_leastLie_25 : decode cX1_leastLie 25 = .ok (.istore 4, 2) := by decide +kernel
theorem dX1_leastLie_27 : decode cX1_leastLie 27 = .ok (.iconst 0, 1) := by decide +kernel
theorem dX1_leastLie_28 : decode cX1_leastLie 28 = .ok (.istore 5, 2) := by decide +kernel
theorem dX1_leastLie_30 : decode cX1_leastLie 30 = .ok (.iload 5, 2) := by decide +kernel
theorem dX1_leastLie_32 : decode cX1_leastLie 32 = .ok (.aload_n 0, 1) := by decide +kernel
theorem dX1_leastLie_33 : decode cX1_leastLie 33 = .ok (.getfield 25, 3) := by decide +kernel
theorem dX1_leastLie_36 : decode cX1_leastLie 36 = .ok (.arraylength, 1) := by decide +kernel
theorem dX1_leastLie_37 : decode cX1_leastLie 37 = .ok (.if_icmp .ge 56, 3) := by decide +kernel
theorem dX1_leastLie_40 : decode cX1_leastLie 40 = .ok (.iload 4, 2) := by decide +kernel
theorem dX1_leastLie_42 : decode cX1_leastLie 42 = .ok (.bipush (-2), 2) := by decide +kernel
theorem dX1_leastLie_44 : decode cX1_leastLie 44 = .ok (.if_icmp .ne 49, 3) := by decide +kernel
theorem dX1_leastLie_47 : decode cX1_leastLie 47 = .ok (.aload_n 0, 1) := by decide +kernel
theorem dX1_leastLie_48 : decode cX1_leastLie 48 = .ok (.iload_n 1, 1) := by decide +kernel
theorem dX1_leastLie_49 : decode cX1_leastLie 49 = .ok (.aload_n 0, 1) := by decide +kernel
theorem dX1_leastLie_50 : decode cX1_leastLie 50 = .ok (.getfield 25, 3) := by decide +kernel
theorem dX1_leastLie_53 : decode cX1_leastLie 53 = .ok (.iload 5, 2) := by decide +kernel
theorem dX1_leastLie_55 : decode cX1_leastLie 55 = .ok (.iaload, 1) := by decide +kernel
theorem dX1_leastLie_56 : decode cX1_leastLie 56 = .ok (.invokevirtual 91, 3) := by decide +kernel
theorem dX1_leastLie_59 : decode cX1_leastLie 59 = .ok (.istore 6, 2) := by decide +kernel
theorem dX1_leastLie_61 : decode cX1_leastLie 61 = .ok (.aload_n 0, 1) := by decide +kernel
theorem dX1_leastLie_62 : decode cX1_leastLie 62 = .ok (.iload_n 1, 1) := by decide +kernel
theorem dX1_leastLie_63 : decode cX1_leastLie 63 = .ok (.iload_n 2, 1) := by decide +kernel
theorem dX1_leastLie_64 : decode cX1_leastLie 64 = .ok (.invokevirtual 94, 3) := by decide +kernel
theorem dX1_leastLie_67 : decode cX1_leastLie 67 = .ok (.aload_n 0, 1) := by decide +kernel
theorem dX1_leastLie_68 : decode cX1_leastLie 68 = .ok (.iload_n 1, 1) := by decide +kernel
theorem dX1_leastLie_69 : decode cX1_leastLie 69 = .ok (.iload 6, 2) := by decide +kernel
theorem dX1_leastLie_71 : decode cX1_leastLie 71 = .ok (.invokevirtual 74, 3) := by decide +kernel
theorem dX1_leastLie_74 : decode cX1_leastLie 74 = .ok (.iload_n 3, 1) := by decide +kernel
theorem dX1_leastLie_75 : decode cX1_leastLie 75 = .ok (.if_icmp .ge 12, 3) := by decide +kernel
theorem dX1_leastLie_78 : decode cX1_leastLie 78 = .ok (.aload_n 0, 1) := by decide +kernel
theorem dX1_leastLie_79 : decode cX1_leastLie 79 = .ok (.getfield 25, 3) := by decide +kernel
theorem dX1_leastLie_82 : decode cX1_leastLie 82 = .ok (.iload 5, 2) := by decide +kernel
theorem dX1_leastLie_84 : decode cX1_leastLie 84 = .ok (.iaload, 1) := by decide +kernel
theorem dX1_leastLie_85 : decode cX1_leastLie 85 = .ok (.istore 4, 2) := by decide +kernel
theorem dX1_leastLie_87 : decode cX1_leastLie 87 = .ok (.iinc 5 1, 3) := by decide +kernel
theorem dX1_leastLie_90 : decode cX1_leastLie 90 = .ok (.goto (-60), 3) := by decide +kernel
theorem dX1_leastLie_93 : decode cX1_leastLie 93 = .ok (.iload 4, 2) := by decide +kernel
theorem dX1_leastLie_95 : decode cX1_leastLie 95 = .ok (.ireturn, 1) := by decide +kernel
theorem dX1_thingBySaying_0 : decode cX1_thingBySaying 0 = .ok (.aload_n 0, 1) := by decide +kernel
theorem dX1_thingBySaying_1 : decode cX1_thingBySaying 1 = .ok (.iload_n 1, 1) := by decide +kernel
theorem dX1_thingBySaying_2 : decode cX1_thingBySaying 2 = .ok (.iload_n 2, 1) := by decide +kernel
theorem dX1_thingBySaying_3 : decode cX1_thingBySaying 3 = .ok (.invokevirtual 94, 3) := by decide +kernel
theorem dX1_thingBySaying_6 : decode cX1_thingBySaying 6 = .ok (.aload_n 0, 1) := by decide +kernel
theorem dX1_thingBySaying_7 : decode cX1_thingBySaying 7 = .ok (.invokevirtual 87, 3) := by decide +kernel
theorem dX1_thingBySaying_10 : decode cX1_thingBySaying 10 = .ok (.pop, 1) := by decide +kernel
theorem dX1_thingBySaying_11 : decode cX1_thingBySaying 11 = .ok (.aload_n 0, 1) := by decide +kernel
theorem dX1_thingBySaying_12 : decode cX1_thingBySaying 12 = .ok (.getfield 37, 3) := by decide +kernel
theorem dX1_thingBySaying_15 : decode cX1_thingBySaying 15 = .ok (.iload_n 1, 1) := by decide +kernel
theorem dX1_thingBySaying_16 : decode cX1_thingBySaying 16 = .ok (.iaload, 1) := by decide +kernel
theorem dX1_thingBySaying_17 : decode cX1_thingBySaying 17 = .ok (.ireturn, 1) := by decide +kernel
theorem dX2_init_0 : decode cX2_init 0 = .ok (.aload_n 0, 1) := by decide +kernel
theorem dX2_init_1 : decode cX2_init 1 = .ok (.iload_n 1, 1) := by decide +kernel
theorem dX2_init_2 : decode cX2_init 2 = .ok (.aload_n 2, 1) := by decide +kernel
theorem dX2_init_3 : decode cX2_init 3 = .ok (.invokespecial 3, 3) := by decide +kernel
theorem dX2_init_6 : decode cX2_init 6 = .ok (.aload_n 0, 1) := by decide +kernel
theorem dX2_init_7 : decode cX2_init 7 = .ok (.iconst 3, 1) := by decide +kernel
theorem dX2_init_8 : decode cX2_init 8 = .ok (.newarray .int, 2) := by decide +kernel
theorem dX2_init_10 : decode cX2_init 10 = .ok (.putfield 9, 3) := by decide +kernel
theorem dX2_init_13 : decode cX2_init 13 = .ok (.aload_n 0, 1) := by decide +kernel
theorem dX2_init_14 : decode cX2_init 14 = .ok (.iconst 5, 1) := by decide +kernel
theorem dX2_init_15 : decode cX2_init 15 = .ok (.newarray .int, 2) := by decide +kernel
theorem dX2_init_17 : decode cX2_init 17 = .ok (.putfield 15, 3) := by decide +kernel
theorem dX2_init_20 : decode cX2_init 20 = .ok (.aload_n 0, 1) := by decide +kernel
theorem dX2_init_21 : decode cX2_init 21 = .ok (.getfield 18, 3) := by decide +kernel
theorem dX2_init_24 : decode cX2_init 24 = .ok (.iconst (-1), 1) := by decide +kernel
theorem dX2_init_25 : decode cX2_init 25 = .ok (.invokestatic 21, 3) := by decide +kernel
theorem dX2_init_28 : decode cX2_init 28 = .ok (.return_, 1) := by decide +kernel
theorem dX2_settle_0 : decode cX2_settle 0 = .ok (.aload_n 0, 1) := by decide +kernel
theorem dX2_settle_1 : decode cX2_settle 1 = .ok (.getfield 18, 3) := by decide +kernel
theorem dX2_settle_4 : decode cX2_settle 4 = .ok (.iload_n 1, 1) := by decide +kernel
theorem dX2_settle_5 : decode cX2_settle 5 = .ok (.iaload, 1) := by decide +kernel
theorem dX2_settle_6 : decode cX2_settle 6 = .ok (.iconst (-1), 1) := by decide +kernel
theorem dX2_settle_7 : decode cX2_settle 7 = .ok (.if_icmp .ne 14, 3) := by decide +kernel
theorem dX2_settle_10 : decode cX2_settle 10 = .ok (.aload_n 0, 1) := by decide +kernel
theorem dX2_settle_11 : decode cX2_settle 11 = .ok (.getfield 18, 3) := by decide +kernel
theorem dX2_settle_14 : decode cX2_settle 14 = .ok (.iload_n 1, 1) := by decide +kernel
theorem dX2_settle_15 : decode cX2_settle 15 = .ok (.aload_n 0, 1) := by decide +kernel
theorem dX2_settle_16 : decode cX2_settle 16 = .ok (.iload_n 1, 1) := by decide +kernel
theorem dX2_settle_17 : decode cX2_settle 17 = .ok (.invokevirtual 27, 3) := by decide +kernel
theorem dX2_settle_20 : decode cX2_settle 20 = .ok (.iastore, 1) := by decide +kernel
theorem dX2_settle_21 : decode cX2_settle 21 = .ok (.return_, 1) := by decide +kernel
theorem dX2_changeEnd_0 : decode cX2_changeEnd 0 = .ok (.bipush (-4), 2) := by decide +kernel
theorem dX2_changeEnd_2 : decode cX2_changeEnd 2 = .ok (.ireturn, 1) := by decide +kernel
theorem dX2_changePlace_0 : decode cX2_changePlace 0 = .ok (.aload_n 0, 1) := by decide +kernel
theorem dX2_changePlace_1 : decode cX2_changePlace 1 = .ok (.getfield 9, 3) := by decide +kernel
theorem dX2_changePlace_4 : decode cX2_changePlace 4 = .ok (.iload_n 1, 1) := by decide +kernel
theorem dX2_changePlace_5 : decode cX2_changePlace 5 = .ok (.iaload, 1) := by decide +kernel
theorem dX2_changePlace_6 : decode cX2_changePlace 6 = .ok (.istore_n 3, 1) := by decide +kernel
theorem dX2_changePlace_7 : decode cX2_changePlace 7 = .ok (.aload_n 0, 1) := by decide +kernel
theorem dX2_changePlace_8 : decode cX2_changePlace 8 = .ok (.getfield 9, 3) := by decide +kernel
theorem dX2_changePlace_11 : decode cX2_changePlace 11 = .ok (.iload_n 1, 1) := by decide +kernel
theorem dX2_changePlace_12 : decode cX2_changePlace 12 = .ok (.iload_n 2, 1) := by decide +kernel
theorem dX2_changePlace_13 : decode cX2_changePlace 13 = .ok (.iastore, 1) := by decide +kernel
theorem dX2_changePlace_14 : decode cX2_changePlace 14 = .ok (.aload_n 0, 1) := by decide +kernel
theorem dX2_changePlace_15 : decode cX2_changePlace 15 = .ok (.getfield 18, 3) := by decide +kernel
theorem dX2_changePlace_18 : decode cX2_changePlace 18 = .ok (.iconst (-1), 1) := by decide +kernel
theorem dX2_changePlace_19 : decode cX2_changePlace 19 = .ok (.invokestatic 21, 3) := by decide +kernel
theorem dX2_changePlace_22 : decode cX2_changePlace 22 = .ok (.iload_n 3, 1) := by decide +kernel
theorem dX2_changePlace_23 : decode cX2_changePlace 23 = .ok (.ireturn, 1) := by decide +kernel
theorem dX2_middleOf_0 : decode cX2_middleOf 0 = .ok (.aload_n 0, 1) := by decide +kernel
theorem dX2_middleOf_1 : decode cX2_middleOf 1 = .ok (.getfield 15, 3) := by decide +kernel
theorem dX2_middleOf_4 : decode cX2_middleOf 4 = .ok (.iconst 0, 1) := by decide +kernel
theorem dX2_middleOf_5 : decode cX2_middleOf 5 = .ok (.invokestatic 21, 3) := by decide +kernel
theorem dX2_middleOf_8 : decode cX2_middleOf 8 = .ok (.iconst 0, 1) := by decide +kernel
theorem dX2_middleOf_9 : decode cX2_middleOf 9 = .ok (.istore_n 2, 1) := by decide +kernel
theorem dX2_middleOf_10 : decode cX2_middleOf 10 = .ok (.iload_n 2, 1) := by decide +kernel
theorem dX2_middleOf_11 : decode cX2_middleOf 11 = .ok (.aload_n 0, 1) := by decide +kernel
theorem dX2_middleOf_12 : decode cX2_middleOf 12 = .ok (.getfield 31, 3) := by decide +kernel
theorem dX2_middleOf_15 : decode cX2_middleOf 15 = .ok (.getfield 35, 3) := by decide +kernel
theorem dX2_middleOf_18 : decode cX2_middleOf 18 = .ok (.if_icmp .ge 34, 3) := by decide +kernel
theorem dX2_middleOf_21 : decode cX2_middleOf 21 = .ok (.aload_n 0, 1) := by decide +kernel
theorem dX2_middleOf_22 : decode cX2_middleOf 22 = .ok (.getfield 15, 3) := by decide +kernel
theorem dX2_middleOf_25 : decode cX2_middleOf 25 = .ok (.aload_n 0, 1) := by decide +kernel
theorem dX2_middleOf_26 : decode cX2_middleOf 26 = .ok (.getfield 31, 3) := by decide +kernel
theorem dX2_middleOf_29 : decode cX2_middleOf 29 = .ok (.aload_n 0, 1) := by decide +kernel
theorem dX2_middleOf_30 : decode cX2_middleOf 30 = .ok (.getfield 31, 3) := by decide +kernel
theorem dX2_middleOf_33 : decode cX2_middleOf 33 = .ok (.iload_n 1, 1) := by decide +kernel
theorem dX2_middleOf_34 : decode cX2_middleOf 34 = .ok (.iload_n 2, 1) := by decide +kernel
theorem dX2_middleOf_35 : decode cX2_middleOf 35 = .ok (.invokevirtual 41, 3) := by decide +kernel
theorem dX2_middleOf_38 : decode cX2_middleOf 38 = .ok (.invokevirtual 45, 3) := by decide +kernel
theorem dX2_middleOf_41 : decode cX2_middleOf 41 = .ok (.dup2, 1) := by decide +kernel
theorem dX2_middleOf_42 : decode cX2_middleOf 42 = .ok (.iaload, 1) := by decide +kernel
theorem dX2_middleOf_43 : decode cX2_middleOf 43 = .ok (.iconst 1, 1) := by decide +kernel
theorem dX2_middleOf_44 : decode cX2_middleOf 44 = .ok (.iadd, 1) := by decide +kernel
theorem dX2_middleOf_45 : decode cX2_middleOf 45 = .ok (.iastore, 1) := by decide +kernel
theorem dX2_middleOf_46 : decode cX2_middleOf 46 = .ok (.iinc 2 1, 3) := by decide +kernel
theorem dX2_middleOf_49 : decode cX2_middleOf 49 = .ok (.goto (-39), 3) := by decide +kernel
theorem dX2_middleOf_52 : decode cX2_middleOf 52 = .ok (.iconst 0, 1) := by decide +kernel
theorem dX2_middleOf_53 : decode cX2_middleOf 53 = .ok (.istore_n 2, 1) := by decide +kernel
theorem dX2_middleOf_54 : decode cX2_middleOf 54 = .ok (.iload_n 2, 1) := by decide +kernel
theorem dX2_middleOf_55 : decode cX2_middleOf 55 = .ok (.iconst 1, 1) := by decide +kernel
theorem dX2_middleOf_56 : decode cX2_middleOf 56 = .ok (.iadd, 1) := by decide +kernel
theorem dX2_middleOf_57 : decode cX2_middleOf 57 = .ok (.aload_n 0, 1) := by decide +kernel
theorem dX2_middleOf_58 : decode cX2_middleOf 58 = .ok (.getfield 31, 3) := by decide +kernel
theorem dX2_middleOf_61 : decode cX2_middleOf 61 = .ok (.getfield 35, 3) := by decide +kernel
theorem dX2_middleOf_64 : decode cX2_middleOf 64 = .ok (.if_icmp .ge 24, 3) := by decide +kernel
theorem dX2_middleOf_67 : decode cX2_middleOf 67 = .ok (.aload_n 0, 1) := by decide +kernel
theorem dX2_middleOf_68 : decode cX2_middleOf 68 = .ok (.getfield 15, 3) := by decide +kernel
theorem dX2_middleOf_71 : decode cX2_middleOf 71 = .ok (.aload_n 0, 1) := by decide +kernel
theorem dX2_middleOf_72 : decode cX2_middleOf 72 = .ok (.getfield 9, 3) := by decide +kernel
theorem dX2_middleOf_75 : decode cX2_middleOf 75 = .ok (.iload_n 2, 1) := by decide +kernel
theorem dX2_middleOf_76 : decode cX2_middleOf 76 = .ok (.iaload, 1) := by decide +kernel
theorem dX2_middleOf_77 : decode cX2_middleOf 77 = .ok (.dup2, 1) := by decide +kernel
theorem dX2_middleOf_78 : decode cX2_middleOf 78 = .ok (.iaload, 1) := by decide +kernel
theorem dX2_middleOf_79 : decode cX2_middleOf 79 = .ok (.iconst 1, 1) := by decide +kernel
theorem dX2_middleOf_80 : decode cX2_middleOf 80 = .ok (.iadd, 1) := by decide +kernel
theorem dX2_middleOf_81 : decode cX2_middleOf 81 = .ok (.iastore, 1) := by decide +kernel
theorem dX2_middleOf_82 : decode cX2_middleOf 82 = .ok (.iinc 2 1, 3) := by decide +kernel
theorem dX2_middleOf_85 : decode cX2_middleOf 85 = .ok (.goto (-31), 3) := by decide +kernel
theorem dX2_middleOf_88 : decode cX2_middleOf 88 = .ok (.iconst 0, 1) := by decide +kernel
theorem dX2_middleOf_89 : decode cX2_middleOf 89 = .ok (.istore_n 2, 1) := by decide +kernel
theorem dX2_middleOf_90 : decode cX2_middleOf 90 = .ok (.iconst 0, 1) := by decide +kernel
theorem dX2_middleOf_91 : decode cX2_middleOf 91 = .ok (.istore_n 3, 1) := by decide +kernel
theorem dX2_middleOf_92 : decode cX2_middleOf 92 = .ok (.iload_n 3, 1) := by decide +kernel
theorem dX2_middleOf_93 : decode cX2_middleOf 93 = .ok (.aload_n 0, 1) := by decide +kernel
theorem dX2_middleOf_94 : decode cX2_middleOf 94 = .ok (.getfield 31, 3) := by decide +kernel
theorem dX2_middleOf_97 : decode cX2_middleOf 97 = .ok (.getfield 48, 3) := by decide +kernel
theorem dX2_middleOf_100 : decode cX2_middleOf 100 = .ok (.if_icmp .ge 31, 3) := by decide +kernel
theorem dX2_middleOf_103 : decode cX2_middleOf 103 = .ok (.iload_n 2, 1) := by decide +kernel
theorem dX2_middleOf_104 : decode cX2_middleOf 104 = .ok (.aload_n 0, 1) := by decide +kernel
theorem dX2_middleOf_105 : decode cX2_middleOf 105 = .ok (.getfield 15, 3) := by decide +kernel
theorem dX2_middleOf_108 : decode cX2_middleOf 108 = .ok (.iload_n 3, 1) := by decide +kernel
theorem dX2_middleOf_109 : decode cX2_middleOf 109 = .ok (.iaload, 1) := by decide +kernel
theorem dX2_middleOf_110 : decode cX2_middleOf 110 = .ok (.iadd, 1) := by decide +kernel
theorem dX2_middleOf_111 : decode cX2_middleOf 111 = .ok (.istore_n 2, 1) := by decide +kernel
theorem dX2_middleOf_112 : decode cX2_middleOf 112 = .ok (.iload_n 2, 1) := by decide +kernel
theorem dX2_middleOf_113 : decode cX2_middleOf 113 = .ok (.aload_n 0, 1) := by decide +kernel
theorem dX2_middleOf_114 : decode cX2_middleOf 114 = .ok (.getfield 31, 3) := by decide +kernel
theorem dX2_middleOf_117 : decode cX2_middleOf 117 = .ok (.getfield 35, 3) := by decide +kernel
theorem dX2_middleOf_120 : decode cX2_middleOf 120 = .ok (.if_icmp .lt 5, 3) := by decide +kernel
theorem dX2_middleOf_123 : decode cX2_middleOf 123 = .ok (.iload_n 3, 1) := by decide +kernel
theorem dX2_middleOf_124 : decode cX2_middleOf 124 = .ok (.ireturn, 1) := by decide +kernel
theorem dX2_middleOf_125 : decode cX2_middleOf 125 = .ok (.iinc 3 1, 3) := by decide +kernel
theorem dX2_middleOf_128 : decode cX2_middleOf 128 = .ok (.goto (-36), 3) := by decide +kernel
theorem dX2_middleOf_131 : decode cX2_middleOf 131 = .ok (.aload_n 0, 1) := by decide +kernel
theorem dX2_middleOf_132 : decode cX2_middleOf 132 = .ok (.getfield 31, 3) := by decide +kernel
theorem dX2_middleOf_135 : decode cX2_middleOf 135 = .ok (.getfield 48, 3) := by decide +kernel
theorem dX2_middleOf_138 : decode cX2_middleOf 138 = .ok (.iconst 1, 1) := by decide +kernel
theorem dX2_middleOf_139 : decode cX2_middleOf 139 = .ok (.isub, 1) := by decide +kernel
theorem dX2_middleOf_140 : decode cX2_middleOf 140 = .ok (.ireturn, 1) := by decide +kernel
theorem dX2_heft_0 : decode cX2_heft 0 = .ok (.aload_n 0, 1) := by decide +kernel
theorem dX2_heft_1 : decode cX2_heft 1 = .ok (.invokespecial 51, 3) := by decide +kernel
theorem dX2_heft_4 : decode cX2_heft 4 = .ok (.sipush 500, 3) := by decide +kernel
theorem dX2_heft_7 : decode cX2_heft 7 = .ok (.iadd, 1) := by decide +kernel
theorem dX2_heft_8 : decode cX2_heft 8 = .ok (.istore_n 1, 1) := by decide +kernel
theorem dX2_heft_9 : decode cX2_heft 9 = .ok (.iconst 0, 1) := by decide +kernel
theorem dX2_heft_10 : decode cX2_heft 10 = .ok (.istore_n 2, 1) := by decide +kernel
theorem dX2_heft_11 : decode cX2_heft 11 = .ok (.iload_n 2, 1) := by decide +kernel
theorem dX2_heft_12 : decode cX2_heft 12 = .ok (.iconst 1, 1) := by decide +kernel
theorem dX2_heft_13 : decode cX2_heft 13 = .ok (.iadd, 1) := by decide +kernel
theorem dX2_heft_14 : decode cX2_heft 14 = .ok (.aload_n 0, 1) := by decide +kernel
theorem dX2_heft_15 : decode cX2_heft 15 = .ok (.getfield 31, 3) := by decide +kernel
theorem dX2_heft_18 : decode cX2_heft 18 = .ok (.getfield 35, 3) := by decide +kernel
theorem dX2_heft_21 : decode cX2_heft 21 = .ok (.if_icmp .ge 18, 3) := by decide +kernel
theorem dX2_heft_24 : decode cX2_heft 24 = .ok (.iload_n 1, 1) := by decide +kernel
theorem dX2_heft_25 : decode cX2_heft 25 = .ok (.aload_n 0, 1) := by decide +kernel
theorem dX2_heft_26 : decode cX2_heft 26 = .ok (.getfield 9, 3) := by decide +kernel
theorem dX2_heft_29 : decode cX2_heft 29 = .ok (.iload_n 2, 1) := by decide +kernel
theorem dX2_heft_30 : decode cX2_heft 30 = .ok (.iaload, 1) := by decide +kernel
theorem dX2_heft_31 : decode cX2_heft 31 = .ok (.iadd, 1) := by decide +kernel
theorem dX2_heft_32 : decode cX2_heft 32 = .ok (.istore_n 1, 1) := by decide +kernel
theorem dX2_heft_33 : decode cX2_heft 33 = .ok (.iinc 2 1, 3) := by decide +kernel
theorem dX2_heft_36 : decode cX2_heft 36 = .ok (.goto (-25), 3) := by decide +kernel
theorem dX2_heft_39 : decode cX2_heft 39 = .ok (.iload_n 1, 1) := by decide +kernel
theorem dX2_heft_40 : decode cX2_heft 40 = .ok (.ireturn, 1) := by decide +kernel
theorem dX2_fail_0 : decode cX2_fail 0 = .ok (.new 55, 3) := by decide +kernel
theorem dX2_fail_3 : decode cX2_fail 3 = .ok (.dup, 1) := by decide +kernel
theorem dX2_fail_4 : decode cX2_fail 4 = .ok (.ldc 57, 2) := by decide +kernel
theorem dX2_fail_6 : decode cX2_fail 6 = .ok (.invokespecial 59, 3) := by decide +kernel
theorem dX2_fail_9 : decode cX2_fail 9 = .ok (.athrow, 1) := by decide +kernel
theorem dX3_init_0 : decode cX3_init 0 = .ok (.aload_n 0, 1) := by decide +kernel
theorem dX3_init_1 : decode cX3_init 1 = .ok (.iload_n 1, 1) := by decide +kernel
theorem dX3_init_2 : decode cX3_init 2 = .ok (.aload_n 2, 1) := by decide +kernel
theorem dX3_init_3 : decode cX3_init 3 = .ok (.invokespecial 1, 3) := by decide +kernel
theorem dX3_init_6 : decode cX3_init 6 = .ok (.aload_n 0, 1) := by decide +kernel
theorem dX3_init_7 : decode cX3_init 7 = .ok (.aload_n 2, 1) := by decide +kernel
theorem dX3_init_8 : decode cX3_init 8 = .ok (.getfield 7, 3) := by decide +kernel
theorem dX3_init_11 : decode cX3_init 11 = .ok (.aload_n 2, 1) := by decide +kernel
theorem dX3_init_12 : decode cX3_init 12 = .ok (.getfield 13, 3) := by decide +kernel
theorem dX3_init_15 : decode cX3_init 15 = .ok (.imul, 1) := by decide +kernel
theorem dX3_init_16 : decode cX3_init 16 = .ok (.newarray .int, 2) := by decide +kernel
theorem dX3_init_18 : decode cX3_init 18 = .ok (.putfield 16, 3) := by decide +kernel
theorem dX3_init_21 : decode cX3_init 21 = .ok (.return_, 1) := by decide +kernel
theorem dX3_paymentAt_0 : decode cX3_paymentAt 0 = .ok (.aload_n 0, 1) := by decide +kernel
theorem dX3_paymentAt_1 : decode cX3_paymentAt 1 = .ok (.getfield 16, 3) := by decide +kernel
theorem dX3_paymentAt_4 : decode cX3_paymentAt 4 = .ok (.iload_n 1, 1) := by decide +kernel
theorem dX3_paymentAt_5 : decode cX3_paymentAt 5 = .ok (.aload_n 0, 1) := by decide +kernel
theorem dX3_paymentAt_6 : decode cX3_paymentAt 6 = .ok (.getfield 22, 3) := by decide +kernel
theorem dX3_paymentAt_9 : decode cX3_paymentAt 9 = .ok (.getfield 13, 3) := by decide +kernel
theorem dX3_paymentAt_12 : decode cX3_paymentAt 12 = .ok (.imul, 1) := by decide +kernel
theorem dX3_paymentAt_13 : decode cX3_paymentAt 13 = .ok (.iload_n 2, 1) := by decide +kernel
theorem dX3_paymentAt_14 : decode cX3_paymentAt 14 = .ok (.iadd, 1) := by decide +kernel
theorem dX3_paymentAt_15 : decode cX3_paymentAt 15 = .ok (.iaload, 1) := by decide +kernel
theorem dX3_paymentAt_16 : decode cX3_paymentAt 16 = .ok (.ireturn, 1) := by decide +kernel
theorem dX3_changePayment_0 : decode cX3_changePayment 0 = .ok (.iload_n 1, 1) := by decide +kernel
theorem dX3_changePayment_1 : decode cX3_changePayment 1 = .ok (.aload_n 0, 1) := by decide +kernel
theorem dX3_changePayment_2 : decode cX3_changePayment 2 = .ok (.getfield 22, 3) := by decide +kernel
theorem dX3_changePayment_5 : decode cX3_changePayment 5 = .ok (.getfield 13, 3) := by decide +kernel
theorem dX3_changePayment_8 : decode cX3_changePayment 8 = .ok (.imul, 1) := by decide +kernel
theorem dX3_changePayment_9 : decode cX3_changePayment 9 = .ok (.iload_n 2, 1) := by decide +kernel
theorem dX3_changePayment_10 : decode cX3_changePayment 10 = .ok (.iadd, 1) := by decide +kernel
theorem dX3_changePayment_11 : decode cX3_changePayment 11 = .ok (.istore 4, 2) := by decide +kernel
theorem dX3_changePayment_13 : decode cX3_changePayment 13 = .ok (.aload_n 0, 1) := by decide +kernel
theorem dX3_changePayment_14 : decode cX3_changePayment 14 = .ok (.getfield 16, 3) := by decide +kernel
theorem dX3_changePayment_17 : decode cX3_changePayment 17 = .ok (.iload 4, 2) := by decide +kernel
theorem dX3_changePayment_19 : decode cX3_changePayment 19 = .ok (.iaload, 1) := by decide +kernel
theorem dX3_changePayment_20 : decode cX3_changePayment 20 = .ok (.istore 5, 2) := by decide +kernel
theorem dX3_changePayment_22 : decode cX3_changePayment 22 = .ok (.aload_n 0, 1) := by decide +kernel
theorem dX3_changePayment_23 : decode cX3_changePayment 23 = .ok (.getfield 16, 3) := by decide +kernel
theorem dX3_changePayment_26 : decode cX3_changePayment 26 = .ok (.iload 4, 2) := by decide +kernel
theorem dX3_changePayment_28 : decode cX3_changePayment 28 = .ok (.iload_n 3, 1) := by decide +kernel
theorem dX3_changePayment_29 : decode cX3_changePayment 29 = .ok (.iastore, 1) := by decide +kernel
theorem dX3_changePayment_30 : decode cX3_changePayment 30 = .ok (.iload 5, 2) := by decide +kernel
theorem dX3_changePayment_32 : decode cX3_changePayment 32 = .ok (.iload_n 3, 1) := by decide +kernel
theorem dX3_changePayment_33 : decode cX3_changePayment 33 = .ok (.if_icmp .ne 7, 3) := by decide +kernel
theorem dX3_changePayment_36 : decode cX3_changePayment 36 = .ok (.iconst 0, 1) := by decide +kernel
theorem dX3_changePayment_37 : decode cX3_changePayment 37 = .ok (.goto 4, 3) := by decide +kernel
theorem dX3_changePayment_40 : decode cX3_changePayment 40 = .ok (.iconst 1, 1) := by decide +kernel
theorem dX3_changePayment_41 : decode cX3_changePayment 41 = .ok (.ireturn, 1) := by decide +kernel
theorem dX3_heft_0 : decode cX3_heft 0 = .ok (.aload_n 0, 1) := by decide +kernel
theorem dX3_heft_1 : decode cX3_heft 1 = .ok (.invokespecial 26, 3) := by decide +kernel
theorem dX3_heft_4 : decode cX3_heft 4 = .ok (.bipush 100, 2) := by decide +kernel
theorem dX3_heft_6 : decode cX3_heft 6 = .ok (.iadd, 1) := by decide +kernel
theorem dX3_heft_7 : decode cX3_heft 7 = .ok (.ireturn, 1) := by decide +kernel
theorem dX3_fail_0 : decode cX3_fail 0 = .ok (.new 30, 3) := by decide +kernel
theorem dX3_fail_3 : decode cX3_fail 3 = .ok (.dup, 1) := by decide +kernel
theorem dX3_fail_4 : decode cX3_fail 4 = .ok (.ldc 32, 2) := by decide +kernel
theorem dX3_fail_6 : decode cX3_fail 6 = .ok (.invokespecial 34, 3) := by decide +kernel
theorem dX3_fail_9 : decode cX3_fail 9 = .ok (.athrow, 1) := by decide +kernel
theorem dX4_init_0 : decode cX4_init 0 = .ok (.aload_n 0, 1) := by decide +kernel
theorem dX4_init_1 : decode cX4_init 1 = .ok (.invokespecial 3, 3) := by decide +kernel
theorem dX4_init_4 : decode cX4_init 4 = .ok (.aload_n 0, 1) := by decide +kernel
theorem dX4_init_5 : decode cX4_init 5 = .ok (.bipush 60, 2) := by decide +kernel
theorem dX4_init_7 : decode cX4_init 7 = .ok (.newarray .long, 2) := by decide +kernel
theorem dX4_init_9 : decode cX4_init 9 = .ok (.putfield 9, 3) := by decide +kernel
theorem dX4_init_12 : decode cX4_init 12 = .ok (.return_, 1) := by decide +kernel
theorem dX4_holdNothing_0 : decode cX4_holdNothing 0 = .ok (.aload_n 0, 1) := by decide +kernel
theorem dX4_holdNothing_1 : decode cX4_holdNothing 1 = .ok (.iconst 0, 1) := by decide +kernel
theorem dX4_holdNothing_2 : decode cX4_holdNothing 2 = .ok (.putfield 15, 3) := by decide +kernel
theorem dX4_holdNothing_5 : decode cX4_holdNothing 5 = .ok (.aload_n 0, 1) := by decide +kernel
theorem dX4_holdNothing_6 : decode cX4_holdNothing 6 = .ok (.aconst_null, 1) := by decide +kernel
theorem dX4_holdNothing_7 : decode cX4_holdNothing 7 = .ok (.putfield 19, 3) := by decide +kernel
theorem dX4_holdNothing_10 : decode cX4_holdNothing 10 = .ok (.return_, 1) := by decide +kernel
theorem dX4_holdRule_0 : decode cX4_holdRule 0 = .ok (.aload_n 0, 1) := by decide +kernel
theorem dX4_holdRule_1 : decode cX4_holdRule 1 = .ok (.iconst 1, 1) := by decide +kernel
theorem dX4_holdRule_2 : decode cX4_holdRule 2 = .ok (.putfield 15, 3) := by decide +kernel
theorem dX4_holdRule_5 : decode cX4_holdRule 5 = .ok (.aload_n 0, 1) := by decide +kernel
theorem dX4_holdRule_6 : decode cX4_holdRule 6 = .ok (.aload_n 1, 1) := by decide +kernel
theorem dX4_holdRule_7 : decode cX4_holdRule 7 = .ok (.putfield 19, 3) := by decide +kernel
theorem dX4_holdRule_10 : decode cX4_holdRule 10 = .ok (.aload_n 0, 1) := by decide +kernel
theorem dX4_holdRule_11 : decode cX4_holdRule 11 = .ok (.aload_n 1, 1) := by decide +kernel
theorem dX4_holdRule_12 : decode cX4_holdRule 12 = .ok (.invokevirtual 23, 3) := by decide +kernel
theorem dX4_holdRule_15 : decode cX4_holdRule 15 = .ok (.putfield 29, 3) := by decide +kernel
theorem dX4_holdRule_18 : decode cX4_holdRule 18 = .ok (.return_, 1) := by decide +kernel
theorem dX4_holdRow_0 : decode cX4_holdRow 0 = .ok (.aload_n 0, 1) := by decide +kernel
theorem dX4_holdRow_1 : decode cX4_holdRow 1 = .ok (.iload_n 1, 1) := by decide +kernel
theorem dX4_holdRow_2 : decode cX4_holdRow 2 = .ok (.putfield 15, 3) := by decide +kernel
theorem dX4_holdRow_5 : decode cX4_holdRow 5 = .ok (.aload_n 0, 1) := by decide +kernel
theorem dX4_holdRow_6 : decode cX4_holdRow 6 = .ok (.aconst_null, 1) := by decide +kernel
theorem dX4_holdRow_7 : decode cX4_holdRow 7 = .ok (.putfield 19, 3) := by decide +kernel
theorem dX4_holdRow_10 : decode cX4_holdRow 10 = .ok (.aload_n 0, 1) := by decide +kernel
theorem dX4_holdRow_11 : decode cX4_holdRow 11 = .ok (.iload_n 2, 1) := by decide +kernel
theorem dX4_holdRow_12 : decode cX4_holdRow 12 = .ok (.putfield 31, 3) := by decide +kernel
theorem dX4_holdRow_15 : decode cX4_holdRow 15 = .ok (.aload_n 0, 1) := by decide +kernel
theorem dX4_holdRow_16 : decode cX4_holdRow 16 = .ok (.getfield 9, 3) := by decide +kernel
theorem dX4_holdRow_19 : decode cX4_holdRow 19 = .ok (.lconst 0, 1) := by decide +kernel
theorem dX4_holdRow_20 : decode cX4_holdRow 20 = .ok (.invokestatic 34, 3) := by decide +kernel
theorem dX4_holdRow_23 : decode cX4_holdRow 23 = .ok (.return_, 1) := by decide +kernel
theorem dX4_holdsRow_0 : decode cX4_holdsRow 0 = .ok (.aload_n 0, 1) := by decide +kernel
theorem dX4_holdsRow_1 : decode cX4_holdsRow 1 = .ok (.getfield 15, 3) := by decide +kernel
theorem dX4_holdsRow_4 : decode cX4_holdsRow 4 = .ok (.iconst 3, 1) := by decide +kernel
theorem dX4_holdsRow_5 : decode cX4_holdsRow 5 = .ok (.if_icmp .eq 11, 3) := by decide +kernel
theorem dX4_holdsRow_8 : decode cX4_holdsRow 8 = .ok (.aload_n 0, 1) := by decide +kernel
theorem dX4_holdsRow_9 : decode cX4_holdsRow 9 = .ok (.getfield 15, 3) := by decide +kernel
theorem dX4_holdsRow_12 : decode cX4_holdsRow 12 = .ok (.iconst 4, 1) := by decide +kernel
theorem dX4_holdsRow_13 : decode cX4_holdsRow 13 = .ok (.if_icmp .ne 7, 3) := by decide +kernel
theorem dX4_holdsRow_16 : decode cX4_holdsRow 16 = .ok (.iconst 1, 1) := by decide +kernel
theorem dX4_holdsRow_17 : decode cX4_holdsRow 17 = .ok (.goto 4, 3) := by decide +kernel
theorem dX4_holdsRow_20 : decode cX4_holdsRow 20 = .ok (.iconst 0, 1) := by decide +kernel
theorem dX4_holdsRow_21 : decode cX4_holdsRow 21 = .ok (.ireturn, 1) := by decide +kernel
theorem dX4_hasPlaces_0 : decode cX4_hasPlaces 0 = .ok (.iload_n 1, 1) := by decide +kernel
theorem dX4_hasPlaces_1 : decode cX4_hasPlaces 1 = .ok (.ifCond .lt 29, 3) := by decide +kernel
theorem dX4_hasPlaces_4 : decode cX4_hasPlaces 4 = .ok (.iload_n 2, 1) := by decide +kernel
theorem dX4_hasPlaces_5 : decode cX4_hasPlaces 5 = .ok (.ifCond .lt 25, 3) := by decide +kernel
theorem dX4_hasPlaces_8 : decode cX4_hasPlaces 8 = .ok (.iload_n 2, 1) := by decide +kernel
theorem dX4_hasPlaces_9 : decode cX4_hasPlaces 9 = .ok (.aload_n 0, 1) := by decide +kernel
theorem dX4_hasPlaces_10 : decode cX4_hasPlaces 10 = .ok (.getfield 31, 3) := by decide +kernel
theorem dX4_hasPlaces_13 : decode cX4_hasPlaces 13 = .ok (.if_icmp .gt 17, 3) := by decide +kernel
theorem dX4_hasPlaces_16 : decode cX4_hasPlaces 16 = .ok (.iload_n 1, 1) := by decide +kernel
theorem dX4_hasPlaces_17 : decode cX4_hasPlaces 17 = .ok (.aload_n 0, 1) := by decide +kernel
theorem dX4_hasPlaces_18 : decode cX4_hasPlaces 18 = .ok (.getfield 31, 3) := by decide +kernel
theorem dX4_hasPlaces_21 : decode cX4_hasPlaces 21 = .ok (.iload_n 2, 1) := by decide +kernel
theorem dX4_hasPlaces_22 : decode cX4_hasPlaces 22 = .ok (.isub, 1) := by decide +kernel
theorem dX4_hasPlaces_23 : decode cX4_hasPlaces 23 = .ok (.if_icmp .gt 7, 3) := by decide +kernel
theorem dX4_hasPlaces_26 : decode cX4_hasPlaces 26 = .ok (.iconst 1, 1) := by decide +kernel
theorem dX4_hasPlaces_27 : decode cX4_hasPlaces 27 = .ok (.goto 4, 3) := by decide +kernel
theorem dX4_hasPlaces_30 : decode cX4_hasPlaces 30 = .ok (.iconst 0, 1) := by decide +kernel
theorem dX4_hasPlaces_31 : decode cX4_hasPlaces 31 = .ok (.ireturn, 1) := by decide +kernel
theorem dX5_init_0 : decode cX5_init 0 = .ok (.aload_n 0, 1) := by decide +kernel
theorem dX5_init_1 : decode cX5_init 1 = .ok (.invokespecial 3, 3) := by decide +kernel
theorem dX5_init_4 : decode cX5_init 4 = .ok (.aload_n 0, 1) := by decide +kernel
theorem dX5_init_5 : decode cX5_init 5 = .ok (.iload_n 1, 1) := by decide +kernel
theorem dX5_init_6 : decode cX5_init 6 = .ok (.putfield 9, 3) := by decide +kernel
theorem dX5_init_9 : decode cX5_init 9 = .ok (.aload_n 0, 1) := by decide +kernel
theorem dX5_init_10 : decode cX5_init 10 = .ok (.aload_n 2, 1) := by decide +kernel
theorem dX5_init_11 : decode cX5_init 11 = .ok (.putfield 15, 3) := by decide +kernel
theorem dX5_init_14 : decode cX5_init 14 = .ok (.aload_n 0, 1) := by decide +kernel
theorem dX5_init_15 : decode cX5_init 15 = .ok (.aload_n 2, 1) := by decide +kernel
theorem dX5_init_16 : decode cX5_init 16 = .ok (.getfield 19, 3) := by decide +kernel
theorem dX5_init_19 : decode cX5_init 19 = .ok (.newarray .int, 2) := by decide +kernel
theorem dX5_init_21 : decode cX5_init 21 = .ok (.putfield 24, 3) := by decide +kernel
theorem dX5_init_24 : decode cX5_init 24 = .ok (.return_, 1) := by decide +kernel
theorem dX5_settle_0 : decode cX5_settle 0 = .ok (.return_, 1) := by decide +kernel
theorem dX5_endAt_0 : decode cX5_endAt 0 = .ok (.aload_n 0, 1) := by decide +kernel
theorem dX5_endAt_1 : decode cX5_endAt 1 = .ok (.getfield 24, 3) := by decide +kernel
theorem dX5_endAt_4 : decode cX5_endAt 4 = .ok (.iload_n 1, 1) := by decide +kernel
theorem dX5_endAt_5 : decode cX5_endAt 5 = .ok (.iaload, 1) := by decide +kernel
theorem dX5_endAt_6 : decode cX5_endAt 6 = .ok (.ireturn, 1) := by decide +kernel
theorem dX5_paymentAt_0 : decode cX5_paymentAt 0 = .ok (.iconst 0, 1) := by decide +kernel
theorem dX5_paymentAt_1 : decode cX5_paymentAt 1 = .ok (.ireturn, 1) := by decide +kernel
theorem dX5_profit_0 : decode cX5_profit 0 = .ok (.aload_n 0, 1) := by decide +kernel
theorem dX5_profit_1 : decode cX5_profit 1 = .ok (.getfield 15, 3) := by decide +kernel
theorem dX5_profit_4 : decode cX5_profit 4 = .ok (.iload_n 3, 1) := by decide +kernel
theorem dX5_profit_5 : decode cX5_profit 5 = .ok (.aload_n 0, 1) := by decide +kernel
theorem dX5_profit_6 : decode cX5_profit 6 = .ok (.iload_n 1, 1) := by decide +kernel
theorem dX5_profit_7 : decode cX5_profit 7 = .ok (.invokevirtual 28, 3) := by decide +kernel
theorem dX5_profit_10 : decode cX5_profit 10 = .ok (.invokevirtual 32, 3) := by decide +kernel
theorem dX5_profit_13 : decode cX5_profit 13 = .ok (.aload_n 0, 1) := by decide +kernel
theorem dX5_profit_14 : decode cX5_profit 14 = .ok (.iload_n 1, 1) := by decide +kernel
theorem dX5_profit_15 : decode cX5_profit 15 = .ok (.iload_n 2, 1) := by decide +kernel
theorem dX5_profit_16 : decode cX5_profit 16 = .ok (.invokevirtual 35, 3) := by decide +kernel
theorem dX5_profit_19 : decode cX5_profit 19 = .ok (.isub, 1) := by decide +kernel
theorem dX5_profit_20 : decode cX5_profit 20 = .ok (.ireturn, 1) := by decide +kernel
theorem dX5_changeEnd_0 : decode cX5_changeEnd 0 = .ok (.aload_n 0, 1) := by decide +kernel
theorem dX5_changeEnd_1 : decode cX5_changeEnd 1 = .ok (.getfield 24, 3) := by decide +kernel
theorem dX5_changeEnd_4 : decode cX5_changeEnd 4 = .ok (.iload_n 1, 1) := by decide +kernel
theorem dX5_changeEnd_5 : decode cX5_changeEnd 5 = .ok (.iaload, 1) := by decide +kernel
theorem dX5_changeEnd_6 : decode cX5_changeEnd 6 = .ok (.istore_n 3, 1) := by decide +kernel
theorem dX5_changeEnd_7 : decode cX5_changeEnd 7 = .ok (.aload_n 0, 1) := by decide +kernel
theorem dX5_changeEnd_8 : decode cX5_changeEnd 8 = .ok (.getfield 24, 3) := by decide +kernel
theorem dX5_changeEnd_11 : decode cX5_changeEnd 11 = .ok (.iload_n 1, 1) := by decide +kernel
theorem dX5_changeEnd_12 : decode cX5_changeEnd 12 = .ok (.iload_n 2, 1) := by decide +kernel
theorem dX5_changeEnd_13 : decode cX5_changeEnd 13 = .ok (.iastore, 1) := by decide +kernel
theorem dX5_changeEnd_14 : decode cX5_changeEnd 14 = .ok (.iload_n 3, 1) := by decide +kernel
theorem dX5_changeEnd_15 : decode cX5_changeEnd 15 = .ok (.ireturn, 1) := by decide +kernel
theorem dX5_changePayment_0 : decode cX5_changePayment 0 = .ok (.bipush (-4), 2) := by decide +kernel
theorem dX5_changePayment_2 : decode cX5_changePayment 2 = .ok (.ireturn, 1) := by decide +kernel
theorem dX5_changeGift_0 : decode cX5_changeGift 0 = .ok (.bipush (-4), 2) := by decide +kernel
theorem dX5_changeGift_2 : decode cX5_changeGift 2 = .ok (.ireturn, 1) := by decide +kernel
theorem dX5_changeWeight_0 : decode cX5_changeWeight 0 = .ok (.bipush (-4), 2) := by decide +kernel
theorem dX5_changeWeight_2 : decode cX5_changeWeight 2 = .ok (.ireturn, 1) := by decide +kernel
theorem dX5_changePlace_0 : decode cX5_changePlace 0 = .ok (.bipush (-4), 2) := by decide +kernel
theorem dX5_changePlace_2 : decode cX5_changePlace 2 = .ok (.ireturn, 1) := by decide +kernel
theorem dX5_heft_0 : decode cX5_heft 0 = .ok (.aload_n 0, 1) := by decide +kernel
theorem dX5_heft_1 : decode cX5_heft 1 = .ok (.getfield 9, 3) := by decide +kernel
theorem dX5_heft_4 : decode cX5_heft 4 = .ok (.bipush 10, 2) := by decide +kernel
theorem dX5_heft_6 : decode cX5_heft 6 = .ok (.iadd, 1) := by decide +kernel
theorem dX5_heft_7 : decode cX5_heft 7 = .ok (.ireturn, 1) := by decide +kernel
theorem dX5_fail_0 : decode cX5_fail 0 = .ok (.return_, 1) := by decide +kernel
theorem dX6_init_0 : decode cX6_init 0 = .ok (.aload_n 0, 1) := by decide +kernel
theorem dX6_init_1 : decode cX6_init 1 = .ok (.invokespecial 3, 3) := by decide +kernel
theorem dX6_init_4 : decode cX6_init 4 = .ok (.aload_n 0, 1) := by decide +kernel
theorem dX6_init_5 : decode cX6_init 5 = .ok (.aload_n 1, 1) := by decide +kernel
theorem dX6_init_6 : decode cX6_init 6 = .ok (.putfield 9, 3) := by decide +kernel
theorem dX6_init_9 : decode cX6_init 9 = .ok (.aload_n 0, 1) := by decide +kernel
theorem dX6_init_10 : decode cX6_init 10 = .ok (.iconst 5, 1) := by decide +kernel
theorem dX6_init_11 : decode cX6_init 11 = .ok (.newarray .boolean, 2) := by decide +kernel
theorem dX6_init_13 : decode cX6_init 13 = .ok (.putfield 15, 3) := by decide +kernel
theorem dX6_init_16 : decode cX6_init 16 = .ok (.aload_n 0, 1) := by decide +kernel
theorem dX6_init_17 : decode cX6_init 17 = .ok (.bipush 25, 2) := by decide +kernel
theorem dX6_init_19 : decode cX6_init 19 = .ok (.newarray .int, 2) := by decide +kernel
theorem dX6_init_21 : decode cX6_init 21 = .ok (.putfield 19, 3) := by decide +kernel
theorem dX6_init_24 : decode cX6_init 24 = .ok (.aload_n 0, 1) := by decide +kernel
theorem dX6_init_25 : decode cX6_init 25 = .ok (.bipush 25, 2) := by decide +kernel
theorem dX6_init_27 : decode cX6_init 27 = .ok (.newarray .int, 2) := by decide +kernel
theorem dX6_init_29 : decode cX6_init 29 = .ok (.putfield 23, 3) := by decide +kernel
theorem dX6_init_32 : decode cX6_init 32 = .ok (.aload_n 0, 1) := by decide +kernel
theorem dX6_init_33 : decode cX6_init 33 = .ok (.sipush 160, 3) := by decide +kernel
theorem dX6_init_36 : decode cX6_init 36 = .ok (.newarray .int, 2) := by decide +kernel
theorem dX6_init_38 : decode cX6_init 38 = .ok (.putfield 26, 3) := by decide +kernel
theorem dX6_init_41 : decode cX6_init 41 = .ok (.return_, 1) := by decide +kernel
theorem dX6_look_0 : decode cX6_look 0 = .ok (.iconst 0, 1) := by decide +kernel
theorem dX6_look_1 : decode cX6_look 1 = .ok (.istore 4, 2) := by decide +kernel
theorem dX6_look_3 : decode cX6_look 3 = .ok (.iload 4, 2) := by decide +kernel
theorem dX6_look_5 : decode cX6_look 5 = .ok (.iconst 5, 1) := by decide +kernel
theorem dX6_look_6 : decode cX6_look 6 = .ok (.if_icmp .ge 17, 3) := by decide +kernel
theorem dX6_look_9 : decode cX6_look 9 = .ok (.aload_n 0, 1) := by decide +kernel
theorem dX6_look_10 : decode cX6_look 10 = .ok (.getfield 15, 3) := by decide +kernel
theorem dX6_look_13 : decode cX6_look 13 = .ok (.iload 4, 2) := by decide +kernel
theorem dX6_look_15 : decode cX6_look 15 = .ok (.iconst 0, 1) := by decide +kernel
theorem dX6_look_16 : decode cX6_look 16 = .ok (.bastore, 1) := by decide +kernel
theorem dX6_look_17 : decode cX6_look 17 = .ok (.iinc 4 1, 3) := by decide +kernel
theorem dX6_look_20 : decode cX6_look 20 = .ok (.goto (-17), 3) := by decide +kernel
theorem dX6_look_23 : decode cX6_look 23 = .ok (.iconst 0, 1) := by decide +kernel
theorem dX6_look_24 : decode cX6_look 24 = .ok (.istore 4, 2) := by decide +kernel
theorem dX6_look_26 : decode cX6_look 26 = .ok (.iload 4, 2) := by decide +kernel
theorem dX6_look_28 : decode cX6_look 28 = .ok (.aload_n 0, 1) := by decide +kernel
theorem dX6_look_29 : decode cX6_look 29 = .ok (.getfield 9, 3) := by decide +kernel
theorem dX6_look_32 : decode cX6_look 32 = .ok (.getfield 29, 3) := by decide +kernel
theorem dX6_look_35 : decode cX6_look 35 = .ok (.if_icmp .ge 30, 3) := by decide +kernel
theorem dX6_look_38 : decode cX6_look 38 = .ok (.aload_n 0, 1) := by decide +kernel
theorem dX6_look_39 : decode cX6_look 39 = .ok (.getfield 15, 3) := by decide +kernel
theorem dX6_look_42 : decode cX6_look 42 = .ok (.aload_n 1, 1) := by decide +kernel
theorem dX6_look_43 : decode cX6_look 43 = .ok (.aload_n 0, 1) := by decide +kernel
theorem dX6_look_44 : decode cX6_look 44 = .ok (.getfield 9, 3) := by decide +kernel
theorem dX6_look_47 : decode cX6_look 47 = .ok (.iload_n 2, 1) := by decide +kernel
theorem dX6_look_48 : decode cX6_look 48 = .ok (.iload_n 3, 1) := by decide +kernel
theorem dX6_look_49 : decode cX6_look 49 = .ok (.iload 4, 2) := by decide +kernel
theorem dX6_look_51 : decode cX6_look 51 = .ok (.invokevirtual 35, 3) := by decide +kernel
theorem dX6_look_54 : decode cX6_look 54 = .ok (.invokevirtual 39, 3) := by decide +kernel
theorem dX6_look_57 : decode cX6_look 57 = .ok (.iconst 1, 1) := by decide +kernel
theorem dX6_look_58 : decode cX6_look 58 = .ok (.bastore, 1) := by decide +kernel
theorem dX6_look_59 : decode cX6_look 59 = .ok (.iinc 4 1, 3) := by decide +kernel
theorem dX6_look_62 : decode cX6_look 62 = .ok (.goto (-36), 3) := by decide +kernel
theorem dX6_look_65 : decode cX6_look 65 = .ok (.aload_n 0, 1) := by decide +kernel
theorem dX6_look_66 : decode cX6_look 66 = .ok (.getfield 19, 3) := by decide +kernel
theorem dX6_look_69 : decode cX6_look 69 = .ok (.ldc 45, 2) := by decide +kernel
theorem dX6_look_71 : decode cX6_look 71 = .ok (.invokestatic 46, 3) := by decide +kernel
theorem dX6_look_74 : decode cX6_look 74 = .ok (.iconst 0, 1) := by decide +kernel
theorem dX6_look_75 : decode cX6_look 75 = .ok (.istore 4, 2) := by decide +kernel
theorem dX6_look_77 : decode cX6_look 77 = .ok (.iload 4, 2) := by decide +kernel
theorem dX6_look_79 : decode cX6_look 79 = .ok (.aload_n 0, 1) := by decide +kernel
theorem dX6_look_80 : decode cX6_look 80 = .ok (.getfield 9, 3) := by decide +kernel
theorem dX6_look_83 : decode cX6_look 83 = .ok (.getfield 29, 3) := by decide +kernel
theorem dX6_look_86 : decode cX6_look 86 = .ok (.if_icmp .ge 30, 3) := by decide +kernel
theorem dX6_look_89 : decode cX6_look 89 = .ok (.aload_n 0, 1) := by decide +kernel
theorem dX6_look_90 : decode cX6_look 90 = .ok (.iload 4, 2) := by decide +kernel
theorem dX6_look_92 : decode cX6_look 92 = .ok (.aload_n 1, 1) := by decide +kernel
theorem dX6_look_93 : decode cX6_look 93 = .ok (.aload_n 0, 1) := by decide +kernel
theorem dX6_look_94 : decode cX6_look 94 = .ok (.getfield 9, 3) := by decide +kernel
theorem dX6_look_97 : decode cX6_look 97 = .ok (.iload_n 2, 1) := by decide +kernel
theorem dX6_look_98 : decode cX6_look 98 = .ok (.iload_n 3, 1) := by decide +kernel
theorem dX6_look_99 : decode cX6_look 99 = .ok (.iload 4, 2) := by decide +kernel
theorem dX6_look_101 : decode cX6_look 101 = .ok (.invokevirtual 35, 3) := by decide +kernel
theorem dX6_look_104 : decode cX6_look 104 = .ok (.invokevirtual 39, 3) := by decide +kernel
theorem dX6_look_107 : decode cX6_look 107 = .ok (.invokevirtual 52, 3) := by decide +kernel
theorem dX6_look_110 : decode cX6_look 110 = .ok (.iinc 4 1, 3) := by decide +kernel
theorem dX6_look_113 : decode cX6_look 113 = .ok (.goto (-36), 3) := by decide +kernel
theorem dX6_look_116 : decode cX6_look 116 = .ok (.return_, 1) := by decide +kernel
theorem dX6_measure_0 : decode cX6_measure 0 = .ok (.iconst 0, 1) := by decide +kernel
theorem dX6_measure_1 : decode cX6_measure 1 = .ok (.istore_n 3, 1) := by decide +kernel
theorem dX6_measure_2 : decode cX6_measure 2 = .ok (.iload_n 3, 1) := by decide +kernel
theorem dX6_measure_3 : decode cX6_measure 3 = .ok (.aload_n 0, 1) := by decide +kernel
theorem dX6_measure_4 : decode cX6_measure 4 = .ok (.getfield 9, 3) := by decide +kernel
theorem dX6_measure_7 : decode cX6_measure 7 = .ok (.getfield 56, 3) := by decide +kernel
theorem dX6_measure_10 : decode cX6_measure 10 = .ok (.if_icmp .ge 62, 3) := by decide +kernel
theorem dX6_measure_13 : decode cX6_measure 13 = .ok (.aload_n 0, 1) := by decide +kernel
theorem dX6_measure_14 : decode cX6_measure 14 = .ok (.getfield 9, 3) := by decide +kernel
