theorem d_A_init_16 : decode b_A_init 16 = .ok (.newarray .int, 2) := by decide +kernel
theorem d_A_init_18 : decode b_A_init 18 = .ok (.putfield 15, 3) := by decide +kernel
theorem d_A_init_21 : decode b_A_init 21 = .ok (.return_, 1) := by decide +kernel
theorem d_A_mergeAll_0 : decode b_A_mergeAll 0 = .ok (.aload_n 0, 1) := by decide +kernel
theorem d_A_mergeAll_1 : decode b_A_mergeAll 1 = .ok (.aload_n 1, 1) := by decide +kernel
theorem d_A_mergeAll_2 : decode b_A_mergeAll 2 = .ok (.invokevirtual 18, 3) := by decide +kernel
theorem d_A_mergeAll_5 : decode b_A_mergeAll 5 = .ok (.aload_n 0, 1) := by decide +kernel
theorem d_A_mergeAll_6 : decode b_A_mergeAll 6 = .ok (.getfield 22, 3) := by decide +kernel
theorem d_A_mergeAll_9 : decode b_A_mergeAll 9 = .ok (.istore_n 3, 1) := by decide +kernel
theorem d_A_mergeAll_10 : decode b_A_mergeAll 10 = .ok (.iload_n 3, 1) := by decide +kernel
theorem d_A_mergeAll_11 : decode b_A_mergeAll 11 = .ok (.iconst 1, 1) := by decide +kernel
theorem d_A_mergeAll_12 : decode b_A_mergeAll 12 = .ok (.if_icmp .le 18, 3) := by decide +kernel
theorem d_A_mergeAll_15 : decode b_A_mergeAll 15 = .ok (.aload_n 0, 1) := by decide +kernel
theorem d_A_mergeAll_16 : decode b_A_mergeAll 16 = .ok (.aload_n 2, 1) := by decide +kernel
theorem d_A_mergeAll_17 : decode b_A_mergeAll 17 = .ok (.invokevirtual 26, 3) := by decide +kernel
theorem d_A_mergeAll_20 : decode b_A_mergeAll 20 = .ok (.aload_n 0, 1) := by decide +kernel
theorem d_A_mergeAll_21 : decode b_A_mergeAll 21 = .ok (.invokevirtual 30, 3) := by decide +kernel
theorem d_A_mergeAll_24 : decode b_A_mergeAll 24 = .ok (.iinc 3 (-1), 3) := by decide +kernel
theorem d_A_mergeAll_27 : decode b_A_mergeAll 27 = .ok (.goto (-17), 3) := by decide +kernel
theorem d_A_mergeAll_30 : decode b_A_mergeAll 30 = .ok (.return_, 1) := by decide +kernel
theorem d_A_mergeJoined_0 : decode b_A_mergeJoined 0 = .ok (.aload_n 0, 1) := by decide +kernel
theorem d_A_mergeJoined_1 : decode b_A_mergeJoined 1 = .ok (.aload_n 1, 1) := by decide +kernel
theorem d_A_mergeJoined_2 : decode b_A_mergeJoined 2 = .ok (.invokevirtual 18, 3) := by decide +kernel
theorem d_A_mergeJoined_5 : decode b_A_mergeJoined 5 = .ok (.aload_n 0, 1) := by decide +kernel
theorem d_A_mergeJoined_6 : decode b_A_mergeJoined 6 = .ok (.getfield 22, 3) := by decide +kernel
theorem d_A_mergeJoined_9 : decode b_A_mergeJoined 9 = .ok (.istore_n 3, 1) := by decide +kernel
theorem d_A_mergeJoined_10 : decode b_A_mergeJoined 10 = .ok (.iload_n 3, 1) := by decide +kernel
theorem d_A_mergeJoined_11 : decode b_A_mergeJoined 11 = .ok (.iconst 1, 1) := by decide +kernel
theorem d_A_mergeJoined_12 : decode b_A_mergeJoined 12 = .ok (.if_icmp .le 48, 3) := by decide +kernel
theorem d_A_mergeJoined_15 : decode b_A_mergeJoined 15 = .ok (.aload_n 0, 1) := by decide +kernel
theorem d_A_mergeJoined_16 : decode b_A_mergeJoined 16 = .ok (.aload_n 2, 1) := by decide +kernel
theorem d_A_mergeJoined_17 : decode b_A_mergeJoined 17 = .ok (.invokevirtual 26, 3) := by decide +kernel
theorem d_A_mergeJoined_20 : decode b_A_mergeJoined 20 = .ok (.aload_n 2, 1) := by decide +kernel
theorem d_A_mergeJoined_21 : decode b_A_mergeJoined 21 = .ok (.aload_n 0, 1) := by decide +kernel
theorem d_A_mergeJoined_22 : decode b_A_mergeJoined 22 = .ok (.getfield 15, 3) := by decide +kernel
theorem d_A_mergeJoined_25 : decode b_A_mergeJoined 25 = .ok (.aload_n 0, 1) := by decide +kernel
theorem d_A_mergeJoined_26 : decode b_A_mergeJoined 26 = .ok (.getfield 33, 3) := by decide +kernel
theorem d_A_mergeJoined_29 : decode b_A_mergeJoined 29 = .ok (.iaload, 1) := by decide +kernel
theorem d_A_mergeJoined_30 : decode b_A_mergeJoined 30 = .ok (.aload_n 0, 1) := by decide +kernel
theorem d_A_mergeJoined_31 : decode b_A_mergeJoined 31 = .ok (.getfield 15, 3) := by decide +kernel
theorem d_A_mergeJoined_34 : decode b_A_mergeJoined 34 = .ok (.aload_n 0, 1) := by decide +kernel
theorem d_A_mergeJoined_35 : decode b_A_mergeJoined 35 = .ok (.getfield 36, 3) := by decide +kernel
theorem d_A_mergeJoined_38 : decode b_A_mergeJoined 38 = .ok (.iaload, 1) := by decide +kernel
theorem d_A_mergeJoined_39 : decode b_A_mergeJoined 39 = .ok (.invokevirtual 39, 3) := by decide +kernel
theorem d_A_mergeJoined_42 : decode b_A_mergeJoined 42 = .ok (.ifCond .ne 8, 3) := by decide +kernel
theorem d_A_mergeJoined_45 : decode b_A_mergeJoined 45 = .ok (.aload_n 0, 1) := by decide +kernel
theorem d_A_mergeJoined_46 : decode b_A_mergeJoined 46 = .ok (.getfield 22, 3) := by decide +kernel
theorem d_A_mergeJoined_49 : decode b_A_mergeJoined 49 = .ok (.ireturn, 1) := by decide +kernel
theorem d_A_mergeJoined_50 : decode b_A_mergeJoined 50 = .ok (.aload_n 0, 1) := by decide +kernel
theorem d_A_mergeJoined_51 : decode b_A_mergeJoined 51 = .ok (.invokevirtual 30, 3) := by decide +kernel
theorem d_A_mergeJoined_54 : decode b_A_mergeJoined 54 = .ok (.iinc 3 (-1), 3) := by decide +kernel
theorem d_A_mergeJoined_57 : decode b_A_mergeJoined 57 = .ok (.goto (-47), 3) := by decide +kernel
theorem d_A_mergeJoined_60 : decode b_A_mergeJoined 60 = .ok (.aload_n 0, 1) := by decide +kernel
theorem d_A_mergeJoined_61 : decode b_A_mergeJoined 61 = .ok (.getfield 22, 3) := by decide +kernel
theorem d_A_mergeJoined_64 : decode b_A_mergeJoined 64 = .ok (.ireturn, 1) := by decide +kernel
theorem d_A_begin_0 : decode b_A_begin 0 = .ok (.aload_n 0, 1) := by decide +kernel
theorem d_A_begin_1 : decode b_A_begin 1 = .ok (.aload_n 1, 1) := by decide +kernel
theorem d_A_begin_2 : decode b_A_begin 2 = .ok (.getfield 45, 3) := by decide +kernel
theorem d_A_begin_5 : decode b_A_begin 5 = .ok (.putfield 22, 3) := by decide +kernel
theorem d_A_begin_8 : decode b_A_begin 8 = .ok (.iconst 0, 1) := by decide +kernel
theorem d_A_begin_9 : decode b_A_begin 9 = .ok (.istore_n 2, 1) := by decide +kernel
theorem d_A_begin_10 : decode b_A_begin 10 = .ok (.iload_n 2, 1) := by decide +kernel
theorem d_A_begin_11 : decode b_A_begin 11 = .ok (.aload_n 0, 1) := by decide +kernel
theorem d_A_begin_12 : decode b_A_begin 12 = .ok (.getfield 22, 3) := by decide +kernel
theorem d_A_begin_15 : decode b_A_begin 15 = .ok (.if_icmp .ge 18, 3) := by decide +kernel
theorem d_A_begin_18 : decode b_A_begin 18 = .ok (.aload_n 0, 1) := by decide +kernel
theorem d_A_begin_19 : decode b_A_begin 19 = .ok (.getfield 15, 3) := by decide +kernel
theorem d_A_begin_22 : decode b_A_begin 22 = .ok (.iload_n 2, 1) := by decide +kernel
theorem d_A_begin_23 : decode b_A_begin 23 = .ok (.iconst 1, 1) := by decide +kernel
theorem d_A_begin_24 : decode b_A_begin 24 = .ok (.iload_n 2, 1) := by decide +kernel
theorem d_A_begin_25 : decode b_A_begin 25 = .ok (.ishl, 1) := by decide +kernel
theorem d_A_begin_26 : decode b_A_begin 26 = .ok (.iastore, 1) := by decide +kernel
theorem d_A_begin_27 : decode b_A_begin 27 = .ok (.iinc 2 1, 3) := by decide +kernel
theorem d_A_begin_30 : decode b_A_begin 30 = .ok (.goto (-20), 3) := by decide +kernel
theorem d_A_begin_33 : decode b_A_begin 33 = .ok (.return_, 1) := by decide +kernel
theorem d_A_pick_0 : decode b_A_pick 0 = .ok (.aload_n 0, 1) := by decide +kernel
theorem d_A_pick_1 : decode b_A_pick 1 = .ok (.iconst 0, 1) := by decide +kernel
theorem d_A_pick_2 : decode b_A_pick 2 = .ok (.putfield 33, 3) := by decide +kernel
theorem d_A_pick_5 : decode b_A_pick 5 = .ok (.aload_n 0, 1) := by decide +kernel
theorem d_A_pick_6 : decode b_A_pick 6 = .ok (.iconst 1, 1) := by decide +kernel
theorem d_A_pick_7 : decode b_A_pick 7 = .ok (.putfield 36, 3) := by decide +kernel
theorem d_A_pick_10 : decode b_A_pick 10 = .ok (.iconst 0, 1) := by decide +kernel
theorem d_A_pick_11 : decode b_A_pick 11 = .ok (.istore_n 2, 1) := by decide +kernel
theorem d_A_pick_12 : decode b_A_pick 12 = .ok (.iload_n 2, 1) := by decide +kernel
theorem d_A_pick_13 : decode b_A_pick 13 = .ok (.aload_n 0, 1) := by decide +kernel
theorem d_A_pick_14 : decode b_A_pick 14 = .ok (.getfield 22, 3) := by decide +kernel
theorem d_A_pick_17 : decode b_A_pick 17 = .ok (.if_icmp .ge 57, 3) := by decide +kernel
theorem d_A_pick_20 : decode b_A_pick 20 = .ok (.iload_n 2, 1) := by decide +kernel
theorem d_A_pick_21 : decode b_A_pick 21 = .ok (.iconst 1, 1) := by decide +kernel
theorem d_A_pick_22 : decode b_A_pick 22 = .ok (.iadd, 1) := by decide +kernel
theorem d_A_pick_23 : decode b_A_pick 23 = .ok (.istore_n 3, 1) := by decide +kernel
theorem d_A_pick_24 : decode b_A_pick 24 = .ok (.iload_n 3, 1) := by decide +kernel
theorem d_A_pick_25 : decode b_A_pick 25 = .ok (.aload_n 0, 1) := by decide +kernel
theorem d_A_pick_26 : decode b_A_pick 26 = .ok (.getfield 22, 3) := by decide +kernel
theorem d_A_pick_29 : decode b_A_pick 29 = .ok (.if_icmp .ge 39, 3) := by decide +kernel
theorem d_A_pick_32 : decode b_A_pick 32 = .ok (.aload_n 0, 1) := by decide +kernel
theorem d_A_pick_33 : decode b_A_pick 33 = .ok (.aload_n 0, 1) := by decide +kernel
theorem d_A_pick_34 : decode b_A_pick 34 = .ok (.getfield 15, 3) := by decide +kernel
theorem d_A_pick_37 : decode b_A_pick 37 = .ok (.iload_n 2, 1) := by decide +kernel
theorem d_A_pick_38 : decode b_A_pick 38 = .ok (.iaload, 1) := by decide +kernel
theorem d_A_pick_39 : decode b_A_pick 39 = .ok (.aload_n 0, 1) := by decide +kernel
theorem d_A_pick_40 : decode b_A_pick 40 = .ok (.getfield 15, 3) := by decide +kernel
theorem d_A_pick_43 : decode b_A_pick 43 = .ok (.iload_n 3, 1) := by decide +kernel
theorem d_A_pick_44 : decode b_A_pick 44 = .ok (.iaload, 1) := by decide +kernel
theorem d_A_pick_45 : decode b_A_pick 45 = .ok (.aload_n 1, 1) := by decide +kernel
theorem d_A_pick_46 : decode b_A_pick 46 = .ok (.invokevirtual 50, 3) := by decide +kernel
theorem d_A_pick_49 : decode b_A_pick 49 = .ok (.ifCond .eq 13, 3) := by decide +kernel
theorem d_A_pick_52 : decode b_A_pick 52 = .ok (.aload_n 0, 1) := by decide +kernel
theorem d_A_pick_53 : decode b_A_pick 53 = .ok (.iload_n 2, 1) := by decide +kernel
theorem d_A_pick_54 : decode b_A_pick 54 = .ok (.putfield 33, 3) := by decide +kernel
theorem d_A_pick_57 : decode b_A_pick 57 = .ok (.aload_n 0, 1) := by decide +kernel
theorem d_A_pick_58 : decode b_A_pick 58 = .ok (.iload_n 3, 1) := by decide +kernel
theorem d_A_pick_59 : decode b_A_pick 59 = .ok (.putfield 36, 3) := by decide +kernel
theorem d_A_pick_62 : decode b_A_pick 62 = .ok (.iinc 3 1, 3) := by decide +kernel
theorem d_A_pick_65 : decode b_A_pick 65 = .ok (.goto (-41), 3) := by decide +kernel
theorem d_A_pick_68 : decode b_A_pick 68 = .ok (.iinc 2 1, 3) := by decide +kernel
theorem d_A_pick_71 : decode b_A_pick 71 = .ok (.goto (-59), 3) := by decide +kernel
theorem d_A_pick_74 : decode b_A_pick 74 = .ok (.return_, 1) := by decide +kernel
theorem d_A_goesAhead_0 : decode b_A_goesAhead 0 = .ok (.aload_n 0, 1) := by decide +kernel
theorem d_A_goesAhead_1 : decode b_A_goesAhead 1 = .ok (.getfield 15, 3) := by decide +kernel
theorem d_A_goesAhead_4 : decode b_A_goesAhead 4 = .ok (.aload_n 0, 1) := by decide +kernel
theorem d_A_goesAhead_5 : decode b_A_goesAhead 5 = .ok (.getfield 33, 3) := by decide +kernel
theorem d_A_goesAhead_8 : decode b_A_goesAhead 8 = .ok (.iaload, 1) := by decide +kernel
theorem d_A_goesAhead_9 : decode b_A_goesAhead 9 = .ok (.istore 4, 2) := by decide +kernel
theorem d_A_goesAhead_11 : decode b_A_goesAhead 11 = .ok (.aload_n 0, 1) := by decide +kernel
theorem d_A_goesAhead_12 : decode b_A_goesAhead 12 = .ok (.getfield 15, 3) := by decide +kernel
theorem d_A_goesAhead_15 : decode b_A_goesAhead 15 = .ok (.aload_n 0, 1) := by decide +kernel
theorem d_A_goesAhead_16 : decode b_A_goesAhead 16 = .ok (.getfield 36, 3) := by decide +kernel
theorem d_A_goesAhead_19 : decode b_A_goesAhead 19 = .ok (.iaload, 1) := by decide +kernel
theorem d_A_goesAhead_20 : decode b_A_goesAhead 20 = .ok (.istore 5, 2) := by decide +kernel
theorem d_A_goesAhead_22 : decode b_A_goesAhead 22 = .ok (.aload_n 3, 1) := by decide +kernel
theorem d_A_goesAhead_23 : decode b_A_goesAhead 23 = .ok (.iload_n 1, 1) := by decide +kernel
theorem d_A_goesAhead_24 : decode b_A_goesAhead 24 = .ok (.iload_n 2, 1) := by decide +kernel
theorem d_A_goesAhead_25 : decode b_A_goesAhead 25 = .ok (.invokevirtual 39, 3) := by decide +kernel
theorem d_A_goesAhead_28 : decode b_A_goesAhead 28 = .ok (.istore 6, 2) := by decide +kernel
theorem d_A_goesAhead_30 : decode b_A_goesAhead 30 = .ok (.iload 6, 2) := by decide +kernel
theorem d_A_goesAhead_32 : decode b_A_goesAhead 32 = .ok (.aload_n 3, 1) := by decide +kernel
theorem d_A_goesAhead_33 : decode b_A_goesAhead 33 = .ok (.iload 4, 2) := by decide +kernel
theorem d_A_goesAhead_35 : decode b_A_goesAhead 35 = .ok (.iload 5, 2) := by decide +kernel
theorem d_A_goesAhead_37 : decode b_A_goesAhead 37 = .ok (.invokevirtual 39, 3) := by decide +kernel
theorem d_A_goesAhead_40 : decode b_A_goesAhead 40 = .ok (.if_icmp .eq 6, 3) := by decide +kernel
theorem d_A_goesAhead_43 : decode b_A_goesAhead 43 = .ok (.iload 6, 2) := by decide +kernel
theorem d_A_goesAhead_45 : decode b_A_goesAhead 45 = .ok (.ireturn, 1) := by decide +kernel
theorem d_A_goesAhead_46 : decode b_A_goesAhead 46 = .ok (.aload_n 3, 1) := by decide +kernel
theorem d_A_goesAhead_47 : decode b_A_goesAhead 47 = .ok (.getfield 54, 3) := by decide +kernel
theorem d_A_goesAhead_50 : decode b_A_goesAhead 50 = .ok (.iload_n 1, 1) := by decide +kernel
theorem d_A_goesAhead_51 : decode b_A_goesAhead 51 = .ok (.iload_n 2, 1) := by decide +kernel
theorem d_A_goesAhead_52 : decode b_A_goesAhead 52 = .ok (.ior, 1) := by decide +kernel
theorem d_A_goesAhead_53 : decode b_A_goesAhead 53 = .ok (.laload, 1) := by decide +kernel
theorem d_A_goesAhead_54 : decode b_A_goesAhead 54 = .ok (.lstore 7, 2) := by decide +kernel
theorem d_A_goesAhead_56 : decode b_A_goesAhead 56 = .ok (.aload_n 3, 1) := by decide +kernel
theorem d_A_goesAhead_57 : decode b_A_goesAhead 57 = .ok (.getfield 54, 3) := by decide +kernel
theorem d_A_goesAhead_60 : decode b_A_goesAhead 60 = .ok (.iload 4, 2) := by decide +kernel
theorem d_A_goesAhead_62 : decode b_A_goesAhead 62 = .ok (.iload 5, 2) := by decide +kernel
theorem d_A_goesAhead_64 : decode b_A_goesAhead 64 = .ok (.ior, 1) := by decide +kernel
theorem d_A_goesAhead_65 : decode b_A_goesAhead 65 = .ok (.laload, 1) := by decide +kernel
theorem d_A_goesAhead_66 : decode b_A_goesAhead 66 = .ok (.lstore 9, 2) := by decide +kernel
theorem d_A_goesAhead_68 : decode b_A_goesAhead 68 = .ok (.lload 7, 2) := by decide +kernel
theorem d_A_goesAhead_70 : decode b_A_goesAhead 70 = .ok (.lload 9, 2) := by decide +kernel
theorem d_A_goesAhead_72 : decode b_A_goesAhead 72 = .ok (.lcmp, 1) := by decide +kernel
theorem d_A_goesAhead_73 : decode b_A_goesAhead 73 = .ok (.ifCond .eq 17, 3) := by decide +kernel
theorem d_A_goesAhead_76 : decode b_A_goesAhead 76 = .ok (.lload 7, 2) := by decide +kernel
theorem d_A_goesAhead_78 : decode b_A_goesAhead 78 = .ok (.lload 9, 2) := by decide +kernel
theorem d_A_goesAhead_80 : decode b_A_goesAhead 80 = .ok (.lcmp, 1) := by decide +kernel
theorem d_A_goesAhead_81 : decode b_A_goesAhead 81 = .ok (.ifCond .ge 7, 3) := by decide +kernel
theorem d_A_goesAhead_84 : decode b_A_goesAhead 84 = .ok (.iconst 1, 1) := by decide +kernel
theorem d_A_goesAhead_85 : decode b_A_goesAhead 85 = .ok (.goto 4, 3) := by decide +kernel
theorem d_A_goesAhead_88 : decode b_A_goesAhead 88 = .ok (.iconst 0, 1) := by decide +kernel
theorem d_A_goesAhead_89 : decode b_A_goesAhead 89 = .ok (.ireturn, 1) := by decide +kernel
theorem d_A_goesAhead_90 : decode b_A_goesAhead 90 = .ok (.iload_n 1, 1) := by decide +kernel
theorem d_A_goesAhead_91 : decode b_A_goesAhead 91 = .ok (.iload 4, 2) := by decide +kernel
theorem d_A_goesAhead_93 : decode b_A_goesAhead 93 = .ok (.if_icmp .eq 17, 3) := by decide +kernel
theorem d_A_goesAhead_96 : decode b_A_goesAhead 96 = .ok (.iload_n 1, 1) := by decide +kernel
theorem d_A_goesAhead_97 : decode b_A_goesAhead 97 = .ok (.iload 4, 2) := by decide +kernel
theorem d_A_goesAhead_99 : decode b_A_goesAhead 99 = .ok (.if_icmp .ge 7, 3) := by decide +kernel
theorem d_A_goesAhead_102 : decode b_A_goesAhead 102 = .ok (.iconst 1, 1) := by decide +kernel
theorem d_A_goesAhead_103 : decode b_A_goesAhead 103 = .ok (.goto 18, 3) := by decide +kernel
theorem d_A_goesAhead_106 : decode b_A_goesAhead 106 = .ok (.iconst 0, 1) := by decide +kernel
theorem d_A_goesAhead_107 : decode b_A_goesAhead 107 = .ok (.goto 14, 3) := by decide +kernel
theorem d_A_goesAhead_110 : decode b_A_goesAhead 110 = .ok (.iload_n 2, 1) := by decide +kernel
theorem d_A_goesAhead_111 : decode b_A_goesAhead 111 = .ok (.iload 5, 2) := by decide +kernel
theorem d_A_goesAhead_113 : decode b_A_goesAhead 113 = .ok (.if_icmp .ge 7, 3) := by decide +kernel
theorem d_A_goesAhead_116 : decode b_A_goesAhead 116 = .ok (.iconst 1, 1) := by decide +kernel
theorem d_A_goesAhead_117 : decode b_A_goesAhead 117 = .ok (.goto 4, 3) := by decide +kernel
theorem d_A_goesAhead_120 : decode b_A_goesAhead 120 = .ok (.iconst 0, 1) := by decide +kernel
theorem d_A_goesAhead_121 : decode b_A_goesAhead 121 = .ok (.ireturn, 1) := by decide +kernel
theorem d_A_mergePicked_0 : decode b_A_mergePicked 0 = .ok (.aload_n 0, 1) := by decide +kernel
theorem d_A_mergePicked_1 : decode b_A_mergePicked 1 = .ok (.getfield 15, 3) := by decide +kernel
theorem d_A_mergePicked_4 : decode b_A_mergePicked 4 = .ok (.aload_n 0, 1) := by decide +kernel
theorem d_A_mergePicked_5 : decode b_A_mergePicked 5 = .ok (.getfield 33, 3) := by decide +kernel
theorem d_A_mergePicked_8 : decode b_A_mergePicked 8 = .ok (.iaload, 1) := by decide +kernel
theorem d_A_mergePicked_9 : decode b_A_mergePicked 9 = .ok (.aload_n 0, 1) := by decide +kernel
theorem d_A_mergePicked_10 : decode b_A_mergePicked 10 = .ok (.getfield 15, 3) := by decide +kernel
theorem d_A_mergePicked_13 : decode b_A_mergePicked 13 = .ok (.aload_n 0, 1) := by decide +kernel
theorem d_A_mergePicked_14 : decode b_A_mergePicked 14 = .ok (.getfield 36, 3) := by decide +kernel
theorem d_A_mergePicked_17 : decode b_A_mergePicked 17 = .ok (.iaload, 1) := by decide +kernel
theorem d_A_mergePicked_18 : decode b_A_mergePicked 18 = .ok (.ior, 1) := by decide +kernel
theorem d_A_mergePicked_19 : decode b_A_mergePicked 19 = .ok (.istore_n 1, 1) := by decide +kernel
theorem d_A_mergePicked_20 : decode b_A_mergePicked 20 = .ok (.aload_n 0, 1) := by decide +kernel
theorem d_A_mergePicked_21 : decode b_A_mergePicked 21 = .ok (.getfield 9, 3) := by decide +kernel
theorem d_A_mergePicked_24 : decode b_A_mergePicked 24 = .ok (.iload_n 1, 1) := by decide +kernel
theorem d_A_mergePicked_25 : decode b_A_mergePicked 25 = .ok (.aload_n 0, 1) := by decide +kernel
theorem d_A_mergePicked_26 : decode b_A_mergePicked 26 = .ok (.getfield 15, 3) := by decide +kernel
theorem d_A_mergePicked_29 : decode b_A_mergePicked 29 = .ok (.aload_n 0, 1) := by decide +kernel
theorem d_A_mergePicked_30 : decode b_A_mergePicked 30 = .ok (.getfield 33, 3) := by decide +kernel
theorem d_A_mergePicked_33 : decode b_A_mergePicked 33 = .ok (.iaload, 1) := by decide +kernel
theorem d_A_mergePicked_34 : decode b_A_mergePicked 34 = .ok (.iastore, 1) := by decide +kernel
theorem d_A_mergePicked_35 : decode b_A_mergePicked 35 = .ok (.aload_n 0, 1) := by decide +kernel
theorem d_A_mergePicked_36 : decode b_A_mergePicked 36 = .ok (.getfield 15, 3) := by decide +kernel
theorem d_A_mergePicked_39 : decode b_A_mergePicked 39 = .ok (.aload_n 0, 1) := by decide +kernel
theorem d_A_mergePicked_40 : decode b_A_mergePicked 40 = .ok (.getfield 33, 3) := by decide +kernel
theorem d_A_mergePicked_43 : decode b_A_mergePicked 43 = .ok (.iload_n 1, 1) := by decide +kernel
theorem d_A_mergePicked_44 : decode b_A_mergePicked 44 = .ok (.iastore, 1) := by decide +kernel
theorem d_A_mergePicked_45 : decode b_A_mergePicked 45 = .ok (.aload_n 0, 1) := by decide +kernel
theorem d_A_mergePicked_46 : decode b_A_mergePicked 46 = .ok (.dup, 1) := by decide +kernel
theorem d_A_mergePicked_47 : decode b_A_mergePicked 47 = .ok (.getfield 22, 3) := by decide +kernel
theorem d_A_mergePicked_50 : decode b_A_mergePicked 50 = .ok (.iconst 1, 1) := by decide +kernel
theorem d_A_mergePicked_51 : decode b_A_mergePicked 51 = .ok (.isub, 1) := by decide +kernel
theorem d_A_mergePicked_52 : decode b_A_mergePicked 52 = .ok (.putfield 22, 3) := by decide +kernel
theorem d_A_mergePicked_55 : decode b_A_mergePicked 55 = .ok (.aload_n 0, 1) := by decide +kernel
theorem d_A_mergePicked_56 : decode b_A_mergePicked 56 = .ok (.getfield 15, 3) := by decide +kernel
theorem d_A_mergePicked_59 : decode b_A_mergePicked 59 = .ok (.aload_n 0, 1) := by decide +kernel
theorem d_A_mergePicked_60 : decode b_A_mergePicked 60 = .ok (.getfield 36, 3) := by decide +kernel
theorem d_A_mergePicked_63 : decode b_A_mergePicked 63 = .ok (.iconst 1, 1) := by decide +kernel
theorem d_A_mergePicked_64 : decode b_A_mergePicked 64 = .ok (.iadd, 1) := by decide +kernel
theorem d_A_mergePicked_65 : decode b_A_mergePicked 65 = .ok (.aload_n 0, 1) := by decide +kernel
theorem d_A_mergePicked_66 : decode b_A_mergePicked 66 = .ok (.getfield 15, 3) := by decide +kernel
theorem d_A_mergePicked_69 : decode b_A_mergePicked 69 = .ok (.aload_n 0, 1) := by decide +kernel
theorem d_A_mergePicked_70 : decode b_A_mergePicked 70 = .ok (.getfield 36, 3) := by decide +kernel
theorem d_A_mergePicked_73 : decode b_A_mergePicked 73 = .ok (.aload_n 0, 1) := by decide +kernel
theorem d_A_mergePicked_74 : decode b_A_mergePicked 74 = .ok (.getfield 22, 3) := by decide +kernel
theorem d_A_mergePicked_77 : decode b_A_mergePicked 77 = .ok (.aload_n 0, 1) := by decide +kernel
theorem d_A_mergePicked_78 : decode b_A_mergePicked 78 = .ok (.getfield 36, 3) := by decide +kernel
theorem d_A_mergePicked_81 : decode b_A_mergePicked 81 = .ok (.isub, 1) := by decide +kernel
theorem d_A_mergePicked_82 : decode b_A_mergePicked 82 = .ok (.invokestatic 58, 3) := by decide +kernel
theorem d_A_mergePicked_85 : decode b_A_mergePicked 85 = .ok (.return_, 1) := by decide +kernel
theorem d_P_init_0 : decode b_P_init 0 = .ok (.aload_n 0, 1) := by decide +kernel
theorem d_P_init_1 : decode b_P_init 1 = .ok (.invokespecial 3, 3) := by decide +kernel
theorem d_P_init_4 : decode b_P_init 4 = .ok (.aload_n 0, 1) := by decide +kernel
theorem d_P_init_5 : decode b_P_init 5 = .ok (.bipush 7, 2) := by decide +kernel
theorem d_P_init_7 : decode b_P_init 7 = .ok (.newarray .int, 2) := by decide +kernel
theorem d_P_init_9 : decode b_P_init 9 = .ok (.putfield 9, 3) := by decide +kernel
theorem d_P_init_12 : decode b_P_init 12 = .ok (.aload_n 0, 1) := by decide +kernel
theorem d_P_init_13 : decode b_P_init 13 = .ok (.bipush 7, 2) := by decide +kernel
theorem d_P_init_15 : decode b_P_init 15 = .ok (.newarray .int, 2) := by decide +kernel
theorem d_P_init_17 : decode b_P_init 17 = .ok (.putfield 15, 3) := by decide +kernel
theorem d_P_init_20 : decode b_P_init 20 = .ok (.return_, 1) := by decide +kernel
theorem d_P_isNone_0 : decode b_P_isNone 0 = .ok (.aload_n 0, 1) := by decide +kernel
theorem d_P_isNone_1 : decode b_P_isNone 1 = .ok (.getfield 18, 3) := by decide +kernel
theorem d_P_isNone_4 : decode b_P_isNone 4 = .ok (.ifCond .ne 7, 3) := by decide +kernel
theorem d_P_isNone_7 : decode b_P_isNone 7 = .ok (.iconst 1, 1) := by decide +kernel
theorem d_P_isNone_8 : decode b_P_isNone 8 = .ok (.goto 4, 3) := by decide +kernel
theorem d_P_isNone_11 : decode b_P_isNone 11 = .ok (.iconst 0, 1) := by decide +kernel
theorem d_P_isNone_12 : decode b_P_isNone 12 = .ok (.ireturn, 1) := by decide +kernel
theorem d_P_clear_0 : decode b_P_clear 0 = .ok (.aload_n 0, 1) := by decide +kernel
theorem d_P_clear_1 : decode b_P_clear 1 = .ok (.iconst 0, 1) := by decide +kernel
theorem d_P_clear_2 : decode b_P_clear 2 = .ok (.putfield 18, 3) := by decide +kernel
theorem d_P_clear_5 : decode b_P_clear 5 = .ok (.aload_n 0, 1) := by decide +kernel
theorem d_P_clear_6 : decode b_P_clear 6 = .ok (.iconst 0, 1) := by decide +kernel
theorem d_P_clear_7 : decode b_P_clear 7 = .ok (.putfield 22, 3) := by decide +kernel
theorem d_P_clear_10 : decode b_P_clear 10 = .ok (.return_, 1) := by decide +kernel
theorem d_P_copy_0 : decode b_P_copy 0 = .ok (.aload_n 0, 1) := by decide +kernel
theorem d_P_copy_1 : decode b_P_copy 1 = .ok (.aload_n 1, 1) := by decide +kernel
theorem d_P_copy_2 : decode b_P_copy 2 = .ok (.getfield 18, 3) := by decide +kernel
theorem d_P_copy_5 : decode b_P_copy 5 = .ok (.putfield 18, 3) := by decide +kernel
theorem d_P_copy_8 : decode b_P_copy 8 = .ok (.aload_n 0, 1) := by decide +kernel
theorem d_P_copy_9 : decode b_P_copy 9 = .ok (.aload_n 1, 1) := by decide +kernel
theorem d_P_copy_10 : decode b_P_copy 10 = .ok (.getfield 22, 3) := by decide +kernel
theorem d_P_copy_13 : decode b_P_copy 13 = .ok (.putfield 22, 3) := by decide +kernel
theorem d_P_copy_16 : decode b_P_copy 16 = .ok (.aload_n 1, 1) := by decide +kernel
theorem d_P_copy_17 : decode b_P_copy 17 = .ok (.getfield 9, 3) := by decide +kernel
theorem d_P_copy_20 : decode b_P_copy 20 = .ok (.iconst 0, 1) := by decide +kernel
theorem d_P_copy_21 : decode b_P_copy 21 = .ok (.aload_n 0, 1) := by decide +kernel
theorem d_P_copy_22 : decode b_P_copy 22 = .ok (.getfield 9, 3) := by decide +kernel
theorem d_P_copy_25 : decode b_P_copy 25 = .ok (.iconst 0, 1) := by decide +kernel
theorem d_P_copy_26 : decode b_P_copy 26 = .ok (.bipush 7, 2) := by decide +kernel
theorem d_P_copy_28 : decode b_P_copy 28 = .ok (.invokestatic 25, 3) := by decide +kernel
theorem d_P_copy_31 : decode b_P_copy 31 = .ok (.aload_n 1, 1) := by decide +kernel
theorem d_P_copy_32 : decode b_P_copy 32 = .ok (.getfield 15, 3) := by decide +kernel
theorem d_P_copy_35 : decode b_P_copy 35 = .ok (.iconst 0, 1) := by decide +kernel
theorem d_P_copy_36 : decode b_P_copy 36 = .ok (.aload_n 0, 1) := by decide +kernel
theorem d_P_copy_37 : decode b_P_copy 37 = .ok (.getfield 15, 3) := by decide +kernel
theorem d_P_copy_40 : decode b_P_copy 40 = .ok (.iconst 0, 1) := by decide +kernel
theorem d_P_copy_41 : decode b_P_copy 41 = .ok (.bipush 7, 2) := by decide +kernel
theorem d_P_copy_43 : decode b_P_copy 43 = .ok (.invokestatic 25, 3) := by decide +kernel
theorem d_P_copy_46 : decode b_P_copy 46 = .ok (.return_, 1) := by decide +kernel
theorem d_P_take_0 : decode b_P_take 0 = .ok (.aload_n 0, 1) := by decide +kernel
theorem d_P_take_1 : decode b_P_take 1 = .ok (.iload_n 1, 1) := by decide +kernel
theorem d_P_take_2 : decode b_P_take 2 = .ok (.putfield 18, 3) := by decide +kernel
theorem d_P_take_5 : decode b_P_take 5 = .ok (.aload_n 0, 1) := by decide +kernel
theorem d_P_take_6 : decode b_P_take 6 = .ok (.iconst 0, 1) := by decide +kernel
theorem d_P_take_7 : decode b_P_take 7 = .ok (.putfield 22, 3) := by decide +kernel
theorem d_P_take_10 : decode b_P_take 10 = .ok (.aload_n 0, 1) := by decide +kernel
theorem d_P_take_11 : decode b_P_take 11 = .ok (.iload_n 1, 1) := by decide +kernel
theorem d_P_take_12 : decode b_P_take 12 = .ok (.aload_n 2, 1) := by decide +kernel
theorem d_P_take_13 : decode b_P_take 13 = .ok (.iconst 0, 1) := by decide +kernel
theorem d_P_take_14 : decode b_P_take 14 = .ok (.invokevirtual 31, 3) := by decide +kernel
theorem d_P_take_17 : decode b_P_take 17 = .ok (.return_, 1) := by decide +kernel
theorem d_P_place_0 : decode b_P_place 0 = .ok (.iload_n 3, 1) := by decide +kernel
theorem d_P_place_1 : decode b_P_place 1 = .ok (.bipush 7, 2) := by decide +kernel
theorem d_P_place_3 : decode b_P_place 3 = .ok (.if_icmp .ge 27, 3) := by decide +kernel
theorem d_P_place_6 : decode b_P_place 6 = .ok (.aload_n 0, 1) := by decide +kernel
theorem d_P_place_7 : decode b_P_place 7 = .ok (.getfield 22, 3) := by decide +kernel
theorem d_P_place_10 : decode b_P_place 10 = .ok (.bipush 7, 2) := by decide +kernel
theorem d_P_place_12 : decode b_P_place 12 = .ok (.if_icmp .ge 18, 3) := by decide +kernel
theorem d_P_place_15 : decode b_P_place 15 = .ok (.iload_n 1, 1) := by decide +kernel
theorem d_P_place_16 : decode b_P_place 16 = .ok (.sipush 256, 3) := by decide +kernel
theorem d_P_place_19 : decode b_P_place 19 = .ok (.if_icmp .ge 11, 3) := by decide +kernel
theorem d_P_place_22 : decode b_P_place 22 = .ok (.iload_n 1, 1) := by decide +kernel
theorem d_P_place_23 : decode b_P_place 23 = .ok (.invokestatic 35, 3) := by decide +kernel
theorem d_P_place_26 : decode b_P_place 26 = .ok (.iconst 2, 1) := by decide +kernel
theorem d_P_place_27 : decode b_P_place 27 = .ok (.if_icmp .ge 4, 3) := by decide +kernel
theorem d_P_place_30 : decode b_P_place 30 = .ok (.return_, 1) := by decide +kernel
theorem d_P_place_31 : decode b_P_place 31 = .ok (.aload_n 2, 1) := by decide +kernel
theorem d_P_place_32 : decode b_P_place 32 = .ok (.iload_n 1, 1) := by decide +kernel
theorem d_P_place_33 : decode b_P_place 33 = .ok (.iaload, 1) := by decide +kernel
theorem d_P_place_34 : decode b_P_place 34 = .ok (.istore 4, 2) := by decide +kernel
theorem d_P_place_36 : decode b_P_place 36 = .ok (.aload_n 0, 1) := by decide +kernel
theorem d_P_place_37 : decode b_P_place 37 = .ok (.getfield 9, 3) := by decide +kernel
theorem d_P_place_40 : decode b_P_place 40 = .ok (.aload_n 0, 1) := by decide +kernel
theorem d_P_place_41 : decode b_P_place 41 = .ok (.getfield 22, 3) := by decide +kernel
theorem d_P_place_44 : decode b_P_place 44 = .ok (.iload_n 1, 1) := by decide +kernel
theorem d_P_place_45 : decode b_P_place 45 = .ok (.iastore, 1) := by decide +kernel
theorem d_P_place_46 : decode b_P_place 46 = .ok (.aload_n 0, 1) := by decide +kernel
theorem d_P_place_47 : decode b_P_place 47 = .ok (.getfield 15, 3) := by decide +kernel
theorem d_P_place_50 : decode b_P_place 50 = .ok (.aload_n 0, 1) := by decide +kernel
theorem d_P_place_51 : decode b_P_place 51 = .ok (.getfield 22, 3) := by decide +kernel
theorem d_P_place_54 : decode b_P_place 54 = .ok (.iload 4, 2) := by decide +kernel
theorem d_P_place_56 : decode b_P_place 56 = .ok (.iastore, 1) := by decide +kernel
theorem d_P_place_57 : decode b_P_place 57 = .ok (.aload_n 0, 1) := by decide +kernel
theorem d_P_place_58 : decode b_P_place 58 = .ok (.dup, 1) := by decide +kernel
theorem d_P_place_59 : decode b_P_place 59 = .ok (.getfield 22, 3) := by decide +kernel
theorem d_P_place_62 : decode b_P_place 62 = .ok (.iconst 1, 1) := by decide +kernel
theorem d_P_place_63 : decode b_P_place 63 = .ok (.iadd, 1) := by decide +kernel
theorem d_P_place_64 : decode b_P_place 64 = .ok (.putfield 22, 3) := by decide +kernel
theorem d_P_place_67 : decode b_P_place 67 = .ok (.aload_n 0, 1) := by decide +kernel
theorem d_P_place_68 : decode b_P_place 68 = .ok (.iload 4, 2) := by decide +kernel
theorem d_P_place_70 : decode b_P_place 70 = .ok (.aload_n 2, 1) := by decide +kernel
theorem d_P_place_71 : decode b_P_place 71 = .ok (.iload_n 3, 1) := by decide +kernel
theorem d_P_place_72 : decode b_P_place 72 = .ok (.iconst 1, 1) := by decide +kernel
theorem d_P_place_73 : decode b_P_place 73 = .ok (.iadd, 1) := by decide +kernel
theorem d_P_place_74 : decode b_P_place 74 = .ok (.invokevirtual 31, 3) := by decide +kernel
theorem d_P_place_77 : decode b_P_place 77 = .ok (.aload_n 0, 1) := by decide +kernel
theorem d_P_place_78 : decode b_P_place 78 = .ok (.iload_n 1, 1) := by decide +kernel
theorem d_P_place_79 : decode b_P_place 79 = .ok (.iload 4, 2) := by decide +kernel
theorem d_P_place_81 : decode b_P_place 81 = .ok (.ixor, 1) := by decide +kernel
theorem d_P_place_82 : decode b_P_place 82 = .ok (.aload_n 2, 1) := by decide +kernel
theorem d_P_place_83 : decode b_P_place 83 = .ok (.iload_n 3, 1) := by decide +kernel
theorem d_P_place_84 : decode b_P_place 84 = .ok (.iconst 1, 1) := by decide +kernel
theorem d_P_place_85 : decode b_P_place 85 = .ok (.iadd, 1) := by decide +kernel
theorem d_P_place_86 : decode b_P_place 86 = .ok (.invokevirtual 31, 3) := by decide +kernel
theorem d_P_place_89 : decode b_P_place 89 = .ok (.return_, 1) := by decide +kernel
theorem d_P_partOf_0 : decode b_P_partOf 0 = .ok (.iconst 0, 1) := by decide +kernel
theorem d_P_partOf_1 : decode b_P_partOf 1 = .ok (.istore_n 2, 1) := by decide +kernel
theorem d_P_partOf_2 : decode b_P_partOf 2 = .ok (.iload_n 2, 1) := by decide +kernel
theorem d_P_partOf_3 : decode b_P_partOf 3 = .ok (.aload_n 0, 1) := by decide +kernel
theorem d_P_partOf_4 : decode b_P_partOf 4 = .ok (.getfield 22, 3) := by decide +kernel
theorem d_P_partOf_7 : decode b_P_partOf 7 = .ok (.if_icmp .ge 26, 3) := by decide +kernel
theorem d_P_partOf_10 : decode b_P_partOf 10 = .ok (.aload_n 0, 1) := by decide +kernel
theorem d_P_partOf_11 : decode b_P_partOf 11 = .ok (.getfield 9, 3) := by decide +kernel
theorem d_P_partOf_14 : decode b_P_partOf 14 = .ok (.iload_n 2, 1) := by decide +kernel
theorem d_P_partOf_15 : decode b_P_partOf 15 = .ok (.iaload, 1) := by decide +kernel
theorem d_P_partOf_16 : decode b_P_partOf 16 = .ok (.iload_n 1, 1) := by decide +kernel
theorem d_P_partOf_17 : decode b_P_partOf 17 = .ok (.if_icmp .ne 10, 3) := by decide +kernel
theorem d_P_partOf_20 : decode b_P_partOf 20 = .ok (.aload_n 0, 1) := by decide +kernel
theorem d_P_partOf_21 : decode b_P_partOf 21 = .ok (.getfield 15, 3) := by decide +kernel
theorem d_P_partOf_24 : decode b_P_partOf 24 = .ok (.iload_n 2, 1) := by decide +kernel
theorem d_P_partOf_25 : decode b_P_partOf 25 = .ok (.iaload, 1) := by decide +kernel
theorem d_P_partOf_26 : decode b_P_partOf 26 = .ok (.ireturn, 1) := by decide +kernel
theorem d_P_partOf_27 : decode b_P_partOf 27 = .ok (.iinc 2 1, 3) := by decide +kernel
theorem d_P_partOf_30 : decode b_P_partOf 30 = .ok (.goto (-28), 3) := by decide +kernel
theorem d_P_partOf_33 : decode b_P_partOf 33 = .ok (.iconst 0, 1) := by decide +kernel
theorem d_P_partOf_34 : decode b_P_partOf 34 = .ok (.ireturn, 1) := by decide +kernel
theorem d_P_tell_0 : decode b_P_tell 0 = .ok (.aload_n 0, 1) := by decide +kernel
theorem d_P_tell_1 : decode b_P_tell 1 = .ok (.aload_n 0, 1) := by decide +kernel
theorem d_P_tell_2 : decode b_P_tell 2 = .ok (.getfield 18, 3) := by decide +kernel
theorem d_P_tell_5 : decode b_P_tell 5 = .ok (.aload_n 1, 1) := by decide +kernel
theorem d_P_tell_6 : decode b_P_tell 6 = .ok (.iconst 0, 1) := by decide +kernel
theorem d_P_tell_7 : decode b_P_tell 7 = .ok (.iconst 0, 1) := by decide +kernel
theorem d_P_tell_8 : decode b_P_tell 8 = .ok (.invokevirtual 41, 3) := by decide +kernel
theorem d_P_tell_11 : decode b_P_tell 11 = .ok (.ireturn, 1) := by decide +kernel
theorem d_P_tellSet_0 : decode b_P_tellSet 0 = .ok (.aload_n 0, 1) := by decide +kernel
theorem d_P_tellSet_1 : decode b_P_tellSet 1 = .ok (.iload_n 1, 1) := by decide +kernel
theorem d_P_tellSet_2 : decode b_P_tellSet 2 = .ok (.invokevirtual 45, 3) := by decide +kernel
theorem d_P_tellSet_5 : decode b_P_tellSet 5 = .ok (.istore 5, 2) := by decide +kernel
theorem d_P_tellSet_7 : decode b_P_tellSet 7 = .ok (.iload 5, 2) := by decide +kernel
theorem d_P_tellSet_9 : decode b_P_tellSet 9 = .ok (.ifCond .eq 10, 3) := by decide +kernel
theorem d_P_tellSet_12 : decode b_P_tellSet 12 = .ok (.iload 4, 2) := by decide +kernel
theorem d_P_tellSet_14 : decode b_P_tellSet 14 = .ok (.bipush 7, 2) := by decide +kernel
theorem d_P_tellSet_16 : decode b_P_tellSet 16 = .ok (.if_icmp .lt 16, 3) := by decide +kernel
theorem d_P_tellSet_19 : decode b_P_tellSet 19 = .ok (.bipush 48, 2) := by decide +kernel
theorem d_P_tellSet_21 : decode b_P_tellSet 21 = .ok (.iload_n 1, 1) := by decide +kernel
theorem d_P_tellSet_22 : decode b_P_tellSet 22 = .ok (.invokestatic 48, 3) := by decide +kernel
theorem d_P_tellSet_25 : decode b_P_tellSet 25 = .ok (.iadd, 1) := by decide +kernel
theorem d_P_tellSet_26 : decode b_P_tellSet 26 = .ok (.aload_n 2, 1) := by decide +kernel
theorem d_P_tellSet_27 : decode b_P_tellSet 27 = .ok (.iload_n 3, 1) := by decide +kernel
theorem d_P_tellSet_28 : decode b_P_tellSet 28 = .ok (.invokestatic 51, 3) := by decide +kernel
theorem d_P_tellSet_31 : decode b_P_tellSet 31 = .ok (.ireturn, 1) := by decide +kernel
theorem d_P_tellSet_32 : decode b_P_tellSet 32 = .ok (.bipush 40, 2) := by decide +kernel
theorem d_P_tellSet_34 : decode b_P_tellSet 34 = .ok (.aload_n 2, 1) := by decide +kernel
theorem d_P_tellSet_35 : decode b_P_tellSet 35 = .ok (.iload_n 3, 1) := by decide +kernel
theorem d_P_tellSet_36 : decode b_P_tellSet 36 = .ok (.invokestatic 51, 3) := by decide +kernel
theorem d_P_tellSet_39 : decode b_P_tellSet 39 = .ok (.istore 6, 2) := by decide +kernel
theorem d_P_tellSet_41 : decode b_P_tellSet 41 = .ok (.aload_n 0, 1) := by decide +kernel
theorem d_P_tellSet_42 : decode b_P_tellSet 42 = .ok (.iload 5, 2) := by decide +kernel
theorem d_P_tellSet_44 : decode b_P_tellSet 44 = .ok (.aload_n 2, 1) := by decide +kernel
theorem d_P_tellSet_45 : decode b_P_tellSet 45 = .ok (.iload 6, 2) := by decide +kernel
theorem d_P_tellSet_47 : decode b_P_tellSet 47 = .ok (.iload 4, 2) := by decide +kernel
theorem d_P_tellSet_49 : decode b_P_tellSet 49 = .ok (.iconst 1, 1) := by decide +kernel
theorem d_P_tellSet_50 : decode b_P_tellSet 50 = .ok (.iadd, 1) := by decide +kernel
theorem d_P_tellSet_51 : decode b_P_tellSet 51 = .ok (.invokevirtual 41, 3) := by decide +kernel
theorem d_P_tellSet_54 : decode b_P_tellSet 54 = .ok (.istore 6, 2) := by decide +kernel
theorem d_P_tellSet_56 : decode b_P_tellSet 56 = .ok (.bipush 32, 2) := by decide +kernel
theorem d_P_tellSet_58 : decode b_P_tellSet 58 = .ok (.aload_n 2, 1) := by decide +kernel
theorem d_P_tellSet_59 : decode b_P_tellSet 59 = .ok (.iload 6, 2) := by decide +kernel
theorem d_P_tellSet_61 : decode b_P_tellSet 61 = .ok (.invokestatic 51, 3) := by decide +kernel
theorem d_P_tellSet_64 : decode b_P_tellSet 64 = .ok (.istore 6, 2) := by decide +kernel
theorem d_P_tellSet_66 : decode b_P_tellSet 66 = .ok (.aload_n 0, 1) := by decide +kernel
theorem d_P_tellSet_67 : decode b_P_tellSet 67 = .ok (.iload_n 1, 1) := by decide +kernel
theorem d_P_tellSet_68 : decode b_P_tellSet 68 = .ok (.iload 5, 2) := by decide +kernel
theorem d_P_tellSet_70 : decode b_P_tellSet 70 = .ok (.ixor, 1) := by decide +kernel
theorem d_P_tellSet_71 : decode b_P_tellSet 71 = .ok (.aload_n 2, 1) := by decide +kernel
theorem d_P_tellSet_72 : decode b_P_tellSet 72 = .ok (.iload 6, 2) := by decide +kernel
theorem d_P_tellSet_74 : decode b_P_tellSet 74 = .ok (.iload 4, 2) := by decide +kernel
theorem d_P_tellSet_76 : decode b_P_tellSet 76 = .ok (.iconst 1, 1) := by decide +kernel
theorem d_P_tellSet_77 : decode b_P_tellSet 77 = .ok (.iadd, 1) := by decide +kernel
theorem d_P_tellSet_78 : decode b_P_tellSet 78 = .ok (.invokevirtual 41, 3) := by decide +kernel
theorem d_P_tellSet_81 : decode b_P_tellSet 81 = .ok (.istore 6, 2) := by decide +kernel
theorem d_P_tellSet_83 : decode b_P_tellSet 83 = .ok (.bipush 41, 2) := by decide +kernel
theorem d_P_tellSet_85 : decode b_P_tellSet 85 = .ok (.aload_n 2, 1) := by decide +kernel
theorem d_P_tellSet_86 : decode b_P_tellSet 86 = .ok (.iload 6, 2) := by decide +kernel
theorem d_P_tellSet_88 : decode b_P_tellSet 88 = .ok (.invokestatic 51, 3) := by decide +kernel
theorem d_P_tellSet_91 : decode b_P_tellSet 91 = .ok (.ireturn, 1) := by decide +kernel
theorem d_P_put_0 : decode b_P_put 0 = .ok (.iload_n 2, 1) := by decide +kernel
theorem d_P_put_1 : decode b_P_put 1 = .ok (.ifCond .lt 9, 3) := by decide +kernel
theorem d_P_put_4 : decode b_P_put 4 = .ok (.iload_n 2, 1) := by decide +kernel
theorem d_P_put_5 : decode b_P_put 5 = .ok (.aload_n 1, 1) := by decide +kernel
theorem d_P_put_6 : decode b_P_put 6 = .ok (.arraylength, 1) := by decide +kernel
theorem d_P_put_7 : decode b_P_put 7 = .ok (.if_icmp .lt 5, 3) := by decide +kernel
theorem d_P_put_10 : decode b_P_put 10 = .ok (.iload_n 2, 1) := by decide +kernel
theorem d_P_put_11 : decode b_P_put 11 = .ok (.ireturn, 1) := by decide +kernel
theorem d_P_put_12 : decode b_P_put 12 = .ok (.aload_n 1, 1) := by decide +kernel
theorem d_P_put_13 : decode b_P_put 13 = .ok (.iload_n 2, 1) := by decide +kernel
theorem d_P_put_14 : decode b_P_put 14 = .ok (.iload_n 0, 1) := by decide +kernel
theorem d_P_put_15 : decode b_P_put 15 = .ok (.iastore, 1) := by decide +kernel
theorem d_P_put_16 : decode b_P_put 16 = .ok (.iload_n 2, 1) := by decide +kernel
theorem d_P_put_17 : decode b_P_put 17 = .ok (.iconst 1, 1) := by decide +kernel
theorem d_P_put_18 : decode b_P_put 18 = .ok (.iadd, 1) := by decide +kernel
theorem d_P_put_19 : decode b_P_put 19 = .ok (.ireturn, 1) := by decide +kernel
theorem d_L_init_0 : decode b_L_init 0 = .ok (.aload_n 0, 1) := by decide +kernel
theorem d_L_init_1 : decode b_L_init 1 = .ok (.invokespecial 3, 3) := by decide +kernel
theorem d_L_init_4 : decode b_L_init 4 = .ok (.aload_n 0, 1) := by decide +kernel
theorem d_L_init_5 : decode b_L_init 5 = .ok (.sipush 256, 3) := by decide +kernel
theorem d_L_init_8 : decode b_L_init 8 = .ok (.newarray .int, 2) := by decide +kernel
theorem d_L_init_10 : decode b_L_init 10 = .ok (.putfield 9, 3) := by decide +kernel
theorem d_L_init_13 : decode b_L_init 13 = .ok (.aload_n 0, 1) := by decide +kernel
theorem d_L_init_14 : decode b_L_init 14 = .ok (.sipush 501, 3) := by decide +kernel
theorem d_L_init_17 : decode b_L_init 17 = .ok (.newarray .int, 2) := by decide +kernel
theorem d_L_init_19 : decode b_L_init 19 = .ok (.putfield 15, 3) := by decide +kernel
theorem d_L_init_22 : decode b_L_init 22 = .ok (.aload_n 0, 1) := by decide +kernel
theorem d_L_init_23 : decode b_L_init 23 = .ok (.bipush 8, 2) := by decide +kernel
theorem d_L_init_25 : decode b_L_init 25 = .ok (.newarray .int, 2) := by decide +kernel
theorem d_L_init_27 : decode b_L_init 27 = .ok (.putfield 18, 3) := by decide +kernel
theorem d_L_init_30 : decode b_L_init 30 = .ok (.return_, 1) := by decide +kernel
theorem d_L_whole_0 : decode b_L_whole 0 = .ok (.aload_n 0, 1) := by decide +kernel
theorem d_L_whole_1 : decode b_L_whole 1 = .ok (.getfield 18, 3) := by decide +kernel
theorem d_L_whole_4 : decode b_L_whole 4 = .ok (.iconst 0, 1) := by decide +kernel
theorem d_L_whole_5 : decode b_L_whole 5 = .ok (.iaload, 1) := by decide +kernel
theorem d_L_whole_6 : decode b_L_whole 6 = .ok (.ireturn, 1) := by decide +kernel
theorem d_L_begin_0 : decode b_L_begin 0 = .ok (.aload_n 0, 1) := by decide +kernel
theorem d_L_begin_1 : decode b_L_begin 1 = .ok (.iconst 0, 1) := by decide +kernel
theorem d_L_begin_2 : decode b_L_begin 2 = .ok (.putfield 21, 3) := by decide +kernel
theorem d_L_begin_5 : decode b_L_begin 5 = .ok (.aload_n 0, 1) := by decide +kernel
theorem d_L_begin_6 : decode b_L_begin 6 = .ok (.getfield 15, 3) := by decide +kernel
theorem d_L_begin_9 : decode b_L_begin 9 = .ok (.iconst 0, 1) := by decide +kernel
theorem d_L_begin_10 : decode b_L_begin 10 = .ok (.iconst 0, 1) := by decide +kernel
theorem d_L_begin_11 : decode b_L_begin 11 = .ok (.iastore, 1) := by decide +kernel
theorem d_L_begin_12 : decode b_L_begin 12 = .ok (.aload_n 0, 1) := by decide +kernel
theorem d_L_begin_13 : decode b_L_begin 13 = .ok (.iconst 0, 1) := by decide +kernel
theorem d_L_begin_14 : decode b_L_begin 14 = .ok (.putfield 25, 3) := by decide +kernel
theorem d_L_begin_17 : decode b_L_begin 17 = .ok (.aload_n 0, 1) := by decide +kernel
theorem d_L_begin_18 : decode b_L_begin 18 = .ok (.iconst 0, 1) := by decide +kernel
theorem d_L_begin_19 : decode b_L_begin 19 = .ok (.putfield 28, 3) := by decide +kernel
theorem d_L_begin_22 : decode b_L_begin 22 = .ok (.return_, 1) := by decide +kernel
theorem d_L_canStand_0 : decode b_L_canStand 0 = .ok (.aload_n 0, 1) := by decide +kernel
theorem d_L_canStand_1 : decode b_L_canStand 1 = .ok (.getfield 21, 3) := by decide +kernel
theorem d_L_canStand_4 : decode b_L_canStand 4 = .ok (.ifCond .ne 7, 3) := by decide +kernel
theorem d_L_canStand_7 : decode b_L_canStand 7 = .ok (.iconst 1, 1) := by decide +kernel
theorem d_L_canStand_8 : decode b_L_canStand 8 = .ok (.goto 4, 3) := by decide +kernel
theorem d_L_canStand_11 : decode b_L_canStand 11 = .ok (.iconst 2, 1) := by decide +kernel
theorem d_L_canStand_12 : decode b_L_canStand 12 = .ok (.istore_n 2, 1) := by decide +kernel
theorem d_L_canStand_13 : decode b_L_canStand 13 = .ok (.aload_n 0, 1) := by decide +kernel
theorem d_L_canStand_14 : decode b_L_canStand 14 = .ok (.getfield 15, 3) := by decide +kernel
theorem d_L_canStand_17 : decode b_L_canStand 17 = .ok (.aload_n 0, 1) := by decide +kernel
theorem d_L_canStand_18 : decode b_L_canStand 18 = .ok (.getfield 21, 3) := by decide +kernel
theorem d_L_canStand_21 : decode b_L_canStand 21 = .ok (.iaload, 1) := by decide +kernel
theorem d_L_canStand_22 : decode b_L_canStand 22 = .ok (.iload_n 2, 1) := by decide +kernel
theorem d_L_canStand_23 : decode b_L_canStand 23 = .ok (.if_icmp .ne 7, 3) := by decide +kernel
theorem d_L_canStand_26 : decode b_L_canStand 26 = .ok (.iconst 1, 1) := by decide +kernel
theorem d_L_canStand_27 : decode b_L_canStand 27 = .ok (.goto 4, 3) := by decide +kernel
theorem d_L_canStand_30 : decode b_L_canStand 30 = .ok (.iconst 0, 1) := by decide +kernel
theorem d_L_canStand_31 : decode b_L_canStand 31 = .ok (.istore_n 3, 1) := by decide +kernel
theorem d_L_canStand_32 : decode b_L_canStand 32 = .ok (.iload_n 1, 1) := by decide +kernel
theorem d_L_canStand_33 : decode b_L_canStand 33 = .ok (.tableswitch 93 0 5 #[76, 39, 93, 93, 39, 59], 39) := by decide +kernel
theorem d_L_canStand_72 : decode b_L_canStand 72 = .ok (.iload_n 3, 1) := by decide +kernel
theorem d_L_canStand_73 : decode b_L_canStand 73 = .ok (.ifCond .ne 17, 3) := by decide +kernel
theorem d_L_canStand_76 : decode b_L_canStand 76 = .ok (.aload_n 0, 1) := by decide +kernel
theorem d_L_canStand_77 : decode b_L_canStand 77 = .ok (.getfield 21, 3) := by decide +kernel
theorem d_L_canStand_80 : decode b_L_canStand 80 = .ok (.sipush 500, 3) := by decide +kernel
theorem d_L_canStand_83 : decode b_L_canStand 83 = .ok (.if_icmp .ge 7, 3) := by decide +kernel
theorem d_L_canStand_86 : decode b_L_canStand 86 = .ok (.iconst 1, 1) := by decide +kernel
theorem d_L_canStand_87 : decode b_L_canStand 87 = .ok (.goto 4, 3) := by decide +kernel
theorem d_L_canStand_90 : decode b_L_canStand 90 = .ok (.iconst 0, 1) := by decide +kernel
theorem d_L_canStand_91 : decode b_L_canStand 91 = .ok (.ireturn, 1) := by decide +kernel
theorem d_L_canStand_92 : decode b_L_canStand 92 = .ok (.iload_n 3, 1) := by decide +kernel
theorem d_L_canStand_93 : decode b_L_canStand 93 = .ok (.ifCond .eq 14, 3) := by decide +kernel
theorem d_L_canStand_96 : decode b_L_canStand 96 = .ok (.aload_n 0, 1) := by decide +kernel
theorem d_L_canStand_97 : decode b_L_canStand 97 = .ok (.getfield 21, 3) := by decide +kernel
theorem d_L_canStand_100 : decode b_L_canStand 100 = .ok (.ifCond .le 7, 3) := by decide +kernel
theorem d_L_canStand_103 : decode b_L_canStand 103 = .ok (.iconst 1, 1) := by decide +kernel
theorem d_L_canStand_104 : decode b_L_canStand 104 = .ok (.goto 4, 3) := by decide +kernel
theorem d_L_canStand_107 : decode b_L_canStand 107 = .ok (.iconst 0, 1) := by decide +kernel
theorem d_L_canStand_108 : decode b_L_canStand 108 = .ok (.ireturn, 1) := by decide +kernel
theorem d_L_canStand_109 : decode b_L_canStand 109 = .ok (.iload_n 3, 1) := by decide +kernel
theorem d_L_canStand_110 : decode b_L_canStand 110 = .ok (.ifCond .eq 14, 3) := by decide +kernel
theorem d_L_canStand_113 : decode b_L_canStand 113 = .ok (.aload_n 0, 1) := by decide +kernel
theorem d_L_canStand_114 : decode b_L_canStand 114 = .ok (.getfield 21, 3) := by decide +kernel
theorem d_L_canStand_117 : decode b_L_canStand 117 = .ok (.ifCond .ne 7, 3) := by decide +kernel
theorem d_L_canStand_120 : decode b_L_canStand 120 = .ok (.iconst 1, 1) := by decide +kernel
theorem d_L_canStand_121 : decode b_L_canStand 121 = .ok (.goto 4, 3) := by decide +kernel
theorem d_L_canStand_124 : decode b_L_canStand 124 = .ok (.iconst 0, 1) := by decide +kernel
theorem d_L_canStand_125 : decode b_L_canStand 125 = .ok (.ireturn, 1) := by decide +kernel
theorem d_L_canStand_126 : decode b_L_canStand 126 = .ok (.iconst 0, 1) := by decide +kernel
theorem d_L_canStand_127 : decode b_L_canStand 127 = .ok (.ireturn, 1) := by decide +kernel
theorem d_L_pass_0 : decode b_L_pass 0 = .ok (.iload_n 1, 1) := by decide +kernel
theorem d_L_pass_1 : decode b_L_pass 1 = .ok (.iconst 4, 1) := by decide +kernel
theorem d_L_pass_2 : decode b_L_pass 2 = .ok (.if_icmp .ne 26, 3) := by decide +kernel
theorem d_L_pass_5 : decode b_L_pass 5 = .ok (.aload_n 0, 1) := by decide +kernel
theorem d_L_pass_6 : decode b_L_pass 6 = .ok (.dup, 1) := by decide +kernel
theorem d_L_pass_7 : decode b_L_pass 7 = .ok (.getfield 21, 3) := by decide +kernel
theorem d_L_pass_10 : decode b_L_pass 10 = .ok (.iconst 1, 1) := by decide +kernel
theorem d_L_pass_11 : decode b_L_pass 11 = .ok (.iadd, 1) := by decide +kernel
theorem d_L_pass_12 : decode b_L_pass 12 = .ok (.putfield 21, 3) := by decide +kernel
theorem d_L_pass_15 : decode b_L_pass 15 = .ok (.aload_n 0, 1) := by decide +kernel
theorem d_L_pass_16 : decode b_L_pass 16 = .ok (.getfield 15, 3) := by decide +kernel
theorem d_L_pass_19 : decode b_L_pass 19 = .ok (.aload_n 0, 1) := by decide +kernel
theorem d_L_pass_20 : decode b_L_pass 20 = .ok (.getfield 21, 3) := by decide +kernel
theorem d_L_pass_23 : decode b_L_pass 23 = .ok (.iconst 0, 1) := by decide +kernel
theorem d_L_pass_24 : decode b_L_pass 24 = .ok (.iastore, 1) := by decide +kernel
theorem d_L_pass_25 : decode b_L_pass 25 = .ok (.goto 52, 3) := by decide +kernel
theorem d_L_pass_28 : decode b_L_pass 28 = .ok (.iload_n 1, 1) := by decide +kernel
theorem d_L_pass_29 : decode b_L_pass 29 = .ok (.iconst 5, 1) := by decide +kernel
theorem d_L_pass_30 : decode b_L_pass 30 = .ok (.if_icmp .ne 29, 3) := by decide +kernel
theorem d_L_pass_33 : decode b_L_pass 33 = .ok (.aload_n 0, 1) := by decide +kernel
theorem d_L_pass_34 : decode b_L_pass 34 = .ok (.dup, 1) := by decide +kernel
theorem d_L_pass_35 : decode b_L_pass 35 = .ok (.getfield 21, 3) := by decide +kernel
theorem d_L_pass_38 : decode b_L_pass 38 = .ok (.iconst 1, 1) := by decide +kernel
theorem d_L_pass_39 : decode b_L_pass 39 = .ok (.isub, 1) := by decide +kernel
theorem d_L_pass_40 : decode b_L_pass 40 = .ok (.putfield 21, 3) := by decide +kernel
theorem d_L_pass_43 : decode b_L_pass 43 = .ok (.aload_n 0, 1) := by decide +kernel
theorem d_L_pass_44 : decode b_L_pass 44 = .ok (.getfield 15, 3) := by decide +kernel
theorem d_L_pass_47 : decode b_L_pass 47 = .ok (.aload_n 0, 1) := by decide +kernel
theorem d_L_pass_48 : decode b_L_pass 48 = .ok (.getfield 21, 3) := by decide +kernel
theorem d_L_pass_51 : decode b_L_pass 51 = .ok (.dup2, 1) := by decide +kernel
theorem d_L_pass_52 : decode b_L_pass 52 = .ok (.iaload, 1) := by decide +kernel
theorem d_L_pass_53 : decode b_L_pass 53 = .ok (.iconst 1, 1) := by decide +kernel
theorem d_L_pass_54 : decode b_L_pass 54 = .ok (.iadd, 1) := by decide +kernel
theorem d_L_pass_55 : decode b_L_pass 55 = .ok (.iastore, 1) := by decide +kernel
theorem d_L_pass_56 : decode b_L_pass 56 = .ok (.goto 21, 3) := by decide +kernel
theorem d_L_pass_59 : decode b_L_pass 59 = .ok (.iload_n 1, 1) := by decide +kernel
theorem d_L_pass_60 : decode b_L_pass 60 = .ok (.iconst 1, 1) := by decide +kernel
theorem d_L_pass_61 : decode b_L_pass 61 = .ok (.if_icmp .ne 16, 3) := by decide +kernel
theorem d_L_pass_64 : decode b_L_pass 64 = .ok (.aload_n 0, 1) := by decide +kernel
theorem d_L_pass_65 : decode b_L_pass 65 = .ok (.getfield 15, 3) := by decide +kernel
theorem d_L_pass_68 : decode b_L_pass 68 = .ok (.aload_n 0, 1) := by decide +kernel
theorem d_L_pass_69 : decode b_L_pass 69 = .ok (.getfield 21, 3) := by decide +kernel
theorem d_L_pass_72 : decode b_L_pass 72 = .ok (.dup2, 1) := by decide +kernel
theorem d_L_pass_73 : decode b_L_pass 73 = .ok (.iaload, 1) := by decide +kernel
theorem d_L_pass_74 : decode b_L_pass 74 = .ok (.iconst 1, 1) := by decide +kernel
theorem d_L_pass_75 : decode b_L_pass 75 = .ok (.iadd, 1) := by decide +kernel
theorem d_L_pass_76 : decode b_L_pass 76 = .ok (.iastore, 1) := by decide +kernel
theorem d_L_pass_77 : decode b_L_pass 77 = .ok (.return_, 1) := by decide +kernel
theorem d_L_absorb_0 : decode b_L_absorb 0 = .ok (.aload_n 1, 1) := by decide +kernel
theorem d_L_absorb_1 : decode b_L_absorb 1 = .ok (.getfield 31, 3) := by decide +kernel
theorem d_L_absorb_4 : decode b_L_absorb 4 = .ok (.iconst 1, 1) := by decide +kernel
theorem d_L_absorb_5 : decode b_L_absorb 5 = .ok (.if_icmp .ne 12, 3) := by decide +kernel
theorem d_L_absorb_8 : decode b_L_absorb 8 = .ok (.aload_n 0, 1) := by decide +kernel
theorem d_L_absorb_9 : decode b_L_absorb 9 = .ok (.aload_n 1, 1) := by decide +kernel
theorem d_L_absorb_10 : decode b_L_absorb 10 = .ok (.getfield 36, 3) := by decide +kernel
theorem d_L_absorb_13 : decode b_L_absorb 13 = .ok (.invokevirtual 39, 3) := by decide +kernel
theorem d_L_absorb_16 : decode b_L_absorb 16 = .ok (.ireturn, 1) := by decide +kernel
theorem d_L_absorb_17 : decode b_L_absorb 17 = .ok (.aload_n 1, 1) := by decide +kernel
theorem d_L_absorb_18 : decode b_L_absorb 18 = .ok (.getfield 31, 3) := by decide +kernel
theorem d_L_absorb_21 : decode b_L_absorb 21 = .ok (.iconst 5, 1) := by decide +kernel
theorem d_L_absorb_22 : decode b_L_absorb 22 = .ok (.if_icmp .ne 7, 3) := by decide +kernel
theorem d_L_absorb_25 : decode b_L_absorb 25 = .ok (.aload_n 0, 1) := by decide +kernel
theorem d_L_absorb_26 : decode b_L_absorb 26 = .ok (.invokevirtual 43, 3) := by decide +kernel
theorem d_L_absorb_29 : decode b_L_absorb 29 = .ok (.iconst 0, 1) := by decide +kernel
theorem d_L_absorb_30 : decode b_L_absorb 30 = .ok (.ireturn, 1) := by decide +kernel
theorem d_L_absorbRelation_0 : decode b_L_absorbRelation 0 = .ok (.iload_n 1, 1) := by decide +kernel
theorem d_L_absorbRelation_1 : decode b_L_absorbRelation 1 = .ok (.ifCond .lt 11, 3) := by decide +kernel
theorem d_L_absorbRelation_4 : decode b_L_absorbRelation 4 = .ok (.iload_n 1, 1) := by decide +kernel
theorem d_L_absorbRelation_5 : decode b_L_absorbRelation 5 = .ok (.aload_n 0, 1) := by decide +kernel
theorem d_L_absorbRelation_6 : decode b_L_absorbRelation 6 = .ok (.getfield 46, 3) := by decide +kernel
theorem d_L_absorbRelation_9 : decode b_L_absorbRelation 9 = .ok (.if_icmp .lt 5, 3) := by decide +kernel
theorem d_L_absorbRelation_12 : decode b_L_absorbRelation 12 = .ok (.iconst 2, 1) := by decide +kernel
theorem d_L_absorbRelation_13 : decode b_L_absorbRelation 13 = .ok (.ireturn, 1) := by decide +kernel
theorem d_L_absorbRelation_14 : decode b_L_absorbRelation 14 = .ok (.iconst 1, 1) := by decide +kernel
theorem d_L_absorbRelation_15 : decode b_L_absorbRelation 15 = .ok (.iload_n 1, 1) := by decide +kernel
theorem d_L_absorbRelation_16 : decode b_L_absorbRelation 16 = .ok (.ishl, 1) := by decide +kernel
theorem d_L_absorbRelation_17 : decode b_L_absorbRelation 17 = .ok (.istore_n 2, 1) := by decide +kernel
theorem d_L_absorbRelation_18 : decode b_L_absorbRelation 18 = .ok (.aload_n 0, 1) := by decide +kernel
theorem d_L_absorbRelation_19 : decode b_L_absorbRelation 19 = .ok (.getfield 28, 3) := by decide +kernel
theorem d_L_absorbRelation_22 : decode b_L_absorbRelation 22 = .ok (.iload_n 2, 1) := by decide +kernel
theorem d_L_absorbRelation_23 : decode b_L_absorbRelation 23 = .ok (.iand, 1) := by decide +kernel
theorem d_L_absorbRelation_24 : decode b_L_absorbRelation 24 = .ok (.ifCond .ne 12, 3) := by decide +kernel
theorem d_L_absorbRelation_27 : decode b_L_absorbRelation 27 = .ok (.aload_n 0, 1) := by decide +kernel
theorem d_L_absorbRelation_28 : decode b_L_absorbRelation 28 = .ok (.getfield 25, 3) := by decide +kernel
theorem d_L_absorbRelation_31 : decode b_L_absorbRelation 31 = .ok (.bipush 8, 2) := by decide +kernel
theorem d_L_absorbRelation_33 : decode b_L_absorbRelation 33 = .ok (.if_icmp .lt 5, 3) := by decide +kernel
theorem d_L_absorbRelation_36 : decode b_L_absorbRelation 36 = .ok (.iconst 3, 1) := by decide +kernel
theorem d_L_absorbRelation_37 : decode b_L_absorbRelation 37 = .ok (.ireturn, 1) := by decide +kernel
theorem d_L_absorbRelation_38 : decode b_L_absorbRelation 38 = .ok (.aload_n 0, 1) := by decide +kernel
theorem d_L_absorbRelation_39 : decode b_L_absorbRelation 39 = .ok (.dup, 1) := by decide +kernel
theorem d_L_absorbRelation_40 : decode b_L_absorbRelation 40 = .ok (.getfield 28, 3) := by decide +kernel
theorem d_L_absorbRelation_43 : decode b_L_absorbRelation 43 = .ok (.iload_n 2, 1) := by decide +kernel
theorem d_L_absorbRelation_44 : decode b_L_absorbRelation 44 = .ok (.ior, 1) := by decide +kernel
theorem d_L_absorbRelation_45 : decode b_L_absorbRelation 45 = .ok (.putfield 28, 3) := by decide +kernel
theorem d_L_absorbRelation_48 : decode b_L_absorbRelation 48 = .ok (.aload_n 0, 1) := by decide +kernel
theorem d_L_absorbRelation_49 : decode b_L_absorbRelation 49 = .ok (.getfield 18, 3) := by decide +kernel
theorem d_L_absorbRelation_52 : decode b_L_absorbRelation 52 = .ok (.aload_n 0, 1) := by decide +kernel
theorem d_L_absorbRelation_53 : decode b_L_absorbRelation 53 = .ok (.getfield 25, 3) := by decide +kernel
theorem d_L_absorbRelation_56 : decode b_L_absorbRelation 56 = .ok (.iload_n 2, 1) := by decide +kernel
theorem d_L_absorbRelation_57 : decode b_L_absorbRelation 57 = .ok (.iastore, 1) := by decide +kernel
theorem d_L_absorbRelation_58 : decode b_L_absorbRelation 58 = .ok (.aload_n 0, 1) := by decide +kernel
theorem d_L_absorbRelation_59 : decode b_L_absorbRelation 59 = .ok (.dup, 1) := by decide +kernel
theorem d_L_absorbRelation_60 : decode b_L_absorbRelation 60 = .ok (.getfield 25, 3) := by decide +kernel
theorem d_L_absorbRelation_63 : decode b_L_absorbRelation 63 = .ok (.iconst 1, 1) := by decide +kernel
theorem d_L_absorbRelation_64 : decode b_L_absorbRelation 64 = .ok (.iadd, 1) := by decide +kernel
theorem d_L_absorbRelation_65 : decode b_L_absorbRelation 65 = .ok (.putfield 25, 3) := by decide +kernel
theorem d_L_absorbRelation_68 : decode b_L_absorbRelation 68 = .ok (.iconst 0, 1) := by decide +kernel
theorem d_L_absorbRelation_69 : decode b_L_absorbRelation 69 = .ok (.ireturn, 1) := by decide +kernel
theorem d_L_joinLastTwo_0 : decode b_L_joinLastTwo 0 = .ok (.aload_n 0, 1) := by decide +kernel
theorem d_L_joinLastTwo_1 : decode b_L_joinLastTwo 1 = .ok (.getfield 25, 3) := by decide +kernel
theorem d_L_joinLastTwo_4 : decode b_L_joinLastTwo 4 = .ok (.iconst 2, 1) := by decide +kernel
theorem d_L_joinLastTwo_5 : decode b_L_joinLastTwo 5 = .ok (.if_icmp .ge 4, 3) := by decide +kernel
theorem d_L_joinLastTwo_8 : decode b_L_joinLastTwo 8 = .ok (.return_, 1) := by decide +kernel
theorem d_L_joinLastTwo_9 : decode b_L_joinLastTwo 9 = .ok (.aload_n 0, 1) := by decide +kernel
theorem d_L_joinLastTwo_10 : decode b_L_joinLastTwo 10 = .ok (.getfield 18, 3) := by decide +kernel
theorem d_L_joinLastTwo_13 : decode b_L_joinLastTwo 13 = .ok (.aload_n 0, 1) := by decide +kernel
theorem d_L_joinLastTwo_14 : decode b_L_joinLastTwo 14 = .ok (.getfield 25, 3) := by decide +kernel
theorem d_L_joinLastTwo_17 : decode b_L_joinLastTwo 17 = .ok (.iconst 1, 1) := by decide +kernel
theorem d_L_joinLastTwo_18 : decode b_L_joinLastTwo 18 = .ok (.isub, 1) := by decide +kernel
theorem d_L_joinLastTwo_19 : decode b_L_joinLastTwo 19 = .ok (.iaload, 1) := by decide +kernel
theorem d_L_joinLastTwo_20 : decode b_L_joinLastTwo 20 = .ok (.istore_n 1, 1) := by decide +kernel
theorem d_L_joinLastTwo_21 : decode b_L_joinLastTwo 21 = .ok (.aload_n 0, 1) := by decide +kernel
theorem d_L_joinLastTwo_22 : decode b_L_joinLastTwo 22 = .ok (.getfield 18, 3) := by decide +kernel
theorem d_L_joinLastTwo_25 : decode b_L_joinLastTwo 25 = .ok (.aload_n 0, 1) := by decide +kernel
theorem d_L_joinLastTwo_26 : decode b_L_joinLastTwo 26 = .ok (.getfield 25, 3) := by decide +kernel
theorem d_L_joinLastTwo_29 : decode b_L_joinLastTwo 29 = .ok (.iconst 2, 1) := by decide +kernel
theorem d_L_joinLastTwo_30 : decode b_L_joinLastTwo 30 = .ok (.isub, 1) := by decide +kernel
theorem d_L_joinLastTwo_31 : decode b_L_joinLastTwo 31 = .ok (.iaload, 1) := by decide +kernel
theorem d_L_joinLastTwo_32 : decode b_L_joinLastTwo 32 = .ok (.istore_n 2, 1) := by decide +kernel
theorem d_L_joinLastTwo_33 : decode b_L_joinLastTwo 33 = .ok (.aload_n 0, 1) := by decide +kernel
theorem d_L_joinLastTwo_34 : decode b_L_joinLastTwo 34 = .ok (.getfield 9, 3) := by decide +kernel
theorem d_L_joinLastTwo_37 : decode b_L_joinLastTwo 37 = .ok (.iload_n 2, 1) := by decide +kernel
theorem d_L_joinLastTwo_38 : decode b_L_joinLastTwo 38 = .ok (.iload_n 1, 1) := by decide +kernel
theorem d_L_joinLastTwo_39 : decode b_L_joinLastTwo 39 = .ok (.ior, 1) := by decide +kernel
theorem d_L_joinLastTwo_40 : decode b_L_joinLastTwo 40 = .ok (.iload_n 2, 1) := by decide +kernel
theorem d_L_joinLastTwo_41 : decode b_L_joinLastTwo 41 = .ok (.iload_n 1, 1) := by decide +kernel
theorem d_L_joinLastTwo_42 : decode b_L_joinLastTwo 42 = .ok (.invokestatic 49, 3) := by decide +kernel
theorem d_L_joinLastTwo_45 : decode b_L_joinLastTwo 45 = .ok (.iastore, 1) := by decide +kernel
theorem d_L_joinLastTwo_46 : decode b_L_joinLastTwo 46 = .ok (.aload_n 0, 1) := by decide +kernel
theorem d_L_joinLastTwo_47 : decode b_L_joinLastTwo 47 = .ok (.getfield 18, 3) := by decide +kernel
theorem d_L_joinLastTwo_50 : decode b_L_joinLastTwo 50 = .ok (.aload_n 0, 1) := by decide +kernel
theorem d_L_joinLastTwo_51 : decode b_L_joinLastTwo 51 = .ok (.getfield 25, 3) := by decide +kernel
theorem d_L_joinLastTwo_54 : decode b_L_joinLastTwo 54 = .ok (.iconst 2, 1) := by decide +kernel
theorem d_L_joinLastTwo_55 : decode b_L_joinLastTwo 55 = .ok (.isub, 1) := by decide +kernel
theorem d_L_joinLastTwo_56 : decode b_L_joinLastTwo 56 = .ok (.iload_n 2, 1) := by decide +kernel
theorem d_L_joinLastTwo_57 : decode b_L_joinLastTwo 57 = .ok (.iload_n 1, 1) := by decide +kernel
theorem d_L_joinLastTwo_58 : decode b_L_joinLastTwo 58 = .ok (.ior, 1) := by decide +kernel
theorem d_L_joinLastTwo_59 : decode b_L_joinLastTwo 59 = .ok (.iastore, 1) := by decide +kernel
theorem d_L_joinLastTwo_60 : decode b_L_joinLastTwo 60 = .ok (.aload_n 0, 1) := by decide +kernel
theorem d_L_joinLastTwo_61 : decode b_L_joinLastTwo 61 = .ok (.dup, 1) := by decide +kernel
theorem d_L_joinLastTwo_62 : decode b_L_joinLastTwo 62 = .ok (.getfield 25, 3) := by decide +kernel
theorem d_L_joinLastTwo_65 : decode b_L_joinLastTwo 65 = .ok (.iconst 1, 1) := by decide +kernel
theorem d_L_joinLastTwo_66 : decode b_L_joinLastTwo 66 = .ok (.isub, 1) := by decide +kernel
theorem d_L_joinLastTwo_67 : decode b_L_joinLastTwo 67 = .ok (.putfield 25, 3) := by decide +kernel
theorem d_L_joinLastTwo_70 : decode b_L_joinLastTwo 70 = .ok (.return_, 1) := by decide +kernel
theorem d_Q_init_0 : decode b_Q_init 0 = .ok (.aload_n 0, 1) := by decide +kernel
theorem d_Q_init_1 : decode b_Q_init 1 = .ok (.invokespecial 3, 3) := by decide +kernel
theorem d_Q_init_4 : decode b_Q_init 4 = .ok (.aload_n 0, 1) := by decide +kernel
theorem d_Q_init_5 : decode b_Q_init 5 = .ok (.new 9, 3) := by decide +kernel
theorem d_Q_init_8 : decode b_Q_init 8 = .ok (.dup, 1) := by decide +kernel
theorem d_Q_init_9 : decode b_Q_init 9 = .ok (.invokespecial 11, 3) := by decide +kernel
theorem d_Q_init_12 : decode b_Q_init 12 = .ok (.putfield 12, 3) := by decide +kernel
theorem d_Q_init_15 : decode b_Q_init 15 = .ok (.return_, 1) := by decide +kernel
theorem d_Q_begin_0 : decode b_Q_begin 0 = .ok (.aload_n 0, 1) := by decide +kernel
theorem d_Q_begin_1 : decode b_Q_begin 1 = .ok (.getfield 12, 3) := by decide +kernel
theorem d_Q_begin_4 : decode b_Q_begin 4 = .ok (.invokevirtual 18, 3) := by decide +kernel
theorem d_Q_begin_7 : decode b_Q_begin 7 = .ok (.aload_n 0, 1) := by decide +kernel
theorem d_Q_begin_8 : decode b_Q_begin 8 = .ok (.iconst 0, 1) := by decide +kernel
theorem d_Q_begin_9 : decode b_Q_begin 9 = .ok (.putfield 21, 3) := by decide +kernel
theorem d_Q_begin_12 : decode b_Q_begin 12 = .ok (.aload_n 0, 1) := by decide +kernel
theorem d_Q_begin_13 : decode b_Q_begin 13 = .ok (.iconst 0, 1) := by decide +kernel
theorem d_Q_begin_14 : decode b_Q_begin 14 = .ok (.putfield 25, 3) := by decide +kernel
theorem d_Q_begin_17 : decode b_Q_begin 17 = .ok (.aload_n 0, 1) := by decide +kernel
theorem d_Q_begin_18 : decode b_Q_begin 18 = .ok (.iconst 0, 1) := by decide +kernel
theorem d_Q_begin_19 : decode b_Q_begin 19 = .ok (.putfield 28, 3) := by decide +kernel
theorem d_Q_begin_22 : decode b_Q_begin 22 = .ok (.return_, 1) := by decide +kernel
theorem d_Q_canStand_0 : decode b_Q_canStand 0 = .ok (.aload_n 0, 1) := by decide +kernel
theorem d_Q_canStand_1 : decode b_Q_canStand 1 = .ok (.iload_n 1, 1) := by decide +kernel
theorem d_Q_canStand_2 : decode b_Q_canStand 2 = .ok (.invokevirtual 31, 3) := by decide +kernel
theorem d_Q_canStand_5 : decode b_Q_canStand 5 = .ok (.iconst (-1), 1) := by decide +kernel
theorem d_Q_canStand_6 : decode b_Q_canStand 6 = .ok (.if_icmp .eq 7, 3) := by decide +kernel
theorem d_Q_canStand_9 : decode b_Q_canStand 9 = .ok (.iconst 1, 1) := by decide +kernel
theorem d_Q_canStand_10 : decode b_Q_canStand 10 = .ok (.goto 4, 3) := by decide +kernel
theorem d_Q_canStand_13 : decode b_Q_canStand 13 = .ok (.iconst 0, 1) := by decide +kernel
theorem d_Q_canStand_14 : decode b_Q_canStand 14 = .ok (.ireturn, 1) := by decide +kernel
theorem d_Q_pass_0 : decode b_Q_pass 0 = .ok (.aload_n 0, 1) := by decide +kernel
theorem d_Q_pass_1 : decode b_Q_pass 1 = .ok (.aload_n 0, 1) := by decide +kernel
theorem d_Q_pass_2 : decode b_Q_pass 2 = .ok (.iload_n 1, 1) := by decide +kernel
theorem d_Q_pass_3 : decode b_Q_pass 3 = .ok (.invokevirtual 31, 3) := by decide +kernel
theorem d_Q_pass_6 : decode b_Q_pass 6 = .ok (.putfield 21, 3) := by decide +kernel
theorem d_Q_pass_9 : decode b_Q_pass 9 = .ok (.return_, 1) := by decide +kernel
theorem d_Q_after_0 : decode b_Q_after 0 = .ok (.aload_n 0, 1) := by decide +kernel
theorem d_Q_after_1 : decode b_Q_after 1 = .ok (.getfield 21, 3) := by decide +kernel
theorem d_Q_after_4 : decode b_Q_after 4 = .ok (.tableswitch 145 0 8 #[52, 57, 68, 79, 90, 110, 122, 57, 57], 52) := by decide +kernel
theorem d_Q_after_56 : decode b_Q_after 56 = .ok (.iload_n 1, 1) := by decide +kernel
theorem d_Q_after_57 : decode b_Q_after 57 = .ok (.invokestatic 35, 3) := by decide +kernel
theorem d_Q_after_60 : decode b_Q_after 60 = .ok (.ireturn, 1) := by decide +kernel
theorem d_Q_after_61 : decode b_Q_after 61 = .ok (.iload_n 1, 1) := by decide +kernel
theorem d_Q_after_62 : decode b_Q_after 62 = .ok (.iconst 1, 1) := by decide +kernel
theorem d_Q_after_63 : decode b_Q_after 63 = .ok (.if_icmp .ne 7, 3) := by decide +kernel
theorem d_Q_after_66 : decode b_Q_after 66 = .ok (.iconst 2, 1) := by decide +kernel
theorem d_Q_after_67 : decode b_Q_after 67 = .ok (.goto 4, 3) := by decide +kernel
theorem d_Q_after_70 : decode b_Q_after 70 = .ok (.iconst (-1), 1) := by decide +kernel
theorem d_Q_after_71 : decode b_Q_after 71 = .ok (.ireturn, 1) := by decide +kernel
theorem d_Q_after_72 : decode b_Q_after 72 = .ok (.iload_n 1, 1) := by decide +kernel
theorem d_Q_after_73 : decode b_Q_after 73 = .ok (.iconst 2, 1) := by decide +kernel
theorem d_Q_after_74 : decode b_Q_after 74 = .ok (.if_icmp .ne 7, 3) := by decide +kernel
theorem d_Q_after_77 : decode b_Q_after 77 = .ok (.iconst 0, 1) := by decide +kernel
theorem d_Q_after_78 : decode b_Q_after 78 = .ok (.goto 4, 3) := by decide +kernel
theorem d_Q_after_81 : decode b_Q_after 81 = .ok (.iconst (-1), 1) := by decide +kernel
theorem d_Q_after_82 : decode b_Q_after 82 = .ok (.ireturn, 1) := by decide +kernel
theorem d_Q_after_83 : decode b_Q_after 83 = .ok (.iload_n 1, 1) := by decide +kernel
theorem d_Q_after_84 : decode b_Q_after 84 = .ok (.iconst 1, 1) := by decide +kernel
theorem d_Q_after_85 : decode b_Q_after 85 = .ok (.if_icmp .ne 7, 3) := by decide +kernel
theorem d_Q_after_88 : decode b_Q_after 88 = .ok (.iconst 4, 1) := by decide +kernel
theorem d_Q_after_89 : decode b_Q_after 89 = .ok (.goto 4, 3) := by decide +kernel
theorem d_Q_after_92 : decode b_Q_after 92 = .ok (.iconst (-1), 1) := by decide +kernel
theorem d_Q_after_93 : decode b_Q_after 93 = .ok (.ireturn, 1) := by decide +kernel
theorem d_Q_after_94 : decode b_Q_after 94 = .ok (.iload_n 1, 1) := by decide +kernel
theorem d_Q_after_95 : decode b_Q_after 95 = .ok (.iconst 3, 1) := by decide +kernel
theorem d_Q_after_96 : decode b_Q_after 96 = .ok (.if_icmp .ne 7, 3) := by decide +kernel
theorem d_Q_after_99 : decode b_Q_after 99 = .ok (.iconst 5, 1) := by decide +kernel
theorem d_Q_after_100 : decode b_Q_after 100 = .ok (.goto 13, 3) := by decide +kernel
theorem d_Q_after_103 : decode b_Q_after 103 = .ok (.iload_n 1, 1) := by decide +kernel
theorem d_Q_after_104 : decode b_Q_after 104 = .ok (.iconst 1, 1) := by decide +kernel
theorem d_Q_after_105 : decode b_Q_after 105 = .ok (.if_icmp .ne 7, 3) := by decide +kernel
theorem d_Q_after_108 : decode b_Q_after 108 = .ok (.iconst 4, 1) := by decide +kernel
theorem d_Q_after_109 : decode b_Q_after 109 = .ok (.goto 4, 3) := by decide +kernel
theorem d_Q_after_112 : decode b_Q_after 112 = .ok (.iconst (-1), 1) := by decide +kernel
theorem d_Q_after_113 : decode b_Q_after 113 = .ok (.ireturn, 1) := by decide +kernel
theorem d_Q_after_114 : decode b_Q_after 114 = .ok (.iload_n 1, 1) := by decide +kernel
theorem d_Q_after_115 : decode b_Q_after 115 = .ok (.iconst 1, 1) := by decide +kernel
theorem d_Q_after_116 : decode b_Q_after 116 = .ok (.if_icmp .ne 8, 3) := by decide +kernel
theorem d_Q_after_119 : decode b_Q_after 119 = .ok (.bipush 6, 2) := by decide +kernel
theorem d_Q_after_121 : decode b_Q_after 121 = .ok (.goto 4, 3) := by decide +kernel
theorem d_Q_after_124 : decode b_Q_after 124 = .ok (.iconst (-1), 1) := by decide +kernel
theorem d_Q_after_125 : decode b_Q_after 125 = .ok (.ireturn, 1) := by decide +kernel
theorem d_Q_after_126 : decode b_Q_after 126 = .ok (.iload_n 1, 1) := by decide +kernel
theorem d_Q_after_127 : decode b_Q_after 127 = .ok (.bipush 9, 2) := by decide +kernel
theorem d_Q_after_129 : decode b_Q_after 129 = .ok (.if_icmp .ne 8, 3) := by decide +kernel
theorem d_Q_after_132 : decode b_Q_after 132 = .ok (.bipush 7, 2) := by decide +kernel
theorem d_Q_after_134 : decode b_Q_after 134 = .ok (.goto 14, 3) := by decide +kernel
theorem d_Q_after_137 : decode b_Q_after 137 = .ok (.iload_n 1, 1) := by decide +kernel
theorem d_Q_after_138 : decode b_Q_after 138 = .ok (.iconst 1, 1) := by decide +kernel
theorem d_Q_after_139 : decode b_Q_after 139 = .ok (.if_icmp .ne 8, 3) := by decide +kernel
theorem d_Q_after_142 : decode b_Q_after 142 = .ok (.bipush 6, 2) := by decide +kernel
theorem d_Q_after_144 : decode b_Q_after 144 = .ok (.goto 4, 3) := by decide +kernel
theorem d_Q_after_147 : decode b_Q_after 147 = .ok (.iconst (-1), 1) := by decide +kernel
theorem d_Q_after_148 : decode b_Q_after 148 = .ok (.ireturn, 1) := by decide +kernel
theorem d_Q_after_149 : decode b_Q_after 149 = .ok (.iconst (-1), 1) := by decide +kernel
theorem d_Q_after_150 : decode b_Q_after 150 = .ok (.ireturn, 1) := by decide +kernel
theorem d_Q_afterWord_0 : decode b_Q_afterWord 0 = .ok (.iload_n 0, 1) := by decide +kernel
theorem d_Q_afterWord_1 : decode b_Q_afterWord 1 = .ok (.tableswitch 60 0 8 #[51, 60, 60, 60, 60, 60, 53, 55, 57], 51) := by decide +kernel
theorem d_Q_afterWord_52 : decode b_Q_afterWord 52 = .ok (.iconst 0, 1) := by decide +kernel
theorem d_Q_afterWord_53 : decode b_Q_afterWord 53 = .ok (.ireturn, 1) := by decide +kernel
theorem d_Q_afterWord_54 : decode b_Q_afterWord 54 = .ok (.iconst 1, 1) := by decide +kernel
theorem d_Q_afterWord_55 : decode b_Q_afterWord 55 = .ok (.ireturn, 1) := by decide +kernel
theorem d_Q_afterWord_56 : decode b_Q_afterWord 56 = .ok (.iconst 3, 1) := by decide +kernel
theorem d_Q_afterWord_57 : decode b_Q_afterWord 57 = .ok (.ireturn, 1) := by decide +kernel
theorem d_Q_afterWord_58 : decode b_Q_afterWord 58 = .ok (.bipush 8, 2) := by decide +kernel
theorem d_Q_afterWord_60 : decode b_Q_afterWord 60 = .ok (.ireturn, 1) := by decide +kernel
theorem d_Q_afterWord_61 : decode b_Q_afterWord 61 = .ok (.iconst (-1), 1) := by decide +kernel
theorem d_Q_afterWord_62 : decode b_Q_afterWord 62 = .ok (.ireturn, 1) := by decide +kernel
theorem d_Q_absorb_0 : decode b_Q_absorb 0 = .ok (.aload_n 1, 1) := by decide +kernel
theorem d_Q_absorb_1 : decode b_Q_absorb 1 = .ok (.getfield 38, 3) := by decide +kernel
theorem d_Q_absorb_4 : decode b_Q_absorb 4 = .ok (.bipush 6, 2) := by decide +kernel
theorem d_Q_absorb_6 : decode b_Q_absorb 6 = .ok (.if_icmp .ne 21, 3) := by decide +kernel
theorem d_Q_absorb_9 : decode b_Q_absorb 9 = .ok (.aload_n 0, 1) := by decide +kernel
theorem d_Q_absorb_10 : decode b_Q_absorb 10 = .ok (.getfield 12, 3) := by decide +kernel
theorem d_Q_absorb_13 : decode b_Q_absorb 13 = .ok (.getfield 43, 3) := by decide +kernel
theorem d_Q_absorb_16 : decode b_Q_absorb 16 = .ok (.bipush 8, 2) := by decide +kernel
theorem d_Q_absorb_18 : decode b_Q_absorb 18 = .ok (.if_icmp .lt 7, 3) := by decide +kernel
theorem d_Q_absorb_21 : decode b_Q_absorb 21 = .ok (.iconst 4, 1) := by decide +kernel
theorem d_Q_absorb_22 : decode b_Q_absorb 22 = .ok (.goto 4, 3) := by decide +kernel
theorem d_Q_absorb_25 : decode b_Q_absorb 25 = .ok (.iconst 0, 1) := by decide +kernel
theorem d_Q_absorb_26 : decode b_Q_absorb 26 = .ok (.ireturn, 1) := by decide +kernel
theorem d_Q_absorb_27 : decode b_Q_absorb 27 = .ok (.aload_n 1, 1) := by decide +kernel
theorem d_Q_absorb_28 : decode b_Q_absorb 28 = .ok (.getfield 38, 3) := by decide +kernel
theorem d_Q_absorb_31 : decode b_Q_absorb 31 = .ok (.bipush 7, 2) := by decide +kernel
theorem d_Q_absorb_33 : decode b_Q_absorb 33 = .ok (.if_icmp .ne 31, 3) := by decide +kernel
theorem d_Q_absorb_36 : decode b_Q_absorb 36 = .ok (.aload_n 0, 1) := by decide +kernel
theorem d_Q_absorb_37 : decode b_Q_absorb 37 = .ok (.iconst 0, 1) := by decide +kernel
theorem d_Q_absorb_38 : decode b_Q_absorb 38 = .ok (.putfield 25, 3) := by decide +kernel
theorem d_Q_absorb_41 : decode b_Q_absorb 41 = .ok (.aload_n 0, 1) := by decide +kernel
theorem d_Q_absorb_42 : decode b_Q_absorb 42 = .ok (.iconst 0, 1) := by decide +kernel
theorem d_Q_absorb_43 : decode b_Q_absorb 43 = .ok (.putfield 28, 3) := by decide +kernel
theorem d_Q_absorb_46 : decode b_Q_absorb 46 = .ok (.aload_n 0, 1) := by decide +kernel
theorem d_Q_absorb_47 : decode b_Q_absorb 47 = .ok (.getfield 12, 3) := by decide +kernel
theorem d_Q_absorb_50 : decode b_Q_absorb 50 = .ok (.getfield 46, 3) := by decide +kernel
theorem d_Q_absorb_53 : decode b_Q_absorb 53 = .ok (.bipush 16, 2) := by decide +kernel
theorem d_Q_absorb_55 : decode b_Q_absorb 55 = .ok (.if_icmp .lt 7, 3) := by decide +kernel
theorem d_Q_absorb_58 : decode b_Q_absorb 58 = .ok (.iconst 4, 1) := by decide +kernel
theorem d_Q_absorb_59 : decode b_Q_absorb 59 = .ok (.goto 4, 3) := by decide +kernel
theorem d_Q_absorb_62 : decode b_Q_absorb 62 = .ok (.iconst 0, 1) := by decide +kernel
theorem d_Q_absorb_63 : decode b_Q_absorb 63 = .ok (.ireturn, 1) := by decide +kernel
theorem d_Q_absorb_64 : decode b_Q_absorb 64 = .ok (.aload_n 1, 1) := by decide +kernel
theorem d_Q_absorb_65 : decode b_Q_absorb 65 = .ok (.getfield 38, 3) := by decide +kernel
theorem d_Q_absorb_68 : decode b_Q_absorb 68 = .ok (.iconst 1, 1) := by decide +kernel
theorem d_Q_absorb_69 : decode b_Q_absorb 69 = .ok (.if_icmp .ne 14, 3) := by decide +kernel
theorem d_Q_absorb_72 : decode b_Q_absorb 72 = .ok (.aload_n 0, 1) := by decide +kernel
theorem d_Q_absorb_73 : decode b_Q_absorb 73 = .ok (.aload_n 1, 1) := by decide +kernel
theorem d_Q_absorb_74 : decode b_Q_absorb 74 = .ok (.getfield 49, 3) := by decide +kernel
theorem d_Q_absorb_77 : decode b_Q_absorb 77 = .ok (.invokevirtual 52, 3) := by decide +kernel
theorem d_Q_absorb_80 : decode b_Q_absorb 80 = .ok (.goto 4, 3) := by decide +kernel
theorem d_Q_absorb_83 : decode b_Q_absorb 83 = .ok (.iconst 0, 1) := by decide +kernel
theorem d_Q_absorb_84 : decode b_Q_absorb 84 = .ok (.ireturn, 1) := by decide +kernel
theorem d_Q_absorbNumber_0 : decode b_Q_absorbNumber 0 = .ok (.aload_n 0, 1) := by decide +kernel
theorem d_Q_absorbNumber_1 : decode b_Q_absorbNumber 1 = .ok (.getfield 21, 3) := by decide +kernel
theorem d_Q_absorbNumber_4 : decode b_Q_absorbNumber 4 = .ok (.lookupswitch 54 #[(1, 36), (7, 42), (8, 48)], 36) := by decide +kernel
theorem d_Q_absorbNumber_40 : decode b_Q_absorbNumber 40 = .ok (.aload_n 0, 1) := by decide +kernel
theorem d_Q_absorbNumber_41 : decode b_Q_absorbNumber 41 = .ok (.iload_n 1, 1) := by decide +kernel
theorem d_Q_absorbNumber_42 : decode b_Q_absorbNumber 42 = .ok (.invokevirtual 55, 3) := by decide +kernel
theorem d_Q_absorbNumber_45 : decode b_Q_absorbNumber 45 = .ok (.ireturn, 1) := by decide +kernel
theorem d_Q_absorbNumber_46 : decode b_Q_absorbNumber 46 = .ok (.aload_n 0, 1) := by decide +kernel
theorem d_Q_absorbNumber_47 : decode b_Q_absorbNumber 47 = .ok (.iload_n 1, 1) := by decide +kernel
theorem d_Q_absorbNumber_48 : decode b_Q_absorbNumber 48 = .ok (.invokevirtual 58, 3) := by decide +kernel
theorem d_Q_absorbNumber_51 : decode b_Q_absorbNumber 51 = .ok (.ireturn, 1) := by decide +kernel
theorem d_Q_absorbNumber_52 : decode b_Q_absorbNumber 52 = .ok (.aload_n 0, 1) := by decide +kernel
theorem d_Q_absorbNumber_53 : decode b_Q_absorbNumber 53 = .ok (.iload_n 1, 1) := by decide +kernel
theorem d_Q_absorbNumber_54 : decode b_Q_absorbNumber 54 = .ok (.invokevirtual 61, 3) := by decide +kernel
theorem d_Q_absorbNumber_57 : decode b_Q_absorbNumber 57 = .ok (.ireturn, 1) := by decide +kernel
theorem d_Q_absorbNumber_58 : decode b_Q_absorbNumber 58 = .ok (.aload_n 0, 1) := by decide +kernel
theorem d_Q_absorbNumber_59 : decode b_Q_absorbNumber 59 = .ok (.iload_n 1, 1) := by decide +kernel
theorem d_Q_absorbNumber_60 : decode b_Q_absorbNumber 60 = .ok (.invokevirtual 64, 3) := by decide +kernel
theorem d_Q_absorbNumber_63 : decode b_Q_absorbNumber 63 = .ok (.ireturn, 1) := by decide +kernel
theorem d_Q_absorbRows_0 : decode b_Q_absorbRows 0 = .ok (.iload_n 1, 1) := by decide +kernel
theorem d_Q_absorbRows_1 : decode b_Q_absorbRows 1 = .ok (.invokestatic 67, 3) := by decide +kernel
theorem d_Q_absorbRows_4 : decode b_Q_absorbRows 4 = .ok (.ifCond .ne 5, 3) := by decide +kernel
theorem d_Q_absorbRows_7 : decode b_Q_absorbRows 7 = .ok (.iconst 2, 1) := by decide +kernel
theorem d_Q_absorbRows_8 : decode b_Q_absorbRows 8 = .ok (.ireturn, 1) := by decide +kernel
theorem d_Q_absorbRows_9 : decode b_Q_absorbRows 9 = .ok (.aload_n 0, 1) := by decide +kernel
theorem d_Q_absorbRows_10 : decode b_Q_absorbRows 10 = .ok (.getfield 12, 3) := by decide +kernel
theorem d_Q_absorbRows_13 : decode b_Q_absorbRows 13 = .ok (.iload_n 1, 1) := by decide +kernel
theorem d_Q_absorbRows_14 : decode b_Q_absorbRows 14 = .ok (.invokevirtual 71, 3) := by decide +kernel
theorem d_Q_absorbRows_17 : decode b_Q_absorbRows 17 = .ok (.iconst 0, 1) := by decide +kernel
theorem d_Q_absorbRows_18 : decode b_Q_absorbRows 18 = .ok (.ireturn, 1) := by decide +kernel
theorem d_Q_absorbBy_0 : decode b_Q_absorbBy 0 = .ok (.iload_n 1, 1) := by decide +kernel
theorem d_Q_absorbBy_1 : decode b_Q_absorbBy 1 = .ok (.invokestatic 75, 3) := by decide +kernel
theorem d_Q_absorbBy_4 : decode b_Q_absorbBy 4 = .ok (.ifCond .ne 5, 3) := by decide +kernel
theorem d_Q_absorbBy_7 : decode b_Q_absorbBy 7 = .ok (.iconst 2, 1) := by decide +kernel
theorem d_Q_absorbBy_8 : decode b_Q_absorbBy 8 = .ok (.ireturn, 1) := by decide +kernel
theorem d_Q_absorbBy_9 : decode b_Q_absorbBy 9 = .ok (.aload_n 0, 1) := by decide +kernel
theorem d_Q_absorbBy_10 : decode b_Q_absorbBy 10 = .ok (.getfield 12, 3) := by decide +kernel
theorem d_Q_absorbBy_13 : decode b_Q_absorbBy 13 = .ok (.aload_n 0, 1) := by decide +kernel
theorem d_Q_absorbBy_14 : decode b_Q_absorbBy 14 = .ok (.getfield 25, 3) := by decide +kernel
theorem d_Q_absorbBy_17 : decode b_Q_absorbBy 17 = .ok (.aload_n 0, 1) := by decide +kernel
theorem d_Q_absorbBy_18 : decode b_Q_absorbBy 18 = .ok (.getfield 28, 3) := by decide +kernel
theorem d_Q_absorbBy_21 : decode b_Q_absorbBy 21 = .ok (.iload_n 1, 1) := by decide +kernel
theorem d_Q_absorbBy_22 : decode b_Q_absorbBy 22 = .ok (.invokevirtual 78, 3) := by decide +kernel
theorem d_Q_absorbBy_25 : decode b_Q_absorbBy 25 = .ok (.iconst 0, 1) := by decide +kernel
theorem d_Q_absorbBy_26 : decode b_Q_absorbBy 26 = .ok (.ireturn, 1) := by decide +kernel
theorem d_Q_absorbLimit_0 : decode b_Q_absorbLimit 0 = .ok (.iload_n 1, 1) := by decide +kernel
theorem d_Q_absorbLimit_1 : decode b_Q_absorbLimit 1 = .ok (.invokestatic 82, 3) := by decide +kernel
theorem d_Q_absorbLimit_4 : decode b_Q_absorbLimit 4 = .ok (.ifCond .ne 5, 3) := by decide +kernel
theorem d_Q_absorbLimit_7 : decode b_Q_absorbLimit 7 = .ok (.iconst 2, 1) := by decide +kernel
theorem d_Q_absorbLimit_8 : decode b_Q_absorbLimit 8 = .ok (.ireturn, 1) := by decide +kernel
theorem d_Q_absorbLimit_9 : decode b_Q_absorbLimit 9 = .ok (.aload_n 0, 1) := by decide +kernel
theorem d_Q_absorbLimit_10 : decode b_Q_absorbLimit 10 = .ok (.getfield 12, 3) := by decide +kernel
theorem d_Q_absorbLimit_13 : decode b_Q_absorbLimit 13 = .ok (.iload_n 1, 1) := by decide +kernel
theorem d_Q_absorbLimit_14 : decode b_Q_absorbLimit 14 = .ok (.putfield 85, 3) := by decide +kernel
theorem d_Q_absorbLimit_17 : decode b_Q_absorbLimit 17 = .ok (.iconst 0, 1) := by decide +kernel
theorem d_Q_absorbLimit_18 : decode b_Q_absorbLimit 18 = .ok (.ireturn, 1) := by decide +kernel
theorem d_Q_absorbEnd_0 : decode b_Q_absorbEnd 0 = .ok (.aload_n 0, 1) := by decide +kernel
theorem d_Q_absorbEnd_1 : decode b_Q_absorbEnd 1 = .ok (.getfield 12, 3) := by decide +kernel
theorem d_Q_absorbEnd_4 : decode b_Q_absorbEnd 4 = .ok (.iload_n 1, 1) := by decide +kernel
theorem d_Q_absorbEnd_5 : decode b_Q_absorbEnd 5 = .ok (.invokevirtual 88, 3) := by decide +kernel
theorem d_Q_absorbEnd_8 : decode b_Q_absorbEnd 8 = .ok (.ifCond .ne 5, 3) := by decide +kernel
theorem d_Q_absorbEnd_11 : decode b_Q_absorbEnd 11 = .ok (.iconst 2, 1) := by decide +kernel
theorem d_Q_absorbEnd_12 : decode b_Q_absorbEnd 12 = .ok (.ireturn, 1) := by decide +kernel
theorem d_Q_absorbEnd_13 : decode b_Q_absorbEnd 13 = .ok (.iconst 1, 1) := by decide +kernel
theorem d_Q_absorbEnd_14 : decode b_Q_absorbEnd 14 = .ok (.iload_n 1, 1) := by decide +kernel
theorem d_Q_absorbEnd_15 : decode b_Q_absorbEnd 15 = .ok (.ishl, 1) := by decide +kernel
theorem d_Q_absorbEnd_16 : decode b_Q_absorbEnd 16 = .ok (.istore_n 2, 1) := by decide +kernel
theorem d_Q_absorbEnd_17 : decode b_Q_absorbEnd 17 = .ok (.aload_n 0, 1) := by decide +kernel
theorem d_Q_absorbEnd_18 : decode b_Q_absorbEnd 18 = .ok (.getfield 25, 3) := by decide +kernel
theorem d_Q_absorbEnd_21 : decode b_Q_absorbEnd 21 = .ok (.aload_n 0, 1) := by decide +kernel
theorem d_Q_absorbEnd_22 : decode b_Q_absorbEnd 22 = .ok (.getfield 28, 3) := by decide +kernel
theorem d_Q_absorbEnd_25 : decode b_Q_absorbEnd 25 = .ok (.ior, 1) := by decide +kernel
theorem d_Q_absorbEnd_26 : decode b_Q_absorbEnd 26 = .ok (.iload_n 2, 1) := by decide +kernel
theorem d_Q_absorbEnd_27 : decode b_Q_absorbEnd 27 = .ok (.iand, 1) := by decide +kernel
theorem d_Q_absorbEnd_28 : decode b_Q_absorbEnd 28 = .ok (.ifCond .eq 5, 3) := by decide +kernel
theorem d_Q_absorbEnd_31 : decode b_Q_absorbEnd 31 = .ok (.iconst 3, 1) := by decide +kernel
theorem d_Q_absorbEnd_32 : decode b_Q_absorbEnd 32 = .ok (.ireturn, 1) := by decide +kernel
theorem d_Q_absorbEnd_33 : decode b_Q_absorbEnd 33 = .ok (.aload_n 0, 1) := by decide +kernel
theorem d_Q_absorbEnd_34 : decode b_Q_absorbEnd 34 = .ok (.getfield 21, 3) := by decide +kernel
theorem d_Q_absorbEnd_37 : decode b_Q_absorbEnd 37 = .ok (.iconst 3, 1) := by decide +kernel
theorem d_Q_absorbEnd_38 : decode b_Q_absorbEnd 38 = .ok (.if_icmp .eq 11, 3) := by decide +kernel
theorem d_Q_absorbEnd_41 : decode b_Q_absorbEnd 41 = .ok (.aload_n 0, 1) := by decide +kernel
theorem d_Q_absorbEnd_42 : decode b_Q_absorbEnd 42 = .ok (.getfield 21, 3) := by decide +kernel
theorem d_Q_absorbEnd_45 : decode b_Q_absorbEnd 45 = .ok (.iconst 4, 1) := by decide +kernel
theorem d_Q_absorbEnd_46 : decode b_Q_absorbEnd 46 = .ok (.if_icmp .ne 16, 3) := by decide +kernel
theorem d_Q_absorbEnd_49 : decode b_Q_absorbEnd 49 = .ok (.aload_n 0, 1) := by decide +kernel
theorem d_Q_absorbEnd_50 : decode b_Q_absorbEnd 50 = .ok (.dup, 1) := by decide +kernel
theorem d_Q_absorbEnd_51 : decode b_Q_absorbEnd 51 = .ok (.getfield 25, 3) := by decide +kernel
theorem d_Q_absorbEnd_54 : decode b_Q_absorbEnd 54 = .ok (.iload_n 2, 1) := by decide +kernel
theorem d_Q_absorbEnd_55 : decode b_Q_absorbEnd 55 = .ok (.ior, 1) := by decide +kernel
theorem d_Q_absorbEnd_56 : decode b_Q_absorbEnd 56 = .ok (.putfield 25, 3) := by decide +kernel
theorem d_Q_absorbEnd_59 : decode b_Q_absorbEnd 59 = .ok (.goto 13, 3) := by decide +kernel
theorem d_Q_absorbEnd_62 : decode b_Q_absorbEnd 62 = .ok (.aload_n 0, 1) := by decide +kernel
theorem d_Q_absorbEnd_63 : decode b_Q_absorbEnd 63 = .ok (.dup, 1) := by decide +kernel
theorem d_Q_absorbEnd_64 : decode b_Q_absorbEnd 64 = .ok (.getfield 28, 3) := by decide +kernel
theorem d_Q_absorbEnd_67 : decode b_Q_absorbEnd 67 = .ok (.iload_n 2, 1) := by decide +kernel
theorem d_Q_absorbEnd_68 : decode b_Q_absorbEnd 68 = .ok (.ior, 1) := by decide +kernel
theorem d_Q_absorbEnd_69 : decode b_Q_absorbEnd 69 = .ok (.putfield 28, 3) := by decide +kernel
theorem d_Q_absorbEnd_72 : decode b_Q_absorbEnd 72 = .ok (.iconst 0, 1) := by decide +kernel
theorem d_Q_absorbEnd_73 : decode b_Q_absorbEnd 73 = .ok (.ireturn, 1) := by decide +kernel
theorem d_E_init_0 : decode b_E_init 0 = .ok (.aload_n 0, 1) := by decide +kernel
theorem d_E_init_1 : decode b_E_init 1 = .ok (.invokespecial 3, 3) := by decide +kernel
theorem d_E_init_4 : decode b_E_init 4 = .ok (.return_, 1) := by decide +kernel
theorem d_E_read_0 : decode b_E_read 0 = .ok (.aload_n 0, 1) := by decide +kernel
theorem d_E_read_1 : decode b_E_read 1 = .ok (.iconst 0, 1) := by decide +kernel
theorem d_E_read_2 : decode b_E_read 2 = .ok (.putfield 9, 3) := by decide +kernel
theorem d_E_read_5 : decode b_E_read 5 = .ok (.aload_n 0, 1) := by decide +kernel
theorem d_E_read_6 : decode b_E_read 6 = .ok (.iconst (-1), 1) := by decide +kernel
theorem d_E_read_7 : decode b_E_read 7 = .ok (.putfield 15, 3) := by decide +kernel
theorem d_E_read_10 : decode b_E_read 10 = .ok (.aload_n 0, 1) := by decide +kernel
theorem d_E_read_11 : decode b_E_read 11 = .ok (.invokevirtual 18, 3) := by decide +kernel
theorem d_E_read_14 : decode b_E_read 14 = .ok (.aload_n 1, 1) := by decide +kernel
theorem d_E_read_15 : decode b_E_read 15 = .ok (.invokevirtual 21, 3) := by decide +kernel
theorem d_E_read_18 : decode b_E_read 18 = .ok (.iconst 0, 1) := by decide +kernel
theorem d_E_read_19 : decode b_E_read 19 = .ok (.istore_n 2, 1) := by decide +kernel
theorem d_E_read_20 : decode b_E_read 20 = .ok (.iload_n 2, 1) := by decide +kernel
theorem d_E_read_21 : decode b_E_read 21 = .ok (.sipush 500, 3) := by decide +kernel
theorem d_E_read_24 : decode b_E_read 24 = .ok (.if_icmp .gt 89, 3) := by decide +kernel
theorem d_E_read_27 : decode b_E_read 27 = .ok (.aload_n 1, 1) := by decide +kernel
theorem d_E_read_28 : decode b_E_read 28 = .ok (.invokevirtual 26, 3) := by decide +kernel
theorem d_E_read_31 : decode b_E_read 31 = .ok (.aload_n 0, 1) := by decide +kernel
theorem d_E_read_32 : decode b_E_read 32 = .ok (.aload_n 1, 1) := by decide +kernel
theorem d_E_read_33 : decode b_E_read 33 = .ok (.getfield 29, 3) := by decide +kernel
theorem d_E_read_36 : decode b_E_read 36 = .ok (.invokevirtual 32, 3) := by decide +kernel
theorem d_E_read_39 : decode b_E_read 39 = .ok (.ifCond .ne 17, 3) := by decide +kernel
theorem d_E_read_42 : decode b_E_read 42 = .ok (.aload_n 0, 1) := by decide +kernel
theorem d_E_read_43 : decode b_E_read 43 = .ok (.iconst 1, 1) := by decide +kernel
theorem d_E_read_44 : decode b_E_read 44 = .ok (.putfield 9, 3) := by decide +kernel
theorem d_E_read_47 : decode b_E_read 47 = .ok (.aload_n 0, 1) := by decide +kernel
theorem d_E_read_48 : decode b_E_read 48 = .ok (.aload_n 1, 1) := by decide +kernel
theorem d_E_read_49 : decode b_E_read 49 = .ok (.getfield 36, 3) := by decide +kernel
theorem d_E_read_52 : decode b_E_read 52 = .ok (.putfield 15, 3) := by decide +kernel
theorem d_E_read_55 : decode b_E_read 55 = .ok (.return_, 1) := by decide +kernel
theorem d_E_read_56 : decode b_E_read 56 = .ok (.aload_n 0, 1) := by decide +kernel
theorem d_E_read_57 : decode b_E_read 57 = .ok (.getfield 9, 3) := by decide +kernel
theorem d_E_read_60 : decode b_E_read 60 = .ok (.ifCond .ne 31, 3) := by decide +kernel
theorem d_E_read_63 : decode b_E_read 63 = .ok (.aload_n 0, 1) := by decide +kernel
theorem d_E_read_64 : decode b_E_read 64 = .ok (.aload_n 0, 1) := by decide +kernel
theorem d_E_read_65 : decode b_E_read 65 = .ok (.aload_n 1, 1) := by decide +kernel
theorem d_E_read_66 : decode b_E_read 66 = .ok (.invokevirtual 39, 3) := by decide +kernel
theorem d_E_read_69 : decode b_E_read 69 = .ok (.putfield 9, 3) := by decide +kernel
theorem d_E_read_72 : decode b_E_read 72 = .ok (.aload_n 0, 1) := by decide +kernel
theorem d_E_read_73 : decode b_E_read 73 = .ok (.aload_n 0, 1) := by decide +kernel
theorem d_E_read_74 : decode b_E_read 74 = .ok (.getfield 9, 3) := by decide +kernel
theorem d_E_read_77 : decode b_E_read 77 = .ok (.ifCond .ne 7, 3) := by decide +kernel
theorem d_E_read_80 : decode b_E_read 80 = .ok (.iconst (-1), 1) := by decide +kernel
theorem d_E_read_81 : decode b_E_read 81 = .ok (.goto 7, 3) := by decide +kernel
theorem d_E_read_84 : decode b_E_read 84 = .ok (.aload_n 1, 1) := by decide +kernel
theorem d_E_read_85 : decode b_E_read 85 = .ok (.getfield 36, 3) := by decide +kernel
theorem d_E_read_88 : decode b_E_read 88 = .ok (.putfield 15, 3) := by decide +kernel
theorem d_E_read_91 : decode b_E_read 91 = .ok (.aload_n 0, 1) := by decide +kernel
theorem d_E_read_92 : decode b_E_read 92 = .ok (.aload_n 1, 1) := by decide +kernel
theorem d_E_read_93 : decode b_E_read 93 = .ok (.getfield 29, 3) := by decide +kernel
theorem d_E_read_96 : decode b_E_read 96 = .ok (.invokevirtual 43, 3) := by decide +kernel
theorem d_E_read_99 : decode b_E_read 99 = .ok (.aload_n 1, 1) := by decide +kernel
theorem d_E_read_100 : decode b_E_read 100 = .ok (.getfield 29, 3) := by decide +kernel
theorem d_E_read_103 : decode b_E_read 103 = .ok (.ifCond .ne 4, 3) := by decide +kernel
theorem d_E_read_106 : decode b_E_read 106 = .ok (.return_, 1) := by decide +kernel
theorem d_E_read_107 : decode b_E_read 107 = .ok (.iinc 2 1, 3) := by decide +kernel
theorem d_E_read_110 : decode b_E_read 110 = .ok (.goto (-90), 3) := by decide +kernel
theorem d_E_read_113 : decode b_E_read 113 = .ok (.return_, 1) := by decide +kernel
theorem d_S_init_0 : decode b_S_init 0 = .ok (.aload_n 0, 1) := by decide +kernel
theorem d_S_init_1 : decode b_S_init 1 = .ok (.invokespecial 3, 3) := by decide +kernel
theorem d_S_init_4 : decode b_S_init 4 = .ok (.aload_n 0, 1) := by decide +kernel
theorem d_S_init_5 : decode b_S_init 5 = .ok (.sipush 256, 3) := by decide +kernel
theorem d_S_init_8 : decode b_S_init 8 = .ok (.newarray .long, 2) := by decide +kernel
theorem d_S_init_10 : decode b_S_init 10 = .ok (.putfield 9, 3) := by decide +kernel
theorem d_S_init_13 : decode b_S_init 13 = .ok (.aload_n 0, 1) := by decide +kernel
theorem d_S_init_14 : decode b_S_init 14 = .ok (.sipush 256, 3) := by decide +kernel
theorem d_S_init_17 : decode b_S_init 17 = .ok (.newarray .boolean, 2) := by decide +kernel
theorem d_S_init_19 : decode b_S_init 19 = .ok (.putfield 15, 3) := by decide +kernel
theorem d_S_init_22 : decode b_S_init 22 = .ok (.aload_n 0, 1) := by decide +kernel
theorem d_S_init_23 : decode b_S_init 23 = .ok (.sipush 256, 3) := by decide +kernel
theorem d_S_init_26 : decode b_S_init 26 = .ok (.newarray .boolean, 2) := by decide +kernel
theorem d_S_init_28 : decode b_S_init 28 = .ok (.putfield 19, 3) := by decide +kernel
theorem d_S_init_31 : decode b_S_init 31 = .ok (.aload_n 0, 1) := by decide +kernel
theorem d_S_init_32 : decode b_S_init 32 = .ok (.sipush 256, 3) := by decide +kernel
theorem d_S_init_35 : decode b_S_init 35 = .ok (.newarray .int, 2) := by decide +kernel
theorem d_S_init_37 : decode b_S_init 37 = .ok (.putfield 22, 3) := by decide +kernel
theorem d_S_init_40 : decode b_S_init 40 = .ok (.aload_n 0, 1) := by decide +kernel
theorem d_S_init_41 : decode b_S_init 41 = .ok (.sipush 256, 3) := by decide +kernel
theorem d_S_init_44 : decode b_S_init 44 = .ok (.newarray .int, 2) := by decide +kernel
theorem d_S_init_46 : decode b_S_init 46 = .ok (.putfield 26, 3) := by decide +kernel
theorem d_S_init_49 : decode b_S_init 49 = .ok (.aload_n 0, 1) := by decide +kernel
theorem d_S_init_50 : decode b_S_init 50 = .ok (.sipush 256, 3) := by decide +kernel
theorem d_S_init_53 : decode b_S_init 53 = .ok (.newarray .int, 2) := by decide +kernel
theorem d_S_init_55 : decode b_S_init 55 = .ok (.putfield 29, 3) := by decide +kernel
theorem d_S_init_58 : decode b_S_init 58 = .ok (.return_, 1) := by decide +kernel
theorem d_S_measure_0 : decode b_S_measure 0 = .ok (.aload_n 0, 1) := by decide +kernel
theorem d_S_measure_1 : decode b_S_measure 1 = .ok (.iconst 1, 1) := by decide +kernel
theorem d_S_measure_2 : decode b_S_measure 2 = .ok (.aload_n 1, 1) := by decide +kernel
theorem d_S_measure_3 : decode b_S_measure 3 = .ok (.getfield 32, 3) := by decide +kernel
theorem d_S_measure_6 : decode b_S_measure 6 = .ok (.ishl, 1) := by decide +kernel
theorem d_S_measure_7 : decode b_S_measure 7 = .ok (.putfield 38, 3) := by decide +kernel
theorem d_S_measure_10 : decode b_S_measure 10 = .ok (.aload_n 0, 1) := by decide +kernel
theorem d_S_measure_11 : decode b_S_measure 11 = .ok (.aload_n 1, 1) := by decide +kernel
theorem d_S_measure_12 : decode b_S_measure 12 = .ok (.getfield 41, 3) := by decide +kernel
theorem d_S_measure_15 : decode b_S_measure 15 = .ok (.aload_n 1, 1) := by decide +kernel
theorem d_S_measure_16 : decode b_S_measure 16 = .ok (.aload_n 0, 1) := by decide +kernel
theorem d_S_measure_17 : decode b_S_measure 17 = .ok (.getfield 22, 3) := by decide +kernel
theorem d_S_measure_20 : decode b_S_measure 20 = .ok (.invokevirtual 44, 3) := by decide +kernel
theorem d_S_measure_23 : decode b_S_measure 23 = .ok (.aload_n 0, 1) := by decide +kernel
theorem d_S_measure_24 : decode b_S_measure 24 = .ok (.aload_n 1, 1) := by decide +kernel
theorem d_S_measure_25 : decode b_S_measure 25 = .ok (.getfield 48, 3) := by decide +kernel
theorem d_S_measure_28 : decode b_S_measure 28 = .ok (.aload_n 1, 1) := by decide +kernel
theorem d_S_measure_29 : decode b_S_measure 29 = .ok (.aload_n 0, 1) := by decide +kernel
theorem d_S_measure_30 : decode b_S_measure 30 = .ok (.getfield 26, 3) := by decide +kernel
theorem d_S_measure_33 : decode b_S_measure 33 = .ok (.invokevirtual 44, 3) := by decide +kernel
theorem d_S_measure_36 : decode b_S_measure 36 = .ok (.aload_n 0, 1) := by decide +kernel
theorem d_S_measure_37 : decode b_S_measure 37 = .ok (.getfield 9, 3) := by decide +kernel
theorem d_S_measure_40 : decode b_S_measure 40 = .ok (.iconst 0, 1) := by decide +kernel
theorem d_S_measure_41 : decode b_S_measure 41 = .ok (.lconst 1, 1) := by decide +kernel
theorem d_S_measure_42 : decode b_S_measure 42 = .ok (.lastore, 1) := by decide +kernel
theorem d_S_measure_43 : decode b_S_measure 43 = .ok (.aload_n 0, 1) := by decide +kernel
theorem d_S_measure_44 : decode b_S_measure 44 = .ok (.getfield 15, 3) := by decide +kernel
theorem d_S_measure_47 : decode b_S_measure 47 = .ok (.iconst 0, 1) := by decide +kernel
theorem d_S_measure_48 : decode b_S_measure 48 = .ok (.iconst 0, 1) := by decide +kernel
theorem d_S_measure_49 : decode b_S_measure 49 = .ok (.bastore, 1) := by decide +kernel
theorem d_S_measure_50 : decode b_S_measure 50 = .ok (.aload_n 0, 1) := by decide +kernel
theorem d_S_measure_51 : decode b_S_measure 51 = .ok (.iconst 0, 1) := by decide +kernel
theorem d_S_measure_52 : decode b_S_measure 52 = .ok (.putfield 51, 3) := by decide +kernel
theorem d_S_measure_55 : decode b_S_measure 55 = .ok (.iconst 0, 1) := by decide +kernel
theorem d_S_measure_56 : decode b_S_measure 56 = .ok (.istore_n 2, 1) := by decide +kernel
theorem d_S_measure_57 : decode b_S_measure 57 = .ok (.iload_n 2, 1) := by decide +kernel
theorem d_S_measure_58 : decode b_S_measure 58 = .ok (.aload_n 1, 1) := by decide +kernel
theorem d_S_measure_59 : decode b_S_measure 59 = .ok (.getfield 32, 3) := by decide +kernel
theorem d_S_measure_62 : decode b_S_measure 62 = .ok (.if_icmp .ge 31, 3) := by decide +kernel
theorem d_S_measure_65 : decode b_S_measure 65 = .ok (.iconst 0, 1) := by decide +kernel
theorem d_S_measure_66 : decode b_S_measure 66 = .ok (.istore_n 3, 1) := by decide +kernel
theorem d_S_measure_67 : decode b_S_measure 67 = .ok (.iload_n 3, 1) := by decide +kernel
theorem d_S_measure_68 : decode b_S_measure 68 = .ok (.iconst 1, 1) := by decide +kernel
theorem d_S_measure_69 : decode b_S_measure 69 = .ok (.iload_n 2, 1) := by decide +kernel
theorem d_S_measure_70 : decode b_S_measure 70 = .ok (.ishl, 1) := by decide +kernel
theorem d_S_measure_71 : decode b_S_measure 71 = .ok (.if_icmp .ge 16, 3) := by decide +kernel
theorem d_S_measure_74 : decode b_S_measure 74 = .ok (.aload_n 0, 1) := by decide +kernel
theorem d_S_measure_75 : decode b_S_measure 75 = .ok (.aload_n 1, 1) := by decide +kernel
theorem d_S_measure_76 : decode b_S_measure 76 = .ok (.iload_n 3, 1) := by decide +kernel
theorem d_S_measure_77 : decode b_S_measure 77 = .ok (.iload_n 2, 1) := by decide +kernel
theorem d_S_measure_78 : decode b_S_measure 78 = .ok (.invokevirtual 54, 3) := by decide +kernel
theorem d_S_measure_81 : decode b_S_measure 81 = .ok (.iinc 3 1, 3) := by decide +kernel
theorem d_S_measure_84 : decode b_S_measure 84 = .ok (.goto (-17), 3) := by decide +kernel
theorem d_S_measure_87 : decode b_S_measure 87 = .ok (.iinc 2 1, 3) := by decide +kernel
theorem d_S_measure_90 : decode b_S_measure 90 = .ok (.goto (-33), 3) := by decide +kernel
theorem d_S_measure_93 : decode b_S_measure 93 = .ok (.aload_n 0, 1) := by decide +kernel
theorem d_S_measure_94 : decode b_S_measure 94 = .ok (.iconst 1, 1) := by decide +kernel
theorem d_S_measure_95 : decode b_S_measure 95 = .ok (.putfield 58, 3) := by decide +kernel
theorem d_S_measure_98 : decode b_S_measure 98 = .ok (.return_, 1) := by decide +kernel
theorem d_S_lay_0 : decode b_S_lay 0 = .ok (.aload_n 3, 1) := by decide +kernel
theorem d_S_lay_1 : decode b_S_lay 1 = .ok (.iconst 0, 1) := by decide +kernel
theorem d_S_lay_2 : decode b_S_lay 2 = .ok (.invokestatic 62, 3) := by decide +kernel
theorem d_S_lay_5 : decode b_S_lay 5 = .ok (.iconst 0, 1) := by decide +kernel
theorem d_S_lay_6 : decode b_S_lay 6 = .ok (.istore 4, 2) := by decide +kernel
theorem d_S_lay_8 : decode b_S_lay 8 = .ok (.iload 4, 2) := by decide +kernel
theorem d_S_lay_10 : decode b_S_lay 10 = .ok (.aload_n 2, 1) := by decide +kernel
theorem d_S_lay_11 : decode b_S_lay 11 = .ok (.getfield 68, 3) := by decide +kernel
theorem d_S_lay_14 : decode b_S_lay 14 = .ok (.if_icmp .ge 22, 3) := by decide +kernel
theorem d_S_lay_17 : decode b_S_lay 17 = .ok (.aload_n 3, 1) := by decide +kernel
theorem d_S_lay_18 : decode b_S_lay 18 = .ok (.aload_n 1, 1) := by decide +kernel
theorem d_S_lay_19 : decode b_S_lay 19 = .ok (.iload 4, 2) := by decide +kernel
theorem d_S_lay_21 : decode b_S_lay 21 = .ok (.iaload, 1) := by decide +kernel
theorem d_S_lay_22 : decode b_S_lay 22 = .ok (.dup2, 1) := by decide +kernel
theorem d_S_lay_23 : decode b_S_lay 23 = .ok (.iaload, 1) := by decide +kernel
theorem d_S_lay_24 : decode b_S_lay 24 = .ok (.iconst 1, 1) := by decide +kernel
theorem d_S_lay_25 : decode b_S_lay 25 = .ok (.iload 4, 2) := by decide +kernel
theorem d_S_lay_27 : decode b_S_lay 27 = .ok (.ishl, 1) := by decide +kernel
theorem d_S_lay_28 : decode b_S_lay 28 = .ok (.ior, 1) := by decide +kernel
theorem d_S_lay_29 : decode b_S_lay 29 = .ok (.iastore, 1) := by decide +kernel
theorem d_S_lay_30 : decode b_S_lay 30 = .ok (.iinc 4 1, 3) := by decide +kernel
theorem d_S_lay_33 : decode b_S_lay 33 = .ok (.goto (-25), 3) := by decide +kernel
theorem d_S_lay_36 : decode b_S_lay 36 = .ok (.iconst 0, 1) := by decide +kernel
theorem d_S_lay_37 : decode b_S_lay 37 = .ok (.istore 4, 2) := by decide +kernel
theorem d_S_lay_39 : decode b_S_lay 39 = .ok (.iload 4, 2) := by decide +kernel
theorem d_S_lay_41 : decode b_S_lay 41 = .ok (.aload_n 2, 1) := by decide +kernel
theorem d_S_lay_42 : decode b_S_lay 42 = .ok (.getfield 32, 3) := by decide +kernel
theorem d_S_lay_45 : decode b_S_lay 45 = .ok (.if_icmp .ge 56, 3) := by decide +kernel
theorem d_S_lay_48 : decode b_S_lay 48 = .ok (.iconst 1, 1) := by decide +kernel
theorem d_S_lay_49 : decode b_S_lay 49 = .ok (.iload 4, 2) := by decide +kernel
theorem d_S_lay_51 : decode b_S_lay 51 = .ok (.ishl, 1) := by decide +kernel
theorem d_S_lay_52 : decode b_S_lay 52 = .ok (.istore 5, 2) := by decide +kernel
theorem d_S_lay_54 : decode b_S_lay 54 = .ok (.iload 5, 2) := by decide +kernel
theorem d_S_lay_56 : decode b_S_lay 56 = .ok (.istore 6, 2) := by decide +kernel
theorem d_S_lay_58 : decode b_S_lay 58 = .ok (.iload 6, 2) := by decide +kernel
theorem d_S_lay_60 : decode b_S_lay 60 = .ok (.aload_n 0, 1) := by decide +kernel
theorem d_S_lay_61 : decode b_S_lay 61 = .ok (.getfield 38, 3) := by decide +kernel
theorem d_S_lay_64 : decode b_S_lay 64 = .ok (.if_icmp .ge 31, 3) := by decide +kernel
theorem d_S_lay_67 : decode b_S_lay 67 = .ok (.iload 6, 2) := by decide +kernel
theorem d_S_lay_69 : decode b_S_lay 69 = .ok (.iload 5, 2) := by decide +kernel
theorem d_S_lay_71 : decode b_S_lay 71 = .ok (.iand, 1) := by decide +kernel
theorem d_S_lay_72 : decode b_S_lay 72 = .ok (.ifCond .eq 17, 3) := by decide +kernel
theorem d_S_lay_75 : decode b_S_lay 75 = .ok (.aload_n 3, 1) := by decide +kernel
theorem d_S_lay_76 : decode b_S_lay 76 = .ok (.iload 6, 2) := by decide +kernel
theorem d_S_lay_78 : decode b_S_lay 78 = .ok (.dup2, 1) := by decide +kernel
theorem d_S_lay_79 : decode b_S_lay 79 = .ok (.iaload, 1) := by decide +kernel
theorem d_S_lay_80 : decode b_S_lay 80 = .ok (.aload_n 3, 1) := by decide +kernel
theorem d_S_lay_81 : decode b_S_lay 81 = .ok (.iload 6, 2) := by decide +kernel
theorem d_S_lay_83 : decode b_S_lay 83 = .ok (.iload 5, 2) := by decide +kernel
theorem d_S_lay_85 : decode b_S_lay 85 = .ok (.ixor, 1) := by decide +kernel
theorem d_S_lay_86 : decode b_S_lay 86 = .ok (.iaload, 1) := by decide +kernel
theorem d_S_lay_87 : decode b_S_lay 87 = .ok (.ior, 1) := by decide +kernel
theorem d_S_lay_88 : decode b_S_lay 88 = .ok (.iastore, 1) := by decide +kernel
theorem d_S_lay_89 : decode b_S_lay 89 = .ok (.iinc 6 1, 3) := by decide +kernel
theorem d_S_lay_92 : decode b_S_lay 92 = .ok (.goto (-34), 3) := by decide +kernel
theorem d_S_lay_95 : decode b_S_lay 95 = .ok (.iinc 4 1, 3) := by decide +kernel
theorem d_S_lay_98 : decode b_S_lay 98 = .ok (.goto (-59), 3) := by decide +kernel
theorem d_S_lay_101 : decode b_S_lay 101 = .ok (.return_, 1) := by decide +kernel
theorem d_S_grow_0 : decode b_S_grow 0 = .ok (.iload_n 2, 1) := by decide +kernel
theorem d_S_grow_1 : decode b_S_grow 1 = .ok (.iconst 1, 1) := by decide +kernel
theorem d_S_grow_2 : decode b_S_grow 2 = .ok (.iload_n 3, 1) := by decide +kernel
theorem d_S_grow_3 : decode b_S_grow 3 = .ok (.ishl, 1) := by decide +kernel
theorem d_S_grow_4 : decode b_S_grow 4 = .ok (.ior, 1) := by decide +kernel
theorem d_S_grow_5 : decode b_S_grow 5 = .ok (.istore 4, 2) := by decide +kernel
theorem d_S_grow_7 : decode b_S_grow 7 = .ok (.iconst 1, 1) := by decide +kernel
theorem d_S_grow_8 : decode b_S_grow 8 = .ok (.aload_n 1, 1) := by decide +kernel
theorem d_S_grow_9 : decode b_S_grow 9 = .ok (.getfield 71, 3) := by decide +kernel
theorem d_S_grow_12 : decode b_S_grow 12 = .ok (.iload_n 3, 1) := by decide +kernel
theorem d_S_grow_13 : decode b_S_grow 13 = .ok (.iaload, 1) := by decide +kernel
theorem d_S_grow_14 : decode b_S_grow 14 = .ok (.invokestatic 74, 3) := by decide +kernel
theorem d_S_grow_17 : decode b_S_grow 17 = .ok (.istore 5, 2) := by decide +kernel
theorem d_S_grow_19 : decode b_S_grow 19 = .ok (.aload_n 0, 1) := by decide +kernel
theorem d_S_grow_20 : decode b_S_grow 20 = .ok (.getfield 9, 3) := by decide +kernel
theorem d_S_grow_23 : decode b_S_grow 23 = .ok (.iload_n 2, 1) := by decide +kernel
theorem d_S_grow_24 : decode b_S_grow 24 = .ok (.laload, 1) := by decide +kernel
theorem d_S_grow_25 : decode b_S_grow 25 = .ok (.ldc2_w 80, 3) := by decide +kernel
theorem d_S_grow_28 : decode b_S_grow 28 = .ok (.iload 5, 2) := by decide +kernel
theorem d_S_grow_30 : decode b_S_grow 30 = .ok (.i2l, 1) := by decide +kernel
theorem d_S_grow_31 : decode b_S_grow 31 = .ok (.ldiv, 1) := by decide +kernel
theorem d_S_grow_32 : decode b_S_grow 32 = .ok (.lcmp, 1) := by decide +kernel
theorem d_S_grow_33 : decode b_S_grow 33 = .ok (.ifCond .le 7, 3) := by decide +kernel
theorem d_S_grow_36 : decode b_S_grow 36 = .ok (.iconst 1, 1) := by decide +kernel
theorem d_S_grow_37 : decode b_S_grow 37 = .ok (.goto 4, 3) := by decide +kernel
theorem d_S_grow_40 : decode b_S_grow 40 = .ok (.iconst 0, 1) := by decide +kernel
theorem d_S_grow_41 : decode b_S_grow 41 = .ok (.istore 6, 2) := by decide +kernel
theorem d_S_grow_43 : decode b_S_grow 43 = .ok (.iload 6, 2) := by decide +kernel
theorem d_S_grow_45 : decode b_S_grow 45 = .ok (.ifCond .eq 9, 3) := by decide +kernel
theorem d_S_grow_48 : decode b_S_grow 48 = .ok (.ldc2_w 80, 3) := by decide +kernel
theorem d_S_grow_51 : decode b_S_grow 51 = .ok (.goto 13, 3) := by decide +kernel
theorem d_S_grow_54 : decode b_S_grow 54 = .ok (.aload_n 0, 1) := by decide +kernel
theorem d_S_grow_55 : decode b_S_grow 55 = .ok (.getfield 9, 3) := by decide +kernel
theorem d_S_grow_58 : decode b_S_grow 58 = .ok (.iload_n 2, 1) := by decide +kernel
theorem d_S_grow_59 : decode b_S_grow 59 = .ok (.laload, 1) := by decide +kernel
theorem d_S_grow_60 : decode b_S_grow 60 = .ok (.iload 5, 2) := by decide +kernel
theorem d_S_grow_62 : decode b_S_grow 62 = .ok (.i2l, 1) := by decide +kernel
theorem d_S_grow_63 : decode b_S_grow 63 = .ok (.lmul, 1) := by decide +kernel
theorem d_S_grow_64 : decode b_S_grow 64 = .ok (.lstore 7, 2) := by decide +kernel
theorem d_S_grow_66 : decode b_S_grow 66 = .ok (.aload_n 0, 1) := by decide +kernel
theorem d_S_grow_67 : decode b_S_grow 67 = .ok (.iload 4, 2) := by decide +kernel
theorem d_S_grow_69 : decode b_S_grow 69 = .ok (.invokevirtual 82, 3) := by decide +kernel
theorem d_S_grow_72 : decode b_S_grow 72 = .ok (.aload_n 0, 1) := by decide +kernel
theorem d_S_grow_73 : decode b_S_grow 73 = .ok (.iload_n 2, 1) := by decide +kernel
theorem d_S_grow_74 : decode b_S_grow 74 = .ok (.invokevirtual 82, 3) := by decide +kernel
theorem d_S_grow_77 : decode b_S_grow 77 = .ok (.iconst (-1), 1) := by decide +kernel
theorem d_S_grow_78 : decode b_S_grow 78 = .ok (.ixor, 1) := by decide +kernel
theorem d_S_grow_79 : decode b_S_grow 79 = .ok (.iand, 1) := by decide +kernel
theorem d_S_grow_80 : decode b_S_grow 80 = .ok (.istore 9, 2) := by decide +kernel
theorem d_S_grow_82 : decode b_S_grow 82 = .ok (.iconst 0, 1) := by decide +kernel
theorem d_S_grow_83 : decode b_S_grow 83 = .ok (.istore 10, 2) := by decide +kernel
theorem d_S_grow_85 : decode b_S_grow 85 = .ok (.iload 10, 2) := by decide +kernel
theorem d_S_grow_87 : decode b_S_grow 87 = .ok (.aload_n 1, 1) := by decide +kernel
theorem d_S_grow_88 : decode b_S_grow 88 = .ok (.getfield 68, 3) := by decide +kernel
theorem d_S_grow_91 : decode b_S_grow 91 = .ok (.if_icmp .ge 40, 3) := by decide +kernel
theorem d_S_grow_94 : decode b_S_grow 94 = .ok (.iload 9, 2) := by decide +kernel
theorem d_S_grow_96 : decode b_S_grow 96 = .ok (.iload 10, 2) := by decide +kernel
theorem d_S_grow_98 : decode b_S_grow 98 = .ok (.ishr, 1) := by decide +kernel
theorem d_S_grow_99 : decode b_S_grow 99 = .ok (.iconst 1, 1) := by decide +kernel
theorem d_S_grow_100 : decode b_S_grow 100 = .ok (.iand, 1) := by decide +kernel
theorem d_S_grow_101 : decode b_S_grow 101 = .ok (.ifCond .eq 24, 3) := by decide +kernel
theorem d_S_grow_104 : decode b_S_grow 104 = .ok (.lconst 1, 1) := by decide +kernel
theorem d_S_grow_105 : decode b_S_grow 105 = .ok (.lload 7, 2) := by decide +kernel
theorem d_S_grow_107 : decode b_S_grow 107 = .ok (.iconst 1, 1) := by decide +kernel
theorem d_S_grow_108 : decode b_S_grow 108 = .ok (.aload_n 1, 1) := by decide +kernel
theorem d_S_grow_109 : decode b_S_grow 109 = .ok (.getfield 86, 3) := by decide +kernel
theorem d_S_grow_112 : decode b_S_grow 112 = .ok (.iload 10, 2) := by decide +kernel
theorem d_S_grow_114 : decode b_S_grow 114 = .ok (.iaload, 1) := by decide +kernel
theorem d_S_grow_115 : decode b_S_grow 115 = .ok (.invokestatic 74, 3) := by decide +kernel
theorem d_S_grow_118 : decode b_S_grow 118 = .ok (.i2l, 1) := by decide +kernel
theorem d_S_grow_119 : decode b_S_grow 119 = .ok (.ldiv, 1) := by decide +kernel
theorem d_S_grow_120 : decode b_S_grow 120 = .ok (.invokestatic 89, 3) := by decide +kernel
theorem d_S_grow_123 : decode b_S_grow 123 = .ok (.lstore 7, 2) := by decide +kernel
theorem d_S_grow_125 : decode b_S_grow 125 = .ok (.iinc 10 1, 3) := by decide +kernel
theorem d_S_grow_128 : decode b_S_grow 128 = .ok (.goto (-43), 3) := by decide +kernel
theorem d_S_grow_131 : decode b_S_grow 131 = .ok (.aload_n 0, 1) := by decide +kernel
theorem d_S_grow_132 : decode b_S_grow 132 = .ok (.getfield 9, 3) := by decide +kernel
theorem d_S_grow_135 : decode b_S_grow 135 = .ok (.iload 4, 2) := by decide +kernel
theorem d_S_grow_137 : decode b_S_grow 137 = .ok (.lload 7, 2) := by decide +kernel
theorem d_S_grow_139 : decode b_S_grow 139 = .ok (.lastore, 1) := by decide +kernel
theorem d_S_grow_140 : decode b_S_grow 140 = .ok (.aload_n 0, 1) := by decide +kernel
theorem d_S_grow_141 : decode b_S_grow 141 = .ok (.getfield 15, 3) := by decide +kernel
theorem d_S_grow_144 : decode b_S_grow 144 = .ok (.iload 4, 2) := by decide +kernel
theorem d_S_grow_146 : decode b_S_grow 146 = .ok (.iload 6, 2) := by decide +kernel
theorem d_S_grow_148 : decode b_S_grow 148 = .ok (.ifCond .ne 12, 3) := by decide +kernel
theorem d_S_grow_151 : decode b_S_grow 151 = .ok (.aload_n 0, 1) := by decide +kernel
theorem d_S_grow_152 : decode b_S_grow 152 = .ok (.getfield 15, 3) := by decide +kernel
theorem d_S_grow_155 : decode b_S_grow 155 = .ok (.iload_n 2, 1) := by decide +kernel
theorem d_S_grow_156 : decode b_S_grow 156 = .ok (.baload, 1) := by decide +kernel
theorem d_S_grow_157 : decode b_S_grow 157 = .ok (.ifCond .eq 7, 3) := by decide +kernel
theorem d_S_grow_160 : decode b_S_grow 160 = .ok (.iconst 1, 1) := by decide +kernel
theorem d_S_grow_161 : decode b_S_grow 161 = .ok (.goto 4, 3) := by decide +kernel
theorem d_S_grow_164 : decode b_S_grow 164 = .ok (.iconst 0, 1) := by decide +kernel
theorem d_S_grow_165 : decode b_S_grow 165 = .ok (.bastore, 1) := by decide +kernel
theorem d_S_grow_166 : decode b_S_grow 166 = .ok (.aload_n 0, 1) := by decide +kernel
theorem d_S_grow_167 : decode b_S_grow 167 = .ok (.dup, 1) := by decide +kernel
theorem d_S_grow_168 : decode b_S_grow 168 = .ok (.getfield 51, 3) := by decide +kernel
theorem d_S_grow_171 : decode b_S_grow 171 = .ok (.aload_n 0, 1) := by decide +kernel
theorem d_S_grow_172 : decode b_S_grow 172 = .ok (.getfield 15, 3) := by decide +kernel
theorem d_S_grow_175 : decode b_S_grow 175 = .ok (.iload 4, 2) := by decide +kernel
theorem d_S_grow_177 : decode b_S_grow 177 = .ok (.baload, 1) := by decide +kernel
theorem d_S_grow_178 : decode b_S_grow 178 = .ok (.ifCond .eq 7, 3) := by decide +kernel
theorem d_S_grow_181 : decode b_S_grow 181 = .ok (.iconst 1, 1) := by decide +kernel
theorem d_S_grow_182 : decode b_S_grow 182 = .ok (.goto 4, 3) := by decide +kernel
theorem d_S_grow_185 : decode b_S_grow 185 = .ok (.iconst 0, 1) := by decide +kernel
theorem d_S_grow_186 : decode b_S_grow 186 = .ok (.iadd, 1) := by decide +kernel
theorem d_S_grow_187 : decode b_S_grow 187 = .ok (.putfield 51, 3) := by decide +kernel
theorem d_S_grow_190 : decode b_S_grow 190 = .ok (.return_, 1) := by decide +kernel
theorem d_S_edgesIn_0 : decode b_S_edgesIn 0 = .ok (.aload_n 0, 1) := by decide +kernel
theorem d_S_edgesIn_1 : decode b_S_edgesIn 1 = .ok (.getfield 22, 3) := by decide +kernel
theorem d_S_edgesIn_4 : decode b_S_edgesIn 4 = .ok (.iload_n 1, 1) := by decide +kernel
theorem d_S_edgesIn_5 : decode b_S_edgesIn 5 = .ok (.iaload, 1) := by decide +kernel
theorem d_S_edgesIn_6 : decode b_S_edgesIn 6 = .ok (.aload_n 0, 1) := by decide +kernel
theorem d_S_edgesIn_7 : decode b_S_edgesIn 7 = .ok (.getfield 26, 3) := by decide +kernel
theorem d_S_edgesIn_10 : decode b_S_edgesIn 10 = .ok (.iload_n 1, 1) := by decide +kernel
theorem d_S_edgesIn_11 : decode b_S_edgesIn 11 = .ok (.iaload, 1) := by decide +kernel
theorem d_S_edgesIn_12 : decode b_S_edgesIn 12 = .ok (.iand, 1) := by decide +kernel
theorem d_S_edgesIn_13 : decode b_S_edgesIn 13 = .ok (.ireturn, 1) := by decide +kernel
theorem d_S_findPairs_0 : decode b_S_findPairs 0 = .ok (.aload_n 0, 1) := by decide +kernel
theorem d_S_findPairs_1 : decode b_S_findPairs 1 = .ok (.iconst 0, 1) := by decide +kernel
theorem d_S_findPairs_2 : decode b_S_findPairs 2 = .ok (.putfield 92, 3) := by decide +kernel
theorem d_S_findPairs_5 : decode b_S_findPairs 5 = .ok (.aload_n 0, 1) := by decide +kernel
theorem d_S_findPairs_6 : decode b_S_findPairs 6 = .ok (.iconst 0, 1) := by decide +kernel
theorem d_S_findPairs_7 : decode b_S_findPairs 7 = .ok (.putfield 95, 3) := by decide +kernel
theorem d_S_findPairs_10 : decode b_S_findPairs 10 = .ok (.iconst 1, 1) := by decide +kernel
theorem d_S_findPairs_11 : decode b_S_findPairs 11 = .ok (.istore_n 1, 1) := by decide +kernel
theorem d_S_findPairs_12 : decode b_S_findPairs 12 = .ok (.iload_n 1, 1) := by decide +kernel
theorem d_S_findPairs_13 : decode b_S_findPairs 13 = .ok (.aload_n 0, 1) := by decide +kernel
theorem d_S_findPairs_14 : decode b_S_findPairs 14 = .ok (.getfield 38, 3) := by decide +kernel
theorem d_S_findPairs_17 : decode b_S_findPairs 17 = .ok (.if_icmp .ge 85, 3) := by decide +kernel
theorem d_S_findPairs_20 : decode b_S_findPairs 20 = .ok (.aload_n 0, 1) := by decide +kernel
theorem d_S_findPairs_21 : decode b_S_findPairs 21 = .ok (.getfield 29, 3) := by decide +kernel
theorem d_S_findPairs_24 : decode b_S_findPairs 24 = .ok (.iload_n 1, 1) := by decide +kernel
theorem d_S_findPairs_25 : decode b_S_findPairs 25 = .ok (.aload_n 0, 1) := by decide +kernel
theorem d_S_findPairs_26 : decode b_S_findPairs 26 = .ok (.iload_n 1, 1) := by decide +kernel
theorem d_S_findPairs_27 : decode b_S_findPairs 27 = .ok (.invokevirtual 98, 3) := by decide +kernel
theorem d_S_findPairs_30 : decode b_S_findPairs 30 = .ok (.iastore, 1) := by decide +kernel
theorem d_S_findPairs_31 : decode b_S_findPairs 31 = .ok (.aload_n 0, 1) := by decide +kernel
theorem d_S_findPairs_32 : decode b_S_findPairs 32 = .ok (.dup, 1) := by decide +kernel
theorem d_S_findPairs_33 : decode b_S_findPairs 33 = .ok (.getfield 95, 3) := by decide +kernel
theorem d_S_findPairs_36 : decode b_S_findPairs 36 = .ok (.aload_n 0, 1) := by decide +kernel
theorem d_S_findPairs_37 : decode b_S_findPairs 37 = .ok (.getfield 29, 3) := by decide +kernel
theorem d_S_findPairs_40 : decode b_S_findPairs 40 = .ok (.iload_n 1, 1) := by decide +kernel
theorem d_S_findPairs_41 : decode b_S_findPairs 41 = .ok (.iaload, 1) := by decide +kernel
theorem d_S_findPairs_42 : decode b_S_findPairs 42 = .ok (.iadd, 1) := by decide +kernel
theorem d_S_findPairs_43 : decode b_S_findPairs 43 = .ok (.putfield 95, 3) := by decide +kernel
theorem d_S_findPairs_46 : decode b_S_findPairs 46 = .ok (.aload_n 0, 1) := by decide +kernel
theorem d_S_findPairs_47 : decode b_S_findPairs 47 = .ok (.getfield 19, 3) := by decide +kernel
theorem d_S_findPairs_50 : decode b_S_findPairs 50 = .ok (.iload_n 1, 1) := by decide +kernel
theorem d_S_findPairs_51 : decode b_S_findPairs 51 = .ok (.aload_n 0, 1) := by decide +kernel
theorem d_S_findPairs_52 : decode b_S_findPairs 52 = .ok (.getfield 29, 3) := by decide +kernel
theorem d_S_findPairs_55 : decode b_S_findPairs 55 = .ok (.iload_n 1, 1) := by decide +kernel
theorem d_S_findPairs_56 : decode b_S_findPairs 56 = .ok (.iaload, 1) := by decide +kernel
theorem d_S_findPairs_57 : decode b_S_findPairs 57 = .ok (.ifCond .gt 10, 3) := by decide +kernel
theorem d_S_findPairs_60 : decode b_S_findPairs 60 = .ok (.iload_n 1, 1) := by decide +kernel
theorem d_S_findPairs_61 : decode b_S_findPairs 61 = .ok (.invokestatic 101, 3) := by decide +kernel
theorem d_S_findPairs_64 : decode b_S_findPairs 64 = .ok (.ifCond .eq 7, 3) := by decide +kernel
theorem d_S_findPairs_67 : decode b_S_findPairs 67 = .ok (.iconst 1, 1) := by decide +kernel
theorem d_S_findPairs_68 : decode b_S_findPairs 68 = .ok (.goto 4, 3) := by decide +kernel
theorem d_S_findPairs_71 : decode b_S_findPairs 71 = .ok (.iconst 0, 1) := by decide +kernel
theorem d_S_findPairs_72 : decode b_S_findPairs 72 = .ok (.bastore, 1) := by decide +kernel
theorem d_S_findPairs_73 : decode b_S_findPairs 73 = .ok (.aload_n 0, 1) := by decide +kernel
theorem d_S_findPairs_74 : decode b_S_findPairs 74 = .ok (.dup, 1) := by decide +kernel
theorem d_S_findPairs_75 : decode b_S_findPairs 75 = .ok (.getfield 92, 3) := by decide +kernel
theorem d_S_findPairs_78 : decode b_S_findPairs 78 = .ok (.aload_n 0, 1) := by decide +kernel
theorem d_S_findPairs_79 : decode b_S_findPairs 79 = .ok (.getfield 19, 3) := by decide +kernel
theorem d_S_findPairs_82 : decode b_S_findPairs 82 = .ok (.iload_n 1, 1) := by decide +kernel
theorem d_S_findPairs_83 : decode b_S_findPairs 83 = .ok (.baload, 1) := by decide +kernel
theorem d_S_findPairs_84 : decode b_S_findPairs 84 = .ok (.ifCond .eq 7, 3) := by decide +kernel
theorem d_S_findPairs_87 : decode b_S_findPairs 87 = .ok (.iconst 1, 1) := by decide +kernel
theorem d_S_findPairs_88 : decode b_S_findPairs 88 = .ok (.goto 4, 3) := by decide +kernel
theorem d_S_findPairs_91 : decode b_S_findPairs 91 = .ok (.iconst 0, 1) := by decide +kernel
theorem d_S_findPairs_92 : decode b_S_findPairs 92 = .ok (.iadd, 1) := by decide +kernel
theorem d_S_findPairs_93 : decode b_S_findPairs 93 = .ok (.putfield 92, 3) := by decide +kernel
theorem d_S_findPairs_96 : decode b_S_findPairs 96 = .ok (.iinc 1 1, 3) := by decide +kernel
theorem d_S_findPairs_99 : decode b_S_findPairs 99 = .ok (.goto (-87), 3) := by decide +kernel
theorem d_S_findPairs_102 : decode b_S_findPairs 102 = .ok (.aload_n 0, 1) := by decide +kernel
theorem d_S_findPairs_103 : decode b_S_findPairs 103 = .ok (.iconst 1, 1) := by decide +kernel
theorem d_S_findPairs_104 : decode b_S_findPairs 104 = .ok (.putfield 105, 3) := by decide +kernel
theorem d_S_findPairs_107 : decode b_S_findPairs 107 = .ok (.return_, 1) := by decide +kernel
theorem d_S_countPairs_0 : decode b_S_countPairs 0 = .ok (.iconst 0, 1) := by decide +kernel
theorem d_S_countPairs_1 : decode b_S_countPairs 1 = .ok (.istore_n 2, 1) := by decide +kernel
theorem d_S_countPairs_2 : decode b_S_countPairs 2 = .ok (.iload_n 1, 1) := by decide +kernel
theorem d_S_countPairs_3 : decode b_S_countPairs 3 = .ok (.invokestatic 108, 3) := by decide +kernel
theorem d_S_countPairs_6 : decode b_S_countPairs 6 = .ok (.istore_n 3, 1) := by decide +kernel
theorem d_S_countPairs_7 : decode b_S_countPairs 7 = .ok (.iload_n 1, 1) := by decide +kernel
theorem d_S_countPairs_8 : decode b_S_countPairs 8 = .ok (.invokestatic 111, 3) := by decide +kernel
theorem d_S_countPairs_11 : decode b_S_countPairs 11 = .ok (.istore 4, 2) := by decide +kernel
theorem d_S_countPairs_13 : decode b_S_countPairs 13 = .ok (.iconst 0, 1) := by decide +kernel
theorem d_S_countPairs_14 : decode b_S_countPairs 14 = .ok (.istore 5, 2) := by decide +kernel
theorem d_S_countPairs_16 : decode b_S_countPairs 16 = .ok (.iload 5, 2) := by decide +kernel
theorem d_S_countPairs_18 : decode b_S_countPairs 18 = .ok (.iload_n 3, 1) := by decide +kernel
theorem d_S_countPairs_19 : decode b_S_countPairs 19 = .ok (.if_icmp .ge 38, 3) := by decide +kernel
theorem d_S_countPairs_22 : decode b_S_countPairs 22 = .ok (.iload_n 2, 1) := by decide +kernel
theorem d_S_countPairs_23 : decode b_S_countPairs 23 = .ok (.aload_n 0, 1) := by decide +kernel
theorem d_S_countPairs_24 : decode b_S_countPairs 24 = .ok (.iload 4, 2) := by decide +kernel
theorem d_S_countPairs_26 : decode b_S_countPairs 26 = .ok (.iload_n 1, 1) := by decide +kernel
theorem d_S_countPairs_27 : decode b_S_countPairs 27 = .ok (.iload 4, 2) := by decide +kernel
theorem d_S_countPairs_29 : decode b_S_countPairs 29 = .ok (.ixor, 1) := by decide +kernel
theorem d_S_countPairs_30 : decode b_S_countPairs 30 = .ok (.invokevirtual 114, 3) := by decide +kernel
theorem d_S_countPairs_33 : decode b_S_countPairs 33 = .ok (.ifCond .eq 7, 3) := by decide +kernel
theorem d_S_countPairs_36 : decode b_S_countPairs 36 = .ok (.iconst 1, 1) := by decide +kernel
theorem d_S_countPairs_37 : decode b_S_countPairs 37 = .ok (.goto 4, 3) := by decide +kernel
theorem d_S_countPairs_40 : decode b_S_countPairs 40 = .ok (.iconst 0, 1) := by decide +kernel
theorem d_S_countPairs_41 : decode b_S_countPairs 41 = .ok (.iadd, 1) := by decide +kernel
theorem d_S_countPairs_42 : decode b_S_countPairs 42 = .ok (.istore_n 2, 1) := by decide +kernel
theorem d_S_countPairs_43 : decode b_S_countPairs 43 = .ok (.iload_n 1, 1) := by decide +kernel
theorem d_S_countPairs_44 : decode b_S_countPairs 44 = .ok (.iload 4, 2) := by decide +kernel
theorem d_S_countPairs_46 : decode b_S_countPairs 46 = .ok (.invokestatic 118, 3) := by decide +kernel
theorem d_S_countPairs_49 : decode b_S_countPairs 49 = .ok (.istore 4, 2) := by decide +kernel
theorem d_S_countPairs_51 : decode b_S_countPairs 51 = .ok (.iinc 5 1, 3) := by decide +kernel
theorem d_S_countPairs_54 : decode b_S_countPairs 54 = .ok (.goto (-38), 3) := by decide +kernel
theorem d_S_countPairs_57 : decode b_S_countPairs 57 = .ok (.iload_n 2, 1) := by decide +kernel
theorem d_S_countPairs_58 : decode b_S_countPairs 58 = .ok (.ireturn, 1) := by decide +kernel
theorem d_S_isPair_0 : decode b_S_isPair 0 = .ok (.aload_n 0, 1) := by decide +kernel
theorem d_S_isPair_1 : decode b_S_isPair 1 = .ok (.getfield 19, 3) := by decide +kernel
theorem d_S_isPair_4 : decode b_S_isPair 4 = .ok (.iload_n 1, 1) := by decide +kernel
theorem d_S_isPair_5 : decode b_S_isPair 5 = .ok (.baload, 1) := by decide +kernel
theorem d_S_isPair_6 : decode b_S_isPair 6 = .ok (.ifCond .eq 25, 3) := by decide +kernel
theorem d_S_isPair_9 : decode b_S_isPair 9 = .ok (.aload_n 0, 1) := by decide +kernel
theorem d_S_isPair_10 : decode b_S_isPair 10 = .ok (.getfield 19, 3) := by decide +kernel
theorem d_S_isPair_13 : decode b_S_isPair 13 = .ok (.iload_n 2, 1) := by decide +kernel
theorem d_S_isPair_14 : decode b_S_isPair 14 = .ok (.baload, 1) := by decide +kernel
theorem d_S_isPair_15 : decode b_S_isPair 15 = .ok (.ifCond .eq 16, 3) := by decide +kernel
theorem d_S_isPair_18 : decode b_S_isPair 18 = .ok (.aload_n 0, 1) := by decide +kernel
theorem d_S_isPair_19 : decode b_S_isPair 19 = .ok (.iload_n 1, 1) := by decide +kernel
theorem d_S_isPair_20 : decode b_S_isPair 20 = .ok (.iload_n 2, 1) := by decide +kernel
theorem d_S_isPair_21 : decode b_S_isPair 21 = .ok (.invokevirtual 121, 3) := by decide +kernel
theorem d_S_isPair_24 : decode b_S_isPair 24 = .ok (.ifCond .eq 7, 3) := by decide +kernel
theorem d_S_isPair_27 : decode b_S_isPair 27 = .ok (.iconst 1, 1) := by decide +kernel
theorem d_S_isPair_28 : decode b_S_isPair 28 = .ok (.goto 4, 3) := by decide +kernel
theorem d_S_isPair_31 : decode b_S_isPair 31 = .ok (.iconst 0, 1) := by decide +kernel
theorem d_S_isPair_32 : decode b_S_isPair 32 = .ok (.ireturn, 1) := by decide +kernel
theorem d_S_areJoined_0 : decode b_S_areJoined 0 = .ok (.aload_n 0, 1) := by decide +kernel
theorem d_S_areJoined_1 : decode b_S_areJoined 1 = .ok (.getfield 22, 3) := by decide +kernel
theorem d_S_areJoined_4 : decode b_S_areJoined 4 = .ok (.iload_n 1, 1) := by decide +kernel
theorem d_S_areJoined_5 : decode b_S_areJoined 5 = .ok (.iaload, 1) := by decide +kernel
theorem d_S_areJoined_6 : decode b_S_areJoined 6 = .ok (.aload_n 0, 1) := by decide +kernel
theorem d_S_areJoined_7 : decode b_S_areJoined 7 = .ok (.getfield 26, 3) := by decide +kernel
theorem d_S_areJoined_10 : decode b_S_areJoined 10 = .ok (.iload_n 2, 1) := by decide +kernel
theorem d_S_areJoined_11 : decode b_S_areJoined 11 = .ok (.iaload, 1) := by decide +kernel
theorem d_S_areJoined_12 : decode b_S_areJoined 12 = .ok (.iand, 1) := by decide +kernel
theorem d_S_areJoined_13 : decode b_S_areJoined 13 = .ok (.aload_n 0, 1) := by decide +kernel
theorem d_S_areJoined_14 : decode b_S_areJoined 14 = .ok (.getfield 22, 3) := by decide +kernel
theorem d_S_areJoined_17 : decode b_S_areJoined 17 = .ok (.iload_n 2, 1) := by decide +kernel
theorem d_S_areJoined_18 : decode b_S_areJoined 18 = .ok (.iaload, 1) := by decide +kernel
theorem d_S_areJoined_19 : decode b_S_areJoined 19 = .ok (.aload_n 0, 1) := by decide +kernel
theorem d_S_areJoined_20 : decode b_S_areJoined 20 = .ok (.getfield 26, 3) := by decide +kernel
theorem d_S_areJoined_23 : decode b_S_areJoined 23 = .ok (.iload_n 1, 1) := by decide +kernel
theorem d_S_areJoined_24 : decode b_S_areJoined 24 = .ok (.iaload, 1) := by decide +kernel
theorem d_S_areJoined_25 : decode b_S_areJoined 25 = .ok (.iand, 1) := by decide +kernel
theorem d_S_areJoined_26 : decode b_S_areJoined 26 = .ok (.ior, 1) := by decide +kernel
theorem d_S_areJoined_27 : decode b_S_areJoined 27 = .ok (.ifCond .eq 7, 3) := by decide +kernel
theorem d_S_areJoined_30 : decode b_S_areJoined 30 = .ok (.iconst 1, 1) := by decide +kernel
theorem d_S_areJoined_31 : decode b_S_areJoined 31 = .ok (.goto 4, 3) := by decide +kernel
theorem d_S_areJoined_34 : decode b_S_areJoined 34 = .ok (.iconst 0, 1) := by decide +kernel
theorem d_S_areJoined_35 : decode b_S_areJoined 35 = .ok (.ireturn, 1) := by decide +kernel
theorem d_S_partOfPair_0 : decode b_S_partOfPair 0 = .ok (.iload_n 1, 1) := by decide +kernel
theorem d_S_partOfPair_1 : decode b_S_partOfPair 1 = .ok (.istore_n 3, 1) := by decide +kernel
theorem d_S_partOfPair_2 : decode b_S_partOfPair 2 = .ok (.iconst 1, 1) := by decide +kernel
theorem d_S_partOfPair_3 : decode b_S_partOfPair 3 = .ok (.istore 4, 2) := by decide +kernel
theorem d_S_partOfPair_5 : decode b_S_partOfPair 5 = .ok (.iload 4, 2) := by decide +kernel
theorem d_S_partOfPair_7 : decode b_S_partOfPair 7 = .ok (.aload_n 0, 1) := by decide +kernel
theorem d_S_partOfPair_8 : decode b_S_partOfPair 8 = .ok (.getfield 38, 3) := by decide +kernel
theorem d_S_partOfPair_11 : decode b_S_partOfPair 11 = .ok (.if_icmp .ge 54, 3) := by decide +kernel
theorem d_S_partOfPair_14 : decode b_S_partOfPair 14 = .ok (.iload_n 3, 1) := by decide +kernel
theorem d_S_partOfPair_15 : decode b_S_partOfPair 15 = .ok (.aload_n 0, 1) := by decide +kernel
theorem d_S_partOfPair_16 : decode b_S_partOfPair 16 = .ok (.getfield 29, 3) := by decide +kernel
theorem d_S_partOfPair_19 : decode b_S_partOfPair 19 = .ok (.iload 4, 2) := by decide +kernel
theorem d_S_partOfPair_21 : decode b_S_partOfPair 21 = .ok (.iaload, 1) := by decide +kernel
theorem d_S_partOfPair_22 : decode b_S_partOfPair 22 = .ok (.if_icmp .ge 27, 3) := by decide +kernel
theorem d_S_partOfPair_25 : decode b_S_partOfPair 25 = .ok (.aload_n 0, 1) := by decide +kernel
theorem d_S_partOfPair_26 : decode b_S_partOfPair 26 = .ok (.iload 4, 2) := by decide +kernel
theorem d_S_partOfPair_28 : decode b_S_partOfPair 28 = .ok (.iload_n 3, 1) := by decide +kernel
theorem d_S_partOfPair_29 : decode b_S_partOfPair 29 = .ok (.invokevirtual 124, 3) := by decide +kernel
theorem d_S_partOfPair_32 : decode b_S_partOfPair 32 = .ok (.istore 5, 2) := by decide +kernel
theorem d_S_partOfPair_34 : decode b_S_partOfPair 34 = .ok (.iload_n 2, 1) := by decide +kernel
theorem d_S_partOfPair_35 : decode b_S_partOfPair 35 = .ok (.ifCond .eq 11, 3) := by decide +kernel
theorem d_S_partOfPair_38 : decode b_S_partOfPair 38 = .ok (.iload 4, 2) := by decide +kernel
theorem d_S_partOfPair_40 : decode b_S_partOfPair 40 = .ok (.iload 5, 2) := by decide +kernel
theorem d_S_partOfPair_42 : decode b_S_partOfPair 42 = .ok (.ixor, 1) := by decide +kernel
theorem d_S_partOfPair_43 : decode b_S_partOfPair 43 = .ok (.goto 5, 3) := by decide +kernel
theorem d_S_partOfPair_46 : decode b_S_partOfPair 46 = .ok (.iload 5, 2) := by decide +kernel
theorem d_S_partOfPair_48 : decode b_S_partOfPair 48 = .ok (.ireturn, 1) := by decide +kernel
theorem d_S_partOfPair_49 : decode b_S_partOfPair 49 = .ok (.iload_n 3, 1) := by decide +kernel
theorem d_S_partOfPair_50 : decode b_S_partOfPair 50 = .ok (.aload_n 0, 1) := by decide +kernel
theorem d_S_partOfPair_51 : decode b_S_partOfPair 51 = .ok (.getfield 29, 3) := by decide +kernel
theorem d_S_partOfPair_54 : decode b_S_partOfPair 54 = .ok (.iload 4, 2) := by decide +kernel
theorem d_S_partOfPair_56 : decode b_S_partOfPair 56 = .ok (.iaload, 1) := by decide +kernel
theorem d_S_partOfPair_57 : decode b_S_partOfPair 57 = .ok (.isub, 1) := by decide +kernel
theorem d_S_partOfPair_58 : decode b_S_partOfPair 58 = .ok (.istore_n 3, 1) := by decide +kernel
theorem d_S_partOfPair_59 : decode b_S_partOfPair 59 = .ok (.iinc 4 1, 3) := by decide +kernel
theorem d_S_partOfPair_62 : decode b_S_partOfPair 62 = .ok (.goto (-57), 3) := by decide +kernel
theorem d_S_partOfPair_65 : decode b_S_partOfPair 65 = .ok (.iconst (-1), 1) := by decide +kernel
theorem d_S_partOfPair_66 : decode b_S_partOfPair 66 = .ok (.ireturn, 1) := by decide +kernel
theorem d_S_firstOfPair_0 : decode b_S_firstOfPair 0 = .ok (.iload_n 2, 1) := by decide +kernel
theorem d_S_firstOfPair_1 : decode b_S_firstOfPair 1 = .ok (.istore_n 3, 1) := by decide +kernel
theorem d_S_firstOfPair_2 : decode b_S_firstOfPair 2 = .ok (.iload_n 1, 1) := by decide +kernel
theorem d_S_firstOfPair_3 : decode b_S_firstOfPair 3 = .ok (.invokestatic 108, 3) := by decide +kernel
theorem d_S_firstOfPair_6 : decode b_S_firstOfPair 6 = .ok (.istore 4, 2) := by decide +kernel
theorem d_S_firstOfPair_8 : decode b_S_firstOfPair 8 = .ok (.iload_n 1, 1) := by decide +kernel
theorem d_S_firstOfPair_9 : decode b_S_firstOfPair 9 = .ok (.invokestatic 111, 3) := by decide +kernel
theorem d_S_firstOfPair_12 : decode b_S_firstOfPair 12 = .ok (.istore 5, 2) := by decide +kernel
theorem d_S_firstOfPair_14 : decode b_S_firstOfPair 14 = .ok (.iconst 0, 1) := by decide +kernel
theorem d_S_firstOfPair_15 : decode b_S_firstOfPair 15 = .ok (.istore 6, 2) := by decide +kernel
theorem d_S_firstOfPair_17 : decode b_S_firstOfPair 17 = .ok (.iload 6, 2) := by decide +kernel
theorem d_S_firstOfPair_19 : decode b_S_firstOfPair 19 = .ok (.iload 4, 2) := by decide +kernel
theorem d_S_firstOfPair_21 : decode b_S_firstOfPair 21 = .ok (.if_icmp .ge 40, 3) := by decide +kernel
theorem d_S_firstOfPair_24 : decode b_S_firstOfPair 24 = .ok (.aload_n 0, 1) := by decide +kernel
theorem d_S_firstOfPair_25 : decode b_S_firstOfPair 25 = .ok (.iload 5, 2) := by decide +kernel
theorem d_S_firstOfPair_27 : decode b_S_firstOfPair 27 = .ok (.iload_n 1, 1) := by decide +kernel
theorem d_S_firstOfPair_28 : decode b_S_firstOfPair 28 = .ok (.iload 5, 2) := by decide +kernel
theorem d_S_firstOfPair_30 : decode b_S_firstOfPair 30 = .ok (.ixor, 1) := by decide +kernel
theorem d_S_firstOfPair_31 : decode b_S_firstOfPair 31 = .ok (.invokevirtual 114, 3) := by decide +kernel
theorem d_S_firstOfPair_34 : decode b_S_firstOfPair 34 = .ok (.ifCond .eq 13, 3) := by decide +kernel
theorem d_S_firstOfPair_37 : decode b_S_firstOfPair 37 = .ok (.iload_n 3, 1) := by decide +kernel
theorem d_S_firstOfPair_38 : decode b_S_firstOfPair 38 = .ok (.ifCond .ne 6, 3) := by decide +kernel
theorem d_S_firstOfPair_41 : decode b_S_firstOfPair 41 = .ok (.iload 5, 2) := by decide +kernel
theorem d_S_firstOfPair_43 : decode b_S_firstOfPair 43 = .ok (.ireturn, 1) := by decide +kernel
theorem d_S_firstOfPair_44 : decode b_S_firstOfPair 44 = .ok (.iinc 3 (-1), 3) := by decide +kernel
theorem d_S_firstOfPair_47 : decode b_S_firstOfPair 47 = .ok (.iload_n 1, 1) := by decide +kernel
theorem d_S_firstOfPair_48 : decode b_S_firstOfPair 48 = .ok (.iload 5, 2) := by decide +kernel
theorem d_S_firstOfPair_50 : decode b_S_firstOfPair 50 = .ok (.invokestatic 118, 3) := by decide +kernel
theorem d_S_firstOfPair_53 : decode b_S_firstOfPair 53 = .ok (.istore 5, 2) := by decide +kernel
theorem d_S_firstOfPair_55 : decode b_S_firstOfPair 55 = .ok (.iinc 6 1, 3) := by decide +kernel
theorem d_S_firstOfPair_58 : decode b_S_firstOfPair 58 = .ok (.goto (-41), 3) := by decide +kernel
theorem d_S_firstOfPair_61 : decode b_S_firstOfPair 61 = .ok (.iload 5, 2) := by decide +kernel
theorem d_S_firstOfPair_63 : decode b_S_firstOfPair 63 = .ok (.ireturn, 1) := by decide +kernel
theorem d_S_isCross_0 : decode b_S_isCross 0 = .ok (.aload_n 0, 1) := by decide +kernel
theorem d_S_isCross_1 : decode b_S_isCross 1 = .ok (.aload_n 1, 1) := by decide +kernel
theorem d_S_isCross_2 : decode b_S_isCross 2 = .ok (.getfield 127, 3) := by decide +kernel
theorem d_S_isCross_5 : decode b_S_isCross 5 = .ok (.iload_n 2, 1) := by decide +kernel
theorem d_S_isCross_6 : decode b_S_isCross 6 = .ok (.iaload, 1) := by decide +kernel
theorem d_S_isCross_7 : decode b_S_isCross 7 = .ok (.aload_n 1, 1) := by decide +kernel
theorem d_S_isCross_8 : decode b_S_isCross 8 = .ok (.getfield 132, 3) := by decide +kernel
theorem d_S_isCross_11 : decode b_S_isCross 11 = .ok (.iload_n 2, 1) := by decide +kernel
theorem d_S_isCross_12 : decode b_S_isCross 12 = .ok (.iaload, 1) := by decide +kernel
theorem d_S_isCross_13 : decode b_S_isCross 13 = .ok (.aload_n 1, 1) := by decide +kernel
theorem d_S_isCross_14 : decode b_S_isCross 14 = .ok (.getfield 127, 3) := by decide +kernel
theorem d_S_isCross_17 : decode b_S_isCross 17 = .ok (.iload_n 2, 1) := by decide +kernel
theorem d_S_isCross_18 : decode b_S_isCross 18 = .ok (.iaload, 1) := by decide +kernel
theorem d_S_isCross_19 : decode b_S_isCross 19 = .ok (.ixor, 1) := by decide +kernel
theorem d_S_isCross_20 : decode b_S_isCross 20 = .ok (.invokevirtual 121, 3) := by decide +kernel
theorem d_S_isCross_23 : decode b_S_isCross 23 = .ok (.ifCond .ne 7, 3) := by decide +kernel
theorem d_S_isCross_26 : decode b_S_isCross 26 = .ok (.iconst 1, 1) := by decide +kernel
theorem d_S_isCross_27 : decode b_S_isCross 27 = .ok (.goto 4, 3) := by decide +kernel
theorem d_S_isCross_30 : decode b_S_isCross 30 = .ok (.iconst 0, 1) := by decide +kernel
theorem d_S_isCross_31 : decode b_S_isCross 31 = .ok (.ireturn, 1) := by decide +kernel
theorem d_S_crossesOf_0 : decode b_S_crossesOf 0 = .ok (.iconst 0, 1) := by decide +kernel
theorem d_S_crossesOf_1 : decode b_S_crossesOf 1 = .ok (.istore_n 2, 1) := by decide +kernel
theorem d_S_crossesOf_2 : decode b_S_crossesOf 2 = .ok (.iconst 0, 1) := by decide +kernel
theorem d_S_crossesOf_3 : decode b_S_crossesOf 3 = .ok (.istore_n 3, 1) := by decide +kernel
theorem d_S_crossesOf_4 : decode b_S_crossesOf 4 = .ok (.iload_n 3, 1) := by decide +kernel
theorem d_S_crossesOf_5 : decode b_S_crossesOf 5 = .ok (.aload_n 1, 1) := by decide +kernel
theorem d_S_crossesOf_6 : decode b_S_crossesOf 6 = .ok (.getfield 135, 3) := by decide +kernel
theorem d_S_crossesOf_9 : decode b_S_crossesOf 9 = .ok (.if_icmp .ge 26, 3) := by decide +kernel
theorem d_S_crossesOf_12 : decode b_S_crossesOf 12 = .ok (.iload_n 2, 1) := by decide +kernel
theorem d_S_crossesOf_13 : decode b_S_crossesOf 13 = .ok (.aload_n 0, 1) := by decide +kernel
theorem d_S_crossesOf_14 : decode b_S_crossesOf 14 = .ok (.aload_n 1, 1) := by decide +kernel
theorem d_S_crossesOf_15 : decode b_S_crossesOf 15 = .ok (.iload_n 3, 1) := by decide +kernel
theorem d_S_crossesOf_16 : decode b_S_crossesOf 16 = .ok (.invokevirtual 138, 3) := by decide +kernel
theorem d_S_crossesOf_19 : decode b_S_crossesOf 19 = .ok (.ifCond .eq 7, 3) := by decide +kernel
theorem d_S_crossesOf_22 : decode b_S_crossesOf 22 = .ok (.iconst 1, 1) := by decide +kernel
theorem d_S_crossesOf_23 : decode b_S_crossesOf 23 = .ok (.goto 4, 3) := by decide +kernel
theorem d_S_crossesOf_26 : decode b_S_crossesOf 26 = .ok (.iconst 0, 1) := by decide +kernel
theorem d_S_crossesOf_27 : decode b_S_crossesOf 27 = .ok (.iadd, 1) := by decide +kernel
theorem d_S_crossesOf_28 : decode b_S_crossesOf 28 = .ok (.istore_n 2, 1) := by decide +kernel
theorem d_S_crossesOf_29 : decode b_S_crossesOf 29 = .ok (.iinc 3 1, 3) := by decide +kernel
theorem d_S_crossesOf_32 : decode b_S_crossesOf 32 = .ok (.goto (-28), 3) := by decide +kernel
theorem d_S_crossesOf_35 : decode b_S_crossesOf 35 = .ok (.iload_n 2, 1) := by decide +kernel
theorem d_S_crossesOf_36 : decode b_S_crossesOf 36 = .ok (.ireturn, 1) := by decide +kernel
theorem d_S_costOf_0 : decode b_S_costOf 0 = .ok (.lconst 0, 1) := by decide +kernel
theorem d_S_costOf_1 : decode b_S_costOf 1 = .ok (.lstore_n 3, 1) := by decide +kernel
theorem d_S_costOf_2 : decode b_S_costOf 2 = .ok (.iconst 0, 1) := by decide +kernel
theorem d_S_costOf_3 : decode b_S_costOf 3 = .ok (.istore 5, 2) := by decide +kernel
theorem d_S_costOf_5 : decode b_S_costOf 5 = .ok (.iload 5, 2) := by decide +kernel
theorem d_S_costOf_7 : decode b_S_costOf 7 = .ok (.aload_n 1, 1) := by decide +kernel
theorem d_S_costOf_8 : decode b_S_costOf 8 = .ok (.getfield 135, 3) := by decide +kernel
theorem d_S_costOf_11 : decode b_S_costOf 11 = .ok (.if_icmp .ge 38, 3) := by decide +kernel
theorem d_S_costOf_14 : decode b_S_costOf 14 = .ok (.aload_n 1, 1) := by decide +kernel
theorem d_S_costOf_15 : decode b_S_costOf 15 = .ok (.getfield 132, 3) := by decide +kernel
theorem d_S_costOf_18 : decode b_S_costOf 18 = .ok (.iload 5, 2) := by decide +kernel
theorem d_S_costOf_20 : decode b_S_costOf 20 = .ok (.iaload, 1) := by decide +kernel
theorem d_S_costOf_21 : decode b_S_costOf 21 = .ok (.iload_n 2, 1) := by decide +kernel
theorem d_S_costOf_22 : decode b_S_costOf 22 = .ok (.iconst (-1), 1) := by decide +kernel
theorem d_S_costOf_23 : decode b_S_costOf 23 = .ok (.ixor, 1) := by decide +kernel
theorem d_S_costOf_24 : decode b_S_costOf 24 = .ok (.iand, 1) := by decide +kernel
theorem d_S_costOf_25 : decode b_S_costOf 25 = .ok (.ifCond .ne 18, 3) := by decide +kernel
theorem d_S_costOf_28 : decode b_S_costOf 28 = .ok (.lload_n 3, 1) := by decide +kernel
theorem d_S_costOf_29 : decode b_S_costOf 29 = .ok (.aload_n 0, 1) := by decide +kernel
theorem d_S_costOf_30 : decode b_S_costOf 30 = .ok (.getfield 9, 3) := by decide +kernel
theorem d_S_costOf_33 : decode b_S_costOf 33 = .ok (.aload_n 1, 1) := by decide +kernel
theorem d_S_costOf_34 : decode b_S_costOf 34 = .ok (.getfield 132, 3) := by decide +kernel
theorem d_S_costOf_37 : decode b_S_costOf 37 = .ok (.iload 5, 2) := by decide +kernel
theorem d_S_costOf_39 : decode b_S_costOf 39 = .ok (.iaload, 1) := by decide +kernel
theorem d_S_costOf_40 : decode b_S_costOf 40 = .ok (.laload, 1) := by decide +kernel
theorem d_S_costOf_41 : decode b_S_costOf 41 = .ok (.ladd, 1) := by decide +kernel
theorem d_S_costOf_42 : decode b_S_costOf 42 = .ok (.lstore_n 3, 1) := by decide +kernel
theorem d_S_costOf_43 : decode b_S_costOf 43 = .ok (.iinc 5 1, 3) := by decide +kernel
theorem d_S_costOf_46 : decode b_S_costOf 46 = .ok (.goto (-41), 3) := by decide +kernel
theorem d_S_costOf_49 : decode b_S_costOf 49 = .ok (.ldc2_w 80, 3) := by decide +kernel
theorem d_S_costOf_52 : decode b_S_costOf 52 = .ok (.lload_n 3, 1) := by decide +kernel
theorem d_S_costOf_53 : decode b_S_costOf 53 = .ok (.invokestatic 142, 3) := by decide +kernel
theorem d_S_costOf_56 : decode b_S_costOf 56 = .ok (.lreturn, 1) := by decide +kernel
theorem d_U_init_0 : decode b_U_init 0 = .ok (.aload_n 0, 1) := by decide +kernel
theorem d_U_init_1 : decode b_U_init 1 = .ok (.invokespecial 3, 3) := by decide +kernel
theorem d_U_init_4 : decode b_U_init 4 = .ok (.aload_n 0, 1) := by decide +kernel
theorem d_U_init_5 : decode b_U_init 5 = .ok (.new 9, 3) := by decide +kernel
theorem d_U_init_8 : decode b_U_init 8 = .ok (.dup, 1) := by decide +kernel
theorem d_U_init_9 : decode b_U_init 9 = .ok (.invokespecial 11, 3) := by decide +kernel
theorem d_U_init_12 : decode b_U_init 12 = .ok (.putfield 12, 3) := by decide +kernel
theorem d_U_init_15 : decode b_U_init 15 = .ok (.aload_n 0, 1) := by decide +kernel
theorem d_U_init_16 : decode b_U_init 16 = .ok (.new 18, 3) := by decide +kernel
theorem d_U_init_19 : decode b_U_init 19 = .ok (.dup, 1) := by decide +kernel
theorem d_U_init_20 : decode b_U_init 20 = .ok (.invokespecial 20, 3) := by decide +kernel
theorem d_U_init_23 : decode b_U_init 23 = .ok (.putfield 21, 3) := by decide +kernel
theorem d_U_init_26 : decode b_U_init 26 = .ok (.aload_n 0, 1) := by decide +kernel
theorem d_U_init_27 : decode b_U_init 27 = .ok (.new 25, 3) := by decide +kernel
theorem d_U_init_30 : decode b_U_init 30 = .ok (.dup, 1) := by decide +kernel
theorem d_U_init_31 : decode b_U_init 31 = .ok (.invokespecial 27, 3) := by decide +kernel
theorem d_U_init_34 : decode b_U_init 34 = .ok (.putfield 28, 3) := by decide +kernel
theorem d_U_init_37 : decode b_U_init 37 = .ok (.aload_n 0, 1) := by decide +kernel
theorem d_U_init_38 : decode b_U_init 38 = .ok (.iconst (-1), 1) := by decide +kernel
theorem d_U_init_39 : decode b_U_init 39 = .ok (.putfield 32, 3) := by decide +kernel
theorem d_U_init_42 : decode b_U_init 42 = .ok (.return_, 1) := by decide +kernel
theorem d_U_copy_0 : decode b_U_copy 0 = .ok (.aload_n 0, 1) := by decide +kernel
theorem d_U_copy_1 : decode b_U_copy 1 = .ok (.getfield 12, 3) := by decide +kernel
theorem d_U_copy_4 : decode b_U_copy 4 = .ok (.aload_n 1, 1) := by decide +kernel
theorem d_U_copy_5 : decode b_U_copy 5 = .ok (.getfield 12, 3) := by decide +kernel
theorem d_U_copy_8 : decode b_U_copy 8 = .ok (.invokevirtual 36, 3) := by decide +kernel
theorem d_U_copy_11 : decode b_U_copy 11 = .ok (.aload_n 0, 1) := by decide +kernel
theorem d_U_copy_12 : decode b_U_copy 12 = .ok (.getfield 21, 3) := by decide +kernel
theorem d_U_copy_15 : decode b_U_copy 15 = .ok (.aload_n 1, 1) := by decide +kernel
theorem d_U_copy_16 : decode b_U_copy 16 = .ok (.getfield 21, 3) := by decide +kernel
theorem d_U_copy_19 : decode b_U_copy 19 = .ok (.invokevirtual 40, 3) := by decide +kernel
theorem d_U_copy_22 : decode b_U_copy 22 = .ok (.aload_n 0, 1) := by decide +kernel
theorem d_U_copy_23 : decode b_U_copy 23 = .ok (.getfield 28, 3) := by decide +kernel
theorem d_U_copy_26 : decode b_U_copy 26 = .ok (.aload_n 1, 1) := by decide +kernel
theorem d_U_copy_27 : decode b_U_copy 27 = .ok (.getfield 28, 3) := by decide +kernel
theorem d_U_copy_30 : decode b_U_copy 30 = .ok (.invokevirtual 43, 3) := by decide +kernel
theorem d_U_copy_33 : decode b_U_copy 33 = .ok (.aload_n 0, 1) := by decide +kernel
theorem d_U_copy_34 : decode b_U_copy 34 = .ok (.aload_n 1, 1) := by decide +kernel
theorem d_U_copy_35 : decode b_U_copy 35 = .ok (.getfield 46, 3) := by decide +kernel
theorem d_U_copy_38 : decode b_U_copy 38 = .ok (.putfield 46, 3) := by decide +kernel
theorem d_U_copy_41 : decode b_U_copy 41 = .ok (.aload_n 0, 1) := by decide +kernel
theorem d_U_copy_42 : decode b_U_copy 42 = .ok (.aload_n 1, 1) := by decide +kernel
theorem d_U_copy_43 : decode b_U_copy 43 = .ok (.getfield 32, 3) := by decide +kernel
theorem d_U_copy_46 : decode b_U_copy 46 = .ok (.putfield 32, 3) := by decide +kernel
theorem d_U_copy_49 : decode b_U_copy 49 = .ok (.return_, 1) := by decide +kernel
theorem d_T_init_0 : decode b_T_init 0 = .ok (.aload_n 0, 1) := by decide +kernel
theorem d_T_init_1 : decode b_T_init 1 = .ok (.invokespecial 3, 3) := by decide +kernel
theorem d_T_init_4 : decode b_T_init 4 = .ok (.aload_n 0, 1) := by decide +kernel
theorem d_T_init_5 : decode b_T_init 5 = .ok (.sipush 500, 3) := by decide +kernel
theorem d_T_init_8 : decode b_T_init 8 = .ok (.newarray .int, 2) := by decide +kernel
theorem d_T_init_10 : decode b_T_init 10 = .ok (.putfield 9, 3) := by decide +kernel
theorem d_T_init_13 : decode b_T_init 13 = .ok (.return_, 1) := by decide +kernel
theorem d_T_copy_0 : decode b_T_copy 0 = .ok (.aload_n 0, 1) := by decide +kernel
theorem d_T_copy_1 : decode b_T_copy 1 = .ok (.aload_n 1, 1) := by decide +kernel
theorem d_T_copy_2 : decode b_T_copy 2 = .ok (.getfield 15, 3) := by decide +kernel
theorem d_T_copy_5 : decode b_T_copy 5 = .ok (.putfield 15, 3) := by decide +kernel
theorem d_T_copy_8 : decode b_T_copy 8 = .ok (.aload_n 1, 1) := by decide +kernel
theorem d_T_copy_9 : decode b_T_copy 9 = .ok (.getfield 9, 3) := by decide +kernel
theorem d_T_copy_12 : decode b_T_copy 12 = .ok (.iconst 0, 1) := by decide +kernel
theorem d_T_copy_13 : decode b_T_copy 13 = .ok (.aload_n 0, 1) := by decide +kernel
theorem d_T_copy_14 : decode b_T_copy 14 = .ok (.getfield 9, 3) := by decide +kernel
theorem d_T_copy_17 : decode b_T_copy 17 = .ok (.iconst 0, 1) := by decide +kernel
theorem d_T_copy_18 : decode b_T_copy 18 = .ok (.sipush 500, 3) := by decide +kernel
theorem d_T_copy_21 : decode b_T_copy 21 = .ok (.invokestatic 19, 3) := by decide +kernel
theorem d_T_copy_24 : decode b_T_copy 24 = .ok (.return_, 1) := by decide +kernel
theorem d_T_append_0 : decode b_T_append 0 = .ok (.iconst 0, 1) := by decide +kernel
theorem d_T_append_1 : decode b_T_append 1 = .ok (.istore_n 3, 1) := by decide +kernel
theorem d_T_append_2 : decode b_T_append 2 = .ok (.iload_n 3, 1) := by decide +kernel
theorem d_T_append_3 : decode b_T_append 3 = .ok (.bipush 8, 2) := by decide +kernel
theorem d_T_append_5 : decode b_T_append 5 = .ok (.if_icmp .ge 17, 3) := by decide +kernel
theorem d_T_append_8 : decode b_T_append 8 = .ok (.lload_n 1, 1) := by decide +kernel
theorem d_T_append_9 : decode b_T_append 9 = .ok (.iload_n 3, 1) := by decide +kernel
theorem d_T_append_10 : decode b_T_append 10 = .ok (.invokestatic 25, 3) := by decide +kernel
theorem d_T_append_13 : decode b_T_append 13 = .ok (.ifCond .eq 9, 3) := by decide +kernel
theorem d_T_append_16 : decode b_T_append 16 = .ok (.iinc 3 1, 3) := by decide +kernel
theorem d_T_append_19 : decode b_T_append 19 = .ok (.goto (-17), 3) := by decide +kernel
theorem d_T_append_22 : decode b_T_append 22 = .ok (.iload_n 3, 1) := by decide +kernel
theorem d_T_append_23 : decode b_T_append 23 = .ok (.sipush 500, 3) := by decide +kernel
theorem d_T_append_26 : decode b_T_append 26 = .ok (.aload_n 0, 1) := by decide +kernel
theorem d_T_append_27 : decode b_T_append 27 = .ok (.getfield 15, 3) := by decide +kernel
theorem d_T_append_30 : decode b_T_append 30 = .ok (.isub, 1) := by decide +kernel
theorem d_T_append_31 : decode b_T_append 31 = .ok (.if_icmp .le 5, 3) := by decide +kernel
theorem d_T_append_34 : decode b_T_append 34 = .ok (.iconst 0, 1) := by decide +kernel
theorem d_T_append_35 : decode b_T_append 35 = .ok (.ireturn, 1) := by decide +kernel
theorem d_T_append_36 : decode b_T_append 36 = .ok (.iconst 0, 1) := by decide +kernel
theorem d_T_append_37 : decode b_T_append 37 = .ok (.istore 4, 2) := by decide +kernel
theorem d_T_append_39 : decode b_T_append 39 = .ok (.iload 4, 2) := by decide +kernel
theorem d_T_append_41 : decode b_T_append 41 = .ok (.iload_n 3, 1) := by decide +kernel
theorem d_T_append_42 : decode b_T_append 42 = .ok (.if_icmp .ge 34, 3) := by decide +kernel
theorem d_T_append_45 : decode b_T_append 45 = .ok (.aload_n 0, 1) := by decide +kernel
theorem d_T_append_46 : decode b_T_append 46 = .ok (.getfield 9, 3) := by decide +kernel
theorem d_T_append_49 : decode b_T_append 49 = .ok (.aload_n 0, 1) := by decide +kernel
theorem d_T_append_50 : decode b_T_append 50 = .ok (.getfield 15, 3) := by decide +kernel
theorem d_T_append_53 : decode b_T_append 53 = .ok (.lload_n 1, 1) := by decide +kernel
theorem d_T_append_54 : decode b_T_append 54 = .ok (.iload 4, 2) := by decide +kernel
theorem d_T_append_56 : decode b_T_append 56 = .ok (.invokestatic 25, 3) := by decide +kernel
theorem d_T_append_59 : decode b_T_append 59 = .ok (.iastore, 1) := by decide +kernel
theorem d_T_append_60 : decode b_T_append 60 = .ok (.aload_n 0, 1) := by decide +kernel
theorem d_T_append_61 : decode b_T_append 61 = .ok (.dup, 1) := by decide +kernel
theorem d_T_append_62 : decode b_T_append 62 = .ok (.getfield 15, 3) := by decide +kernel
theorem d_T_append_65 : decode b_T_append 65 = .ok (.iconst 1, 1) := by decide +kernel
theorem d_T_append_66 : decode b_T_append 66 = .ok (.iadd, 1) := by decide +kernel
theorem d_T_append_67 : decode b_T_append 67 = .ok (.putfield 15, 3) := by decide +kernel
theorem d_T_append_70 : decode b_T_append 70 = .ok (.iinc 4 1, 3) := by decide +kernel
theorem d_T_append_73 : decode b_T_append 73 = .ok (.goto (-34), 3) := by decide +kernel
theorem d_T_append_76 : decode b_T_append 76 = .ok (.iconst 1, 1) := by decide +kernel
theorem d_T_append_77 : decode b_T_append 77 = .ok (.ireturn, 1) := by decide +kernel
theorem d_T_byteOf_0 : decode b_T_byteOf 0 = .ok (.lload_n 0, 1) := by decide +kernel
theorem d_T_byteOf_1 : decode b_T_byteOf 1 = .ok (.bipush 56, 2) := by decide +kernel
theorem d_T_byteOf_3 : decode b_T_byteOf 3 = .ok (.bipush 8, 2) := by decide +kernel
theorem d_T_byteOf_5 : decode b_T_byteOf 5 = .ok (.iload_n 2, 1) := by decide +kernel
theorem d_T_byteOf_6 : decode b_T_byteOf 6 = .ok (.imul, 1) := by decide +kernel
theorem d_T_byteOf_7 : decode b_T_byteOf 7 = .ok (.isub, 1) := by decide +kernel
theorem d_T_byteOf_8 : decode b_T_byteOf 8 = .ok (.lushr, 1) := by decide +kernel
theorem d_T_byteOf_9 : decode b_T_byteOf 9 = .ok (.l2i, 1) := by decide +kernel
theorem d_T_byteOf_10 : decode b_T_byteOf 10 = .ok (.sipush 255, 3) := by decide +kernel
theorem d_T_byteOf_13 : decode b_T_byteOf 13 = .ok (.iand, 1) := by decide +kernel
theorem d_T_byteOf_14 : decode b_T_byteOf 14 = .ok (.ireturn, 1) := by decide +kernel
theorem d_T_startOver_0 : decode b_T_startOver 0 = .ok (.aload_n 0, 1) := by decide +kernel
theorem d_T_startOver_1 : decode b_T_startOver 1 = .ok (.iconst 0, 1) := by decide +kernel
theorem d_T_startOver_2 : decode b_T_startOver 2 = .ok (.putfield 29, 3) := by decide +kernel
theorem d_T_startOver_5 : decode b_T_startOver 5 = .ok (.return_, 1) := by decide +kernel
theorem d_T_readToken_0 : decode b_T_readToken 0 = .ok (.aload_n 0, 1) := by decide +kernel
theorem d_T_readToken_1 : decode b_T_readToken 1 = .ok (.getfield 29, 3) := by decide +kernel
theorem d_T_readToken_4 : decode b_T_readToken 4 = .ok (.aload_n 0, 1) := by decide +kernel
theorem d_T_readToken_5 : decode b_T_readToken 5 = .ok (.getfield 15, 3) := by decide +kernel
theorem d_T_readToken_8 : decode b_T_readToken 8 = .ok (.if_icmp .ge 44, 3) := by decide +kernel
theorem d_T_readToken_11 : decode b_T_readToken 11 = .ok (.aload_n 0, 1) := by decide +kernel
theorem d_T_readToken_12 : decode b_T_readToken 12 = .ok (.getfield 9, 3) := by decide +kernel
theorem d_T_readToken_15 : decode b_T_readToken 15 = .ok (.aload_n 0, 1) := by decide +kernel
theorem d_T_readToken_16 : decode b_T_readToken 16 = .ok (.getfield 29, 3) := by decide +kernel
theorem d_T_readToken_19 : decode b_T_readToken 19 = .ok (.iaload, 1) := by decide +kernel
theorem d_T_readToken_20 : decode b_T_readToken 20 = .ok (.bipush 32, 2) := by decide +kernel
theorem d_T_readToken_22 : decode b_T_readToken 22 = .ok (.if_icmp .eq 17, 3) := by decide +kernel
theorem d_T_readToken_25 : decode b_T_readToken 25 = .ok (.aload_n 0, 1) := by decide +kernel
theorem d_T_readToken_26 : decode b_T_readToken 26 = .ok (.getfield 9, 3) := by decide +kernel
theorem d_T_readToken_29 : decode b_T_readToken 29 = .ok (.aload_n 0, 1) := by decide +kernel
theorem d_T_readToken_30 : decode b_T_readToken 30 = .ok (.getfield 29, 3) := by decide +kernel
theorem d_T_readToken_33 : decode b_T_readToken 33 = .ok (.iaload, 1) := by decide +kernel
theorem d_T_readToken_34 : decode b_T_readToken 34 = .ok (.bipush 10, 2) := by decide +kernel
theorem d_T_readToken_36 : decode b_T_readToken 36 = .ok (.if_icmp .ne 16, 3) := by decide +kernel
theorem d_T_readToken_39 : decode b_T_readToken 39 = .ok (.aload_n 0, 1) := by decide +kernel
theorem d_T_readToken_40 : decode b_T_readToken 40 = .ok (.dup, 1) := by decide +kernel
theorem d_T_readToken_41 : decode b_T_readToken 41 = .ok (.getfield 29, 3) := by decide +kernel
theorem d_T_readToken_44 : decode b_T_readToken 44 = .ok (.iconst 1, 1) := by decide +kernel
theorem d_T_readToken_45 : decode b_T_readToken 45 = .ok (.iadd, 1) := by decide +kernel
theorem d_T_readToken_46 : decode b_T_readToken 46 = .ok (.putfield 29, 3) := by decide +kernel
theorem d_T_readToken_49 : decode b_T_readToken 49 = .ok (.goto (-49), 3) := by decide +kernel
theorem d_T_readToken_52 : decode b_T_readToken 52 = .ok (.aload_n 0, 1) := by decide +kernel
theorem d_T_readToken_53 : decode b_T_readToken 53 = .ok (.aload_n 0, 1) := by decide +kernel
theorem d_T_readToken_54 : decode b_T_readToken 54 = .ok (.getfield 29, 3) := by decide +kernel
theorem d_T_readToken_57 : decode b_T_readToken 57 = .ok (.putfield 32, 3) := by decide +kernel
theorem d_T_readToken_60 : decode b_T_readToken 60 = .ok (.aload_n 0, 1) := by decide +kernel
theorem d_T_readToken_61 : decode b_T_readToken 61 = .ok (.getfield 29, 3) := by decide +kernel
theorem d_T_readToken_64 : decode b_T_readToken 64 = .ok (.aload_n 0, 1) := by decide +kernel
theorem d_T_readToken_65 : decode b_T_readToken 65 = .ok (.getfield 15, 3) := by decide +kernel
theorem d_T_readToken_68 : decode b_T_readToken 68 = .ok (.if_icmp .lt 11, 3) := by decide +kernel
theorem d_T_readToken_71 : decode b_T_readToken 71 = .ok (.aload_n 0, 1) := by decide +kernel
theorem d_T_readToken_72 : decode b_T_readToken 72 = .ok (.iconst 0, 1) := by decide +kernel
theorem d_T_readToken_73 : decode b_T_readToken 73 = .ok (.putfield 35, 3) := by decide +kernel
theorem d_T_readToken_76 : decode b_T_readToken 76 = .ok (.goto 73, 3) := by decide +kernel
theorem d_T_readToken_79 : decode b_T_readToken 79 = .ok (.aload_n 0, 1) := by decide +kernel
theorem d_T_readToken_80 : decode b_T_readToken 80 = .ok (.getfield 9, 3) := by decide +kernel
theorem d_T_readToken_83 : decode b_T_readToken 83 = .ok (.aload_n 0, 1) := by decide +kernel
theorem d_T_readToken_84 : decode b_T_readToken 84 = .ok (.getfield 29, 3) := by decide +kernel
theorem d_T_readToken_87 : decode b_T_readToken 87 = .ok (.iaload, 1) := by decide +kernel
theorem d_T_readToken_88 : decode b_T_readToken 88 = .ok (.invokestatic 38, 3) := by decide +kernel
theorem d_T_readToken_91 : decode b_T_readToken 91 = .ok (.ifCond .eq 10, 3) := by decide +kernel
theorem d_T_readToken_94 : decode b_T_readToken 94 = .ok (.aload_n 0, 1) := by decide +kernel
theorem d_T_readToken_95 : decode b_T_readToken 95 = .ok (.invokevirtual 42, 3) := by decide +kernel
theorem d_T_readToken_98 : decode b_T_readToken 98 = .ok (.goto 51, 3) := by decide +kernel
theorem d_T_readToken_101 : decode b_T_readToken 101 = .ok (.aload_n 0, 1) := by decide +kernel
theorem d_T_readToken_102 : decode b_T_readToken 102 = .ok (.getfield 9, 3) := by decide +kernel
theorem d_T_readToken_105 : decode b_T_readToken 105 = .ok (.aload_n 0, 1) := by decide +kernel
theorem d_T_readToken_106 : decode b_T_readToken 106 = .ok (.getfield 29, 3) := by decide +kernel
theorem d_T_readToken_109 : decode b_T_readToken 109 = .ok (.iaload, 1) := by decide +kernel
theorem d_T_readToken_110 : decode b_T_readToken 110 = .ok (.invokestatic 45, 3) := by decide +kernel
theorem d_T_readToken_113 : decode b_T_readToken 113 = .ok (.ifCond .eq 10, 3) := by decide +kernel
theorem d_T_readToken_116 : decode b_T_readToken 116 = .ok (.aload_n 0, 1) := by decide +kernel
theorem d_T_readToken_117 : decode b_T_readToken 117 = .ok (.invokevirtual 48, 3) := by decide +kernel
theorem d_T_readToken_120 : decode b_T_readToken 120 = .ok (.goto 29, 3) := by decide +kernel
theorem d_T_readToken_123 : decode b_T_readToken 123 = .ok (.aload_n 0, 1) := by decide +kernel
theorem d_T_readToken_124 : decode b_T_readToken 124 = .ok (.aload_n 0, 1) := by decide +kernel
theorem d_T_readToken_125 : decode b_T_readToken 125 = .ok (.getfield 9, 3) := by decide +kernel
theorem d_T_readToken_128 : decode b_T_readToken 128 = .ok (.aload_n 0, 1) := by decide +kernel
theorem d_T_readToken_129 : decode b_T_readToken 129 = .ok (.getfield 29, 3) := by decide +kernel
theorem d_T_readToken_132 : decode b_T_readToken 132 = .ok (.iaload, 1) := by decide +kernel
theorem d_T_readToken_133 : decode b_T_readToken 133 = .ok (.invokestatic 51, 3) := by decide +kernel
theorem d_T_readToken_136 : decode b_T_readToken 136 = .ok (.putfield 35, 3) := by decide +kernel
theorem d_T_readToken_139 : decode b_T_readToken 139 = .ok (.aload_n 0, 1) := by decide +kernel
theorem d_T_readToken_140 : decode b_T_readToken 140 = .ok (.dup, 1) := by decide +kernel
theorem d_T_readToken_141 : decode b_T_readToken 141 = .ok (.getfield 29, 3) := by decide +kernel
theorem d_T_readToken_144 : decode b_T_readToken 144 = .ok (.iconst 1, 1) := by decide +kernel
theorem d_T_readToken_145 : decode b_T_readToken 145 = .ok (.iadd, 1) := by decide +kernel
theorem d_T_readToken_146 : decode b_T_readToken 146 = .ok (.putfield 29, 3) := by decide +kernel
theorem d_T_readToken_149 : decode b_T_readToken 149 = .ok (.return_, 1) := by decide +kernel
theorem d_T_readNumber_0 : decode b_T_readNumber 0 = .ok (.aload_n 0, 1) := by decide +kernel
theorem d_T_readNumber_1 : decode b_T_readNumber 1 = .ok (.iconst 0, 1) := by decide +kernel
theorem d_T_readNumber_2 : decode b_T_readNumber 2 = .ok (.putfield 55, 3) := by decide +kernel
theorem d_T_readNumber_5 : decode b_T_readNumber 5 = .ok (.aload_n 0, 1) := by decide +kernel
theorem d_T_readNumber_6 : decode b_T_readNumber 6 = .ok (.getfield 29, 3) := by decide +kernel
theorem d_T_readNumber_9 : decode b_T_readNumber 9 = .ok (.aload_n 0, 1) := by decide +kernel
theorem d_T_readNumber_10 : decode b_T_readNumber 10 = .ok (.getfield 15, 3) := by decide +kernel
theorem d_T_readNumber_13 : decode b_T_readNumber 13 = .ok (.if_icmp .ge 69, 3) := by decide +kernel
theorem d_T_readNumber_16 : decode b_T_readNumber 16 = .ok (.aload_n 0, 1) := by decide +kernel
theorem d_T_readNumber_17 : decode b_T_readNumber 17 = .ok (.getfield 9, 3) := by decide +kernel
theorem d_T_readNumber_20 : decode b_T_readNumber 20 = .ok (.aload_n 0, 1) := by decide +kernel
theorem d_T_readNumber_21 : decode b_T_readNumber 21 = .ok (.getfield 29, 3) := by decide +kernel
theorem d_T_readNumber_24 : decode b_T_readNumber 24 = .ok (.iaload, 1) := by decide +kernel
theorem d_T_readNumber_25 : decode b_T_readNumber 25 = .ok (.invokestatic 38, 3) := by decide +kernel
theorem d_T_readNumber_28 : decode b_T_readNumber 28 = .ok (.ifCond .eq 54, 3) := by decide +kernel
theorem d_T_readNumber_31 : decode b_T_readNumber 31 = .ok (.aload_n 0, 1) := by decide +kernel
theorem d_T_readNumber_32 : decode b_T_readNumber 32 = .ok (.getfield 29, 3) := by decide +kernel
theorem d_T_readNumber_35 : decode b_T_readNumber 35 = .ok (.aload_n 0, 1) := by decide +kernel
theorem d_T_readNumber_36 : decode b_T_readNumber 36 = .ok (.getfield 32, 3) := by decide +kernel
theorem d_T_readNumber_39 : decode b_T_readNumber 39 = .ok (.isub, 1) := by decide +kernel
theorem d_T_readNumber_40 : decode b_T_readNumber 40 = .ok (.bipush 7, 2) := by decide +kernel
theorem d_T_readNumber_42 : decode b_T_readNumber 42 = .ok (.if_icmp .ge 27, 3) := by decide +kernel
theorem d_T_readNumber_45 : decode b_T_readNumber 45 = .ok (.aload_n 0, 1) := by decide +kernel
theorem d_T_readNumber_46 : decode b_T_readNumber 46 = .ok (.aload_n 0, 1) := by decide +kernel
theorem d_T_readNumber_47 : decode b_T_readNumber 47 = .ok (.getfield 55, 3) := by decide +kernel
theorem d_T_readNumber_50 : decode b_T_readNumber 50 = .ok (.bipush 10, 2) := by decide +kernel
theorem d_T_readNumber_52 : decode b_T_readNumber 52 = .ok (.imul, 1) := by decide +kernel
theorem d_T_readNumber_53 : decode b_T_readNumber 53 = .ok (.aload_n 0, 1) := by decide +kernel
theorem d_T_readNumber_54 : decode b_T_readNumber 54 = .ok (.getfield 9, 3) := by decide +kernel
theorem d_T_readNumber_57 : decode b_T_readNumber 57 = .ok (.aload_n 0, 1) := by decide +kernel
theorem d_T_readNumber_58 : decode b_T_readNumber 58 = .ok (.getfield 29, 3) := by decide +kernel
theorem d_T_readNumber_61 : decode b_T_readNumber 61 = .ok (.iaload, 1) := by decide +kernel
theorem d_T_readNumber_62 : decode b_T_readNumber 62 = .ok (.bipush 48, 2) := by decide +kernel
theorem d_T_readNumber_64 : decode b_T_readNumber 64 = .ok (.isub, 1) := by decide +kernel
theorem d_T_readNumber_65 : decode b_T_readNumber 65 = .ok (.iadd, 1) := by decide +kernel
theorem d_T_readNumber_66 : decode b_T_readNumber 66 = .ok (.putfield 55, 3) := by decide +kernel
theorem d_T_readNumber_69 : decode b_T_readNumber 69 = .ok (.aload_n 0, 1) := by decide +kernel
theorem d_T_readNumber_70 : decode b_T_readNumber 70 = .ok (.dup, 1) := by decide +kernel
theorem d_T_readNumber_71 : decode b_T_readNumber 71 = .ok (.getfield 29, 3) := by decide +kernel
theorem d_T_readNumber_74 : decode b_T_readNumber 74 = .ok (.iconst 1, 1) := by decide +kernel
theorem d_T_readNumber_75 : decode b_T_readNumber 75 = .ok (.iadd, 1) := by decide +kernel
theorem d_T_readNumber_76 : decode b_T_readNumber 76 = .ok (.putfield 29, 3) := by decide +kernel
theorem d_T_readNumber_79 : decode b_T_readNumber 79 = .ok (.goto (-74), 3) := by decide +kernel
theorem d_T_readNumber_82 : decode b_T_readNumber 82 = .ok (.aload_n 0, 1) := by decide +kernel
theorem d_T_readNumber_83 : decode b_T_readNumber 83 = .ok (.aload_n 0, 1) := by decide +kernel
theorem d_T_readNumber_84 : decode b_T_readNumber 84 = .ok (.getfield 29, 3) := by decide +kernel
theorem d_T_readNumber_87 : decode b_T_readNumber 87 = .ok (.aload_n 0, 1) := by decide +kernel
theorem d_T_readNumber_88 : decode b_T_readNumber 88 = .ok (.getfield 32, 3) := by decide +kernel
theorem d_T_readNumber_91 : decode b_T_readNumber 91 = .ok (.isub, 1) := by decide +kernel
theorem d_T_readNumber_92 : decode b_T_readNumber 92 = .ok (.bipush 7, 2) := by decide +kernel
theorem d_T_readNumber_94 : decode b_T_readNumber 94 = .ok (.if_icmp .le 8, 3) := by decide +kernel
theorem d_T_readNumber_97 : decode b_T_readNumber 97 = .ok (.bipush 10, 2) := by decide +kernel
theorem d_T_readNumber_99 : decode b_T_readNumber 99 = .ok (.goto 4, 3) := by decide +kernel
theorem d_T_readNumber_102 : decode b_T_readNumber 102 = .ok (.iconst 1, 1) := by decide +kernel
theorem d_T_readNumber_103 : decode b_T_readNumber 103 = .ok (.putfield 35, 3) := by decide +kernel
theorem d_T_readNumber_106 : decode b_T_readNumber 106 = .ok (.return_, 1) := by decide +kernel
theorem d_T_readWord_0 : decode b_T_readWord 0 = .ok (.aload_n 0, 1) := by decide +kernel
theorem d_T_readWord_1 : decode b_T_readWord 1 = .ok (.getfield 29, 3) := by decide +kernel
theorem d_T_readWord_4 : decode b_T_readWord 4 = .ok (.aload_n 0, 1) := by decide +kernel
theorem d_T_readWord_5 : decode b_T_readWord 5 = .ok (.getfield 15, 3) := by decide +kernel
theorem d_T_readWord_8 : decode b_T_readWord 8 = .ok (.if_icmp .ge 31, 3) := by decide +kernel
theorem d_T_readWord_11 : decode b_T_readWord 11 = .ok (.aload_n 0, 1) := by decide +kernel
theorem d_T_readWord_12 : decode b_T_readWord 12 = .ok (.getfield 9, 3) := by decide +kernel
theorem d_T_readWord_15 : decode b_T_readWord 15 = .ok (.aload_n 0, 1) := by decide +kernel
theorem d_T_readWord_16 : decode b_T_readWord 16 = .ok (.getfield 29, 3) := by decide +kernel
theorem d_T_readWord_19 : decode b_T_readWord 19 = .ok (.iaload, 1) := by decide +kernel
theorem d_T_readWord_20 : decode b_T_readWord 20 = .ok (.invokestatic 45, 3) := by decide +kernel
theorem d_T_readWord_23 : decode b_T_readWord 23 = .ok (.ifCond .eq 16, 3) := by decide +kernel
theorem d_T_readWord_26 : decode b_T_readWord 26 = .ok (.aload_n 0, 1) := by decide +kernel
theorem d_T_readWord_27 : decode b_T_readWord 27 = .ok (.dup, 1) := by decide +kernel
theorem d_T_readWord_28 : decode b_T_readWord 28 = .ok (.getfield 29, 3) := by decide +kernel
theorem d_T_readWord_31 : decode b_T_readWord 31 = .ok (.iconst 1, 1) := by decide +kernel
theorem d_T_readWord_32 : decode b_T_readWord 32 = .ok (.iadd, 1) := by decide +kernel
theorem d_T_readWord_33 : decode b_T_readWord 33 = .ok (.putfield 29, 3) := by decide +kernel
theorem d_T_readWord_36 : decode b_T_readWord 36 = .ok (.goto (-36), 3) := by decide +kernel
theorem d_T_readWord_39 : decode b_T_readWord 39 = .ok (.aload_n 0, 1) := by decide +kernel
theorem d_T_readWord_40 : decode b_T_readWord 40 = .ok (.ldc 58, 2) := by decide +kernel
theorem d_T_readWord_42 : decode b_T_readWord 42 = .ok (.invokevirtual 60, 3) := by decide +kernel
theorem d_T_readWord_45 : decode b_T_readWord 45 = .ok (.ifCond .eq 12, 3) := by decide +kernel
theorem d_T_readWord_48 : decode b_T_readWord 48 = .ok (.aload_n 0, 1) := by decide +kernel
theorem d_T_readWord_49 : decode b_T_readWord 49 = .ok (.bipush 6, 2) := by decide +kernel
theorem d_T_readWord_51 : decode b_T_readWord 51 = .ok (.putfield 35, 3) := by decide +kernel
theorem d_T_readWord_54 : decode b_T_readWord 54 = .ok (.goto 59, 3) := by decide +kernel
theorem d_T_readWord_57 : decode b_T_readWord 57 = .ok (.aload_n 0, 1) := by decide +kernel
theorem d_T_readWord_58 : decode b_T_readWord 58 = .ok (.ldc 64, 2) := by decide +kernel
theorem d_T_readWord_60 : decode b_T_readWord 60 = .ok (.invokevirtual 60, 3) := by decide +kernel
theorem d_T_readWord_63 : decode b_T_readWord 63 = .ok (.ifCond .eq 12, 3) := by decide +kernel
theorem d_T_readWord_66 : decode b_T_readWord 66 = .ok (.aload_n 0, 1) := by decide +kernel
theorem d_T_readWord_67 : decode b_T_readWord 67 = .ok (.bipush 7, 2) := by decide +kernel
theorem d_T_readWord_69 : decode b_T_readWord 69 = .ok (.putfield 35, 3) := by decide +kernel
theorem d_T_readWord_72 : decode b_T_readWord 72 = .ok (.goto 41, 3) := by decide +kernel
theorem d_T_readWord_75 : decode b_T_readWord 75 = .ok (.aload_n 0, 1) := by decide +kernel
theorem d_T_readWord_76 : decode b_T_readWord 76 = .ok (.ldc 66, 2) := by decide +kernel
theorem d_T_readWord_78 : decode b_T_readWord 78 = .ok (.invokevirtual 60, 3) := by decide +kernel
theorem d_T_readWord_81 : decode b_T_readWord 81 = .ok (.ifCond .eq 12, 3) := by decide +kernel
theorem d_T_readWord_84 : decode b_T_readWord 84 = .ok (.aload_n 0, 1) := by decide +kernel
theorem d_T_readWord_85 : decode b_T_readWord 85 = .ok (.bipush 8, 2) := by decide +kernel
theorem d_T_readWord_87 : decode b_T_readWord 87 = .ok (.putfield 35, 3) := by decide +kernel
theorem d_T_readWord_90 : decode b_T_readWord 90 = .ok (.goto 23, 3) := by decide +kernel
theorem d_T_readWord_93 : decode b_T_readWord 93 = .ok (.aload_n 0, 1) := by decide +kernel
theorem d_T_readWord_94 : decode b_T_readWord 94 = .ok (.aload_n 0, 1) := by decide +kernel
theorem d_T_readWord_95 : decode b_T_readWord 95 = .ok (.ldc 68, 2) := by decide +kernel
theorem d_T_readWord_97 : decode b_T_readWord 97 = .ok (.invokevirtual 60, 3) := by decide +kernel
theorem d_T_readWord_100 : decode b_T_readWord 100 = .ok (.ifCond .eq 8, 3) := by decide +kernel
theorem d_T_readWord_103 : decode b_T_readWord 103 = .ok (.bipush 9, 2) := by decide +kernel
theorem d_T_readWord_105 : decode b_T_readWord 105 = .ok (.goto 5, 3) := by decide +kernel
theorem d_T_readWord_108 : decode b_T_readWord 108 = .ok (.bipush 10, 2) := by decide +kernel
theorem d_T_readWord_110 : decode b_T_readWord 110 = .ok (.putfield 35, 3) := by decide +kernel
theorem d_T_readWord_113 : decode b_T_readWord 113 = .ok (.return_, 1) := by decide +kernel
theorem d_T_isWord_0 : decode b_T_isWord 0 = .ok (.aload_n 0, 1) := by decide +kernel
theorem d_T_isWord_1 : decode b_T_isWord 1 = .ok (.getfield 29, 3) := by decide +kernel
theorem d_T_isWord_4 : decode b_T_isWord 4 = .ok (.aload_n 0, 1) := by decide +kernel
theorem d_T_isWord_5 : decode b_T_isWord 5 = .ok (.getfield 32, 3) := by decide +kernel
theorem d_T_isWord_8 : decode b_T_isWord 8 = .ok (.isub, 1) := by decide +kernel
theorem d_T_isWord_9 : decode b_T_isWord 9 = .ok (.aload_n 1, 1) := by decide +kernel
theorem d_T_isWord_10 : decode b_T_isWord 10 = .ok (.invokevirtual 70, 3) := by decide +kernel
theorem d_T_isWord_13 : decode b_T_isWord 13 = .ok (.if_icmp .eq 5, 3) := by decide +kernel
theorem d_T_isWord_16 : decode b_T_isWord 16 = .ok (.iconst 0, 1) := by decide +kernel
theorem d_T_isWord_17 : decode b_T_isWord 17 = .ok (.ireturn, 1) := by decide +kernel
theorem d_T_isWord_18 : decode b_T_isWord 18 = .ok (.iconst 0, 1) := by decide +kernel
theorem d_T_isWord_19 : decode b_T_isWord 19 = .ok (.istore_n 2, 1) := by decide +kernel
theorem d_T_isWord_20 : decode b_T_isWord 20 = .ok (.iload_n 2, 1) := by decide +kernel
theorem d_T_isWord_21 : decode b_T_isWord 21 = .ok (.aload_n 1, 1) := by decide +kernel
theorem d_T_isWord_22 : decode b_T_isWord 22 = .ok (.invokevirtual 70, 3) := by decide +kernel
theorem d_T_isWord_25 : decode b_T_isWord 25 = .ok (.if_icmp .ge 30, 3) := by decide +kernel
theorem d_T_isWord_28 : decode b_T_isWord 28 = .ok (.aload_n 0, 1) := by decide +kernel
theorem d_T_isWord_29 : decode b_T_isWord 29 = .ok (.getfield 9, 3) := by decide +kernel
theorem d_T_isWord_32 : decode b_T_isWord 32 = .ok (.aload_n 0, 1) := by decide +kernel
theorem d_T_isWord_33 : decode b_T_isWord 33 = .ok (.getfield 32, 3) := by decide +kernel
theorem d_T_isWord_36 : decode b_T_isWord 36 = .ok (.iload_n 2, 1) := by decide +kernel
theorem d_T_isWord_37 : decode b_T_isWord 37 = .ok (.iadd, 1) := by decide +kernel
theorem d_T_isWord_38 : decode b_T_isWord 38 = .ok (.iaload, 1) := by decide +kernel
theorem d_T_isWord_39 : decode b_T_isWord 39 = .ok (.aload_n 1, 1) := by decide +kernel
theorem d_T_isWord_40 : decode b_T_isWord 40 = .ok (.iload_n 2, 1) := by decide +kernel
theorem d_T_isWord_41 : decode b_T_isWord 41 = .ok (.invokevirtual 75, 3) := by decide +kernel
theorem d_T_isWord_44 : decode b_T_isWord 44 = .ok (.if_icmp .eq 5, 3) := by decide +kernel
theorem d_T_isWord_47 : decode b_T_isWord 47 = .ok (.iconst 0, 1) := by decide +kernel
theorem d_T_isWord_48 : decode b_T_isWord 48 = .ok (.ireturn, 1) := by decide +kernel
theorem d_T_isWord_49 : decode b_T_isWord 49 = .ok (.iinc 2 1, 3) := by decide +kernel
theorem d_T_isWord_52 : decode b_T_isWord 52 = .ok (.goto (-32), 3) := by decide +kernel
theorem d_T_isWord_55 : decode b_T_isWord 55 = .ok (.iconst 1, 1) := by decide +kernel
theorem d_T_isWord_56 : decode b_T_isWord 56 = .ok (.ireturn, 1) := by decide +kernel
theorem d_T_signKind_0 : decode b_T_signKind 0 = .ok (.iload_n 0, 1) := by decide +kernel
theorem d_T_signKind_1 : decode b_T_signKind 1 = .ok (.lookupswitch 51 #[(40, 47), (41, 49), (45, 45), (59, 43)], 43) := by decide +kernel
theorem d_T_signKind_44 : decode b_T_signKind 44 = .ok (.iconst 2, 1) := by decide +kernel
theorem d_T_signKind_45 : decode b_T_signKind 45 = .ok (.ireturn, 1) := by decide +kernel
theorem d_T_signKind_46 : decode b_T_signKind 46 = .ok (.iconst 3, 1) := by decide +kernel
theorem d_T_signKind_47 : decode b_T_signKind 47 = .ok (.ireturn, 1) := by decide +kernel
theorem d_T_signKind_48 : decode b_T_signKind 48 = .ok (.iconst 4, 1) := by decide +kernel
theorem d_T_signKind_49 : decode b_T_signKind 49 = .ok (.ireturn, 1) := by decide +kernel
theorem d_T_signKind_50 : decode b_T_signKind 50 = .ok (.iconst 5, 1) := by decide +kernel
theorem d_T_signKind_51 : decode b_T_signKind 51 = .ok (.ireturn, 1) := by decide +kernel
theorem d_T_signKind_52 : decode b_T_signKind 52 = .ok (.bipush 10, 2) := by decide +kernel
theorem d_T_signKind_54 : decode b_T_signKind 54 = .ok (.ireturn, 1) := by decide +kernel
theorem d_T_isDigit_0 : decode b_T_isDigit 0 = .ok (.iload_n 0, 1) := by decide +kernel
theorem d_T_isDigit_1 : decode b_T_isDigit 1 = .ok (.bipush 48, 2) := by decide +kernel
theorem d_T_isDigit_3 : decode b_T_isDigit 3 = .ok (.if_icmp .lt 13, 3) := by decide +kernel
theorem d_T_isDigit_6 : decode b_T_isDigit 6 = .ok (.iload_n 0, 1) := by decide +kernel
theorem d_T_isDigit_7 : decode b_T_isDigit 7 = .ok (.bipush 57, 2) := by decide +kernel
theorem d_T_isDigit_9 : decode b_T_isDigit 9 = .ok (.if_icmp .gt 7, 3) := by decide +kernel
theorem d_T_isDigit_12 : decode b_T_isDigit 12 = .ok (.iconst 1, 1) := by decide +kernel
theorem d_T_isDigit_13 : decode b_T_isDigit 13 = .ok (.goto 4, 3) := by decide +kernel
theorem d_T_isDigit_16 : decode b_T_isDigit 16 = .ok (.iconst 0, 1) := by decide +kernel
theorem d_T_isDigit_17 : decode b_T_isDigit 17 = .ok (.ireturn, 1) := by decide +kernel
theorem d_T_isLetter_0 : decode b_T_isLetter 0 = .ok (.iload_n 0, 1) := by decide +kernel
theorem d_T_isLetter_1 : decode b_T_isLetter 1 = .ok (.bipush 97, 2) := by decide +kernel
theorem d_T_isLetter_3 : decode b_T_isLetter 3 = .ok (.if_icmp .lt 13, 3) := by decide +kernel
theorem d_T_isLetter_6 : decode b_T_isLetter 6 = .ok (.iload_n 0, 1) := by decide +kernel
theorem d_T_isLetter_7 : decode b_T_isLetter 7 = .ok (.bipush 122, 2) := by decide +kernel
theorem d_T_isLetter_9 : decode b_T_isLetter 9 = .ok (.if_icmp .gt 7, 3) := by decide +kernel
theorem d_T_isLetter_12 : decode b_T_isLetter 12 = .ok (.iconst 1, 1) := by decide +kernel
theorem d_T_isLetter_13 : decode b_T_isLetter 13 = .ok (.goto 4, 3) := by decide +kernel
theorem d_T_isLetter_16 : decode b_T_isLetter 16 = .ok (.iconst 0, 1) := by decide +kernel
theorem d_T_isLetter_17 : decode b_T_isLetter 17 = .ok (.ireturn, 1) := by decide +kernel
theorem d_I_bitCount_0 : decode b_I_bitCount 0 = .ok (.iload_n 0, 1) := by decide +kernel
theorem d_I_bitCount_1 : decode b_I_bitCount 1 = .ok (.iload_n 0, 1) := by decide +kernel
theorem d_I_bitCount_2 : decode b_I_bitCount 2 = .ok (.iconst 1, 1) := by decide +kernel
theorem d_I_bitCount_3 : decode b_I_bitCount 3 = .ok (.iushr, 1) := by decide +kernel
theorem d_I_bitCount_4 : decode b_I_bitCount 4 = .ok (.ldc_w 265, 3) := by decide +kernel
theorem d_I_bitCount_7 : decode b_I_bitCount 7 = .ok (.iand, 1) := by decide +kernel
theorem d_I_bitCount_8 : decode b_I_bitCount 8 = .ok (.isub, 1) := by decide +kernel
theorem d_I_bitCount_9 : decode b_I_bitCount 9 = .ok (.istore_n 0, 1) := by decide +kernel
theorem d_I_bitCount_10 : decode b_I_bitCount 10 = .ok (.iload_n 0, 1) := by decide +kernel
theorem d_I_bitCount_11 : decode b_I_bitCount 11 = .ok (.ldc_w 266, 3) := by decide +kernel
theorem d_I_bitCount_14 : decode b_I_bitCount 14 = .ok (.iand, 1) := by decide +kernel
theorem d_I_bitCount_15 : decode b_I_bitCount 15 = .ok (.iload_n 0, 1) := by decide +kernel
theorem d_I_bitCount_16 : decode b_I_bitCount 16 = .ok (.iconst 2, 1) := by decide +kernel
theorem d_I_bitCount_17 : decode b_I_bitCount 17 = .ok (.iushr, 1) := by decide +kernel
theorem d_I_bitCount_18 : decode b_I_bitCount 18 = .ok (.ldc_w 266, 3) := by decide +kernel
theorem d_I_bitCount_21 : decode b_I_bitCount 21 = .ok (.iand, 1) := by decide +kernel
theorem d_I_bitCount_22 : decode b_I_bitCount 22 = .ok (.iadd, 1) := by decide +kernel
theorem d_I_bitCount_23 : decode b_I_bitCount 23 = .ok (.istore_n 0, 1) := by decide +kernel
theorem d_I_bitCount_24 : decode b_I_bitCount 24 = .ok (.iload_n 0, 1) := by decide +kernel
theorem d_I_bitCount_25 : decode b_I_bitCount 25 = .ok (.iload_n 0, 1) := by decide +kernel
theorem d_I_bitCount_26 : decode b_I_bitCount 26 = .ok (.iconst 4, 1) := by decide +kernel
theorem d_I_bitCount_27 : decode b_I_bitCount 27 = .ok (.iushr, 1) := by decide +kernel
theorem d_I_bitCount_28 : decode b_I_bitCount 28 = .ok (.iadd, 1) := by decide +kernel
theorem d_I_bitCount_29 : decode b_I_bitCount 29 = .ok (.ldc_w 267, 3) := by decide +kernel
theorem d_I_bitCount_32 : decode b_I_bitCount 32 = .ok (.iand, 1) := by decide +kernel
theorem d_I_bitCount_33 : decode b_I_bitCount 33 = .ok (.istore_n 0, 1) := by decide +kernel
theorem d_I_bitCount_34 : decode b_I_bitCount 34 = .ok (.iload_n 0, 1) := by decide +kernel
theorem d_I_bitCount_35 : decode b_I_bitCount 35 = .ok (.iload_n 0, 1) := by decide +kernel
theorem d_I_bitCount_36 : decode b_I_bitCount 36 = .ok (.bipush 8, 2) := by decide +kernel
theorem d_I_bitCount_38 : decode b_I_bitCount 38 = .ok (.iushr, 1) := by decide +kernel
theorem d_I_bitCount_39 : decode b_I_bitCount 39 = .ok (.iadd, 1) := by decide +kernel
theorem d_I_bitCount_40 : decode b_I_bitCount 40 = .ok (.istore_n 0, 1) := by decide +kernel
theorem d_I_bitCount_41 : decode b_I_bitCount 41 = .ok (.iload_n 0, 1) := by decide +kernel
theorem d_I_bitCount_42 : decode b_I_bitCount 42 = .ok (.iload_n 0, 1) := by decide +kernel
theorem d_I_bitCount_43 : decode b_I_bitCount 43 = .ok (.bipush 16, 2) := by decide +kernel
theorem d_I_bitCount_45 : decode b_I_bitCount 45 = .ok (.iushr, 1) := by decide +kernel
theorem d_I_bitCount_46 : decode b_I_bitCount 46 = .ok (.iadd, 1) := by decide +kernel
theorem d_I_bitCount_47 : decode b_I_bitCount 47 = .ok (.istore_n 0, 1) := by decide +kernel
theorem d_I_bitCount_48 : decode b_I_bitCount 48 = .ok (.iload_n 0, 1) := by decide +kernel
theorem d_I_bitCount_49 : decode b_I_bitCount 49 = .ok (.bipush 63, 2) := by decide +kernel
theorem d_I_bitCount_51 : decode b_I_bitCount 51 = .ok (.iand, 1) := by decide +kernel
theorem d_I_bitCount_52 : decode b_I_bitCount 52 = .ok (.ireturn, 1) := by decide +kernel
theorem d_Y_fill_ints_int_0 : decode b_Y_fill_ints_int 0 = .ok (.iconst 0, 1) := by decide +kernel
theorem d_Y_fill_ints_int_1 : decode b_Y_fill_ints_int 1 = .ok (.istore_n 2, 1) := by decide +kernel
theorem d_Y_fill_ints_int_2 : decode b_Y_fill_ints_int 2 = .ok (.aload_n 0, 1) := by decide +kernel
theorem d_Y_fill_ints_int_3 : decode b_Y_fill_ints_int 3 = .ok (.arraylength, 1) := by decide +kernel
theorem d_Y_fill_ints_int_4 : decode b_Y_fill_ints_int 4 = .ok (.istore_n 3, 1) := by decide +kernel
theorem d_Y_fill_ints_int_5 : decode b_Y_fill_ints_int 5 = .ok (.iload_n 2, 1) := by decide +kernel
theorem d_Y_fill_ints_int_6 : decode b_Y_fill_ints_int 6 = .ok (.iload_n 3, 1) := by decide +kernel
theorem d_Y_fill_ints_int_7 : decode b_Y_fill_ints_int 7 = .ok (.if_icmp .ge 13, 3) := by decide +kernel
theorem d_Y_fill_ints_int_10 : decode b_Y_fill_ints_int 10 = .ok (.aload_n 0, 1) := by decide +kernel
theorem d_Y_fill_ints_int_11 : decode b_Y_fill_ints_int 11 = .ok (.iload_n 2, 1) := by decide +kernel
theorem d_Y_fill_ints_int_12 : decode b_Y_fill_ints_int 12 = .ok (.iload_n 1, 1) := by decide +kernel
theorem d_Y_fill_ints_int_13 : decode b_Y_fill_ints_int 13 = .ok (.iastore, 1) := by decide +kernel
theorem d_Y_fill_ints_int_14 : decode b_Y_fill_ints_int 14 = .ok (.iinc 2 1, 3) := by decide +kernel
theorem d_Y_fill_ints_int_17 : decode b_Y_fill_ints_int 17 = .ok (.goto (-12), 3) := by decide +kernel
theorem d_Y_fill_ints_int_20 : decode b_Y_fill_ints_int 20 = .ok (.return_, 1) := by decide +kernel
