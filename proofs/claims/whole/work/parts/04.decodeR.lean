theorem d_R_thrown_0 : decode b_R_thrown 0 = .ok (.aload_n 0, 1) := by decide +kernel
theorem d_R_thrown_1 : decode b_R_thrown 1 = .ok (.getfield 67, 3) := by decide +kernel
theorem d_R_thrown_4 : decode b_R_thrown 4 = .ok (.ireturn, 1) := by decide +kernel
theorem d_R_in_0 : decode b_R_in 0 = .ok (.lload_n 0, 1) := by decide +kernel
theorem d_R_in_1 : decode b_R_in 1 = .ok (.lload_n 2, 1) := by decide +kernel
theorem d_R_in_2 : decode b_R_in 2 = .ok (.lcmp, 1) := by decide +kernel
theorem d_R_in_3 : decode b_R_in 3 = .ok (.ifCond .lt 14, 3) := by decide +kernel
theorem d_R_in_6 : decode b_R_in 6 = .ok (.lload_n 0, 1) := by decide +kernel
theorem d_R_in_7 : decode b_R_in 7 = .ok (.lload 4, 2) := by decide +kernel
theorem d_R_in_9 : decode b_R_in 9 = .ok (.lcmp, 1) := by decide +kernel
theorem d_R_in_10 : decode b_R_in 10 = .ok (.ifCond .gt 7, 3) := by decide +kernel
theorem d_R_in_13 : decode b_R_in 13 = .ok (.iconst 1, 1) := by decide +kernel
theorem d_R_in_14 : decode b_R_in 14 = .ok (.goto 4, 3) := by decide +kernel
theorem d_R_in_17 : decode b_R_in 17 = .ok (.iconst 0, 1) := by decide +kernel
theorem d_R_in_18 : decode b_R_in 18 = .ok (.ireturn, 1) := by decide +kernel
theorem d_R_everything_0 : decode b_R_everything 0 = .ok (.iconst 1, 1) := by decide +kernel
theorem d_R_everything_1 : decode b_R_everything 1 = .ok (.aload_n 0, 1) := by decide +kernel
theorem d_R_everything_2 : decode b_R_everything 2 = .ok (.getfield 7, 3) := by decide +kernel
theorem d_R_everything_5 : decode b_R_everything 5 = .ok (.iconst 0, 1) := by decide +kernel
theorem d_R_everything_6 : decode b_R_everything 6 = .ok (.iaload, 1) := by decide +kernel
theorem d_R_everything_7 : decode b_R_everything 7 = .ok (.ishl, 1) := by decide +kernel
theorem d_R_everything_8 : decode b_R_everything 8 = .ok (.iconst 1, 1) := by decide +kernel
theorem d_R_everything_9 : decode b_R_everything 9 = .ok (.isub, 1) := by decide +kernel
theorem d_R_everything_10 : decode b_R_everything 10 = .ok (.ireturn, 1) := by decide +kernel
theorem d_R_isOne_0 : decode b_R_isOne 0 = .ok (.iload_n 0, 1) := by decide +kernel
theorem d_R_isOne_1 : decode b_R_isOne 1 = .ok (.ifCond .eq 15, 3) := by decide +kernel
theorem d_R_isOne_4 : decode b_R_isOne 4 = .ok (.iload_n 0, 1) := by decide +kernel
theorem d_R_isOne_5 : decode b_R_isOne 5 = .ok (.iload_n 0, 1) := by decide +kernel
theorem d_R_isOne_6 : decode b_R_isOne 6 = .ok (.iconst 1, 1) := by decide +kernel
theorem d_R_isOne_7 : decode b_R_isOne 7 = .ok (.isub, 1) := by decide +kernel
theorem d_R_isOne_8 : decode b_R_isOne 8 = .ok (.iand, 1) := by decide +kernel
theorem d_R_isOne_9 : decode b_R_isOne 9 = .ok (.ifCond .ne 7, 3) := by decide +kernel
theorem d_R_isOne_12 : decode b_R_isOne 12 = .ok (.iconst 1, 1) := by decide +kernel
theorem d_R_isOne_13 : decode b_R_isOne 13 = .ok (.goto 4, 3) := by decide +kernel
theorem d_R_isOne_16 : decode b_R_isOne 16 = .ok (.iconst 0, 1) := by decide +kernel
theorem d_R_isOne_17 : decode b_R_isOne 17 = .ok (.ireturn, 1) := by decide +kernel
theorem d_R_least_0 : decode b_R_least 0 = .ok (.iload_n 0, 1) := by decide +kernel
theorem d_R_least_1 : decode b_R_least 1 = .ok (.iload_n 0, 1) := by decide +kernel
theorem d_R_least_2 : decode b_R_least 2 = .ok (.ineg, 1) := by decide +kernel
theorem d_R_least_3 : decode b_R_least 3 = .ok (.iand, 1) := by decide +kernel
theorem d_R_least_4 : decode b_R_least 4 = .ok (.ireturn, 1) := by decide +kernel
theorem d_R_isIn_0 : decode b_R_isIn 0 = .ok (.iload_n 0, 1) := by decide +kernel
theorem d_R_isIn_1 : decode b_R_isIn 1 = .ok (.iload_n 1, 1) := by decide +kernel
theorem d_R_isIn_2 : decode b_R_isIn 2 = .ok (.iconst (-1), 1) := by decide +kernel
theorem d_R_isIn_3 : decode b_R_isIn 3 = .ok (.ixor, 1) := by decide +kernel
theorem d_R_isIn_4 : decode b_R_isIn 4 = .ok (.iand, 1) := by decide +kernel
theorem d_R_isIn_5 : decode b_R_isIn 5 = .ok (.ifCond .ne 7, 3) := by decide +kernel
theorem d_R_isIn_8 : decode b_R_isIn 8 = .ok (.iconst 1, 1) := by decide +kernel
theorem d_R_isIn_9 : decode b_R_isIn 9 = .ok (.goto 4, 3) := by decide +kernel
theorem d_R_isIn_12 : decode b_R_isIn 12 = .ok (.iconst 0, 1) := by decide +kernel
theorem d_R_isIn_13 : decode b_R_isIn 13 = .ok (.ireturn, 1) := by decide +kernel
theorem d_R_isSet_0 : decode b_R_isSet 0 = .ok (.iload_n 1, 1) := by decide +kernel
theorem d_R_isSet_1 : decode b_R_isSet 1 = .ok (.ifCond .eq 18, 3) := by decide +kernel
theorem d_R_isSet_4 : decode b_R_isSet 4 = .ok (.iload_n 1, 1) := by decide +kernel
theorem d_R_isSet_5 : decode b_R_isSet 5 = .ok (.aload_n 0, 1) := by decide +kernel
theorem d_R_isSet_6 : decode b_R_isSet 6 = .ok (.invokevirtual 71, 3) := by decide +kernel
theorem d_R_isSet_9 : decode b_R_isSet 9 = .ok (.invokestatic 75, 3) := by decide +kernel
theorem d_R_isSet_12 : decode b_R_isSet 12 = .ok (.ifCond .eq 7, 3) := by decide +kernel
theorem d_R_isSet_15 : decode b_R_isSet 15 = .ok (.iconst 1, 1) := by decide +kernel
theorem d_R_isSet_16 : decode b_R_isSet 16 = .ok (.goto 4, 3) := by decide +kernel
theorem d_R_isSet_19 : decode b_R_isSet 19 = .ok (.iconst 0, 1) := by decide +kernel
theorem d_R_isSet_20 : decode b_R_isSet 20 = .ok (.ireturn, 1) := by decide +kernel
theorem d_R_leftOf_0 : decode b_R_leftOf 0 = .ok (.aload_n 0, 1) := by decide +kernel
theorem d_R_leftOf_1 : decode b_R_leftOf 1 = .ok (.getfield 7, 3) := by decide +kernel
theorem d_R_leftOf_4 : decode b_R_leftOf 4 = .ok (.bipush 10, 2) := by decide +kernel
theorem d_R_leftOf_6 : decode b_R_leftOf 6 = .ok (.iconst 3, 1) := by decide +kernel
theorem d_R_leftOf_7 : decode b_R_leftOf 7 = .ok (.iload_n 1, 1) := by decide +kernel
theorem d_R_leftOf_8 : decode b_R_leftOf 8 = .ok (.imul, 1) := by decide +kernel
theorem d_R_leftOf_9 : decode b_R_leftOf 9 = .ok (.iadd, 1) := by decide +kernel
theorem d_R_leftOf_10 : decode b_R_leftOf 10 = .ok (.iaload, 1) := by decide +kernel
theorem d_R_leftOf_11 : decode b_R_leftOf 11 = .ok (.ireturn, 1) := by decide +kernel
theorem d_R_rightOf_0 : decode b_R_rightOf 0 = .ok (.aload_n 0, 1) := by decide +kernel
theorem d_R_rightOf_1 : decode b_R_rightOf 1 = .ok (.getfield 7, 3) := by decide +kernel
theorem d_R_rightOf_4 : decode b_R_rightOf 4 = .ok (.bipush 10, 2) := by decide +kernel
theorem d_R_rightOf_6 : decode b_R_rightOf 6 = .ok (.iconst 3, 1) := by decide +kernel
theorem d_R_rightOf_7 : decode b_R_rightOf 7 = .ok (.iload_n 1, 1) := by decide +kernel
theorem d_R_rightOf_8 : decode b_R_rightOf 8 = .ok (.imul, 1) := by decide +kernel
theorem d_R_rightOf_9 : decode b_R_rightOf 9 = .ok (.iadd, 1) := by decide +kernel
theorem d_R_rightOf_10 : decode b_R_rightOf 10 = .ok (.iconst 1, 1) := by decide +kernel
theorem d_R_rightOf_11 : decode b_R_rightOf 11 = .ok (.iadd, 1) := by decide +kernel
theorem d_R_rightOf_12 : decode b_R_rightOf 12 = .ok (.iaload, 1) := by decide +kernel
theorem d_R_rightOf_13 : decode b_R_rightOf 13 = .ok (.ireturn, 1) := by decide +kernel
theorem d_R_byOf_0 : decode b_R_byOf 0 = .ok (.aload_n 0, 1) := by decide +kernel
theorem d_R_byOf_1 : decode b_R_byOf 1 = .ok (.getfield 7, 3) := by decide +kernel
theorem d_R_byOf_4 : decode b_R_byOf 4 = .ok (.bipush 10, 2) := by decide +kernel
theorem d_R_byOf_6 : decode b_R_byOf 6 = .ok (.iconst 3, 1) := by decide +kernel
theorem d_R_byOf_7 : decode b_R_byOf 7 = .ok (.iload_n 1, 1) := by decide +kernel
theorem d_R_byOf_8 : decode b_R_byOf 8 = .ok (.imul, 1) := by decide +kernel
theorem d_R_byOf_9 : decode b_R_byOf 9 = .ok (.iadd, 1) := by decide +kernel
theorem d_R_byOf_10 : decode b_R_byOf 10 = .ok (.iconst 2, 1) := by decide +kernel
theorem d_R_byOf_11 : decode b_R_byOf 11 = .ok (.iadd, 1) := by decide +kernel
theorem d_R_byOf_12 : decode b_R_byOf 12 = .ok (.iaload, 1) := by decide +kernel
theorem d_R_byOf_13 : decode b_R_byOf 13 = .ok (.ireturn, 1) := by decide +kernel
theorem d_R_type_0 : decode b_R_type 0 = .ok (.aload_n 0, 1) := by decide +kernel
theorem d_R_type_1 : decode b_R_type 1 = .ok (.iconst 0, 1) := by decide +kernel
theorem d_R_type_2 : decode b_R_type 2 = .ok (.putfield 67, 3) := by decide +kernel
theorem d_R_type_5 : decode b_R_type 5 = .ok (.iconst 0, 1) := by decide +kernel
theorem d_R_type_6 : decode b_R_type 6 = .ok (.istore_n 3, 1) := by decide +kernel
theorem d_R_type_7 : decode b_R_type 7 = .ok (.iload_n 3, 1) := by decide +kernel
theorem d_R_type_8 : decode b_R_type 8 = .ok (.bipush 8, 2) := by decide +kernel
theorem d_R_type_10 : decode b_R_type 10 = .ok (.if_icmp .ge 27, 3) := by decide +kernel
theorem d_R_type_13 : decode b_R_type 13 = .ok (.lload_n 1, 1) := by decide +kernel
theorem d_R_type_14 : decode b_R_type 14 = .ok (.bipush 56, 2) := by decide +kernel
theorem d_R_type_16 : decode b_R_type 16 = .ok (.bipush 8, 2) := by decide +kernel
theorem d_R_type_18 : decode b_R_type 18 = .ok (.iload_n 3, 1) := by decide +kernel
theorem d_R_type_19 : decode b_R_type 19 = .ok (.imul, 1) := by decide +kernel
theorem d_R_type_20 : decode b_R_type 20 = .ok (.isub, 1) := by decide +kernel
theorem d_R_type_21 : decode b_R_type 21 = .ok (.lshr, 1) := by decide +kernel
theorem d_R_type_22 : decode b_R_type 22 = .ok (.ldc2_w 79, 3) := by decide +kernel
theorem d_R_type_25 : decode b_R_type 25 = .ok (.land, 1) := by decide +kernel
theorem d_R_type_26 : decode b_R_type 26 = .ok (.lconst 0, 1) := by decide +kernel
theorem d_R_type_27 : decode b_R_type 27 = .ok (.lcmp, 1) := by decide +kernel
theorem d_R_type_28 : decode b_R_type 28 = .ok (.ifCond .eq 9, 3) := by decide +kernel
theorem d_R_type_31 : decode b_R_type 31 = .ok (.iinc 3 1, 3) := by decide +kernel
theorem d_R_type_34 : decode b_R_type 34 = .ok (.goto (-27), 3) := by decide +kernel
theorem d_R_type_37 : decode b_R_type 37 = .ok (.aload_n 0, 1) := by decide +kernel
theorem d_R_type_38 : decode b_R_type 38 = .ok (.getfield 7, 3) := by decide +kernel
theorem d_R_type_41 : decode b_R_type 41 = .ok (.sipush 316, 3) := by decide +kernel
theorem d_R_type_44 : decode b_R_type 44 = .ok (.iaload, 1) := by decide +kernel
theorem d_R_type_45 : decode b_R_type 45 = .ok (.iload_n 3, 1) := by decide +kernel
theorem d_R_type_46 : decode b_R_type 46 = .ok (.iadd, 1) := by decide +kernel
theorem d_R_type_47 : decode b_R_type 47 = .ok (.sipush 500, 3) := by decide +kernel
theorem d_R_type_50 : decode b_R_type 50 = .ok (.if_icmp .le 5, 3) := by decide +kernel
theorem d_R_type_53 : decode b_R_type 53 = .ok (.iconst (-1), 1) := by decide +kernel
theorem d_R_type_54 : decode b_R_type 54 = .ok (.ireturn, 1) := by decide +kernel
theorem d_R_type_55 : decode b_R_type 55 = .ok (.iconst 0, 1) := by decide +kernel
theorem d_R_type_56 : decode b_R_type 56 = .ok (.istore 4, 2) := by decide +kernel
theorem d_R_type_58 : decode b_R_type 58 = .ok (.iload 4, 2) := by decide +kernel
theorem d_R_type_60 : decode b_R_type 60 = .ok (.iload_n 3, 1) := by decide +kernel
theorem d_R_type_61 : decode b_R_type 61 = .ok (.if_icmp .ge 46, 3) := by decide +kernel
theorem d_R_type_64 : decode b_R_type 64 = .ok (.aload_n 0, 1) := by decide +kernel
theorem d_R_type_65 : decode b_R_type 65 = .ok (.getfield 13, 3) := by decide +kernel
theorem d_R_type_68 : decode b_R_type 68 = .ok (.aload_n 0, 1) := by decide +kernel
theorem d_R_type_69 : decode b_R_type 69 = .ok (.getfield 7, 3) := by decide +kernel
theorem d_R_type_72 : decode b_R_type 72 = .ok (.sipush 316, 3) := by decide +kernel
theorem d_R_type_75 : decode b_R_type 75 = .ok (.iaload, 1) := by decide +kernel
theorem d_R_type_76 : decode b_R_type 76 = .ok (.lload_n 1, 1) := by decide +kernel
theorem d_R_type_77 : decode b_R_type 77 = .ok (.bipush 56, 2) := by decide +kernel
theorem d_R_type_79 : decode b_R_type 79 = .ok (.bipush 8, 2) := by decide +kernel
theorem d_R_type_81 : decode b_R_type 81 = .ok (.iload 4, 2) := by decide +kernel
theorem d_R_type_83 : decode b_R_type 83 = .ok (.imul, 1) := by decide +kernel
theorem d_R_type_84 : decode b_R_type 84 = .ok (.isub, 1) := by decide +kernel
theorem d_R_type_85 : decode b_R_type 85 = .ok (.lshr, 1) := by decide +kernel
theorem d_R_type_86 : decode b_R_type 86 = .ok (.l2i, 1) := by decide +kernel
theorem d_R_type_87 : decode b_R_type 87 = .ok (.i2b, 1) := by decide +kernel
theorem d_R_type_88 : decode b_R_type 88 = .ok (.bastore, 1) := by decide +kernel
theorem d_R_type_89 : decode b_R_type 89 = .ok (.aload_n 0, 1) := by decide +kernel
theorem d_R_type_90 : decode b_R_type 90 = .ok (.getfield 7, 3) := by decide +kernel
theorem d_R_type_93 : decode b_R_type 93 = .ok (.sipush 316, 3) := by decide +kernel
theorem d_R_type_96 : decode b_R_type 96 = .ok (.dup2, 1) := by decide +kernel
theorem d_R_type_97 : decode b_R_type 97 = .ok (.iaload, 1) := by decide +kernel
theorem d_R_type_98 : decode b_R_type 98 = .ok (.iconst 1, 1) := by decide +kernel
theorem d_R_type_99 : decode b_R_type 99 = .ok (.iadd, 1) := by decide +kernel
theorem d_R_type_100 : decode b_R_type 100 = .ok (.iastore, 1) := by decide +kernel
theorem d_R_type_101 : decode b_R_type 101 = .ok (.iinc 4 1, 3) := by decide +kernel
theorem d_R_type_104 : decode b_R_type 104 = .ok (.goto (-46), 3) := by decide +kernel
theorem d_R_type_107 : decode b_R_type 107 = .ok (.aload_n 0, 1) := by decide +kernel
theorem d_R_type_108 : decode b_R_type 108 = .ok (.getfield 7, 3) := by decide +kernel
theorem d_R_type_111 : decode b_R_type 111 = .ok (.sipush 316, 3) := by decide +kernel
theorem d_R_type_114 : decode b_R_type 114 = .ok (.iaload, 1) := by decide +kernel
theorem d_R_type_115 : decode b_R_type 115 = .ok (.ireturn, 1) := by decide +kernel
theorem d_R_see_0 : decode b_R_see 0 = .ok (.aload_n 0, 1) := by decide +kernel
theorem d_R_see_1 : decode b_R_see 1 = .ok (.getfield 81, 3) := by decide +kernel
theorem d_R_see_4 : decode b_R_see 4 = .ok (.aload_n 0, 1) := by decide +kernel
theorem d_R_see_5 : decode b_R_see 5 = .ok (.getfield 84, 3) := by decide +kernel
theorem d_R_see_8 : decode b_R_see 8 = .ok (.if_icmp .ge 19, 3) := by decide +kernel
theorem d_R_see_11 : decode b_R_see 11 = .ok (.aload_n 0, 1) := by decide +kernel
theorem d_R_see_12 : decode b_R_see 12 = .ok (.getfield 13, 3) := by decide +kernel
theorem d_R_see_15 : decode b_R_see 15 = .ok (.aload_n 0, 1) := by decide +kernel
theorem d_R_see_16 : decode b_R_see 16 = .ok (.getfield 81, 3) := by decide +kernel
theorem d_R_see_19 : decode b_R_see 19 = .ok (.baload, 1) := by decide +kernel
theorem d_R_see_20 : decode b_R_see 20 = .ok (.sipush 255, 3) := by decide +kernel
theorem d_R_see_23 : decode b_R_see 23 = .ok (.iand, 1) := by decide +kernel
theorem d_R_see_24 : decode b_R_see 24 = .ok (.goto 4, 3) := by decide +kernel
theorem d_R_see_27 : decode b_R_see 27 = .ok (.iconst (-1), 1) := by decide +kernel
theorem d_R_see_28 : decode b_R_see 28 = .ok (.ireturn, 1) := by decide +kernel
theorem d_R_token_0 : decode b_R_token 0 = .ok (.aload_n 0, 1) := by decide +kernel
theorem d_R_token_1 : decode b_R_token 1 = .ok (.invokevirtual 87, 3) := by decide +kernel
theorem d_R_token_4 : decode b_R_token 4 = .ok (.bipush 10, 2) := by decide +kernel
theorem d_R_token_6 : decode b_R_token 6 = .ok (.if_icmp .eq 12, 3) := by decide +kernel
theorem d_R_token_9 : decode b_R_token 9 = .ok (.aload_n 0, 1) := by decide +kernel
theorem d_R_token_10 : decode b_R_token 10 = .ok (.invokevirtual 87, 3) := by decide +kernel
theorem d_R_token_13 : decode b_R_token 13 = .ok (.bipush 32, 2) := by decide +kernel
theorem d_R_token_15 : decode b_R_token 15 = .ok (.if_icmp .ne 16, 3) := by decide +kernel
theorem d_R_token_18 : decode b_R_token 18 = .ok (.aload_n 0, 1) := by decide +kernel
theorem d_R_token_19 : decode b_R_token 19 = .ok (.dup, 1) := by decide +kernel
theorem d_R_token_20 : decode b_R_token 20 = .ok (.getfield 81, 3) := by decide +kernel
theorem d_R_token_23 : decode b_R_token 23 = .ok (.iconst 1, 1) := by decide +kernel
theorem d_R_token_24 : decode b_R_token 24 = .ok (.iadd, 1) := by decide +kernel
theorem d_R_token_25 : decode b_R_token 25 = .ok (.putfield 81, 3) := by decide +kernel
theorem d_R_token_28 : decode b_R_token 28 = .ok (.goto (-28), 3) := by decide +kernel
theorem d_R_token_31 : decode b_R_token 31 = .ok (.aload_n 0, 1) := by decide +kernel
theorem d_R_token_32 : decode b_R_token 32 = .ok (.aload_n 0, 1) := by decide +kernel
theorem d_R_token_33 : decode b_R_token 33 = .ok (.getfield 81, 3) := by decide +kernel
theorem d_R_token_36 : decode b_R_token 36 = .ok (.putfield 90, 3) := by decide +kernel
theorem d_R_token_39 : decode b_R_token 39 = .ok (.aload_n 0, 1) := by decide +kernel
theorem d_R_token_40 : decode b_R_token 40 = .ok (.invokevirtual 87, 3) := by decide +kernel
theorem d_R_token_43 : decode b_R_token 43 = .ok (.istore_n 1, 1) := by decide +kernel
theorem d_R_token_44 : decode b_R_token 44 = .ok (.aload_n 0, 1) := by decide +kernel
theorem d_R_token_45 : decode b_R_token 45 = .ok (.lconst 0, 1) := by decide +kernel
theorem d_R_token_46 : decode b_R_token 46 = .ok (.putfield 93, 3) := by decide +kernel
theorem d_R_token_49 : decode b_R_token 49 = .ok (.aload_n 0, 1) := by decide +kernel
theorem d_R_token_50 : decode b_R_token 50 = .ok (.iconst 0, 1) := by decide +kernel
theorem d_R_token_51 : decode b_R_token 51 = .ok (.putfield 97, 3) := by decide +kernel
theorem d_R_token_54 : decode b_R_token 54 = .ok (.iconst 0, 1) := by decide +kernel
theorem d_R_token_55 : decode b_R_token 55 = .ok (.istore_n 2, 1) := by decide +kernel
theorem d_R_token_56 : decode b_R_token 56 = .ok (.iload_n 1, 1) := by decide +kernel
theorem d_R_token_57 : decode b_R_token 57 = .ok (.ifCond .ge 11, 3) := by decide +kernel
theorem d_R_token_60 : decode b_R_token 60 = .ok (.aload_n 0, 1) := by decide +kernel
theorem d_R_token_61 : decode b_R_token 61 = .ok (.iconst 0, 1) := by decide +kernel
theorem d_R_token_62 : decode b_R_token 62 = .ok (.putfield 100, 3) := by decide +kernel
theorem d_R_token_65 : decode b_R_token 65 = .ok (.goto 243, 3) := by decide +kernel
theorem d_R_token_68 : decode b_R_token 68 = .ok (.iload_n 1, 1) := by decide +kernel
theorem d_R_token_69 : decode b_R_token 69 = .ok (.i2l, 1) := by decide +kernel
theorem d_R_token_70 : decode b_R_token 70 = .ok (.ldc2_w 103, 3) := by decide +kernel
theorem d_R_token_73 : decode b_R_token 73 = .ok (.ldc2_w 105, 3) := by decide +kernel
theorem d_R_token_76 : decode b_R_token 76 = .ok (.invokestatic 107, 3) := by decide +kernel
theorem d_R_token_79 : decode b_R_token 79 = .ok (.ifCond .eq 79, 3) := by decide +kernel
theorem d_R_token_82 : decode b_R_token 82 = .ok (.aload_n 0, 1) := by decide +kernel
theorem d_R_token_83 : decode b_R_token 83 = .ok (.invokevirtual 87, 3) := by decide +kernel
theorem d_R_token_86 : decode b_R_token 86 = .ok (.i2l, 1) := by decide +kernel
theorem d_R_token_87 : decode b_R_token 87 = .ok (.ldc2_w 103, 3) := by decide +kernel
theorem d_R_token_90 : decode b_R_token 90 = .ok (.ldc2_w 105, 3) := by decide +kernel
theorem d_R_token_93 : decode b_R_token 93 = .ok (.invokestatic 107, 3) := by decide +kernel
theorem d_R_token_96 : decode b_R_token 96 = .ok (.ifCond .eq 36, 3) := by decide +kernel
theorem d_R_token_99 : decode b_R_token 99 = .ok (.aload_n 0, 1) := by decide +kernel
theorem d_R_token_100 : decode b_R_token 100 = .ok (.aload_n 0, 1) := by decide +kernel
theorem d_R_token_101 : decode b_R_token 101 = .ok (.getfield 93, 3) := by decide +kernel
theorem d_R_token_104 : decode b_R_token 104 = .ok (.bipush 8, 2) := by decide +kernel
theorem d_R_token_106 : decode b_R_token 106 = .ok (.lshl, 1) := by decide +kernel
theorem d_R_token_107 : decode b_R_token 107 = .ok (.aload_n 0, 1) := by decide +kernel
theorem d_R_token_108 : decode b_R_token 108 = .ok (.invokevirtual 87, 3) := by decide +kernel
theorem d_R_token_111 : decode b_R_token 111 = .ok (.i2l, 1) := by decide +kernel
theorem d_R_token_112 : decode b_R_token 112 = .ok (.lor, 1) := by decide +kernel
theorem d_R_token_113 : decode b_R_token 113 = .ok (.putfield 93, 3) := by decide +kernel
theorem d_R_token_116 : decode b_R_token 116 = .ok (.aload_n 0, 1) := by decide +kernel
theorem d_R_token_117 : decode b_R_token 117 = .ok (.dup, 1) := by decide +kernel
theorem d_R_token_118 : decode b_R_token 118 = .ok (.getfield 81, 3) := by decide +kernel
theorem d_R_token_121 : decode b_R_token 121 = .ok (.iconst 1, 1) := by decide +kernel
theorem d_R_token_122 : decode b_R_token 122 = .ok (.iadd, 1) := by decide +kernel
theorem d_R_token_123 : decode b_R_token 123 = .ok (.putfield 81, 3) := by decide +kernel
theorem d_R_token_126 : decode b_R_token 126 = .ok (.iinc 2 1, 3) := by decide +kernel
theorem d_R_token_129 : decode b_R_token 129 = .ok (.goto (-47), 3) := by decide +kernel
theorem d_R_token_132 : decode b_R_token 132 = .ok (.aload_n 0, 1) := by decide +kernel
theorem d_R_token_133 : decode b_R_token 133 = .ok (.iload_n 2, 1) := by decide +kernel
theorem d_R_token_134 : decode b_R_token 134 = .ok (.bipush 8, 2) := by decide +kernel
theorem d_R_token_136 : decode b_R_token 136 = .ok (.if_icmp .le 7, 3) := by decide +kernel
theorem d_R_token_139 : decode b_R_token 139 = .ok (.lconst 0, 1) := by decide +kernel
theorem d_R_token_140 : decode b_R_token 140 = .ok (.goto 7, 3) := by decide +kernel
theorem d_R_token_143 : decode b_R_token 143 = .ok (.aload_n 0, 1) := by decide +kernel
theorem d_R_token_144 : decode b_R_token 144 = .ok (.getfield 93, 3) := by decide +kernel
theorem d_R_token_147 : decode b_R_token 147 = .ok (.putfield 93, 3) := by decide +kernel
theorem d_R_token_150 : decode b_R_token 150 = .ok (.aload_n 0, 1) := by decide +kernel
theorem d_R_token_151 : decode b_R_token 151 = .ok (.iconst 2, 1) := by decide +kernel
theorem d_R_token_152 : decode b_R_token 152 = .ok (.putfield 100, 3) := by decide +kernel
theorem d_R_token_155 : decode b_R_token 155 = .ok (.goto 153, 3) := by decide +kernel
theorem d_R_token_158 : decode b_R_token 158 = .ok (.iload_n 1, 1) := by decide +kernel
theorem d_R_token_159 : decode b_R_token 159 = .ok (.i2l, 1) := by decide +kernel
theorem d_R_token_160 : decode b_R_token 160 = .ok (.ldc2_w 111, 3) := by decide +kernel
theorem d_R_token_163 : decode b_R_token 163 = .ok (.ldc2_w 113, 3) := by decide +kernel
theorem d_R_token_166 : decode b_R_token 166 = .ok (.invokestatic 107, 3) := by decide +kernel
theorem d_R_token_169 : decode b_R_token 169 = .ok (.ifCond .eq 91, 3) := by decide +kernel
theorem d_R_token_172 : decode b_R_token 172 = .ok (.aload_n 0, 1) := by decide +kernel
theorem d_R_token_173 : decode b_R_token 173 = .ok (.iconst 0, 1) := by decide +kernel
theorem d_R_token_174 : decode b_R_token 174 = .ok (.putfield 115, 3) := by decide +kernel
theorem d_R_token_177 : decode b_R_token 177 = .ok (.aload_n 0, 1) := by decide +kernel
theorem d_R_token_178 : decode b_R_token 178 = .ok (.invokevirtual 87, 3) := by decide +kernel
theorem d_R_token_181 : decode b_R_token 181 = .ok (.i2l, 1) := by decide +kernel
theorem d_R_token_182 : decode b_R_token 182 = .ok (.ldc2_w 111, 3) := by decide +kernel
theorem d_R_token_185 : decode b_R_token 185 = .ok (.ldc2_w 113, 3) := by decide +kernel
theorem d_R_token_188 : decode b_R_token 188 = .ok (.invokestatic 107, 3) := by decide +kernel
theorem d_R_token_191 : decode b_R_token 191 = .ok (.ifCond .eq 51, 3) := by decide +kernel
theorem d_R_token_194 : decode b_R_token 194 = .ok (.aload_n 0, 1) := by decide +kernel
theorem d_R_token_195 : decode b_R_token 195 = .ok (.iload_n 2, 1) := by decide +kernel
theorem d_R_token_196 : decode b_R_token 196 = .ok (.bipush 7, 2) := by decide +kernel
theorem d_R_token_198 : decode b_R_token 198 = .ok (.if_icmp .ge 21, 3) := by decide +kernel
theorem d_R_token_201 : decode b_R_token 201 = .ok (.bipush 10, 2) := by decide +kernel
theorem d_R_token_203 : decode b_R_token 203 = .ok (.aload_n 0, 1) := by decide +kernel
theorem d_R_token_204 : decode b_R_token 204 = .ok (.getfield 115, 3) := by decide +kernel
theorem d_R_token_207 : decode b_R_token 207 = .ok (.imul, 1) := by decide +kernel
theorem d_R_token_208 : decode b_R_token 208 = .ok (.aload_n 0, 1) := by decide +kernel
theorem d_R_token_209 : decode b_R_token 209 = .ok (.invokevirtual 87, 3) := by decide +kernel
theorem d_R_token_212 : decode b_R_token 212 = .ok (.iadd, 1) := by decide +kernel
theorem d_R_token_213 : decode b_R_token 213 = .ok (.bipush 48, 2) := by decide +kernel
theorem d_R_token_215 : decode b_R_token 215 = .ok (.isub, 1) := by decide +kernel
theorem d_R_token_216 : decode b_R_token 216 = .ok (.goto 7, 3) := by decide +kernel
theorem d_R_token_219 : decode b_R_token 219 = .ok (.aload_n 0, 1) := by decide +kernel
theorem d_R_token_220 : decode b_R_token 220 = .ok (.getfield 115, 3) := by decide +kernel
theorem d_R_token_223 : decode b_R_token 223 = .ok (.putfield 115, 3) := by decide +kernel
theorem d_R_token_226 : decode b_R_token 226 = .ok (.aload_n 0, 1) := by decide +kernel
theorem d_R_token_227 : decode b_R_token 227 = .ok (.dup, 1) := by decide +kernel
theorem d_R_token_228 : decode b_R_token 228 = .ok (.getfield 81, 3) := by decide +kernel
theorem d_R_token_231 : decode b_R_token 231 = .ok (.iconst 1, 1) := by decide +kernel
theorem d_R_token_232 : decode b_R_token 232 = .ok (.iadd, 1) := by decide +kernel
theorem d_R_token_233 : decode b_R_token 233 = .ok (.putfield 81, 3) := by decide +kernel
theorem d_R_token_236 : decode b_R_token 236 = .ok (.iinc 2 1, 3) := by decide +kernel
theorem d_R_token_239 : decode b_R_token 239 = .ok (.goto (-62), 3) := by decide +kernel
theorem d_R_token_242 : decode b_R_token 242 = .ok (.aload_n 0, 1) := by decide +kernel
theorem d_R_token_243 : decode b_R_token 243 = .ok (.iload_n 2, 1) := by decide +kernel
theorem d_R_token_244 : decode b_R_token 244 = .ok (.bipush 7, 2) := by decide +kernel
theorem d_R_token_246 : decode b_R_token 246 = .ok (.if_icmp .le 7, 3) := by decide +kernel
theorem d_R_token_249 : decode b_R_token 249 = .ok (.iconst 1, 1) := by decide +kernel
theorem d_R_token_250 : decode b_R_token 250 = .ok (.goto 4, 3) := by decide +kernel
theorem d_R_token_253 : decode b_R_token 253 = .ok (.iconst 3, 1) := by decide +kernel
theorem d_R_token_254 : decode b_R_token 254 = .ok (.putfield 100, 3) := by decide +kernel
theorem d_R_token_257 : decode b_R_token 257 = .ok (.goto 51, 3) := by decide +kernel
theorem d_R_token_260 : decode b_R_token 260 = .ok (.aload_n 0, 1) := by decide +kernel
theorem d_R_token_261 : decode b_R_token 261 = .ok (.dup, 1) := by decide +kernel
theorem d_R_token_262 : decode b_R_token 262 = .ok (.getfield 81, 3) := by decide +kernel
theorem d_R_token_265 : decode b_R_token 265 = .ok (.iconst 1, 1) := by decide +kernel
theorem d_R_token_266 : decode b_R_token 266 = .ok (.iadd, 1) := by decide +kernel
theorem d_R_token_267 : decode b_R_token 267 = .ok (.putfield 81, 3) := by decide +kernel
theorem d_R_token_270 : decode b_R_token 270 = .ok (.aload_n 0, 1) := by decide +kernel
theorem d_R_token_271 : decode b_R_token 271 = .ok (.iload_n 1, 1) := by decide +kernel
theorem d_R_token_272 : decode b_R_token 272 = .ok (.putfield 97, 3) := by decide +kernel
theorem d_R_token_275 : decode b_R_token 275 = .ok (.aload_n 0, 1) := by decide +kernel
theorem d_R_token_276 : decode b_R_token 276 = .ok (.iload_n 1, 1) := by decide +kernel
theorem d_R_token_277 : decode b_R_token 277 = .ok (.bipush 59, 2) := by decide +kernel
theorem d_R_token_279 : decode b_R_token 279 = .ok (.if_icmp .eq 21, 3) := by decide +kernel
theorem d_R_token_282 : decode b_R_token 282 = .ok (.iload_n 1, 1) := by decide +kernel
theorem d_R_token_283 : decode b_R_token 283 = .ok (.bipush 45, 2) := by decide +kernel
theorem d_R_token_285 : decode b_R_token 285 = .ok (.if_icmp .eq 15, 3) := by decide +kernel
theorem d_R_token_288 : decode b_R_token 288 = .ok (.iload_n 1, 1) := by decide +kernel
theorem d_R_token_289 : decode b_R_token 289 = .ok (.bipush 40, 2) := by decide +kernel
theorem d_R_token_291 : decode b_R_token 291 = .ok (.if_icmp .eq 9, 3) := by decide +kernel
theorem d_R_token_294 : decode b_R_token 294 = .ok (.iload_n 1, 1) := by decide +kernel
theorem d_R_token_295 : decode b_R_token 295 = .ok (.bipush 41, 2) := by decide +kernel
theorem d_R_token_297 : decode b_R_token 297 = .ok (.if_icmp .ne 7, 3) := by decide +kernel
theorem d_R_token_300 : decode b_R_token 300 = .ok (.iconst 4, 1) := by decide +kernel
theorem d_R_token_301 : decode b_R_token 301 = .ok (.goto 4, 3) := by decide +kernel
theorem d_R_token_304 : decode b_R_token 304 = .ok (.iconst 1, 1) := by decide +kernel
theorem d_R_token_305 : decode b_R_token 305 = .ok (.putfield 100, 3) := by decide +kernel
theorem d_R_token_308 : decode b_R_token 308 = .ok (.return_, 1) := by decide +kernel
theorem d_R_fails_0 : decode b_R_fails 0 = .ok (.aload_n 0, 1) := by decide +kernel
theorem d_R_fails_1 : decode b_R_fails 1 = .ok (.aload_n 0, 1) := by decide +kernel
theorem d_R_fails_2 : decode b_R_fails 2 = .ok (.getfield 90, 3) := by decide +kernel
theorem d_R_fails_5 : decode b_R_fails 5 = .ok (.putfield 118, 3) := by decide +kernel
theorem d_R_fails_8 : decode b_R_fails 8 = .ok (.iconst 0, 1) := by decide +kernel
theorem d_R_fails_9 : decode b_R_fails 9 = .ok (.ireturn, 1) := by decide +kernel
theorem d_R_isBad_0 : decode b_R_isBad 0 = .ok (.aload_n 0, 1) := by decide +kernel
theorem d_R_isBad_1 : decode b_R_isBad 1 = .ok (.getfield 121, 3) := by decide +kernel
theorem d_R_isBad_4 : decode b_R_isBad 4 = .ok (.ifCond .eq 27, 3) := by decide +kernel
theorem d_R_isBad_7 : decode b_R_isBad 7 = .ok (.iload_n 2, 1) := by decide +kernel
theorem d_R_isBad_8 : decode b_R_isBad 8 = .ok (.aload_n 0, 1) := by decide +kernel
theorem d_R_isBad_9 : decode b_R_isBad 9 = .ok (.getfield 124, 3) := by decide +kernel
theorem d_R_isBad_12 : decode b_R_isBad 12 = .ok (.if_icmp .lt 19, 3) := by decide +kernel
theorem d_R_isBad_15 : decode b_R_isBad 15 = .ok (.iload_n 2, 1) := by decide +kernel
theorem d_R_isBad_16 : decode b_R_isBad 16 = .ok (.aload_n 0, 1) := by decide +kernel
theorem d_R_isBad_17 : decode b_R_isBad 17 = .ok (.getfield 124, 3) := by decide +kernel
theorem d_R_isBad_20 : decode b_R_isBad 20 = .ok (.if_icmp .ne 21, 3) := by decide +kernel
theorem d_R_isBad_23 : decode b_R_isBad 23 = .ok (.iload_n 1, 1) := by decide +kernel
theorem d_R_isBad_24 : decode b_R_isBad 24 = .ok (.aload_n 0, 1) := by decide +kernel
theorem d_R_isBad_25 : decode b_R_isBad 25 = .ok (.getfield 121, 3) := by decide +kernel
theorem d_R_isBad_28 : decode b_R_isBad 28 = .ok (.if_icmp .ge 13, 3) := by decide +kernel
theorem d_R_isBad_31 : decode b_R_isBad 31 = .ok (.aload_n 0, 1) := by decide +kernel
theorem d_R_isBad_32 : decode b_R_isBad 32 = .ok (.iload_n 1, 1) := by decide +kernel
theorem d_R_isBad_33 : decode b_R_isBad 33 = .ok (.putfield 121, 3) := by decide +kernel
theorem d_R_isBad_36 : decode b_R_isBad 36 = .ok (.aload_n 0, 1) := by decide +kernel
theorem d_R_isBad_37 : decode b_R_isBad 37 = .ok (.iload_n 2, 1) := by decide +kernel
theorem d_R_isBad_38 : decode b_R_isBad 38 = .ok (.putfield 124, 3) := by decide +kernel
theorem d_R_isBad_41 : decode b_R_isBad 41 = .ok (.return_, 1) := by decide +kernel
theorem d_R_takes_0 : decode b_R_takes 0 = .ok (.aload_n 0, 1) := by decide +kernel
theorem d_R_takes_1 : decode b_R_takes 1 = .ok (.getfield 100, 3) := by decide +kernel
theorem d_R_takes_4 : decode b_R_takes 4 = .ok (.iconst 3, 1) := by decide +kernel
theorem d_R_takes_5 : decode b_R_takes 5 = .ok (.if_icmp .eq 8, 3) := by decide +kernel
theorem d_R_takes_8 : decode b_R_takes 8 = .ok (.aload_n 0, 1) := by decide +kernel
theorem d_R_takes_9 : decode b_R_takes 9 = .ok (.invokevirtual 127, 3) := by decide +kernel
theorem d_R_takes_12 : decode b_R_takes 12 = .ok (.ireturn, 1) := by decide +kernel
theorem d_R_takes_13 : decode b_R_takes 13 = .ok (.aload_n 0, 1) := by decide +kernel
theorem d_R_takes_14 : decode b_R_takes 14 = .ok (.aload_n 0, 1) := by decide +kernel
theorem d_R_takes_15 : decode b_R_takes 15 = .ok (.getfield 115, 3) := by decide +kernel
theorem d_R_takes_18 : decode b_R_takes 18 = .ok (.putfield 131, 3) := by decide +kernel
theorem d_R_takes_21 : decode b_R_takes 21 = .ok (.aload_n 0, 1) := by decide +kernel
theorem d_R_takes_22 : decode b_R_takes 22 = .ok (.getfield 115, 3) := by decide +kernel
theorem d_R_takes_25 : decode b_R_takes 25 = .ok (.i2l, 1) := by decide +kernel
theorem d_R_takes_26 : decode b_R_takes 26 = .ok (.iload_n 1, 1) := by decide +kernel
theorem d_R_takes_27 : decode b_R_takes 27 = .ok (.i2l, 1) := by decide +kernel
theorem d_R_takes_28 : decode b_R_takes 28 = .ok (.iload_n 2, 1) := by decide +kernel
theorem d_R_takes_29 : decode b_R_takes 29 = .ok (.i2l, 1) := by decide +kernel
theorem d_R_takes_30 : decode b_R_takes 30 = .ok (.invokestatic 107, 3) := by decide +kernel
theorem d_R_takes_33 : decode b_R_takes 33 = .ok (.ifCond .ne 12, 3) := by decide +kernel
theorem d_R_takes_36 : decode b_R_takes 36 = .ok (.aload_n 0, 1) := by decide +kernel
theorem d_R_takes_37 : decode b_R_takes 37 = .ok (.iconst 2, 1) := by decide +kernel
theorem d_R_takes_38 : decode b_R_takes 38 = .ok (.aload_n 0, 1) := by decide +kernel
theorem d_R_takes_39 : decode b_R_takes 39 = .ok (.getfield 90, 3) := by decide +kernel
theorem d_R_takes_42 : decode b_R_takes 42 = .ok (.invokevirtual 134, 3) := by decide +kernel
theorem d_R_takes_45 : decode b_R_takes 45 = .ok (.aload_n 0, 1) := by decide +kernel
theorem d_R_takes_46 : decode b_R_takes 46 = .ok (.invokevirtual 138, 3) := by decide +kernel
theorem d_R_takes_49 : decode b_R_takes 49 = .ok (.iconst 1, 1) := by decide +kernel
theorem d_R_takes_50 : decode b_R_takes 50 = .ok (.ireturn, 1) := by decide +kernel
theorem d_R_takesSign_0 : decode b_R_takesSign 0 = .ok (.aload_n 0, 1) := by decide +kernel
theorem d_R_takesSign_1 : decode b_R_takesSign 1 = .ok (.getfield 100, 3) := by decide +kernel
theorem d_R_takesSign_4 : decode b_R_takesSign 4 = .ok (.iconst 4, 1) := by decide +kernel
theorem d_R_takesSign_5 : decode b_R_takesSign 5 = .ok (.if_icmp .ne 11, 3) := by decide +kernel
theorem d_R_takesSign_8 : decode b_R_takesSign 8 = .ok (.aload_n 0, 1) := by decide +kernel
theorem d_R_takesSign_9 : decode b_R_takesSign 9 = .ok (.getfield 97, 3) := by decide +kernel
theorem d_R_takesSign_12 : decode b_R_takesSign 12 = .ok (.iload_n 1, 1) := by decide +kernel
theorem d_R_takesSign_13 : decode b_R_takesSign 13 = .ok (.if_icmp .eq 8, 3) := by decide +kernel
theorem d_R_takesSign_16 : decode b_R_takesSign 16 = .ok (.aload_n 0, 1) := by decide +kernel
theorem d_R_takesSign_17 : decode b_R_takesSign 17 = .ok (.invokevirtual 127, 3) := by decide +kernel
theorem d_R_takesSign_20 : decode b_R_takesSign 20 = .ok (.ireturn, 1) := by decide +kernel
theorem d_R_takesSign_21 : decode b_R_takesSign 21 = .ok (.aload_n 0, 1) := by decide +kernel
theorem d_R_takesSign_22 : decode b_R_takesSign 22 = .ok (.invokevirtual 138, 3) := by decide +kernel
theorem d_R_takesSign_25 : decode b_R_takesSign 25 = .ok (.iconst 1, 1) := by decide +kernel
theorem d_R_takesSign_26 : decode b_R_takesSign 26 = .ok (.ireturn, 1) := by decide +kernel
theorem d_R_starts_0 : decode b_R_starts 0 = .ok (.aload_n 0, 1) := by decide +kernel
theorem d_R_starts_1 : decode b_R_starts 1 = .ok (.aload_n 0, 1) := by decide +kernel
theorem d_R_starts_2 : decode b_R_starts 2 = .ok (.getfield 7, 3) := by decide +kernel
theorem d_R_starts_5 : decode b_R_starts 5 = .ok (.sipush 316, 3) := by decide +kernel
theorem d_R_starts_8 : decode b_R_starts 8 = .ok (.iaload, 1) := by decide +kernel
theorem d_R_starts_9 : decode b_R_starts 9 = .ok (.putfield 84, 3) := by decide +kernel
theorem d_R_starts_12 : decode b_R_starts 12 = .ok (.aload_n 0, 1) := by decide +kernel
theorem d_R_starts_13 : decode b_R_starts 13 = .ok (.getfield 7, 3) := by decide +kernel
theorem d_R_starts_16 : decode b_R_starts 16 = .ok (.sipush 316, 3) := by decide +kernel
theorem d_R_starts_19 : decode b_R_starts 19 = .ok (.iconst 0, 1) := by decide +kernel
theorem d_R_starts_20 : decode b_R_starts 20 = .ok (.iastore, 1) := by decide +kernel
theorem d_R_starts_21 : decode b_R_starts 21 = .ok (.aload_n 0, 1) := by decide +kernel
theorem d_R_starts_22 : decode b_R_starts 22 = .ok (.iconst 0, 1) := by decide +kernel
theorem d_R_starts_23 : decode b_R_starts 23 = .ok (.putfield 121, 3) := by decide +kernel
theorem d_R_starts_26 : decode b_R_starts 26 = .ok (.aload_n 0, 1) := by decide +kernel
theorem d_R_starts_27 : decode b_R_starts 27 = .ok (.iconst (-1), 1) := by decide +kernel
theorem d_R_starts_28 : decode b_R_starts 28 = .ok (.putfield 124, 3) := by decide +kernel
theorem d_R_starts_31 : decode b_R_starts 31 = .ok (.aload_n 0, 1) := by decide +kernel
theorem d_R_starts_32 : decode b_R_starts 32 = .ok (.iconst 0, 1) := by decide +kernel
theorem d_R_starts_33 : decode b_R_starts 33 = .ok (.putfield 81, 3) := by decide +kernel
theorem d_R_starts_36 : decode b_R_starts 36 = .ok (.aload_n 0, 1) := by decide +kernel
theorem d_R_starts_37 : decode b_R_starts 37 = .ok (.invokevirtual 138, 3) := by decide +kernel
theorem d_R_starts_40 : decode b_R_starts 40 = .ok (.return_, 1) := by decide +kernel
theorem d_R_isFine_0 : decode b_R_isFine 0 = .ok (.aload_n 0, 1) := by decide +kernel
theorem d_R_isFine_1 : decode b_R_isFine 1 = .ok (.getfield 7, 3) := by decide +kernel
theorem d_R_isFine_4 : decode b_R_isFine 4 = .ok (.sipush 317, 3) := by decide +kernel
theorem d_R_isFine_7 : decode b_R_isFine 7 = .ok (.iload_n 1, 1) := by decide +kernel
theorem d_R_isFine_8 : decode b_R_isFine 8 = .ok (.ifCond .eq 10, 3) := by decide +kernel
theorem d_R_isFine_11 : decode b_R_isFine 11 = .ok (.aload_n 0, 1) := by decide +kernel
theorem d_R_isFine_12 : decode b_R_isFine 12 = .ok (.getfield 121, 3) := by decide +kernel
theorem d_R_isFine_15 : decode b_R_isFine 15 = .ok (.goto 4, 3) := by decide +kernel
theorem d_R_isFine_18 : decode b_R_isFine 18 = .ok (.iconst 1, 1) := by decide +kernel
theorem d_R_isFine_19 : decode b_R_isFine 19 = .ok (.iastore, 1) := by decide +kernel
theorem d_R_isFine_20 : decode b_R_isFine 20 = .ok (.aload_n 0, 1) := by decide +kernel
theorem d_R_isFine_21 : decode b_R_isFine 21 = .ok (.getfield 7, 3) := by decide +kernel
theorem d_R_isFine_24 : decode b_R_isFine 24 = .ok (.sipush 318, 3) := by decide +kernel
theorem d_R_isFine_27 : decode b_R_isFine 27 = .ok (.iload_n 1, 1) := by decide +kernel
theorem d_R_isFine_28 : decode b_R_isFine 28 = .ok (.ifCond .eq 10, 3) := by decide +kernel
theorem d_R_isFine_31 : decode b_R_isFine 31 = .ok (.aload_n 0, 1) := by decide +kernel
theorem d_R_isFine_32 : decode b_R_isFine 32 = .ok (.getfield 124, 3) := by decide +kernel
theorem d_R_isFine_35 : decode b_R_isFine 35 = .ok (.goto 7, 3) := by decide +kernel
theorem d_R_isFine_38 : decode b_R_isFine 38 = .ok (.aload_n 0, 1) := by decide +kernel
theorem d_R_isFine_39 : decode b_R_isFine 39 = .ok (.getfield 118, 3) := by decide +kernel
theorem d_R_isFine_42 : decode b_R_isFine 42 = .ok (.iastore, 1) := by decide +kernel
theorem d_R_isFine_43 : decode b_R_isFine 43 = .ok (.aload_n 0, 1) := by decide +kernel
theorem d_R_isFine_44 : decode b_R_isFine 44 = .ok (.getfield 7, 3) := by decide +kernel
theorem d_R_isFine_47 : decode b_R_isFine 47 = .ok (.sipush 317, 3) := by decide +kernel
theorem d_R_isFine_50 : decode b_R_isFine 50 = .ok (.iaload, 1) := by decide +kernel
theorem d_R_isFine_51 : decode b_R_isFine 51 = .ok (.ifCond .ne 7, 3) := by decide +kernel
theorem d_R_isFine_54 : decode b_R_isFine 54 = .ok (.iconst 1, 1) := by decide +kernel
theorem d_R_isFine_55 : decode b_R_isFine 55 = .ok (.goto 4, 3) := by decide +kernel
theorem d_R_isFine_58 : decode b_R_isFine 58 = .ok (.iconst 0, 1) := by decide +kernel
theorem d_R_isFine_59 : decode b_R_isFine 59 = .ok (.ireturn, 1) := by decide +kernel
theorem d_R_relationLine_0 : decode b_R_relationLine 0 = .ok (.aload_n 0, 1) := by decide +kernel
theorem d_R_relationLine_1 : decode b_R_relationLine 1 = .ok (.getfield 24, 3) := by decide +kernel
theorem d_R_relationLine_4 : decode b_R_relationLine 4 = .ok (.iconst 0, 1) := by decide +kernel
theorem d_R_relationLine_5 : decode b_R_relationLine 5 = .ok (.iaload, 1) := by decide +kernel
theorem d_R_relationLine_6 : decode b_R_relationLine 6 = .ok (.bipush 8, 2) := by decide +kernel
theorem d_R_relationLine_8 : decode b_R_relationLine 8 = .ok (.if_icmp .ne 12, 3) := by decide +kernel
theorem d_R_relationLine_11 : decode b_R_relationLine 11 = .ok (.aload_n 0, 1) := by decide +kernel
theorem d_R_relationLine_12 : decode b_R_relationLine 12 = .ok (.iconst 4, 1) := by decide +kernel
theorem d_R_relationLine_13 : decode b_R_relationLine 13 = .ok (.aload_n 0, 1) := by decide +kernel
theorem d_R_relationLine_14 : decode b_R_relationLine 14 = .ok (.getfield 90, 3) := by decide +kernel
theorem d_R_relationLine_17 : decode b_R_relationLine 17 = .ok (.invokevirtual 134, 3) := by decide +kernel
theorem d_R_relationLine_20 : decode b_R_relationLine 20 = .ok (.aload_n 0, 1) := by decide +kernel
theorem d_R_relationLine_21 : decode b_R_relationLine 21 = .ok (.invokevirtual 138, 3) := by decide +kernel
theorem d_R_relationLine_24 : decode b_R_relationLine 24 = .ok (.aload_n 0, 1) := by decide +kernel
theorem d_R_relationLine_25 : decode b_R_relationLine 25 = .ok (.iconst 1, 1) := by decide +kernel
theorem d_R_relationLine_26 : decode b_R_relationLine 26 = .ok (.ldc 141, 2) := by decide +kernel
theorem d_R_relationLine_28 : decode b_R_relationLine 28 = .ok (.invokevirtual 142, 3) := by decide +kernel
theorem d_R_relationLine_31 : decode b_R_relationLine 31 = .ok (.ifCond .ne 5, 3) := by decide +kernel
theorem d_R_relationLine_34 : decode b_R_relationLine 34 = .ok (.iconst 0, 1) := by decide +kernel
theorem d_R_relationLine_35 : decode b_R_relationLine 35 = .ok (.ireturn, 1) := by decide +kernel
theorem d_R_relationLine_36 : decode b_R_relationLine 36 = .ok (.aload_n 0, 1) := by decide +kernel
theorem d_R_relationLine_37 : decode b_R_relationLine 37 = .ok (.getfield 24, 3) := by decide +kernel
theorem d_R_relationLine_40 : decode b_R_relationLine 40 = .ok (.iconst 0, 1) := by decide +kernel
theorem d_R_relationLine_41 : decode b_R_relationLine 41 = .ok (.iaload, 1) := by decide +kernel
theorem d_R_relationLine_42 : decode b_R_relationLine 42 = .ok (.bipush 8, 2) := by decide +kernel
theorem d_R_relationLine_44 : decode b_R_relationLine 44 = .ok (.if_icmp .ge 30, 3) := by decide +kernel
theorem d_R_relationLine_47 : decode b_R_relationLine 47 = .ok (.aload_n 0, 1) := by decide +kernel
theorem d_R_relationLine_48 : decode b_R_relationLine 48 = .ok (.getfield 24, 3) := by decide +kernel
theorem d_R_relationLine_51 : decode b_R_relationLine 51 = .ok (.iconst 1, 1) := by decide +kernel
theorem d_R_relationLine_52 : decode b_R_relationLine 52 = .ok (.aload_n 0, 1) := by decide +kernel
theorem d_R_relationLine_53 : decode b_R_relationLine 53 = .ok (.getfield 24, 3) := by decide +kernel
theorem d_R_relationLine_56 : decode b_R_relationLine 56 = .ok (.iconst 0, 1) := by decide +kernel
theorem d_R_relationLine_57 : decode b_R_relationLine 57 = .ok (.iaload, 1) := by decide +kernel
theorem d_R_relationLine_58 : decode b_R_relationLine 58 = .ok (.iadd, 1) := by decide +kernel
theorem d_R_relationLine_59 : decode b_R_relationLine 59 = .ok (.aload_n 0, 1) := by decide +kernel
theorem d_R_relationLine_60 : decode b_R_relationLine 60 = .ok (.getfield 131, 3) := by decide +kernel
theorem d_R_relationLine_63 : decode b_R_relationLine 63 = .ok (.iastore, 1) := by decide +kernel
theorem d_R_relationLine_64 : decode b_R_relationLine 64 = .ok (.aload_n 0, 1) := by decide +kernel
theorem d_R_relationLine_65 : decode b_R_relationLine 65 = .ok (.getfield 24, 3) := by decide +kernel
theorem d_R_relationLine_68 : decode b_R_relationLine 68 = .ok (.iconst 0, 1) := by decide +kernel
theorem d_R_relationLine_69 : decode b_R_relationLine 69 = .ok (.dup2, 1) := by decide +kernel
theorem d_R_relationLine_70 : decode b_R_relationLine 70 = .ok (.iaload, 1) := by decide +kernel
theorem d_R_relationLine_71 : decode b_R_relationLine 71 = .ok (.iconst 1, 1) := by decide +kernel
theorem d_R_relationLine_72 : decode b_R_relationLine 72 = .ok (.iadd, 1) := by decide +kernel
theorem d_R_relationLine_73 : decode b_R_relationLine 73 = .ok (.iastore, 1) := by decide +kernel
theorem d_R_relationLine_74 : decode b_R_relationLine 74 = .ok (.iconst 1, 1) := by decide +kernel
theorem d_R_relationLine_75 : decode b_R_relationLine 75 = .ok (.ireturn, 1) := by decide +kernel
theorem d_R_takesSide_0 : decode b_R_takesSide 0 = .ok (.aload_n 0, 1) := by decide +kernel
theorem d_R_takesSide_1 : decode b_R_takesSide 1 = .ok (.iconst 0, 1) := by decide +kernel
theorem d_R_takesSide_2 : decode b_R_takesSide 2 = .ok (.putfield 145, 3) := by decide +kernel
theorem d_R_takesSide_5 : decode b_R_takesSide 5 = .ok (.aload_n 0, 1) := by decide +kernel
theorem d_R_takesSide_6 : decode b_R_takesSide 6 = .ok (.getfield 100, 3) := by decide +kernel
theorem d_R_takesSide_9 : decode b_R_takesSide 9 = .ok (.iconst 3, 1) := by decide +kernel
theorem d_R_takesSide_10 : decode b_R_takesSide 10 = .ok (.if_icmp .eq 8, 3) := by decide +kernel
theorem d_R_takesSide_13 : decode b_R_takesSide 13 = .ok (.aload_n 0, 1) := by decide +kernel
theorem d_R_takesSide_14 : decode b_R_takesSide 14 = .ok (.invokevirtual 127, 3) := by decide +kernel
theorem d_R_takesSide_17 : decode b_R_takesSide 17 = .ok (.ireturn, 1) := by decide +kernel
theorem d_R_takesSide_18 : decode b_R_takesSide 18 = .ok (.aload_n 0, 1) := by decide +kernel
theorem d_R_takesSide_19 : decode b_R_takesSide 19 = .ok (.getfield 100, 3) := by decide +kernel
theorem d_R_takesSide_22 : decode b_R_takesSide 22 = .ok (.iconst 3, 1) := by decide +kernel
theorem d_R_takesSide_23 : decode b_R_takesSide 23 = .ok (.if_icmp .ne 79, 3) := by decide +kernel
theorem d_R_takesSide_26 : decode b_R_takesSide 26 = .ok (.aload_n 0, 1) := by decide +kernel
theorem d_R_takesSide_27 : decode b_R_takesSide 27 = .ok (.getfield 115, 3) := by decide +kernel
theorem d_R_takesSide_30 : decode b_R_takesSide 30 = .ok (.aload_n 0, 1) := by decide +kernel
theorem d_R_takesSide_31 : decode b_R_takesSide 31 = .ok (.getfield 24, 3) := by decide +kernel
theorem d_R_takesSide_34 : decode b_R_takesSide 34 = .ok (.iconst 0, 1) := by decide +kernel
theorem d_R_takesSide_35 : decode b_R_takesSide 35 = .ok (.iaload, 1) := by decide +kernel
theorem d_R_takesSide_36 : decode b_R_takesSide 36 = .ok (.if_icmp .lt 15, 3) := by decide +kernel
theorem d_R_takesSide_39 : decode b_R_takesSide 39 = .ok (.aload_n 0, 1) := by decide +kernel
theorem d_R_takesSide_40 : decode b_R_takesSide 40 = .ok (.iconst 2, 1) := by decide +kernel
theorem d_R_takesSide_41 : decode b_R_takesSide 41 = .ok (.aload_n 0, 1) := by decide +kernel
theorem d_R_takesSide_42 : decode b_R_takesSide 42 = .ok (.getfield 90, 3) := by decide +kernel
theorem d_R_takesSide_45 : decode b_R_takesSide 45 = .ok (.invokevirtual 134, 3) := by decide +kernel
theorem d_R_takesSide_48 : decode b_R_takesSide 48 = .ok (.goto 47, 3) := by decide +kernel
theorem d_R_takesSide_51 : decode b_R_takesSide 51 = .ok (.iload_n 1, 1) := by decide +kernel
theorem d_R_takesSide_52 : decode b_R_takesSide 52 = .ok (.aload_n 0, 1) := by decide +kernel
theorem d_R_takesSide_53 : decode b_R_takesSide 53 = .ok (.getfield 145, 3) := by decide +kernel
theorem d_R_takesSide_56 : decode b_R_takesSide 56 = .ok (.ior, 1) := by decide +kernel
theorem d_R_takesSide_57 : decode b_R_takesSide 57 = .ok (.aload_n 0, 1) := by decide +kernel
theorem d_R_takesSide_58 : decode b_R_takesSide 58 = .ok (.getfield 115, 3) := by decide +kernel
theorem d_R_takesSide_61 : decode b_R_takesSide 61 = .ok (.ishr, 1) := by decide +kernel
theorem d_R_takesSide_62 : decode b_R_takesSide 62 = .ok (.iconst 1, 1) := by decide +kernel
theorem d_R_takesSide_63 : decode b_R_takesSide 63 = .ok (.iand, 1) := by decide +kernel
theorem d_R_takesSide_64 : decode b_R_takesSide 64 = .ok (.iconst 1, 1) := by decide +kernel
theorem d_R_takesSide_65 : decode b_R_takesSide 65 = .ok (.if_icmp .ne 15, 3) := by decide +kernel
theorem d_R_takesSide_68 : decode b_R_takesSide 68 = .ok (.aload_n 0, 1) := by decide +kernel
theorem d_R_takesSide_69 : decode b_R_takesSide 69 = .ok (.iconst 3, 1) := by decide +kernel
theorem d_R_takesSide_70 : decode b_R_takesSide 70 = .ok (.aload_n 0, 1) := by decide +kernel
theorem d_R_takesSide_71 : decode b_R_takesSide 71 = .ok (.getfield 90, 3) := by decide +kernel
theorem d_R_takesSide_74 : decode b_R_takesSide 74 = .ok (.invokevirtual 134, 3) := by decide +kernel
theorem d_R_takesSide_77 : decode b_R_takesSide 77 = .ok (.goto 18, 3) := by decide +kernel
theorem d_R_takesSide_80 : decode b_R_takesSide 80 = .ok (.aload_n 0, 1) := by decide +kernel
theorem d_R_takesSide_81 : decode b_R_takesSide 81 = .ok (.dup, 1) := by decide +kernel
theorem d_R_takesSide_82 : decode b_R_takesSide 82 = .ok (.getfield 145, 3) := by decide +kernel
theorem d_R_takesSide_85 : decode b_R_takesSide 85 = .ok (.iconst 1, 1) := by decide +kernel
theorem d_R_takesSide_86 : decode b_R_takesSide 86 = .ok (.aload_n 0, 1) := by decide +kernel
theorem d_R_takesSide_87 : decode b_R_takesSide 87 = .ok (.getfield 115, 3) := by decide +kernel
theorem d_R_takesSide_90 : decode b_R_takesSide 90 = .ok (.ishl, 1) := by decide +kernel
theorem d_R_takesSide_91 : decode b_R_takesSide 91 = .ok (.ior, 1) := by decide +kernel
theorem d_R_takesSide_92 : decode b_R_takesSide 92 = .ok (.putfield 145, 3) := by decide +kernel
theorem d_R_takesSide_95 : decode b_R_takesSide 95 = .ok (.aload_n 0, 1) := by decide +kernel
theorem d_R_takesSide_96 : decode b_R_takesSide 96 = .ok (.invokevirtual 138, 3) := by decide +kernel
theorem d_R_takesSide_99 : decode b_R_takesSide 99 = .ok (.goto (-81), 3) := by decide +kernel
theorem d_R_takesSide_102 : decode b_R_takesSide 102 = .ok (.iconst 1, 1) := by decide +kernel
theorem d_R_takesSide_103 : decode b_R_takesSide 103 = .ok (.ireturn, 1) := by decide +kernel
theorem d_R_edgeLine_0 : decode b_R_edgeLine 0 = .ok (.aload_n 0, 1) := by decide +kernel
theorem d_R_edgeLine_1 : decode b_R_edgeLine 1 = .ok (.getfield 24, 3) := by decide +kernel
theorem d_R_edgeLine_4 : decode b_R_edgeLine 4 = .ok (.bipush 9, 2) := by decide +kernel
theorem d_R_edgeLine_6 : decode b_R_edgeLine 6 = .ok (.iaload, 1) := by decide +kernel
theorem d_R_edgeLine_7 : decode b_R_edgeLine 7 = .ok (.bipush 16, 2) := by decide +kernel
theorem d_R_edgeLine_9 : decode b_R_edgeLine 9 = .ok (.if_icmp .ne 12, 3) := by decide +kernel
theorem d_R_edgeLine_12 : decode b_R_edgeLine 12 = .ok (.aload_n 0, 1) := by decide +kernel
theorem d_R_edgeLine_13 : decode b_R_edgeLine 13 = .ok (.iconst 4, 1) := by decide +kernel
theorem d_R_edgeLine_14 : decode b_R_edgeLine 14 = .ok (.aload_n 0, 1) := by decide +kernel
theorem d_R_edgeLine_15 : decode b_R_edgeLine 15 = .ok (.getfield 90, 3) := by decide +kernel
theorem d_R_edgeLine_18 : decode b_R_edgeLine 18 = .ok (.invokevirtual 134, 3) := by decide +kernel
theorem d_R_edgeLine_21 : decode b_R_edgeLine 21 = .ok (.aload_n 0, 1) := by decide +kernel
theorem d_R_edgeLine_22 : decode b_R_edgeLine 22 = .ok (.invokevirtual 138, 3) := by decide +kernel
theorem d_R_edgeLine_25 : decode b_R_edgeLine 25 = .ok (.aload_n 0, 1) := by decide +kernel
theorem d_R_edgeLine_26 : decode b_R_edgeLine 26 = .ok (.iconst 0, 1) := by decide +kernel
theorem d_R_edgeLine_27 : decode b_R_edgeLine 27 = .ok (.invokevirtual 148, 3) := by decide +kernel
theorem d_R_edgeLine_30 : decode b_R_edgeLine 30 = .ok (.ifCond .ne 5, 3) := by decide +kernel
theorem d_R_edgeLine_33 : decode b_R_edgeLine 33 = .ok (.iconst 0, 1) := by decide +kernel
theorem d_R_edgeLine_34 : decode b_R_edgeLine 34 = .ok (.ireturn, 1) := by decide +kernel
theorem d_R_edgeLine_35 : decode b_R_edgeLine 35 = .ok (.aload_n 0, 1) := by decide +kernel
theorem d_R_edgeLine_36 : decode b_R_edgeLine 36 = .ok (.getfield 145, 3) := by decide +kernel
theorem d_R_edgeLine_39 : decode b_R_edgeLine 39 = .ok (.istore_n 1, 1) := by decide +kernel
theorem d_R_edgeLine_40 : decode b_R_edgeLine 40 = .ok (.aload_n 0, 1) := by decide +kernel
theorem d_R_edgeLine_41 : decode b_R_edgeLine 41 = .ok (.bipush 45, 2) := by decide +kernel
theorem d_R_edgeLine_43 : decode b_R_edgeLine 43 = .ok (.invokevirtual 152, 3) := by decide +kernel
theorem d_R_edgeLine_46 : decode b_R_edgeLine 46 = .ok (.ifCond .eq 11, 3) := by decide +kernel
theorem d_R_edgeLine_49 : decode b_R_edgeLine 49 = .ok (.aload_n 0, 1) := by decide +kernel
theorem d_R_edgeLine_50 : decode b_R_edgeLine 50 = .ok (.iload_n 1, 1) := by decide +kernel
theorem d_R_edgeLine_51 : decode b_R_edgeLine 51 = .ok (.invokevirtual 148, 3) := by decide +kernel
theorem d_R_edgeLine_54 : decode b_R_edgeLine 54 = .ok (.ifCond .ne 5, 3) := by decide +kernel
theorem d_R_edgeLine_57 : decode b_R_edgeLine 57 = .ok (.iconst 0, 1) := by decide +kernel
theorem d_R_edgeLine_58 : decode b_R_edgeLine 58 = .ok (.ireturn, 1) := by decide +kernel
theorem d_R_edgeLine_59 : decode b_R_edgeLine 59 = .ok (.aload_n 0, 1) := by decide +kernel
theorem d_R_edgeLine_60 : decode b_R_edgeLine 60 = .ok (.getfield 145, 3) := by decide +kernel
theorem d_R_edgeLine_63 : decode b_R_edgeLine 63 = .ok (.istore_n 2, 1) := by decide +kernel
theorem d_R_edgeLine_64 : decode b_R_edgeLine 64 = .ok (.aload_n 0, 1) := by decide +kernel
theorem d_R_edgeLine_65 : decode b_R_edgeLine 65 = .ok (.getfield 100, 3) := by decide +kernel
theorem d_R_edgeLine_68 : decode b_R_edgeLine 68 = .ok (.iconst 2, 1) := by decide +kernel
theorem d_R_edgeLine_69 : decode b_R_edgeLine 69 = .ok (.if_icmp .ne 14, 3) := by decide +kernel
theorem d_R_edgeLine_72 : decode b_R_edgeLine 72 = .ok (.aload_n 0, 1) := by decide +kernel
theorem d_R_edgeLine_73 : decode b_R_edgeLine 73 = .ok (.getfield 93, 3) := by decide +kernel
theorem d_R_edgeLine_76 : decode b_R_edgeLine 76 = .ok (.ldc2_w 155, 3) := by decide +kernel
theorem d_R_edgeLine_79 : decode b_R_edgeLine 79 = .ok (.lcmp, 1) := by decide +kernel
theorem d_R_edgeLine_80 : decode b_R_edgeLine 80 = .ok (.ifCond .eq 8, 3) := by decide +kernel
theorem d_R_edgeLine_83 : decode b_R_edgeLine 83 = .ok (.aload_n 0, 1) := by decide +kernel
theorem d_R_edgeLine_84 : decode b_R_edgeLine 84 = .ok (.invokevirtual 127, 3) := by decide +kernel
theorem d_R_edgeLine_87 : decode b_R_edgeLine 87 = .ok (.ireturn, 1) := by decide +kernel
theorem d_R_edgeLine_88 : decode b_R_edgeLine 88 = .ok (.aload_n 0, 1) := by decide +kernel
theorem d_R_edgeLine_89 : decode b_R_edgeLine 89 = .ok (.invokevirtual 138, 3) := by decide +kernel
theorem d_R_edgeLine_92 : decode b_R_edgeLine 92 = .ok (.aload_n 0, 1) := by decide +kernel
theorem d_R_edgeLine_93 : decode b_R_edgeLine 93 = .ok (.iconst 1, 1) := by decide +kernel
theorem d_R_edgeLine_94 : decode b_R_edgeLine 94 = .ok (.ldc 157, 2) := by decide +kernel
theorem d_R_edgeLine_96 : decode b_R_edgeLine 96 = .ok (.invokevirtual 142, 3) := by decide +kernel
theorem d_R_edgeLine_99 : decode b_R_edgeLine 99 = .ok (.ifCond .ne 5, 3) := by decide +kernel
theorem d_R_edgeLine_102 : decode b_R_edgeLine 102 = .ok (.iconst 0, 1) := by decide +kernel
theorem d_R_edgeLine_103 : decode b_R_edgeLine 103 = .ok (.ireturn, 1) := by decide +kernel
theorem d_R_edgeLine_104 : decode b_R_edgeLine 104 = .ok (.aload_n 0, 1) := by decide +kernel
theorem d_R_edgeLine_105 : decode b_R_edgeLine 105 = .ok (.getfield 24, 3) := by decide +kernel
theorem d_R_edgeLine_108 : decode b_R_edgeLine 108 = .ok (.bipush 9, 2) := by decide +kernel
theorem d_R_edgeLine_110 : decode b_R_edgeLine 110 = .ok (.iaload, 1) := by decide +kernel
theorem d_R_edgeLine_111 : decode b_R_edgeLine 111 = .ok (.bipush 16, 2) := by decide +kernel
theorem d_R_edgeLine_113 : decode b_R_edgeLine 113 = .ok (.if_icmp .ge 55, 3) := by decide +kernel
theorem d_R_edgeLine_116 : decode b_R_edgeLine 116 = .ok (.bipush 10, 2) := by decide +kernel
theorem d_R_edgeLine_118 : decode b_R_edgeLine 118 = .ok (.iconst 3, 1) := by decide +kernel
theorem d_R_edgeLine_119 : decode b_R_edgeLine 119 = .ok (.aload_n 0, 1) := by decide +kernel
theorem d_R_edgeLine_120 : decode b_R_edgeLine 120 = .ok (.getfield 24, 3) := by decide +kernel
theorem d_R_edgeLine_123 : decode b_R_edgeLine 123 = .ok (.bipush 9, 2) := by decide +kernel
theorem d_R_edgeLine_125 : decode b_R_edgeLine 125 = .ok (.iaload, 1) := by decide +kernel
theorem d_R_edgeLine_126 : decode b_R_edgeLine 126 = .ok (.imul, 1) := by decide +kernel
theorem d_R_edgeLine_127 : decode b_R_edgeLine 127 = .ok (.iadd, 1) := by decide +kernel
theorem d_R_edgeLine_128 : decode b_R_edgeLine 128 = .ok (.istore_n 3, 1) := by decide +kernel
theorem d_R_edgeLine_129 : decode b_R_edgeLine 129 = .ok (.aload_n 0, 1) := by decide +kernel
theorem d_R_edgeLine_130 : decode b_R_edgeLine 130 = .ok (.getfield 24, 3) := by decide +kernel
theorem d_R_edgeLine_133 : decode b_R_edgeLine 133 = .ok (.iload_n 3, 1) := by decide +kernel
theorem d_R_edgeLine_134 : decode b_R_edgeLine 134 = .ok (.iload_n 1, 1) := by decide +kernel
theorem d_R_edgeLine_135 : decode b_R_edgeLine 135 = .ok (.iastore, 1) := by decide +kernel
theorem d_R_edgeLine_136 : decode b_R_edgeLine 136 = .ok (.aload_n 0, 1) := by decide +kernel
theorem d_R_edgeLine_137 : decode b_R_edgeLine 137 = .ok (.getfield 24, 3) := by decide +kernel
theorem d_R_edgeLine_140 : decode b_R_edgeLine 140 = .ok (.iload_n 3, 1) := by decide +kernel
theorem d_R_edgeLine_141 : decode b_R_edgeLine 141 = .ok (.iconst 1, 1) := by decide +kernel
theorem d_R_edgeLine_142 : decode b_R_edgeLine 142 = .ok (.iadd, 1) := by decide +kernel
theorem d_R_edgeLine_143 : decode b_R_edgeLine 143 = .ok (.iload_n 2, 1) := by decide +kernel
theorem d_R_edgeLine_144 : decode b_R_edgeLine 144 = .ok (.iastore, 1) := by decide +kernel
theorem d_R_edgeLine_145 : decode b_R_edgeLine 145 = .ok (.aload_n 0, 1) := by decide +kernel
theorem d_R_edgeLine_146 : decode b_R_edgeLine 146 = .ok (.getfield 24, 3) := by decide +kernel
theorem d_R_edgeLine_149 : decode b_R_edgeLine 149 = .ok (.iload_n 3, 1) := by decide +kernel
theorem d_R_edgeLine_150 : decode b_R_edgeLine 150 = .ok (.iconst 2, 1) := by decide +kernel
theorem d_R_edgeLine_151 : decode b_R_edgeLine 151 = .ok (.iadd, 1) := by decide +kernel
theorem d_R_edgeLine_152 : decode b_R_edgeLine 152 = .ok (.aload_n 0, 1) := by decide +kernel
theorem d_R_edgeLine_153 : decode b_R_edgeLine 153 = .ok (.getfield 131, 3) := by decide +kernel
theorem d_R_edgeLine_156 : decode b_R_edgeLine 156 = .ok (.iastore, 1) := by decide +kernel
theorem d_R_edgeLine_157 : decode b_R_edgeLine 157 = .ok (.aload_n 0, 1) := by decide +kernel
theorem d_R_edgeLine_158 : decode b_R_edgeLine 158 = .ok (.getfield 24, 3) := by decide +kernel
theorem d_R_edgeLine_161 : decode b_R_edgeLine 161 = .ok (.bipush 9, 2) := by decide +kernel
theorem d_R_edgeLine_163 : decode b_R_edgeLine 163 = .ok (.dup2, 1) := by decide +kernel
theorem d_R_edgeLine_164 : decode b_R_edgeLine 164 = .ok (.iaload, 1) := by decide +kernel
theorem d_R_edgeLine_165 : decode b_R_edgeLine 165 = .ok (.iconst 1, 1) := by decide +kernel
theorem d_R_edgeLine_166 : decode b_R_edgeLine 166 = .ok (.iadd, 1) := by decide +kernel
theorem d_R_edgeLine_167 : decode b_R_edgeLine 167 = .ok (.iastore, 1) := by decide +kernel
theorem d_R_edgeLine_168 : decode b_R_edgeLine 168 = .ok (.iconst 1, 1) := by decide +kernel
theorem d_R_edgeLine_169 : decode b_R_edgeLine 169 = .ok (.ireturn, 1) := by decide +kernel
theorem d_R_line_0 : decode b_R_line 0 = .ok (.aload_n 0, 1) := by decide +kernel
theorem d_R_line_1 : decode b_R_line 1 = .ok (.getfield 100, 3) := by decide +kernel
theorem d_R_line_4 : decode b_R_line 4 = .ok (.iconst 2, 1) := by decide +kernel
theorem d_R_line_5 : decode b_R_line 5 = .ok (.if_icmp .ne 10, 3) := by decide +kernel
theorem d_R_line_8 : decode b_R_line 8 = .ok (.aload_n 0, 1) := by decide +kernel
theorem d_R_line_9 : decode b_R_line 9 = .ok (.getfield 93, 3) := by decide +kernel
theorem d_R_line_12 : decode b_R_line 12 = .ok (.goto 4, 3) := by decide +kernel
theorem d_R_line_15 : decode b_R_line 15 = .ok (.lconst 0, 1) := by decide +kernel
theorem d_R_line_16 : decode b_R_line 16 = .ok (.lstore_n 1, 1) := by decide +kernel
theorem d_R_line_17 : decode b_R_line 17 = .ok (.lload_n 1, 1) := by decide +kernel
theorem d_R_line_18 : decode b_R_line 18 = .ok (.ldc2_w 158, 3) := by decide +kernel
theorem d_R_line_21 : decode b_R_line 21 = .ok (.lcmp, 1) := by decide +kernel
theorem d_R_line_22 : decode b_R_line 22 = .ok (.ifCond .ne 8, 3) := by decide +kernel
theorem d_R_line_25 : decode b_R_line 25 = .ok (.aload_n 0, 1) := by decide +kernel
theorem d_R_line_26 : decode b_R_line 26 = .ok (.invokevirtual 160, 3) := by decide +kernel
theorem d_R_line_29 : decode b_R_line 29 = .ok (.ireturn, 1) := by decide +kernel
theorem d_R_line_30 : decode b_R_line 30 = .ok (.lload_n 1, 1) := by decide +kernel
theorem d_R_line_31 : decode b_R_line 31 = .ok (.ldc2_w 163, 3) := by decide +kernel
theorem d_R_line_34 : decode b_R_line 34 = .ok (.lcmp, 1) := by decide +kernel
theorem d_R_line_35 : decode b_R_line 35 = .ok (.ifCond .ne 8, 3) := by decide +kernel
theorem d_R_line_38 : decode b_R_line 38 = .ok (.aload_n 0, 1) := by decide +kernel
theorem d_R_line_39 : decode b_R_line 39 = .ok (.invokevirtual 165, 3) := by decide +kernel
theorem d_R_line_42 : decode b_R_line 42 = .ok (.ireturn, 1) := by decide +kernel
theorem d_R_line_43 : decode b_R_line 43 = .ok (.lload_n 1, 1) := by decide +kernel
theorem d_R_line_44 : decode b_R_line 44 = .ok (.ldc2_w 168, 3) := by decide +kernel
theorem d_R_line_47 : decode b_R_line 47 = .ok (.lcmp, 1) := by decide +kernel
theorem d_R_line_48 : decode b_R_line 48 = .ok (.ifCond .eq 8, 3) := by decide +kernel
theorem d_R_line_51 : decode b_R_line 51 = .ok (.aload_n 0, 1) := by decide +kernel
theorem d_R_line_52 : decode b_R_line 52 = .ok (.invokevirtual 127, 3) := by decide +kernel
theorem d_R_line_55 : decode b_R_line 55 = .ok (.ireturn, 1) := by decide +kernel
theorem d_R_line_56 : decode b_R_line 56 = .ok (.aload_n 0, 1) := by decide +kernel
theorem d_R_line_57 : decode b_R_line 57 = .ok (.invokevirtual 138, 3) := by decide +kernel
theorem d_R_line_60 : decode b_R_line 60 = .ok (.aload_n 0, 1) := by decide +kernel
theorem d_R_line_61 : decode b_R_line 61 = .ok (.iconst 0, 1) := by decide +kernel
theorem d_R_line_62 : decode b_R_line 62 = .ok (.sipush 5000, 3) := by decide +kernel
theorem d_R_line_65 : decode b_R_line 65 = .ok (.invokevirtual 142, 3) := by decide +kernel
theorem d_R_line_68 : decode b_R_line 68 = .ok (.istore_n 3, 1) := by decide +kernel
theorem d_R_line_69 : decode b_R_line 69 = .ok (.aload_n 0, 1) := by decide +kernel
theorem d_R_line_70 : decode b_R_line 70 = .ok (.getfield 24, 3) := by decide +kernel
theorem d_R_line_73 : decode b_R_line 73 = .ok (.bipush 58, 2) := by decide +kernel
theorem d_R_line_75 : decode b_R_line 75 = .ok (.aload_n 0, 1) := by decide +kernel
theorem d_R_line_76 : decode b_R_line 76 = .ok (.getfield 131, 3) := by decide +kernel
theorem d_R_line_79 : decode b_R_line 79 = .ok (.iastore, 1) := by decide +kernel
theorem d_R_line_80 : decode b_R_line 80 = .ok (.iload_n 3, 1) := by decide +kernel
theorem d_R_line_81 : decode b_R_line 81 = .ok (.ireturn, 1) := by decide +kernel
theorem d_R_query_0 : decode b_R_query 0 = .ok (.aload_n 0, 1) := by decide +kernel
theorem d_R_query_1 : decode b_R_query 1 = .ok (.iconst 0, 1) := by decide +kernel
theorem d_R_query_2 : decode b_R_query 2 = .ok (.putfield 67, 3) := by decide +kernel
theorem d_R_query_5 : decode b_R_query 5 = .ok (.aload_n 0, 1) := by decide +kernel
theorem d_R_query_6 : decode b_R_query 6 = .ok (.invokevirtual 170, 3) := by decide +kernel
theorem d_R_query_9 : decode b_R_query 9 = .ok (.iconst 0, 1) := by decide +kernel
theorem d_R_query_10 : decode b_R_query 10 = .ok (.istore_n 1, 1) := by decide +kernel
theorem d_R_query_11 : decode b_R_query 11 = .ok (.iload_n 1, 1) := by decide +kernel
theorem d_R_query_12 : decode b_R_query 12 = .ok (.sipush 316, 3) := by decide +kernel
theorem d_R_query_15 : decode b_R_query 15 = .ok (.if_icmp .ge 16, 3) := by decide +kernel
theorem d_R_query_18 : decode b_R_query 18 = .ok (.aload_n 0, 1) := by decide +kernel
theorem d_R_query_19 : decode b_R_query 19 = .ok (.getfield 24, 3) := by decide +kernel
theorem d_R_query_22 : decode b_R_query 22 = .ok (.iload_n 1, 1) := by decide +kernel
theorem d_R_query_23 : decode b_R_query 23 = .ok (.iconst 0, 1) := by decide +kernel
theorem d_R_query_24 : decode b_R_query 24 = .ok (.iastore, 1) := by decide +kernel
theorem d_R_query_25 : decode b_R_query 25 = .ok (.iinc 1 1, 3) := by decide +kernel
theorem d_R_query_28 : decode b_R_query 28 = .ok (.goto (-17), 3) := by decide +kernel
theorem d_R_query_31 : decode b_R_query 31 = .ok (.aload_n 0, 1) := by decide +kernel
theorem d_R_query_32 : decode b_R_query 32 = .ok (.getfield 24, 3) := by decide +kernel
theorem d_R_query_35 : decode b_R_query 35 = .ok (.bipush 58, 2) := by decide +kernel
theorem d_R_query_37 : decode b_R_query 37 = .ok (.sipush 1000, 3) := by decide +kernel
theorem d_R_query_40 : decode b_R_query 40 = .ok (.iastore, 1) := by decide +kernel
theorem d_R_query_41 : decode b_R_query 41 = .ok (.iconst 1, 1) := by decide +kernel
theorem d_R_query_42 : decode b_R_query 42 = .ok (.istore_n 1, 1) := by decide +kernel
theorem d_R_query_43 : decode b_R_query 43 = .ok (.iload_n 1, 1) := by decide +kernel
theorem d_R_query_44 : decode b_R_query 44 = .ok (.ifCond .eq 35, 3) := by decide +kernel
theorem d_R_query_47 : decode b_R_query 47 = .ok (.aload_n 0, 1) := by decide +kernel
theorem d_R_query_48 : decode b_R_query 48 = .ok (.getfield 100, 3) := by decide +kernel
theorem d_R_query_51 : decode b_R_query 51 = .ok (.ifCond .eq 28, 3) := by decide +kernel
theorem d_R_query_54 : decode b_R_query 54 = .ok (.aload_n 0, 1) := by decide +kernel
theorem d_R_query_55 : decode b_R_query 55 = .ok (.invokevirtual 173, 3) := by decide +kernel
theorem d_R_query_58 : decode b_R_query 58 = .ok (.ifCond .eq 16, 3) := by decide +kernel
theorem d_R_query_61 : decode b_R_query 61 = .ok (.aload_n 0, 1) := by decide +kernel
theorem d_R_query_62 : decode b_R_query 62 = .ok (.bipush 59, 2) := by decide +kernel
theorem d_R_query_64 : decode b_R_query 64 = .ok (.invokevirtual 152, 3) := by decide +kernel
theorem d_R_query_67 : decode b_R_query 67 = .ok (.ifCond .eq 7, 3) := by decide +kernel
theorem d_R_query_70 : decode b_R_query 70 = .ok (.iconst 1, 1) := by decide +kernel
theorem d_R_query_71 : decode b_R_query 71 = .ok (.goto 4, 3) := by decide +kernel
theorem d_R_query_74 : decode b_R_query 74 = .ok (.iconst 0, 1) := by decide +kernel
theorem d_R_query_75 : decode b_R_query 75 = .ok (.istore_n 1, 1) := by decide +kernel
theorem d_R_query_76 : decode b_R_query 76 = .ok (.goto (-33), 3) := by decide +kernel
theorem d_R_query_79 : decode b_R_query 79 = .ok (.aload_n 0, 1) := by decide +kernel
theorem d_R_query_80 : decode b_R_query 80 = .ok (.iload_n 1, 1) := by decide +kernel
theorem d_R_query_81 : decode b_R_query 81 = .ok (.invokevirtual 176, 3) := by decide +kernel
theorem d_R_query_84 : decode b_R_query 84 = .ok (.ifCond .ne 5, 3) := by decide +kernel
theorem d_R_query_87 : decode b_R_query 87 = .ok (.iconst (-1), 1) := by decide +kernel
theorem d_R_query_88 : decode b_R_query 88 = .ok (.ireturn, 1) := by decide +kernel
theorem d_R_query_89 : decode b_R_query 89 = .ok (.iconst 0, 1) := by decide +kernel
theorem d_R_query_90 : decode b_R_query 90 = .ok (.istore_n 2, 1) := by decide +kernel
theorem d_R_query_91 : decode b_R_query 91 = .ok (.iload_n 2, 1) := by decide +kernel
theorem d_R_query_92 : decode b_R_query 92 = .ok (.sipush 316, 3) := by decide +kernel
theorem d_R_query_95 : decode b_R_query 95 = .ok (.if_icmp .ge 21, 3) := by decide +kernel
theorem d_R_query_98 : decode b_R_query 98 = .ok (.aload_n 0, 1) := by decide +kernel
theorem d_R_query_99 : decode b_R_query 99 = .ok (.getfield 7, 3) := by decide +kernel
theorem d_R_query_102 : decode b_R_query 102 = .ok (.iload_n 2, 1) := by decide +kernel
theorem d_R_query_103 : decode b_R_query 103 = .ok (.aload_n 0, 1) := by decide +kernel
theorem d_R_query_104 : decode b_R_query 104 = .ok (.getfield 24, 3) := by decide +kernel
theorem d_R_query_107 : decode b_R_query 107 = .ok (.iload_n 2, 1) := by decide +kernel
theorem d_R_query_108 : decode b_R_query 108 = .ok (.iaload, 1) := by decide +kernel
theorem d_R_query_109 : decode b_R_query 109 = .ok (.iastore, 1) := by decide +kernel
theorem d_R_query_110 : decode b_R_query 110 = .ok (.iinc 2 1, 3) := by decide +kernel
theorem d_R_query_113 : decode b_R_query 113 = .ok (.goto (-22), 3) := by decide +kernel
theorem d_R_query_116 : decode b_R_query 116 = .ok (.aload_n 0, 1) := by decide +kernel
theorem d_R_query_117 : decode b_R_query 117 = .ok (.iconst 0, 1) := by decide +kernel
theorem d_R_query_118 : decode b_R_query 118 = .ok (.putfield 180, 3) := by decide +kernel
theorem d_R_query_121 : decode b_R_query 121 = .ok (.aload_n 0, 1) := by decide +kernel
theorem d_R_query_122 : decode b_R_query 122 = .ok (.getfield 7, 3) := by decide +kernel
theorem d_R_query_125 : decode b_R_query 125 = .ok (.iconst 0, 1) := by decide +kernel
theorem d_R_query_126 : decode b_R_query 126 = .ok (.iaload, 1) := by decide +kernel
theorem d_R_query_127 : decode b_R_query 127 = .ok (.ireturn, 1) := by decide +kernel
theorem d_R_fault_0 : decode b_R_fault 0 = .ok (.aload_n 0, 1) := by decide +kernel
theorem d_R_fault_1 : decode b_R_fault 1 = .ok (.iconst 0, 1) := by decide +kernel
theorem d_R_fault_2 : decode b_R_fault 2 = .ok (.putfield 67, 3) := by decide +kernel
theorem d_R_fault_5 : decode b_R_fault 5 = .ok (.iload_n 1, 1) := by decide +kernel
theorem d_R_fault_6 : decode b_R_fault 6 = .ok (.ifCond .eq 14, 3) := by decide +kernel
theorem d_R_fault_9 : decode b_R_fault 9 = .ok (.aload_n 0, 1) := by decide +kernel
theorem d_R_fault_10 : decode b_R_fault 10 = .ok (.getfield 7, 3) := by decide +kernel
theorem d_R_fault_13 : decode b_R_fault 13 = .ok (.sipush 318, 3) := by decide +kernel
theorem d_R_fault_16 : decode b_R_fault 16 = .ok (.iaload, 1) := by decide +kernel
theorem d_R_fault_17 : decode b_R_fault 17 = .ok (.goto 11, 3) := by decide +kernel
theorem d_R_fault_20 : decode b_R_fault 20 = .ok (.aload_n 0, 1) := by decide +kernel
theorem d_R_fault_21 : decode b_R_fault 21 = .ok (.getfield 7, 3) := by decide +kernel
theorem d_R_fault_24 : decode b_R_fault 24 = .ok (.sipush 317, 3) := by decide +kernel
theorem d_R_fault_27 : decode b_R_fault 27 = .ok (.iaload, 1) := by decide +kernel
theorem d_R_fault_28 : decode b_R_fault 28 = .ok (.ireturn, 1) := by decide +kernel
theorem d_R_puts_0 : decode b_R_puts 0 = .ok (.aload_n 0, 1) := by decide +kernel
theorem d_R_puts_1 : decode b_R_puts 1 = .ok (.getfield 27, 3) := by decide +kernel
theorem d_R_puts_4 : decode b_R_puts 4 = .ok (.aload_n 0, 1) := by decide +kernel
theorem d_R_puts_5 : decode b_R_puts 5 = .ok (.getfield 183, 3) := by decide +kernel
theorem d_R_puts_8 : decode b_R_puts 8 = .ok (.iload_n 1, 1) := by decide +kernel
theorem d_R_puts_9 : decode b_R_puts 9 = .ok (.iastore, 1) := by decide +kernel
theorem d_R_puts_10 : decode b_R_puts 10 = .ok (.aload_n 0, 1) := by decide +kernel
theorem d_R_puts_11 : decode b_R_puts 11 = .ok (.dup, 1) := by decide +kernel
theorem d_R_puts_12 : decode b_R_puts 12 = .ok (.getfield 183, 3) := by decide +kernel
theorem d_R_puts_15 : decode b_R_puts 15 = .ok (.iconst 1, 1) := by decide +kernel
theorem d_R_puts_16 : decode b_R_puts 16 = .ok (.iadd, 1) := by decide +kernel
theorem d_R_puts_17 : decode b_R_puts 17 = .ok (.putfield 183, 3) := by decide +kernel
theorem d_R_puts_20 : decode b_R_puts 20 = .ok (.return_, 1) := by decide +kernel
theorem d_R_takesNumber_0 : decode b_R_takesNumber 0 = .ok (.aload_n 0, 1) := by decide +kernel
theorem d_R_takesNumber_1 : decode b_R_takesNumber 1 = .ok (.getfield 100, 3) := by decide +kernel
theorem d_R_takesNumber_4 : decode b_R_takesNumber 4 = .ok (.iconst 3, 1) := by decide +kernel
theorem d_R_takesNumber_5 : decode b_R_takesNumber 5 = .ok (.if_icmp .eq 8, 3) := by decide +kernel
theorem d_R_takesNumber_8 : decode b_R_takesNumber 8 = .ok (.aload_n 0, 1) := by decide +kernel
theorem d_R_takesNumber_9 : decode b_R_takesNumber 9 = .ok (.invokevirtual 127, 3) := by decide +kernel
theorem d_R_takesNumber_12 : decode b_R_takesNumber 12 = .ok (.ireturn, 1) := by decide +kernel
theorem d_R_takesNumber_13 : decode b_R_takesNumber 13 = .ok (.iconst 0, 1) := by decide +kernel
theorem d_R_takesNumber_14 : decode b_R_takesNumber 14 = .ok (.istore_n 1, 1) := by decide +kernel
theorem d_R_takesNumber_15 : decode b_R_takesNumber 15 = .ok (.aload_n 0, 1) := by decide +kernel
theorem d_R_takesNumber_16 : decode b_R_takesNumber 16 = .ok (.getfield 115, 3) := by decide +kernel
theorem d_R_takesNumber_19 : decode b_R_takesNumber 19 = .ok (.aload_n 0, 1) := by decide +kernel
theorem d_R_takesNumber_20 : decode b_R_takesNumber 20 = .ok (.getfield 7, 3) := by decide +kernel
theorem d_R_takesNumber_23 : decode b_R_takesNumber 23 = .ok (.iconst 0, 1) := by decide +kernel
theorem d_R_takesNumber_24 : decode b_R_takesNumber 24 = .ok (.iaload, 1) := by decide +kernel
theorem d_R_takesNumber_25 : decode b_R_takesNumber 25 = .ok (.if_icmp .lt 15, 3) := by decide +kernel
theorem d_R_takesNumber_28 : decode b_R_takesNumber 28 = .ok (.aload_n 0, 1) := by decide +kernel
theorem d_R_takesNumber_29 : decode b_R_takesNumber 29 = .ok (.iconst 2, 1) := by decide +kernel
theorem d_R_takesNumber_30 : decode b_R_takesNumber 30 = .ok (.aload_n 0, 1) := by decide +kernel
theorem d_R_takesNumber_31 : decode b_R_takesNumber 31 = .ok (.getfield 90, 3) := by decide +kernel
theorem d_R_takesNumber_34 : decode b_R_takesNumber 34 = .ok (.invokevirtual 134, 3) := by decide +kernel
theorem d_R_takesNumber_37 : decode b_R_takesNumber 37 = .ok (.goto 37, 3) := by decide +kernel
theorem d_R_takesNumber_40 : decode b_R_takesNumber 40 = .ok (.aload_n 0, 1) := by decide +kernel
theorem d_R_takesNumber_41 : decode b_R_takesNumber 41 = .ok (.getfield 186, 3) := by decide +kernel
theorem d_R_takesNumber_44 : decode b_R_takesNumber 44 = .ok (.aload_n 0, 1) := by decide +kernel
theorem d_R_takesNumber_45 : decode b_R_takesNumber 45 = .ok (.getfield 115, 3) := by decide +kernel
theorem d_R_takesNumber_48 : decode b_R_takesNumber 48 = .ok (.ishr, 1) := by decide +kernel
theorem d_R_takesNumber_49 : decode b_R_takesNumber 49 = .ok (.iconst 1, 1) := by decide +kernel
theorem d_R_takesNumber_50 : decode b_R_takesNumber 50 = .ok (.iand, 1) := by decide +kernel
theorem d_R_takesNumber_51 : decode b_R_takesNumber 51 = .ok (.iconst 1, 1) := by decide +kernel
theorem d_R_takesNumber_52 : decode b_R_takesNumber 52 = .ok (.if_icmp .ne 15, 3) := by decide +kernel
theorem d_R_takesNumber_55 : decode b_R_takesNumber 55 = .ok (.aload_n 0, 1) := by decide +kernel
theorem d_R_takesNumber_56 : decode b_R_takesNumber 56 = .ok (.iconst 3, 1) := by decide +kernel
theorem d_R_takesNumber_57 : decode b_R_takesNumber 57 = .ok (.aload_n 0, 1) := by decide +kernel
theorem d_R_takesNumber_58 : decode b_R_takesNumber 58 = .ok (.getfield 90, 3) := by decide +kernel
theorem d_R_takesNumber_61 : decode b_R_takesNumber 61 = .ok (.invokevirtual 134, 3) := by decide +kernel
theorem d_R_takesNumber_64 : decode b_R_takesNumber 64 = .ok (.goto 10, 3) := by decide +kernel
theorem d_R_takesNumber_67 : decode b_R_takesNumber 67 = .ok (.iconst 1, 1) := by decide +kernel
theorem d_R_takesNumber_68 : decode b_R_takesNumber 68 = .ok (.aload_n 0, 1) := by decide +kernel
theorem d_R_takesNumber_69 : decode b_R_takesNumber 69 = .ok (.getfield 115, 3) := by decide +kernel
theorem d_R_takesNumber_72 : decode b_R_takesNumber 72 = .ok (.ishl, 1) := by decide +kernel
theorem d_R_takesNumber_73 : decode b_R_takesNumber 73 = .ok (.istore_n 1, 1) := by decide +kernel
theorem d_R_takesNumber_74 : decode b_R_takesNumber 74 = .ok (.aload_n 0, 1) := by decide +kernel
theorem d_R_takesNumber_75 : decode b_R_takesNumber 75 = .ok (.dup, 1) := by decide +kernel
theorem d_R_takesNumber_76 : decode b_R_takesNumber 76 = .ok (.getfield 186, 3) := by decide +kernel
theorem d_R_takesNumber_79 : decode b_R_takesNumber 79 = .ok (.iload_n 1, 1) := by decide +kernel
theorem d_R_takesNumber_80 : decode b_R_takesNumber 80 = .ok (.ior, 1) := by decide +kernel
theorem d_R_takesNumber_81 : decode b_R_takesNumber 81 = .ok (.putfield 186, 3) := by decide +kernel
theorem d_R_takesNumber_84 : decode b_R_takesNumber 84 = .ok (.aload_n 0, 1) := by decide +kernel
theorem d_R_takesNumber_85 : decode b_R_takesNumber 85 = .ok (.iload_n 1, 1) := by decide +kernel
theorem d_R_takesNumber_86 : decode b_R_takesNumber 86 = .ok (.invokevirtual 189, 3) := by decide +kernel
theorem d_R_takesNumber_89 : decode b_R_takesNumber 89 = .ok (.aload_n 0, 1) := by decide +kernel
theorem d_R_takesNumber_90 : decode b_R_takesNumber 90 = .ok (.invokevirtual 138, 3) := by decide +kernel
theorem d_R_takesNumber_93 : decode b_R_takesNumber 93 = .ok (.iconst 1, 1) := by decide +kernel
theorem d_R_takesNumber_94 : decode b_R_takesNumber 94 = .ok (.ireturn, 1) := by decide +kernel
theorem d_R_isAheadOf_0 : decode b_R_isAheadOf 0 = .ok (.iload_n 0, 1) := by decide +kernel
theorem d_R_isAheadOf_1 : decode b_R_isAheadOf 1 = .ok (.iload_n 1, 1) := by decide +kernel
theorem d_R_isAheadOf_2 : decode b_R_isAheadOf 2 = .ok (.ior, 1) := by decide +kernel
theorem d_R_isAheadOf_3 : decode b_R_isAheadOf 3 = .ok (.invokestatic 199, 3) := by decide +kernel
theorem d_R_isAheadOf_6 : decode b_R_isAheadOf 6 = .ok (.iload_n 0, 1) := by decide +kernel
theorem d_R_isAheadOf_7 : decode b_R_isAheadOf 7 = .ok (.invokestatic 199, 3) := by decide +kernel
theorem d_R_isAheadOf_10 : decode b_R_isAheadOf 10 = .ok (.if_icmp .ne 7, 3) := by decide +kernel
theorem d_R_isAheadOf_13 : decode b_R_isAheadOf 13 = .ok (.iconst 1, 1) := by decide +kernel
theorem d_R_isAheadOf_14 : decode b_R_isAheadOf 14 = .ok (.goto 4, 3) := by decide +kernel
theorem d_R_isAheadOf_17 : decode b_R_isAheadOf 17 = .ok (.iconst 0, 1) := by decide +kernel
theorem d_R_isAheadOf_18 : decode b_R_isAheadOf 18 = .ok (.ireturn, 1) := by decide +kernel
theorem d_R_joinsTwo_0 : decode b_R_joinsTwo 0 = .ok (.aload_n 0, 1) := by decide +kernel
theorem d_R_joinsTwo_1 : decode b_R_joinsTwo 1 = .ok (.dup, 1) := by decide +kernel
theorem d_R_joinsTwo_2 : decode b_R_joinsTwo 2 = .ok (.getfield 183, 3) := by decide +kernel
theorem d_R_joinsTwo_5 : decode b_R_joinsTwo 5 = .ok (.iconst 2, 1) := by decide +kernel
theorem d_R_joinsTwo_6 : decode b_R_joinsTwo 6 = .ok (.isub, 1) := by decide +kernel
theorem d_R_joinsTwo_7 : decode b_R_joinsTwo 7 = .ok (.putfield 183, 3) := by decide +kernel
theorem d_R_joinsTwo_10 : decode b_R_joinsTwo 10 = .ok (.aload_n 0, 1) := by decide +kernel
theorem d_R_joinsTwo_11 : decode b_R_joinsTwo 11 = .ok (.getfield 27, 3) := by decide +kernel
theorem d_R_joinsTwo_14 : decode b_R_joinsTwo 14 = .ok (.aload_n 0, 1) := by decide +kernel
theorem d_R_joinsTwo_15 : decode b_R_joinsTwo 15 = .ok (.getfield 183, 3) := by decide +kernel
theorem d_R_joinsTwo_18 : decode b_R_joinsTwo 18 = .ok (.iaload, 1) := by decide +kernel
theorem d_R_joinsTwo_19 : decode b_R_joinsTwo 19 = .ok (.istore_n 1, 1) := by decide +kernel
theorem d_R_joinsTwo_20 : decode b_R_joinsTwo 20 = .ok (.aload_n 0, 1) := by decide +kernel
theorem d_R_joinsTwo_21 : decode b_R_joinsTwo 21 = .ok (.getfield 27, 3) := by decide +kernel
theorem d_R_joinsTwo_24 : decode b_R_joinsTwo 24 = .ok (.aload_n 0, 1) := by decide +kernel
theorem d_R_joinsTwo_25 : decode b_R_joinsTwo 25 = .ok (.getfield 183, 3) := by decide +kernel
theorem d_R_joinsTwo_28 : decode b_R_joinsTwo 28 = .ok (.iconst 1, 1) := by decide +kernel
theorem d_R_joinsTwo_29 : decode b_R_joinsTwo 29 = .ok (.iadd, 1) := by decide +kernel
theorem d_R_joinsTwo_30 : decode b_R_joinsTwo 30 = .ok (.iaload, 1) := by decide +kernel
theorem d_R_joinsTwo_31 : decode b_R_joinsTwo 31 = .ok (.istore_n 2, 1) := by decide +kernel
theorem d_R_joinsTwo_32 : decode b_R_joinsTwo 32 = .ok (.aload_n 0, 1) := by decide +kernel
theorem d_R_joinsTwo_33 : decode b_R_joinsTwo 33 = .ok (.getfield 24, 3) := by decide +kernel
theorem d_R_joinsTwo_36 : decode b_R_joinsTwo 36 = .ok (.bipush 60, 2) := by decide +kernel
theorem d_R_joinsTwo_38 : decode b_R_joinsTwo 38 = .ok (.iload_n 1, 1) := by decide +kernel
theorem d_R_joinsTwo_39 : decode b_R_joinsTwo 39 = .ok (.iload_n 2, 1) := by decide +kernel
theorem d_R_joinsTwo_40 : decode b_R_joinsTwo 40 = .ok (.ior, 1) := by decide +kernel
theorem d_R_joinsTwo_41 : decode b_R_joinsTwo 41 = .ok (.iadd, 1) := by decide +kernel
theorem d_R_joinsTwo_42 : decode b_R_joinsTwo 42 = .ok (.iload_n 1, 1) := by decide +kernel
theorem d_R_joinsTwo_43 : decode b_R_joinsTwo 43 = .ok (.iload_n 2, 1) := by decide +kernel
theorem d_R_joinsTwo_44 : decode b_R_joinsTwo 44 = .ok (.invokestatic 193, 3) := by decide +kernel
theorem d_R_joinsTwo_47 : decode b_R_joinsTwo 47 = .ok (.ifCond .eq 7, 3) := by decide +kernel
theorem d_R_joinsTwo_50 : decode b_R_joinsTwo 50 = .ok (.iload_n 1, 1) := by decide +kernel
theorem d_R_joinsTwo_51 : decode b_R_joinsTwo 51 = .ok (.goto 4, 3) := by decide +kernel
theorem d_R_joinsTwo_54 : decode b_R_joinsTwo 54 = .ok (.iload_n 2, 1) := by decide +kernel
theorem d_R_joinsTwo_55 : decode b_R_joinsTwo 55 = .ok (.iastore, 1) := by decide +kernel
theorem d_R_joinsTwo_56 : decode b_R_joinsTwo 56 = .ok (.aload_n 0, 1) := by decide +kernel
theorem d_R_joinsTwo_57 : decode b_R_joinsTwo 57 = .ok (.dup, 1) := by decide +kernel
theorem d_R_joinsTwo_58 : decode b_R_joinsTwo 58 = .ok (.getfield 196, 3) := by decide +kernel
theorem d_R_joinsTwo_61 : decode b_R_joinsTwo 61 = .ok (.iconst 1, 1) := by decide +kernel
theorem d_R_joinsTwo_62 : decode b_R_joinsTwo 62 = .ok (.iadd, 1) := by decide +kernel
theorem d_R_joinsTwo_63 : decode b_R_joinsTwo 63 = .ok (.putfield 196, 3) := by decide +kernel
theorem d_R_joinsTwo_66 : decode b_R_joinsTwo 66 = .ok (.aload_n 0, 1) := by decide +kernel
theorem d_R_joinsTwo_67 : decode b_R_joinsTwo 67 = .ok (.iload_n 1, 1) := by decide +kernel
theorem d_R_joinsTwo_68 : decode b_R_joinsTwo 68 = .ok (.iload_n 2, 1) := by decide +kernel
theorem d_R_joinsTwo_69 : decode b_R_joinsTwo 69 = .ok (.ior, 1) := by decide +kernel
theorem d_R_joinsTwo_70 : decode b_R_joinsTwo 70 = .ok (.invokevirtual 189, 3) := by decide +kernel
theorem d_R_joinsTwo_73 : decode b_R_joinsTwo 73 = .ok (.return_, 1) := by decide +kernel
theorem d_R_closes_0 : decode b_R_closes 0 = .ok (.aload_n 0, 1) := by decide +kernel
theorem d_R_closes_1 : decode b_R_closes 1 = .ok (.getfield 203, 3) := by decide +kernel
theorem d_R_closes_4 : decode b_R_closes 4 = .ok (.ifCond .le 7, 3) := by decide +kernel
theorem d_R_closes_7 : decode b_R_closes 7 = .ok (.iconst 1, 1) := by decide +kernel
theorem d_R_closes_8 : decode b_R_closes 8 = .ok (.goto 4, 3) := by decide +kernel
theorem d_R_closes_11 : decode b_R_closes 11 = .ok (.iconst 0, 1) := by decide +kernel
theorem d_R_closes_12 : decode b_R_closes 12 = .ok (.istore_n 1, 1) := by decide +kernel
theorem d_R_closes_13 : decode b_R_closes 13 = .ok (.iload_n 1, 1) := by decide +kernel
theorem d_R_closes_14 : decode b_R_closes 14 = .ok (.ifCond .eq 84, 3) := by decide +kernel
theorem d_R_closes_17 : decode b_R_closes 17 = .ok (.aload_n 0, 1) := by decide +kernel
theorem d_R_closes_18 : decode b_R_closes 18 = .ok (.getfield 30, 3) := by decide +kernel
theorem d_R_closes_21 : decode b_R_closes 21 = .ok (.aload_n 0, 1) := by decide +kernel
theorem d_R_closes_22 : decode b_R_closes 22 = .ok (.getfield 203, 3) := by decide +kernel
theorem d_R_closes_25 : decode b_R_closes 25 = .ok (.iconst 1, 1) := by decide +kernel
theorem d_R_closes_26 : decode b_R_closes 26 = .ok (.isub, 1) := by decide +kernel
theorem d_R_closes_27 : decode b_R_closes 27 = .ok (.dup2, 1) := by decide +kernel
theorem d_R_closes_28 : decode b_R_closes 28 = .ok (.iaload, 1) := by decide +kernel
theorem d_R_closes_29 : decode b_R_closes 29 = .ok (.iconst 1, 1) := by decide +kernel
theorem d_R_closes_30 : decode b_R_closes 30 = .ok (.iadd, 1) := by decide +kernel
theorem d_R_closes_31 : decode b_R_closes 31 = .ok (.iastore, 1) := by decide +kernel
theorem d_R_closes_32 : decode b_R_closes 32 = .ok (.aload_n 0, 1) := by decide +kernel
theorem d_R_closes_33 : decode b_R_closes 33 = .ok (.getfield 30, 3) := by decide +kernel
theorem d_R_closes_36 : decode b_R_closes 36 = .ok (.aload_n 0, 1) := by decide +kernel
theorem d_R_closes_37 : decode b_R_closes 37 = .ok (.getfield 203, 3) := by decide +kernel
theorem d_R_closes_40 : decode b_R_closes 40 = .ok (.iconst 1, 1) := by decide +kernel
theorem d_R_closes_41 : decode b_R_closes 41 = .ok (.isub, 1) := by decide +kernel
theorem d_R_closes_42 : decode b_R_closes 42 = .ok (.iaload, 1) := by decide +kernel
theorem d_R_closes_43 : decode b_R_closes 43 = .ok (.iconst 2, 1) := by decide +kernel
theorem d_R_closes_44 : decode b_R_closes 44 = .ok (.if_icmp .ne 7, 3) := by decide +kernel
theorem d_R_closes_47 : decode b_R_closes 47 = .ok (.iconst 1, 1) := by decide +kernel
theorem d_R_closes_48 : decode b_R_closes 48 = .ok (.goto 4, 3) := by decide +kernel
theorem d_R_closes_51 : decode b_R_closes 51 = .ok (.iconst 0, 1) := by decide +kernel
theorem d_R_closes_52 : decode b_R_closes 52 = .ok (.istore_n 1, 1) := by decide +kernel
theorem d_R_closes_53 : decode b_R_closes 53 = .ok (.iload_n 1, 1) := by decide +kernel
theorem d_R_closes_54 : decode b_R_closes 54 = .ok (.ifCond .eq (-41), 3) := by decide +kernel
theorem d_R_closes_57 : decode b_R_closes 57 = .ok (.aload_n 0, 1) := by decide +kernel
theorem d_R_closes_58 : decode b_R_closes 58 = .ok (.bipush 41, 2) := by decide +kernel
theorem d_R_closes_60 : decode b_R_closes 60 = .ok (.invokevirtual 152, 3) := by decide +kernel
theorem d_R_closes_63 : decode b_R_closes 63 = .ok (.ifCond .ne 5, 3) := by decide +kernel
theorem d_R_closes_66 : decode b_R_closes 66 = .ok (.iconst 0, 1) := by decide +kernel
theorem d_R_closes_67 : decode b_R_closes 67 = .ok (.ireturn, 1) := by decide +kernel
theorem d_R_closes_68 : decode b_R_closes 68 = .ok (.aload_n 0, 1) := by decide +kernel
theorem d_R_closes_69 : decode b_R_closes 69 = .ok (.invokevirtual 206, 3) := by decide +kernel
theorem d_R_closes_72 : decode b_R_closes 72 = .ok (.aload_n 0, 1) := by decide +kernel
theorem d_R_closes_73 : decode b_R_closes 73 = .ok (.dup, 1) := by decide +kernel
theorem d_R_closes_74 : decode b_R_closes 74 = .ok (.getfield 203, 3) := by decide +kernel
theorem d_R_closes_77 : decode b_R_closes 77 = .ok (.iconst 1, 1) := by decide +kernel
theorem d_R_closes_78 : decode b_R_closes 78 = .ok (.isub, 1) := by decide +kernel
theorem d_R_closes_79 : decode b_R_closes 79 = .ok (.putfield 203, 3) := by decide +kernel
theorem d_R_closes_82 : decode b_R_closes 82 = .ok (.aload_n 0, 1) := by decide +kernel
theorem d_R_closes_83 : decode b_R_closes 83 = .ok (.getfield 203, 3) := by decide +kernel
theorem d_R_closes_86 : decode b_R_closes 86 = .ok (.ifCond .le 7, 3) := by decide +kernel
theorem d_R_closes_89 : decode b_R_closes 89 = .ok (.iconst 1, 1) := by decide +kernel
theorem d_R_closes_90 : decode b_R_closes 90 = .ok (.goto 4, 3) := by decide +kernel
theorem d_R_closes_93 : decode b_R_closes 93 = .ok (.iconst 0, 1) := by decide +kernel
theorem d_R_closes_94 : decode b_R_closes 94 = .ok (.istore_n 1, 1) := by decide +kernel
theorem d_R_closes_95 : decode b_R_closes 95 = .ok (.goto (-82), 3) := by decide +kernel
theorem d_R_closes_98 : decode b_R_closes 98 = .ok (.iconst 1, 1) := by decide +kernel
theorem d_R_closes_99 : decode b_R_closes 99 = .ok (.ireturn, 1) := by decide +kernel
theorem d_R_isPlan_0 : decode b_R_isPlan 0 = .ok (.aload_n 0, 1) := by decide +kernel
theorem d_R_isPlan_1 : decode b_R_isPlan 1 = .ok (.getfield 100, 3) := by decide +kernel
theorem d_R_isPlan_4 : decode b_R_isPlan 4 = .ok (.iconst 4, 1) := by decide +kernel
theorem d_R_isPlan_5 : decode b_R_isPlan 5 = .ok (.if_icmp .ne 39, 3) := by decide +kernel
theorem d_R_isPlan_8 : decode b_R_isPlan 8 = .ok (.aload_n 0, 1) := by decide +kernel
theorem d_R_isPlan_9 : decode b_R_isPlan 9 = .ok (.getfield 97, 3) := by decide +kernel
theorem d_R_isPlan_12 : decode b_R_isPlan 12 = .ok (.bipush 40, 2) := by decide +kernel
theorem d_R_isPlan_14 : decode b_R_isPlan 14 = .ok (.if_icmp .ne 30, 3) := by decide +kernel
theorem d_R_isPlan_17 : decode b_R_isPlan 17 = .ok (.aload_n 0, 1) := by decide +kernel
theorem d_R_isPlan_18 : decode b_R_isPlan 18 = .ok (.invokevirtual 138, 3) := by decide +kernel
theorem d_R_isPlan_21 : decode b_R_isPlan 21 = .ok (.aload_n 0, 1) := by decide +kernel
theorem d_R_isPlan_22 : decode b_R_isPlan 22 = .ok (.getfield 30, 3) := by decide +kernel
theorem d_R_isPlan_25 : decode b_R_isPlan 25 = .ok (.aload_n 0, 1) := by decide +kernel
theorem d_R_isPlan_26 : decode b_R_isPlan 26 = .ok (.getfield 203, 3) := by decide +kernel
theorem d_R_isPlan_29 : decode b_R_isPlan 29 = .ok (.iconst 0, 1) := by decide +kernel
theorem d_R_isPlan_30 : decode b_R_isPlan 30 = .ok (.iastore, 1) := by decide +kernel
theorem d_R_isPlan_31 : decode b_R_isPlan 31 = .ok (.aload_n 0, 1) := by decide +kernel
theorem d_R_isPlan_32 : decode b_R_isPlan 32 = .ok (.dup, 1) := by decide +kernel
theorem d_R_isPlan_33 : decode b_R_isPlan 33 = .ok (.getfield 203, 3) := by decide +kernel
theorem d_R_isPlan_36 : decode b_R_isPlan 36 = .ok (.iconst 1, 1) := by decide +kernel
theorem d_R_isPlan_37 : decode b_R_isPlan 37 = .ok (.iadd, 1) := by decide +kernel
theorem d_R_isPlan_38 : decode b_R_isPlan 38 = .ok (.putfield 203, 3) := by decide +kernel
theorem d_R_isPlan_41 : decode b_R_isPlan 41 = .ok (.goto (-41), 3) := by decide +kernel
theorem d_R_isPlan_44 : decode b_R_isPlan 44 = .ok (.aload_n 0, 1) := by decide +kernel
theorem d_R_isPlan_45 : decode b_R_isPlan 45 = .ok (.invokevirtual 209, 3) := by decide +kernel
theorem d_R_isPlan_48 : decode b_R_isPlan 48 = .ok (.ifCond .eq 10, 3) := by decide +kernel
theorem d_R_isPlan_51 : decode b_R_isPlan 51 = .ok (.aload_n 0, 1) := by decide +kernel
theorem d_R_isPlan_52 : decode b_R_isPlan 52 = .ok (.invokevirtual 212, 3) := by decide +kernel
theorem d_R_isPlan_55 : decode b_R_isPlan 55 = .ok (.ifCond .ne 5, 3) := by decide +kernel
theorem d_R_isPlan_58 : decode b_R_isPlan 58 = .ok (.iconst 0, 1) := by decide +kernel
theorem d_R_isPlan_59 : decode b_R_isPlan 59 = .ok (.ireturn, 1) := by decide +kernel
theorem d_R_isPlan_60 : decode b_R_isPlan 60 = .ok (.aload_n 0, 1) := by decide +kernel
theorem d_R_isPlan_61 : decode b_R_isPlan 61 = .ok (.getfield 203, 3) := by decide +kernel
theorem d_R_isPlan_64 : decode b_R_isPlan 64 = .ok (.ifCond .gt (-64), 3) := by decide +kernel
theorem d_R_isPlan_67 : decode b_R_isPlan 67 = .ok (.aload_n 0, 1) := by decide +kernel
theorem d_R_isPlan_68 : decode b_R_isPlan 68 = .ok (.getfield 100, 3) := by decide +kernel
theorem d_R_isPlan_71 : decode b_R_isPlan 71 = .ok (.ifCond .eq 10, 3) := by decide +kernel
theorem d_R_isPlan_74 : decode b_R_isPlan 74 = .ok (.aload_n 0, 1) := by decide +kernel
theorem d_R_isPlan_75 : decode b_R_isPlan 75 = .ok (.invokevirtual 127, 3) := by decide +kernel
theorem d_R_isPlan_78 : decode b_R_isPlan 78 = .ok (.ifCond .eq 7, 3) := by decide +kernel
theorem d_R_isPlan_81 : decode b_R_isPlan 81 = .ok (.iconst 1, 1) := by decide +kernel
theorem d_R_isPlan_82 : decode b_R_isPlan 82 = .ok (.goto 4, 3) := by decide +kernel
theorem d_R_isPlan_85 : decode b_R_isPlan 85 = .ok (.iconst 0, 1) := by decide +kernel
theorem d_R_isPlan_86 : decode b_R_isPlan 86 = .ok (.ireturn, 1) := by decide +kernel
theorem d_R_keeps_0 : decode b_R_keeps 0 = .ok (.aload_n 0, 1) := by decide +kernel
theorem d_R_keeps_1 : decode b_R_keeps 1 = .ok (.getfield 180, 3) := by decide +kernel
theorem d_R_keeps_4 : decode b_R_keeps 4 = .ok (.bipush 8, 2) := by decide +kernel
theorem d_R_keeps_6 : decode b_R_keeps 6 = .ok (.if_icmp .ne 44, 3) := by decide +kernel
theorem d_R_keeps_9 : decode b_R_keeps 9 = .ok (.iconst 0, 1) := by decide +kernel
theorem d_R_keeps_10 : decode b_R_keeps 10 = .ok (.istore_n 1, 1) := by decide +kernel
theorem d_R_keeps_11 : decode b_R_keeps 11 = .ok (.iload_n 1, 1) := by decide +kernel
theorem d_R_keeps_12 : decode b_R_keeps 12 = .ok (.sipush 2212, 3) := by decide +kernel
theorem d_R_keeps_15 : decode b_R_keeps 15 = .ok (.if_icmp .ge 25, 3) := by decide +kernel
theorem d_R_keeps_18 : decode b_R_keeps 18 = .ok (.aload_n 0, 1) := by decide +kernel
theorem d_R_keeps_19 : decode b_R_keeps 19 = .ok (.getfield 21, 3) := by decide +kernel
theorem d_R_keeps_22 : decode b_R_keeps 22 = .ok (.iload_n 1, 1) := by decide +kernel
theorem d_R_keeps_23 : decode b_R_keeps 23 = .ok (.aload_n 0, 1) := by decide +kernel
theorem d_R_keeps_24 : decode b_R_keeps 24 = .ok (.getfield 21, 3) := by decide +kernel
theorem d_R_keeps_27 : decode b_R_keeps 27 = .ok (.iload_n 1, 1) := by decide +kernel
theorem d_R_keeps_28 : decode b_R_keeps 28 = .ok (.sipush 316, 3) := by decide +kernel
theorem d_R_keeps_31 : decode b_R_keeps 31 = .ok (.iadd, 1) := by decide +kernel
theorem d_R_keeps_32 : decode b_R_keeps 32 = .ok (.iaload, 1) := by decide +kernel
theorem d_R_keeps_33 : decode b_R_keeps 33 = .ok (.iastore, 1) := by decide +kernel
theorem d_R_keeps_34 : decode b_R_keeps 34 = .ok (.iinc 1 1, 3) := by decide +kernel
theorem d_R_keeps_37 : decode b_R_keeps 37 = .ok (.goto (-26), 3) := by decide +kernel
theorem d_R_keeps_40 : decode b_R_keeps 40 = .ok (.aload_n 0, 1) := by decide +kernel
theorem d_R_keeps_41 : decode b_R_keeps 41 = .ok (.dup, 1) := by decide +kernel
theorem d_R_keeps_42 : decode b_R_keeps 42 = .ok (.getfield 180, 3) := by decide +kernel
theorem d_R_keeps_45 : decode b_R_keeps 45 = .ok (.iconst 1, 1) := by decide +kernel
theorem d_R_keeps_46 : decode b_R_keeps 46 = .ok (.isub, 1) := by decide +kernel
theorem d_R_keeps_47 : decode b_R_keeps 47 = .ok (.putfield 180, 3) := by decide +kernel
theorem d_R_keeps_50 : decode b_R_keeps 50 = .ok (.iconst 0, 1) := by decide +kernel
theorem d_R_keeps_51 : decode b_R_keeps 51 = .ok (.istore_n 1, 1) := by decide +kernel
theorem d_R_keeps_52 : decode b_R_keeps 52 = .ok (.iload_n 1, 1) := by decide +kernel
theorem d_R_keeps_53 : decode b_R_keeps 53 = .ok (.sipush 316, 3) := by decide +kernel
theorem d_R_keeps_56 : decode b_R_keeps 56 = .ok (.if_icmp .ge 30, 3) := by decide +kernel
theorem d_R_keeps_59 : decode b_R_keeps 59 = .ok (.aload_n 0, 1) := by decide +kernel
theorem d_R_keeps_60 : decode b_R_keeps 60 = .ok (.getfield 21, 3) := by decide +kernel
theorem d_R_keeps_63 : decode b_R_keeps 63 = .ok (.sipush 316, 3) := by decide +kernel
theorem d_R_keeps_66 : decode b_R_keeps 66 = .ok (.aload_n 0, 1) := by decide +kernel
theorem d_R_keeps_67 : decode b_R_keeps 67 = .ok (.getfield 180, 3) := by decide +kernel
theorem d_R_keeps_70 : decode b_R_keeps 70 = .ok (.imul, 1) := by decide +kernel
theorem d_R_keeps_71 : decode b_R_keeps 71 = .ok (.iload_n 1, 1) := by decide +kernel
theorem d_R_keeps_72 : decode b_R_keeps 72 = .ok (.iadd, 1) := by decide +kernel
theorem d_R_keeps_73 : decode b_R_keeps 73 = .ok (.aload_n 0, 1) := by decide +kernel
theorem d_R_keeps_74 : decode b_R_keeps 74 = .ok (.getfield 7, 3) := by decide +kernel
theorem d_R_keeps_77 : decode b_R_keeps 77 = .ok (.iload_n 1, 1) := by decide +kernel
theorem d_R_keeps_78 : decode b_R_keeps 78 = .ok (.iaload, 1) := by decide +kernel
theorem d_R_keeps_79 : decode b_R_keeps 79 = .ok (.iastore, 1) := by decide +kernel
theorem d_R_keeps_80 : decode b_R_keeps 80 = .ok (.iinc 1 1, 3) := by decide +kernel
theorem d_R_keeps_83 : decode b_R_keeps 83 = .ok (.goto (-31), 3) := by decide +kernel
theorem d_R_keeps_86 : decode b_R_keeps 86 = .ok (.aload_n 0, 1) := by decide +kernel
theorem d_R_keeps_87 : decode b_R_keeps 87 = .ok (.dup, 1) := by decide +kernel
theorem d_R_keeps_88 : decode b_R_keeps 88 = .ok (.getfield 180, 3) := by decide +kernel
theorem d_R_keeps_91 : decode b_R_keeps 91 = .ok (.iconst 1, 1) := by decide +kernel
theorem d_R_keeps_92 : decode b_R_keeps 92 = .ok (.iadd, 1) := by decide +kernel
theorem d_R_keeps_93 : decode b_R_keeps 93 = .ok (.putfield 180, 3) := by decide +kernel
theorem d_R_keeps_96 : decode b_R_keeps 96 = .ok (.return_, 1) := by decide +kernel
theorem d_R_plan_0 : decode b_R_plan 0 = .ok (.aload_n 0, 1) := by decide +kernel
theorem d_R_plan_1 : decode b_R_plan 1 = .ok (.iconst 0, 1) := by decide +kernel
theorem d_R_plan_2 : decode b_R_plan 2 = .ok (.putfield 67, 3) := by decide +kernel
theorem d_R_plan_5 : decode b_R_plan 5 = .ok (.aload_n 0, 1) := by decide +kernel
theorem d_R_plan_6 : decode b_R_plan 6 = .ok (.invokevirtual 170, 3) := by decide +kernel
theorem d_R_plan_9 : decode b_R_plan 9 = .ok (.iconst 0, 1) := by decide +kernel
theorem d_R_plan_10 : decode b_R_plan 10 = .ok (.istore_n 1, 1) := by decide +kernel
theorem d_R_plan_11 : decode b_R_plan 11 = .ok (.iload_n 1, 1) := by decide +kernel
theorem d_R_plan_12 : decode b_R_plan 12 = .ok (.sipush 256, 3) := by decide +kernel
theorem d_R_plan_15 : decode b_R_plan 15 = .ok (.if_icmp .ge 19, 3) := by decide +kernel
theorem d_R_plan_18 : decode b_R_plan 18 = .ok (.aload_n 0, 1) := by decide +kernel
theorem d_R_plan_19 : decode b_R_plan 19 = .ok (.getfield 24, 3) := by decide +kernel
theorem d_R_plan_22 : decode b_R_plan 22 = .ok (.bipush 60, 2) := by decide +kernel
theorem d_R_plan_24 : decode b_R_plan 24 = .ok (.iload_n 1, 1) := by decide +kernel
theorem d_R_plan_25 : decode b_R_plan 25 = .ok (.iadd, 1) := by decide +kernel
theorem d_R_plan_26 : decode b_R_plan 26 = .ok (.iconst 0, 1) := by decide +kernel
theorem d_R_plan_27 : decode b_R_plan 27 = .ok (.iastore, 1) := by decide +kernel
theorem d_R_plan_28 : decode b_R_plan 28 = .ok (.iinc 1 1, 3) := by decide +kernel
theorem d_R_plan_31 : decode b_R_plan 31 = .ok (.goto (-20), 3) := by decide +kernel
theorem d_R_plan_34 : decode b_R_plan 34 = .ok (.aload_n 0, 1) := by decide +kernel
theorem d_R_plan_35 : decode b_R_plan 35 = .ok (.iconst 0, 1) := by decide +kernel
theorem d_R_plan_36 : decode b_R_plan 36 = .ok (.putfield 183, 3) := by decide +kernel
theorem d_R_plan_39 : decode b_R_plan 39 = .ok (.aload_n 0, 1) := by decide +kernel
theorem d_R_plan_40 : decode b_R_plan 40 = .ok (.iconst 0, 1) := by decide +kernel
theorem d_R_plan_41 : decode b_R_plan 41 = .ok (.putfield 203, 3) := by decide +kernel
theorem d_R_plan_44 : decode b_R_plan 44 = .ok (.aload_n 0, 1) := by decide +kernel
theorem d_R_plan_45 : decode b_R_plan 45 = .ok (.iconst 0, 1) := by decide +kernel
theorem d_R_plan_46 : decode b_R_plan 46 = .ok (.putfield 196, 3) := by decide +kernel
theorem d_R_plan_49 : decode b_R_plan 49 = .ok (.aload_n 0, 1) := by decide +kernel
theorem d_R_plan_50 : decode b_R_plan 50 = .ok (.iconst 0, 1) := by decide +kernel
theorem d_R_plan_51 : decode b_R_plan 51 = .ok (.putfield 186, 3) := by decide +kernel
theorem d_R_plan_54 : decode b_R_plan 54 = .ok (.aload_n 0, 1) := by decide +kernel
theorem d_R_plan_55 : decode b_R_plan 55 = .ok (.aload_n 0, 1) := by decide +kernel
theorem d_R_plan_56 : decode b_R_plan 56 = .ok (.invokevirtual 215, 3) := by decide +kernel
theorem d_R_plan_59 : decode b_R_plan 59 = .ok (.invokevirtual 176, 3) := by decide +kernel
theorem d_R_plan_62 : decode b_R_plan 62 = .ok (.ifCond .ne 5, 3) := by decide +kernel
theorem d_R_plan_65 : decode b_R_plan 65 = .ok (.iconst (-1), 1) := by decide +kernel
theorem d_R_plan_66 : decode b_R_plan 66 = .ok (.ireturn, 1) := by decide +kernel
theorem d_R_plan_67 : decode b_R_plan 67 = .ok (.aload_n 0, 1) := by decide +kernel
theorem d_R_plan_68 : decode b_R_plan 68 = .ok (.invokevirtual 218, 3) := by decide +kernel
theorem d_R_plan_71 : decode b_R_plan 71 = .ok (.aload_n 0, 1) := by decide +kernel
theorem d_R_plan_72 : decode b_R_plan 72 = .ok (.getfield 7, 3) := by decide +kernel
theorem d_R_plan_75 : decode b_R_plan 75 = .ok (.bipush 59, 2) := by decide +kernel
theorem d_R_plan_77 : decode b_R_plan 77 = .ok (.aload_n 0, 1) := by decide +kernel
theorem d_R_plan_78 : decode b_R_plan 78 = .ok (.getfield 27, 3) := by decide +kernel
theorem d_R_plan_81 : decode b_R_plan 81 = .ok (.iconst 0, 1) := by decide +kernel
theorem d_R_plan_82 : decode b_R_plan 82 = .ok (.iaload, 1) := by decide +kernel
theorem d_R_plan_83 : decode b_R_plan 83 = .ok (.iastore, 1) := by decide +kernel
theorem d_R_plan_84 : decode b_R_plan 84 = .ok (.iconst 0, 1) := by decide +kernel
theorem d_R_plan_85 : decode b_R_plan 85 = .ok (.istore_n 1, 1) := by decide +kernel
theorem d_R_plan_86 : decode b_R_plan 86 = .ok (.iload_n 1, 1) := by decide +kernel
theorem d_R_plan_87 : decode b_R_plan 87 = .ok (.sipush 256, 3) := by decide +kernel
theorem d_R_plan_90 : decode b_R_plan 90 = .ok (.if_icmp .ge 27, 3) := by decide +kernel
theorem d_R_plan_93 : decode b_R_plan 93 = .ok (.aload_n 0, 1) := by decide +kernel
theorem d_R_plan_94 : decode b_R_plan 94 = .ok (.getfield 7, 3) := by decide +kernel
theorem d_R_plan_97 : decode b_R_plan 97 = .ok (.bipush 60, 2) := by decide +kernel
theorem d_R_plan_99 : decode b_R_plan 99 = .ok (.iload_n 1, 1) := by decide +kernel
theorem d_R_plan_100 : decode b_R_plan 100 = .ok (.iadd, 1) := by decide +kernel
theorem d_R_plan_101 : decode b_R_plan 101 = .ok (.aload_n 0, 1) := by decide +kernel
theorem d_R_plan_102 : decode b_R_plan 102 = .ok (.getfield 24, 3) := by decide +kernel
theorem d_R_plan_105 : decode b_R_plan 105 = .ok (.bipush 60, 2) := by decide +kernel
theorem d_R_plan_107 : decode b_R_plan 107 = .ok (.iload_n 1, 1) := by decide +kernel
theorem d_R_plan_108 : decode b_R_plan 108 = .ok (.iadd, 1) := by decide +kernel
theorem d_R_plan_109 : decode b_R_plan 109 = .ok (.iaload, 1) := by decide +kernel
theorem d_R_plan_110 : decode b_R_plan 110 = .ok (.iastore, 1) := by decide +kernel
theorem d_R_plan_111 : decode b_R_plan 111 = .ok (.iinc 1 1, 3) := by decide +kernel
theorem d_R_plan_114 : decode b_R_plan 114 = .ok (.goto (-28), 3) := by decide +kernel
theorem d_R_plan_117 : decode b_R_plan 117 = .ok (.aload_n 0, 1) := by decide +kernel
theorem d_R_plan_118 : decode b_R_plan 118 = .ok (.getfield 196, 3) := by decide +kernel
theorem d_R_plan_121 : decode b_R_plan 121 = .ok (.ireturn, 1) := by decide +kernel
theorem d_R_isJoined_0 : decode b_R_isJoined 0 = .ok (.iconst 0, 1) := by decide +kernel
theorem d_R_isJoined_1 : decode b_R_isJoined 1 = .ok (.istore_n 3, 1) := by decide +kernel
theorem d_R_isJoined_2 : decode b_R_isJoined 2 = .ok (.iload_n 3, 1) := by decide +kernel
theorem d_R_isJoined_3 : decode b_R_isJoined 3 = .ok (.aload_n 0, 1) := by decide +kernel
theorem d_R_isJoined_4 : decode b_R_isJoined 4 = .ok (.getfield 7, 3) := by decide +kernel
theorem d_R_isJoined_7 : decode b_R_isJoined 7 = .ok (.bipush 9, 2) := by decide +kernel
theorem d_R_isJoined_9 : decode b_R_isJoined 9 = .ok (.iaload, 1) := by decide +kernel
theorem d_R_isJoined_10 : decode b_R_isJoined 10 = .ok (.if_icmp .ge 59, 3) := by decide +kernel
theorem d_R_isJoined_13 : decode b_R_isJoined 13 = .ok (.aload_n 0, 1) := by decide +kernel
theorem d_R_isJoined_14 : decode b_R_isJoined 14 = .ok (.iload_n 3, 1) := by decide +kernel
theorem d_R_isJoined_15 : decode b_R_isJoined 15 = .ok (.invokevirtual 221, 3) := by decide +kernel
theorem d_R_isJoined_18 : decode b_R_isJoined 18 = .ok (.iload_n 1, 1) := by decide +kernel
theorem d_R_isJoined_19 : decode b_R_isJoined 19 = .ok (.invokestatic 75, 3) := by decide +kernel
theorem d_R_isJoined_22 : decode b_R_isJoined 22 = .ok (.ifCond .eq 15, 3) := by decide +kernel
theorem d_R_isJoined_25 : decode b_R_isJoined 25 = .ok (.aload_n 0, 1) := by decide +kernel
theorem d_R_isJoined_26 : decode b_R_isJoined 26 = .ok (.iload_n 3, 1) := by decide +kernel
theorem d_R_isJoined_27 : decode b_R_isJoined 27 = .ok (.invokevirtual 224, 3) := by decide +kernel
theorem d_R_isJoined_30 : decode b_R_isJoined 30 = .ok (.iload_n 2, 1) := by decide +kernel
theorem d_R_isJoined_31 : decode b_R_isJoined 31 = .ok (.invokestatic 75, 3) := by decide +kernel
theorem d_R_isJoined_34 : decode b_R_isJoined 34 = .ok (.ifCond .ne 27, 3) := by decide +kernel
theorem d_R_isJoined_37 : decode b_R_isJoined 37 = .ok (.aload_n 0, 1) := by decide +kernel
theorem d_R_isJoined_38 : decode b_R_isJoined 38 = .ok (.iload_n 3, 1) := by decide +kernel
theorem d_R_isJoined_39 : decode b_R_isJoined 39 = .ok (.invokevirtual 221, 3) := by decide +kernel
theorem d_R_isJoined_42 : decode b_R_isJoined 42 = .ok (.iload_n 2, 1) := by decide +kernel
theorem d_R_isJoined_43 : decode b_R_isJoined 43 = .ok (.invokestatic 75, 3) := by decide +kernel
theorem d_R_isJoined_46 : decode b_R_isJoined 46 = .ok (.ifCond .eq 17, 3) := by decide +kernel
theorem d_R_isJoined_49 : decode b_R_isJoined 49 = .ok (.aload_n 0, 1) := by decide +kernel
theorem d_R_isJoined_50 : decode b_R_isJoined 50 = .ok (.iload_n 3, 1) := by decide +kernel
theorem d_R_isJoined_51 : decode b_R_isJoined 51 = .ok (.invokevirtual 224, 3) := by decide +kernel
theorem d_R_isJoined_54 : decode b_R_isJoined 54 = .ok (.iload_n 1, 1) := by decide +kernel
theorem d_R_isJoined_55 : decode b_R_isJoined 55 = .ok (.invokestatic 75, 3) := by decide +kernel
theorem d_R_isJoined_58 : decode b_R_isJoined 58 = .ok (.ifCond .eq 5, 3) := by decide +kernel
theorem d_R_isJoined_61 : decode b_R_isJoined 61 = .ok (.iconst 1, 1) := by decide +kernel
theorem d_R_isJoined_62 : decode b_R_isJoined 62 = .ok (.ireturn, 1) := by decide +kernel
theorem d_R_isJoined_63 : decode b_R_isJoined 63 = .ok (.iinc 3 1, 3) := by decide +kernel
theorem d_R_isJoined_66 : decode b_R_isJoined 66 = .ok (.goto (-64), 3) := by decide +kernel
theorem d_R_isJoined_69 : decode b_R_isJoined 69 = .ok (.iconst 0, 1) := by decide +kernel
theorem d_R_isJoined_70 : decode b_R_isJoined 70 = .ok (.ireturn, 1) := by decide +kernel
theorem d_R_laysSize_0 : decode b_R_laysSize 0 = .ok (.lconst 1, 1) := by decide +kernel
theorem d_R_laysSize_1 : decode b_R_laysSize 1 = .ok (.lstore_n 2, 1) := by decide +kernel
theorem d_R_laysSize_2 : decode b_R_laysSize 2 = .ok (.iconst 0, 1) := by decide +kernel
theorem d_R_laysSize_3 : decode b_R_laysSize 3 = .ok (.istore 4, 2) := by decide +kernel
theorem d_R_laysSize_5 : decode b_R_laysSize 5 = .ok (.iconst 0, 1) := by decide +kernel
theorem d_R_laysSize_6 : decode b_R_laysSize 6 = .ok (.istore 5, 2) := by decide +kernel
theorem d_R_laysSize_8 : decode b_R_laysSize 8 = .ok (.iconst 0, 1) := by decide +kernel
theorem d_R_laysSize_9 : decode b_R_laysSize 9 = .ok (.istore 6, 2) := by decide +kernel
theorem d_R_laysSize_11 : decode b_R_laysSize 11 = .ok (.iload 6, 2) := by decide +kernel
theorem d_R_laysSize_13 : decode b_R_laysSize 13 = .ok (.aload_n 0, 1) := by decide +kernel
theorem d_R_laysSize_14 : decode b_R_laysSize 14 = .ok (.getfield 7, 3) := by decide +kernel
theorem d_R_laysSize_17 : decode b_R_laysSize 17 = .ok (.iconst 0, 1) := by decide +kernel
theorem d_R_laysSize_18 : decode b_R_laysSize 18 = .ok (.iaload, 1) := by decide +kernel
theorem d_R_laysSize_19 : decode b_R_laysSize 19 = .ok (.if_icmp .ge 179, 3) := by decide +kernel
theorem d_R_laysSize_22 : decode b_R_laysSize 22 = .ok (.iload_n 1, 1) := by decide +kernel
theorem d_R_laysSize_23 : decode b_R_laysSize 23 = .ok (.iload 6, 2) := by decide +kernel
theorem d_R_laysSize_25 : decode b_R_laysSize 25 = .ok (.ishr, 1) := by decide +kernel
theorem d_R_laysSize_26 : decode b_R_laysSize 26 = .ok (.iconst 1, 1) := by decide +kernel
theorem d_R_laysSize_27 : decode b_R_laysSize 27 = .ok (.iand, 1) := by decide +kernel
theorem d_R_laysSize_28 : decode b_R_laysSize 28 = .ok (.ifCond .ne 6, 3) := by decide +kernel
theorem d_R_laysSize_31 : decode b_R_laysSize 31 = .ok (.goto 161, 3) := by decide +kernel
theorem d_R_laysSize_34 : decode b_R_laysSize 34 = .ok (.lload_n 2, 1) := by decide +kernel
theorem d_R_laysSize_35 : decode b_R_laysSize 35 = .ok (.ldc2_w 227, 3) := by decide +kernel
theorem d_R_laysSize_38 : decode b_R_laysSize 38 = .ok (.aload_n 0, 1) := by decide +kernel
theorem d_R_laysSize_39 : decode b_R_laysSize 39 = .ok (.getfield 7, 3) := by decide +kernel
theorem d_R_laysSize_42 : decode b_R_laysSize 42 = .ok (.iconst 1, 1) := by decide +kernel
theorem d_R_laysSize_43 : decode b_R_laysSize 43 = .ok (.iload 6, 2) := by decide +kernel
theorem d_R_laysSize_45 : decode b_R_laysSize 45 = .ok (.iadd, 1) := by decide +kernel
theorem d_R_laysSize_46 : decode b_R_laysSize 46 = .ok (.iaload, 1) := by decide +kernel
theorem d_R_laysSize_47 : decode b_R_laysSize 47 = .ok (.i2l, 1) := by decide +kernel
theorem d_R_laysSize_48 : decode b_R_laysSize 48 = .ok (.ldiv, 1) := by decide +kernel
theorem d_R_laysSize_49 : decode b_R_laysSize 49 = .ok (.lcmp, 1) := by decide +kernel
theorem d_R_laysSize_50 : decode b_R_laysSize 50 = .ok (.ifCond .le 7, 3) := by decide +kernel
theorem d_R_laysSize_53 : decode b_R_laysSize 53 = .ok (.iconst 1, 1) := by decide +kernel
theorem d_R_laysSize_54 : decode b_R_laysSize 54 = .ok (.goto 4, 3) := by decide +kernel
theorem d_R_laysSize_57 : decode b_R_laysSize 57 = .ok (.iconst 0, 1) := by decide +kernel
theorem d_R_laysSize_58 : decode b_R_laysSize 58 = .ok (.istore 7, 2) := by decide +kernel
theorem d_R_laysSize_60 : decode b_R_laysSize 60 = .ok (.iload 4, 2) := by decide +kernel
theorem d_R_laysSize_62 : decode b_R_laysSize 62 = .ok (.ifCond .ne 8, 3) := by decide +kernel
theorem d_R_laysSize_65 : decode b_R_laysSize 65 = .ok (.iload 7, 2) := by decide +kernel
theorem d_R_laysSize_67 : decode b_R_laysSize 67 = .ok (.ifCond .eq 7, 3) := by decide +kernel
theorem d_R_laysSize_70 : decode b_R_laysSize 70 = .ok (.iconst 1, 1) := by decide +kernel
theorem d_R_laysSize_71 : decode b_R_laysSize 71 = .ok (.goto 4, 3) := by decide +kernel
theorem d_R_laysSize_74 : decode b_R_laysSize 74 = .ok (.iconst 0, 1) := by decide +kernel
theorem d_R_laysSize_75 : decode b_R_laysSize 75 = .ok (.istore 4, 2) := by decide +kernel
theorem d_R_laysSize_77 : decode b_R_laysSize 77 = .ok (.iload 7, 2) := by decide +kernel
theorem d_R_laysSize_79 : decode b_R_laysSize 79 = .ok (.ifCond .eq 9, 3) := by decide +kernel
theorem d_R_laysSize_82 : decode b_R_laysSize 82 = .ok (.ldc2_w 227, 3) := by decide +kernel
theorem d_R_laysSize_85 : decode b_R_laysSize 85 = .ok (.goto 15, 3) := by decide +kernel
theorem d_R_laysSize_88 : decode b_R_laysSize 88 = .ok (.lload_n 2, 1) := by decide +kernel
theorem d_R_laysSize_89 : decode b_R_laysSize 89 = .ok (.aload_n 0, 1) := by decide +kernel
theorem d_R_laysSize_90 : decode b_R_laysSize 90 = .ok (.getfield 7, 3) := by decide +kernel
theorem d_R_laysSize_93 : decode b_R_laysSize 93 = .ok (.iconst 1, 1) := by decide +kernel
theorem d_R_laysSize_94 : decode b_R_laysSize 94 = .ok (.iload 6, 2) := by decide +kernel
theorem d_R_laysSize_96 : decode b_R_laysSize 96 = .ok (.iadd, 1) := by decide +kernel
theorem d_R_laysSize_97 : decode b_R_laysSize 97 = .ok (.iaload, 1) := by decide +kernel
theorem d_R_laysSize_98 : decode b_R_laysSize 98 = .ok (.i2l, 1) := by decide +kernel
theorem d_R_laysSize_99 : decode b_R_laysSize 99 = .ok (.lmul, 1) := by decide +kernel
theorem d_R_laysSize_100 : decode b_R_laysSize 100 = .ok (.lstore_n 2, 1) := by decide +kernel
theorem d_R_laysSize_101 : decode b_R_laysSize 101 = .ok (.iload 5, 2) := by decide +kernel
theorem d_R_laysSize_103 : decode b_R_laysSize 103 = .ok (.istore 8, 2) := by decide +kernel
theorem d_R_laysSize_105 : decode b_R_laysSize 105 = .ok (.iload 5, 2) := by decide +kernel
theorem d_R_laysSize_107 : decode b_R_laysSize 107 = .ok (.iconst 1, 1) := by decide +kernel
theorem d_R_laysSize_108 : decode b_R_laysSize 108 = .ok (.iload 6, 2) := by decide +kernel
theorem d_R_laysSize_110 : decode b_R_laysSize 110 = .ok (.ishl, 1) := by decide +kernel
theorem d_R_laysSize_111 : decode b_R_laysSize 111 = .ok (.ior, 1) := by decide +kernel
theorem d_R_laysSize_112 : decode b_R_laysSize 112 = .ok (.istore 5, 2) := by decide +kernel
theorem d_R_laysSize_114 : decode b_R_laysSize 114 = .ok (.iconst 0, 1) := by decide +kernel
theorem d_R_laysSize_115 : decode b_R_laysSize 115 = .ok (.istore 9, 2) := by decide +kernel
theorem d_R_laysSize_117 : decode b_R_laysSize 117 = .ok (.iload 9, 2) := by decide +kernel
theorem d_R_laysSize_119 : decode b_R_laysSize 119 = .ok (.aload_n 0, 1) := by decide +kernel
theorem d_R_laysSize_120 : decode b_R_laysSize 120 = .ok (.getfield 7, 3) := by decide +kernel
theorem d_R_laysSize_123 : decode b_R_laysSize 123 = .ok (.bipush 9, 2) := by decide +kernel
theorem d_R_laysSize_125 : decode b_R_laysSize 125 = .ok (.iaload, 1) := by decide +kernel
theorem d_R_laysSize_126 : decode b_R_laysSize 126 = .ok (.if_icmp .ge 66, 3) := by decide +kernel
theorem d_R_laysSize_129 : decode b_R_laysSize 129 = .ok (.aload_n 0, 1) := by decide +kernel
theorem d_R_laysSize_130 : decode b_R_laysSize 130 = .ok (.iload 9, 2) := by decide +kernel
theorem d_R_laysSize_132 : decode b_R_laysSize 132 = .ok (.invokevirtual 221, 3) := by decide +kernel
theorem d_R_laysSize_135 : decode b_R_laysSize 135 = .ok (.aload_n 0, 1) := by decide +kernel
theorem d_R_laysSize_136 : decode b_R_laysSize 136 = .ok (.iload 9, 2) := by decide +kernel
theorem d_R_laysSize_138 : decode b_R_laysSize 138 = .ok (.invokevirtual 224, 3) := by decide +kernel
theorem d_R_laysSize_141 : decode b_R_laysSize 141 = .ok (.ior, 1) := by decide +kernel
theorem d_R_laysSize_142 : decode b_R_laysSize 142 = .ok (.istore 10, 2) := by decide +kernel
theorem d_R_laysSize_144 : decode b_R_laysSize 144 = .ok (.iload 10, 2) := by decide +kernel
theorem d_R_laysSize_146 : decode b_R_laysSize 146 = .ok (.iload 5, 2) := by decide +kernel
theorem d_R_laysSize_148 : decode b_R_laysSize 148 = .ok (.invokestatic 75, 3) := by decide +kernel
theorem d_R_laysSize_151 : decode b_R_laysSize 151 = .ok (.ifCond .eq 35, 3) := by decide +kernel
theorem d_R_laysSize_154 : decode b_R_laysSize 154 = .ok (.iload 10, 2) := by decide +kernel
theorem d_R_laysSize_156 : decode b_R_laysSize 156 = .ok (.iload 8, 2) := by decide +kernel
theorem d_R_laysSize_158 : decode b_R_laysSize 158 = .ok (.invokestatic 75, 3) := by decide +kernel
theorem d_R_laysSize_161 : decode b_R_laysSize 161 = .ok (.ifCond .ne 25, 3) := by decide +kernel
theorem d_R_laysSize_164 : decode b_R_laysSize 164 = .ok (.lload_n 2, 1) := by decide +kernel
theorem d_R_laysSize_165 : decode b_R_laysSize 165 = .ok (.aload_n 0, 1) := by decide +kernel
theorem d_R_laysSize_166 : decode b_R_laysSize 166 = .ok (.iload 9, 2) := by decide +kernel
theorem d_R_laysSize_168 : decode b_R_laysSize 168 = .ok (.invokevirtual 229, 3) := by decide +kernel
theorem d_R_laysSize_171 : decode b_R_laysSize 171 = .ok (.i2l, 1) := by decide +kernel
theorem d_R_laysSize_172 : decode b_R_laysSize 172 = .ok (.ldiv, 1) := by decide +kernel
theorem d_R_laysSize_173 : decode b_R_laysSize 173 = .ok (.lstore_n 2, 1) := by decide +kernel
theorem d_R_laysSize_174 : decode b_R_laysSize 174 = .ok (.lload_n 2, 1) := by decide +kernel
theorem d_R_laysSize_175 : decode b_R_laysSize 175 = .ok (.lconst 1, 1) := by decide +kernel
theorem d_R_laysSize_176 : decode b_R_laysSize 176 = .ok (.lcmp, 1) := by decide +kernel
theorem d_R_laysSize_177 : decode b_R_laysSize 177 = .ok (.ifCond .ge 7, 3) := by decide +kernel
theorem d_R_laysSize_180 : decode b_R_laysSize 180 = .ok (.lconst 1, 1) := by decide +kernel
theorem d_R_laysSize_181 : decode b_R_laysSize 181 = .ok (.goto 4, 3) := by decide +kernel
theorem d_R_laysSize_184 : decode b_R_laysSize 184 = .ok (.lload_n 2, 1) := by decide +kernel
theorem d_R_laysSize_185 : decode b_R_laysSize 185 = .ok (.lstore_n 2, 1) := by decide +kernel
theorem d_R_laysSize_186 : decode b_R_laysSize 186 = .ok (.iinc 9 1, 3) := by decide +kernel
theorem d_R_laysSize_189 : decode b_R_laysSize 189 = .ok (.goto (-72), 3) := by decide +kernel
theorem d_R_laysSize_192 : decode b_R_laysSize 192 = .ok (.iinc 6 1, 3) := by decide +kernel
theorem d_R_laysSize_195 : decode b_R_laysSize 195 = .ok (.goto (-184), 3) := by decide +kernel
theorem d_R_laysSize_198 : decode b_R_laysSize 198 = .ok (.aload_n 0, 1) := by decide +kernel
theorem d_R_laysSize_199 : decode b_R_laysSize 199 = .ok (.getfield 33, 3) := by decide +kernel
theorem d_R_laysSize_202 : decode b_R_laysSize 202 = .ok (.iload_n 1, 1) := by decide +kernel
theorem d_R_laysSize_203 : decode b_R_laysSize 203 = .ok (.lload_n 2, 1) := by decide +kernel
theorem d_R_laysSize_204 : decode b_R_laysSize 204 = .ok (.lastore, 1) := by decide +kernel
theorem d_R_laysSize_205 : decode b_R_laysSize 205 = .ok (.aload_n 0, 1) := by decide +kernel
theorem d_R_laysSize_206 : decode b_R_laysSize 206 = .ok (.getfield 37, 3) := by decide +kernel
theorem d_R_laysSize_209 : decode b_R_laysSize 209 = .ok (.iload_n 1, 1) := by decide +kernel
theorem d_R_laysSize_210 : decode b_R_laysSize 210 = .ok (.iload 4, 2) := by decide +kernel
theorem d_R_laysSize_212 : decode b_R_laysSize 212 = .ok (.bastore, 1) := by decide +kernel
theorem d_R_laysSize_213 : decode b_R_laysSize 213 = .ok (.return_, 1) := by decide +kernel
theorem d_R_sum_0 : decode b_R_sum 0 = .ok (.lload_n 0, 1) := by decide +kernel
theorem d_R_sum_1 : decode b_R_sum 1 = .ok (.lload_n 2, 1) := by decide +kernel
theorem d_R_sum_2 : decode b_R_sum 2 = .ok (.ladd, 1) := by decide +kernel
theorem d_R_sum_3 : decode b_R_sum 3 = .ok (.ldc2_w 227, 3) := by decide +kernel
theorem d_R_sum_6 : decode b_R_sum 6 = .ok (.lcmp, 1) := by decide +kernel
theorem d_R_sum_7 : decode b_R_sum 7 = .ok (.ifCond .le 9, 3) := by decide +kernel
theorem d_R_sum_10 : decode b_R_sum 10 = .ok (.ldc2_w 227, 3) := by decide +kernel
theorem d_R_sum_13 : decode b_R_sum 13 = .ok (.goto 6, 3) := by decide +kernel
theorem d_R_sum_16 : decode b_R_sum 16 = .ok (.lload_n 0, 1) := by decide +kernel
theorem d_R_sum_17 : decode b_R_sum 17 = .ok (.lload_n 2, 1) := by decide +kernel
theorem d_R_sum_18 : decode b_R_sum 18 = .ok (.ladd, 1) := by decide +kernel
theorem d_R_sum_19 : decode b_R_sum 19 = .ok (.lreturn, 1) := by decide +kernel
theorem d_R_laysBest_0 : decode b_R_laysBest 0 = .ok (.iload_n 2, 1) := by decide +kernel
theorem d_R_laysBest_1 : decode b_R_laysBest 1 = .ok (.iload_n 1, 1) := by decide +kernel
theorem d_R_laysBest_2 : decode b_R_laysBest 2 = .ok (.iadd, 1) := by decide +kernel
theorem d_R_laysBest_3 : decode b_R_laysBest 3 = .ok (.istore_n 3, 1) := by decide +kernel
theorem d_R_laysBest_4 : decode b_R_laysBest 4 = .ok (.aload_n 0, 1) := by decide +kernel
theorem d_R_laysBest_5 : decode b_R_laysBest 5 = .ok (.getfield 43, 3) := by decide +kernel
theorem d_R_laysBest_8 : decode b_R_laysBest 8 = .ok (.iload_n 3, 1) := by decide +kernel
theorem d_R_laysBest_9 : decode b_R_laysBest 9 = .ok (.lconst 0, 1) := by decide +kernel
theorem d_R_laysBest_10 : decode b_R_laysBest 10 = .ok (.lastore, 1) := by decide +kernel
theorem d_R_laysBest_11 : decode b_R_laysBest 11 = .ok (.aload_n 0, 1) := by decide +kernel
theorem d_R_laysBest_12 : decode b_R_laysBest 12 = .ok (.getfield 46, 3) := by decide +kernel
theorem d_R_laysBest_15 : decode b_R_laysBest 15 = .ok (.iload_n 3, 1) := by decide +kernel
theorem d_R_laysBest_16 : decode b_R_laysBest 16 = .ok (.iconst 0, 1) := by decide +kernel
theorem d_R_laysBest_17 : decode b_R_laysBest 17 = .ok (.iastore, 1) := by decide +kernel
theorem d_R_laysBest_18 : decode b_R_laysBest 18 = .ok (.aload_n 0, 1) := by decide +kernel
theorem d_R_laysBest_19 : decode b_R_laysBest 19 = .ok (.getfield 49, 3) := by decide +kernel
theorem d_R_laysBest_22 : decode b_R_laysBest 22 = .ok (.iload_n 3, 1) := by decide +kernel
theorem d_R_laysBest_23 : decode b_R_laysBest 23 = .ok (.iconst 0, 1) := by decide +kernel
theorem d_R_laysBest_24 : decode b_R_laysBest 24 = .ok (.iastore, 1) := by decide +kernel
theorem d_R_laysBest_25 : decode b_R_laysBest 25 = .ok (.iconst 1, 1) := by decide +kernel
theorem d_R_laysBest_26 : decode b_R_laysBest 26 = .ok (.istore 4, 2) := by decide +kernel
theorem d_R_laysBest_28 : decode b_R_laysBest 28 = .ok (.iload 4, 2) := by decide +kernel
theorem d_R_laysBest_30 : decode b_R_laysBest 30 = .ok (.iload_n 1, 1) := by decide +kernel
theorem d_R_laysBest_31 : decode b_R_laysBest 31 = .ok (.if_icmp .ge 209, 3) := by decide +kernel
theorem d_R_laysBest_34 : decode b_R_laysBest 34 = .ok (.iload_n 1, 1) := by decide +kernel
theorem d_R_laysBest_35 : decode b_R_laysBest 35 = .ok (.invokestatic 232, 3) := by decide +kernel
theorem d_R_laysBest_38 : decode b_R_laysBest 38 = .ok (.ifCond .ne 202, 3) := by decide +kernel
theorem d_R_laysBest_41 : decode b_R_laysBest 41 = .ok (.iload 4, 2) := by decide +kernel
theorem d_R_laysBest_43 : decode b_R_laysBest 43 = .ok (.iload_n 1, 1) := by decide +kernel
theorem d_R_laysBest_44 : decode b_R_laysBest 44 = .ok (.invokestatic 75, 3) := by decide +kernel
theorem d_R_laysBest_47 : decode b_R_laysBest 47 = .ok (.ifCond .eq 187, 3) := by decide +kernel
theorem d_R_laysBest_50 : decode b_R_laysBest 50 = .ok (.iload_n 1, 1) := by decide +kernel
theorem d_R_laysBest_51 : decode b_R_laysBest 51 = .ok (.invokestatic 199, 3) := by decide +kernel
theorem d_R_laysBest_54 : decode b_R_laysBest 54 = .ok (.iload 4, 2) := by decide +kernel
theorem d_R_laysBest_56 : decode b_R_laysBest 56 = .ok (.invokestatic 75, 3) := by decide +kernel
theorem d_R_laysBest_59 : decode b_R_laysBest 59 = .ok (.ifCond .eq 175, 3) := by decide +kernel
theorem d_R_laysBest_62 : decode b_R_laysBest 62 = .ok (.iload_n 2, 1) := by decide +kernel
theorem d_R_laysBest_63 : decode b_R_laysBest 63 = .ok (.ifCond .le 26, 3) := by decide +kernel
theorem d_R_laysBest_66 : decode b_R_laysBest 66 = .ok (.iload 4, 2) := by decide +kernel
theorem d_R_laysBest_68 : decode b_R_laysBest 68 = .ok (.invokestatic 232, 3) := by decide +kernel
theorem d_R_laysBest_71 : decode b_R_laysBest 71 = .ok (.ifCond .ne 18, 3) := by decide +kernel
theorem d_R_laysBest_74 : decode b_R_laysBest 74 = .ok (.iload_n 1, 1) := by decide +kernel
theorem d_R_laysBest_75 : decode b_R_laysBest 75 = .ok (.iload 4, 2) := by decide +kernel
theorem d_R_laysBest_77 : decode b_R_laysBest 77 = .ok (.iconst (-1), 1) := by decide +kernel
theorem d_R_laysBest_78 : decode b_R_laysBest 78 = .ok (.ixor, 1) := by decide +kernel
theorem d_R_laysBest_79 : decode b_R_laysBest 79 = .ok (.iand, 1) := by decide +kernel
theorem d_R_laysBest_80 : decode b_R_laysBest 80 = .ok (.invokestatic 232, 3) := by decide +kernel
theorem d_R_laysBest_83 : decode b_R_laysBest 83 = .ok (.ifCond .ne 6, 3) := by decide +kernel
theorem d_R_laysBest_86 : decode b_R_laysBest 86 = .ok (.goto 148, 3) := by decide +kernel
theorem d_R_laysBest_89 : decode b_R_laysBest 89 = .ok (.iload_n 1, 1) := by decide +kernel
theorem d_R_laysBest_90 : decode b_R_laysBest 90 = .ok (.iload 4, 2) := by decide +kernel
theorem d_R_laysBest_92 : decode b_R_laysBest 92 = .ok (.iconst (-1), 1) := by decide +kernel
theorem d_R_laysBest_93 : decode b_R_laysBest 93 = .ok (.ixor, 1) := by decide +kernel
theorem d_R_laysBest_94 : decode b_R_laysBest 94 = .ok (.iand, 1) := by decide +kernel
theorem d_R_laysBest_95 : decode b_R_laysBest 95 = .ok (.istore 5, 2) := by decide +kernel
theorem d_R_laysBest_97 : decode b_R_laysBest 97 = .ok (.aload_n 0, 1) := by decide +kernel
theorem d_R_laysBest_98 : decode b_R_laysBest 98 = .ok (.getfield 46, 3) := by decide +kernel
theorem d_R_laysBest_101 : decode b_R_laysBest 101 = .ok (.iload_n 2, 1) := by decide +kernel
theorem d_R_laysBest_102 : decode b_R_laysBest 102 = .ok (.iload 4, 2) := by decide +kernel
theorem d_R_laysBest_104 : decode b_R_laysBest 104 = .ok (.iadd, 1) := by decide +kernel
theorem d_R_laysBest_105 : decode b_R_laysBest 105 = .ok (.iaload, 1) := by decide +kernel
theorem d_R_laysBest_106 : decode b_R_laysBest 106 = .ok (.aload_n 0, 1) := by decide +kernel
theorem d_R_laysBest_107 : decode b_R_laysBest 107 = .ok (.getfield 46, 3) := by decide +kernel
theorem d_R_laysBest_110 : decode b_R_laysBest 110 = .ok (.iload_n 2, 1) := by decide +kernel
theorem d_R_laysBest_111 : decode b_R_laysBest 111 = .ok (.iload 5, 2) := by decide +kernel
theorem d_R_laysBest_113 : decode b_R_laysBest 113 = .ok (.iadd, 1) := by decide +kernel
theorem d_R_laysBest_114 : decode b_R_laysBest 114 = .ok (.iaload, 1) := by decide +kernel
theorem d_R_laysBest_115 : decode b_R_laysBest 115 = .ok (.iadd, 1) := by decide +kernel
theorem d_R_laysBest_116 : decode b_R_laysBest 116 = .ok (.aload_n 0, 1) := by decide +kernel
theorem d_R_laysBest_117 : decode b_R_laysBest 117 = .ok (.iload 4, 2) := by decide +kernel
theorem d_R_laysBest_119 : decode b_R_laysBest 119 = .ok (.iload 5, 2) := by decide +kernel
theorem d_R_laysBest_121 : decode b_R_laysBest 121 = .ok (.invokevirtual 235, 3) := by decide +kernel
theorem d_R_laysBest_124 : decode b_R_laysBest 124 = .ok (.ifCond .eq 7, 3) := by decide +kernel
theorem d_R_laysBest_127 : decode b_R_laysBest 127 = .ok (.iconst 0, 1) := by decide +kernel
theorem d_R_laysBest_128 : decode b_R_laysBest 128 = .ok (.goto 4, 3) := by decide +kernel
theorem d_R_laysBest_131 : decode b_R_laysBest 131 = .ok (.iconst 1, 1) := by decide +kernel
theorem d_R_laysBest_132 : decode b_R_laysBest 132 = .ok (.iadd, 1) := by decide +kernel
theorem d_R_laysBest_133 : decode b_R_laysBest 133 = .ok (.istore 6, 2) := by decide +kernel
theorem d_R_laysBest_135 : decode b_R_laysBest 135 = .ok (.aload_n 0, 1) := by decide +kernel
theorem d_R_laysBest_136 : decode b_R_laysBest 136 = .ok (.getfield 43, 3) := by decide +kernel
theorem d_R_laysBest_139 : decode b_R_laysBest 139 = .ok (.iload_n 2, 1) := by decide +kernel
theorem d_R_laysBest_140 : decode b_R_laysBest 140 = .ok (.iload 4, 2) := by decide +kernel
theorem d_R_laysBest_142 : decode b_R_laysBest 142 = .ok (.iadd, 1) := by decide +kernel
theorem d_R_laysBest_143 : decode b_R_laysBest 143 = .ok (.laload, 1) := by decide +kernel
theorem d_R_laysBest_144 : decode b_R_laysBest 144 = .ok (.aload_n 0, 1) := by decide +kernel
theorem d_R_laysBest_145 : decode b_R_laysBest 145 = .ok (.getfield 43, 3) := by decide +kernel
theorem d_R_laysBest_148 : decode b_R_laysBest 148 = .ok (.iload_n 2, 1) := by decide +kernel
theorem d_R_laysBest_149 : decode b_R_laysBest 149 = .ok (.iload 5, 2) := by decide +kernel
theorem d_R_laysBest_151 : decode b_R_laysBest 151 = .ok (.iadd, 1) := by decide +kernel
theorem d_R_laysBest_152 : decode b_R_laysBest 152 = .ok (.laload, 1) := by decide +kernel
theorem d_R_laysBest_153 : decode b_R_laysBest 153 = .ok (.invokestatic 238, 3) := by decide +kernel
theorem d_R_laysBest_156 : decode b_R_laysBest 156 = .ok (.aload_n 0, 1) := by decide +kernel
theorem d_R_laysBest_157 : decode b_R_laysBest 157 = .ok (.getfield 33, 3) := by decide +kernel
theorem d_R_laysBest_160 : decode b_R_laysBest 160 = .ok (.iload_n 1, 1) := by decide +kernel
theorem d_R_laysBest_161 : decode b_R_laysBest 161 = .ok (.laload, 1) := by decide +kernel
theorem d_R_laysBest_162 : decode b_R_laysBest 162 = .ok (.invokestatic 238, 3) := by decide +kernel
theorem d_R_laysBest_165 : decode b_R_laysBest 165 = .ok (.lstore 7, 2) := by decide +kernel
theorem d_R_laysBest_167 : decode b_R_laysBest 167 = .ok (.aload_n 0, 1) := by decide +kernel
theorem d_R_laysBest_168 : decode b_R_laysBest 168 = .ok (.getfield 49, 3) := by decide +kernel
theorem d_R_laysBest_171 : decode b_R_laysBest 171 = .ok (.iload_n 3, 1) := by decide +kernel
theorem d_R_laysBest_172 : decode b_R_laysBest 172 = .ok (.iaload, 1) := by decide +kernel
theorem d_R_laysBest_173 : decode b_R_laysBest 173 = .ok (.ifCond .eq 37, 3) := by decide +kernel
theorem d_R_laysBest_176 : decode b_R_laysBest 176 = .ok (.iload 6, 2) := by decide +kernel
theorem d_R_laysBest_178 : decode b_R_laysBest 178 = .ok (.aload_n 0, 1) := by decide +kernel
theorem d_R_laysBest_179 : decode b_R_laysBest 179 = .ok (.getfield 46, 3) := by decide +kernel
theorem d_R_laysBest_182 : decode b_R_laysBest 182 = .ok (.iload_n 3, 1) := by decide +kernel
theorem d_R_laysBest_183 : decode b_R_laysBest 183 = .ok (.iaload, 1) := by decide +kernel
theorem d_R_laysBest_184 : decode b_R_laysBest 184 = .ok (.if_icmp .lt 26, 3) := by decide +kernel
theorem d_R_laysBest_187 : decode b_R_laysBest 187 = .ok (.iload 6, 2) := by decide +kernel
theorem d_R_laysBest_189 : decode b_R_laysBest 189 = .ok (.aload_n 0, 1) := by decide +kernel
theorem d_R_laysBest_190 : decode b_R_laysBest 190 = .ok (.getfield 46, 3) := by decide +kernel
theorem d_R_laysBest_193 : decode b_R_laysBest 193 = .ok (.iload_n 3, 1) := by decide +kernel
theorem d_R_laysBest_194 : decode b_R_laysBest 194 = .ok (.iaload, 1) := by decide +kernel
theorem d_R_laysBest_195 : decode b_R_laysBest 195 = .ok (.if_icmp .ne 39, 3) := by decide +kernel
theorem d_R_laysBest_198 : decode b_R_laysBest 198 = .ok (.lload 7, 2) := by decide +kernel
theorem d_R_laysBest_200 : decode b_R_laysBest 200 = .ok (.aload_n 0, 1) := by decide +kernel
theorem d_R_laysBest_201 : decode b_R_laysBest 201 = .ok (.getfield 43, 3) := by decide +kernel
theorem d_R_laysBest_204 : decode b_R_laysBest 204 = .ok (.iload_n 3, 1) := by decide +kernel
theorem d_R_laysBest_205 : decode b_R_laysBest 205 = .ok (.laload, 1) := by decide +kernel
theorem d_R_laysBest_206 : decode b_R_laysBest 206 = .ok (.lcmp, 1) := by decide +kernel
theorem d_R_laysBest_207 : decode b_R_laysBest 207 = .ok (.ifCond .ge 27, 3) := by decide +kernel
theorem d_R_laysBest_210 : decode b_R_laysBest 210 = .ok (.aload_n 0, 1) := by decide +kernel
theorem d_R_laysBest_211 : decode b_R_laysBest 211 = .ok (.getfield 43, 3) := by decide +kernel
theorem d_R_laysBest_214 : decode b_R_laysBest 214 = .ok (.iload_n 3, 1) := by decide +kernel
theorem d_R_laysBest_215 : decode b_R_laysBest 215 = .ok (.lload 7, 2) := by decide +kernel
theorem d_R_laysBest_217 : decode b_R_laysBest 217 = .ok (.lastore, 1) := by decide +kernel
theorem d_R_laysBest_218 : decode b_R_laysBest 218 = .ok (.aload_n 0, 1) := by decide +kernel
theorem d_R_laysBest_219 : decode b_R_laysBest 219 = .ok (.getfield 46, 3) := by decide +kernel
theorem d_R_laysBest_222 : decode b_R_laysBest 222 = .ok (.iload_n 3, 1) := by decide +kernel
theorem d_R_laysBest_223 : decode b_R_laysBest 223 = .ok (.iload 6, 2) := by decide +kernel
theorem d_R_laysBest_225 : decode b_R_laysBest 225 = .ok (.iastore, 1) := by decide +kernel
theorem d_R_laysBest_226 : decode b_R_laysBest 226 = .ok (.aload_n 0, 1) := by decide +kernel
theorem d_R_laysBest_227 : decode b_R_laysBest 227 = .ok (.getfield 49, 3) := by decide +kernel
theorem d_R_laysBest_230 : decode b_R_laysBest 230 = .ok (.iload_n 3, 1) := by decide +kernel
theorem d_R_laysBest_231 : decode b_R_laysBest 231 = .ok (.iload 4, 2) := by decide +kernel
theorem d_R_laysBest_233 : decode b_R_laysBest 233 = .ok (.iastore, 1) := by decide +kernel
theorem d_R_laysBest_234 : decode b_R_laysBest 234 = .ok (.iinc 4 1, 3) := by decide +kernel
theorem d_R_laysBest_237 : decode b_R_laysBest 237 = .ok (.goto (-209), 3) := by decide +kernel
theorem d_R_laysBest_240 : decode b_R_laysBest 240 = .ok (.return_, 1) := by decide +kernel
theorem d_R_isPair_0 : decode b_R_isPair 0 = .ok (.iload_n 1, 1) := by decide +kernel
theorem d_R_isPair_1 : decode b_R_isPair 1 = .ok (.iload_n 2, 1) := by decide +kernel
theorem d_R_isPair_2 : decode b_R_isPair 2 = .ok (.if_icmp .eq 61, 3) := by decide +kernel
theorem d_R_isPair_5 : decode b_R_isPair 5 = .ok (.iload_n 1, 1) := by decide +kernel
theorem d_R_isPair_6 : decode b_R_isPair 6 = .ok (.iload_n 2, 1) := by decide +kernel
theorem d_R_isPair_7 : decode b_R_isPair 7 = .ok (.invokestatic 75, 3) := by decide +kernel
theorem d_R_isPair_10 : decode b_R_isPair 10 = .ok (.ifCond .eq 53, 3) := by decide +kernel
theorem d_R_isPair_13 : decode b_R_isPair 13 = .ok (.iload_n 2, 1) := by decide +kernel
theorem d_R_isPair_14 : decode b_R_isPair 14 = .ok (.invokestatic 199, 3) := by decide +kernel
theorem d_R_isPair_17 : decode b_R_isPair 17 = .ok (.iload_n 1, 1) := by decide +kernel
theorem d_R_isPair_18 : decode b_R_isPair 18 = .ok (.invokestatic 75, 3) := by decide +kernel
theorem d_R_isPair_21 : decode b_R_isPair 21 = .ok (.ifCond .eq 42, 3) := by decide +kernel
theorem d_R_isPair_24 : decode b_R_isPair 24 = .ok (.aload_n 0, 1) := by decide +kernel
theorem d_R_isPair_25 : decode b_R_isPair 25 = .ok (.getfield 40, 3) := by decide +kernel
theorem d_R_isPair_28 : decode b_R_isPair 28 = .ok (.iload_n 1, 1) := by decide +kernel
theorem d_R_isPair_29 : decode b_R_isPair 29 = .ok (.baload, 1) := by decide +kernel
theorem d_R_isPair_30 : decode b_R_isPair 30 = .ok (.ifCond .eq 33, 3) := by decide +kernel
theorem d_R_isPair_33 : decode b_R_isPair 33 = .ok (.aload_n 0, 1) := by decide +kernel
theorem d_R_isPair_34 : decode b_R_isPair 34 = .ok (.getfield 40, 3) := by decide +kernel
theorem d_R_isPair_37 : decode b_R_isPair 37 = .ok (.iload_n 2, 1) := by decide +kernel
theorem d_R_isPair_38 : decode b_R_isPair 38 = .ok (.iload_n 1, 1) := by decide +kernel
theorem d_R_isPair_39 : decode b_R_isPair 39 = .ok (.iconst (-1), 1) := by decide +kernel
theorem d_R_isPair_40 : decode b_R_isPair 40 = .ok (.ixor, 1) := by decide +kernel
theorem d_R_isPair_41 : decode b_R_isPair 41 = .ok (.iand, 1) := by decide +kernel
theorem d_R_isPair_42 : decode b_R_isPair 42 = .ok (.baload, 1) := by decide +kernel
theorem d_R_isPair_43 : decode b_R_isPair 43 = .ok (.ifCond .eq 20, 3) := by decide +kernel
theorem d_R_isPair_46 : decode b_R_isPair 46 = .ok (.aload_n 0, 1) := by decide +kernel
theorem d_R_isPair_47 : decode b_R_isPair 47 = .ok (.iload_n 1, 1) := by decide +kernel
theorem d_R_isPair_48 : decode b_R_isPair 48 = .ok (.iload_n 2, 1) := by decide +kernel
theorem d_R_isPair_49 : decode b_R_isPair 49 = .ok (.iload_n 1, 1) := by decide +kernel
theorem d_R_isPair_50 : decode b_R_isPair 50 = .ok (.iconst (-1), 1) := by decide +kernel
theorem d_R_isPair_51 : decode b_R_isPair 51 = .ok (.ixor, 1) := by decide +kernel
theorem d_R_isPair_52 : decode b_R_isPair 52 = .ok (.iand, 1) := by decide +kernel
theorem d_R_isPair_53 : decode b_R_isPair 53 = .ok (.invokevirtual 235, 3) := by decide +kernel
theorem d_R_isPair_56 : decode b_R_isPair 56 = .ok (.ifCond .eq 7, 3) := by decide +kernel
theorem d_R_isPair_59 : decode b_R_isPair 59 = .ok (.iconst 1, 1) := by decide +kernel
theorem d_R_isPair_60 : decode b_R_isPair 60 = .ok (.goto 4, 3) := by decide +kernel
theorem d_R_isPair_63 : decode b_R_isPair 63 = .ok (.iconst 0, 1) := by decide +kernel
theorem d_R_isPair_64 : decode b_R_isPair 64 = .ok (.ireturn, 1) := by decide +kernel
theorem d_R_pairsOf_0 : decode b_R_pairsOf 0 = .ok (.iconst 0, 1) := by decide +kernel
theorem d_R_pairsOf_1 : decode b_R_pairsOf 1 = .ok (.istore_n 2, 1) := by decide +kernel
theorem d_R_pairsOf_2 : decode b_R_pairsOf 2 = .ok (.iconst 1, 1) := by decide +kernel
theorem d_R_pairsOf_3 : decode b_R_pairsOf 3 = .ok (.istore_n 3, 1) := by decide +kernel
theorem d_R_pairsOf_4 : decode b_R_pairsOf 4 = .ok (.iload_n 3, 1) := by decide +kernel
theorem d_R_pairsOf_5 : decode b_R_pairsOf 5 = .ok (.iload_n 1, 1) := by decide +kernel
theorem d_R_pairsOf_6 : decode b_R_pairsOf 6 = .ok (.if_icmp .ge 26, 3) := by decide +kernel
theorem d_R_pairsOf_9 : decode b_R_pairsOf 9 = .ok (.iload_n 2, 1) := by decide +kernel
theorem d_R_pairsOf_10 : decode b_R_pairsOf 10 = .ok (.aload_n 0, 1) := by decide +kernel
theorem d_R_pairsOf_11 : decode b_R_pairsOf 11 = .ok (.iload_n 3, 1) := by decide +kernel
theorem d_R_pairsOf_12 : decode b_R_pairsOf 12 = .ok (.iload_n 1, 1) := by decide +kernel
theorem d_R_pairsOf_13 : decode b_R_pairsOf 13 = .ok (.invokevirtual 242, 3) := by decide +kernel
theorem d_R_pairsOf_16 : decode b_R_pairsOf 16 = .ok (.ifCond .eq 7, 3) := by decide +kernel
theorem d_R_pairsOf_19 : decode b_R_pairsOf 19 = .ok (.iconst 1, 1) := by decide +kernel
theorem d_R_pairsOf_20 : decode b_R_pairsOf 20 = .ok (.goto 4, 3) := by decide +kernel
theorem d_R_pairsOf_23 : decode b_R_pairsOf 23 = .ok (.iconst 0, 1) := by decide +kernel
theorem d_R_pairsOf_24 : decode b_R_pairsOf 24 = .ok (.iadd, 1) := by decide +kernel
theorem d_R_pairsOf_25 : decode b_R_pairsOf 25 = .ok (.istore_n 2, 1) := by decide +kernel
theorem d_R_pairsOf_26 : decode b_R_pairsOf 26 = .ok (.iinc 3 1, 3) := by decide +kernel
theorem d_R_pairsOf_29 : decode b_R_pairsOf 29 = .ok (.goto (-25), 3) := by decide +kernel
theorem d_R_pairsOf_32 : decode b_R_pairsOf 32 = .ok (.iload_n 2, 1) := by decide +kernel
theorem d_R_pairsOf_33 : decode b_R_pairsOf 33 = .ok (.ireturn, 1) := by decide +kernel
theorem d_R_lays_0 : decode b_R_lays 0 = .ok (.iconst 1, 1) := by decide +kernel
theorem d_R_lays_1 : decode b_R_lays 1 = .ok (.istore_n 1, 1) := by decide +kernel
theorem d_R_lays_2 : decode b_R_lays 2 = .ok (.iload_n 1, 1) := by decide +kernel
theorem d_R_lays_3 : decode b_R_lays 3 = .ok (.aload_n 0, 1) := by decide +kernel
theorem d_R_lays_4 : decode b_R_lays 4 = .ok (.invokevirtual 71, 3) := by decide +kernel
theorem d_R_lays_7 : decode b_R_lays 7 = .ok (.if_icmp .gt 54, 3) := by decide +kernel
theorem d_R_lays_10 : decode b_R_lays 10 = .ok (.aload_n 0, 1) := by decide +kernel
theorem d_R_lays_11 : decode b_R_lays 11 = .ok (.iload_n 1, 1) := by decide +kernel
theorem d_R_lays_12 : decode b_R_lays 12 = .ok (.invokevirtual 245, 3) := by decide +kernel
theorem d_R_lays_15 : decode b_R_lays 15 = .ok (.aload_n 0, 1) := by decide +kernel
theorem d_R_lays_16 : decode b_R_lays 16 = .ok (.getfield 40, 3) := by decide +kernel
theorem d_R_lays_19 : decode b_R_lays 19 = .ok (.iload_n 1, 1) := by decide +kernel
theorem d_R_lays_20 : decode b_R_lays 20 = .ok (.iload_n 1, 1) := by decide +kernel
theorem d_R_lays_21 : decode b_R_lays 21 = .ok (.invokestatic 232, 3) := by decide +kernel
theorem d_R_lays_24 : decode b_R_lays 24 = .ok (.ifCond .ne 11, 3) := by decide +kernel
theorem d_R_lays_27 : decode b_R_lays 27 = .ok (.aload_n 0, 1) := by decide +kernel
theorem d_R_lays_28 : decode b_R_lays 28 = .ok (.iload_n 1, 1) := by decide +kernel
theorem d_R_lays_29 : decode b_R_lays 29 = .ok (.invokevirtual 248, 3) := by decide +kernel
theorem d_R_lays_32 : decode b_R_lays 32 = .ok (.ifCond .le 7, 3) := by decide +kernel
theorem d_R_lays_35 : decode b_R_lays 35 = .ok (.iconst 1, 1) := by decide +kernel
theorem d_R_lays_36 : decode b_R_lays 36 = .ok (.goto 4, 3) := by decide +kernel
theorem d_R_lays_39 : decode b_R_lays 39 = .ok (.iconst 0, 1) := by decide +kernel
theorem d_R_lays_40 : decode b_R_lays 40 = .ok (.bastore, 1) := by decide +kernel
theorem d_R_lays_41 : decode b_R_lays 41 = .ok (.aload_n 0, 1) := by decide +kernel
theorem d_R_lays_42 : decode b_R_lays 42 = .ok (.iload_n 1, 1) := by decide +kernel
theorem d_R_lays_43 : decode b_R_lays 43 = .ok (.iconst 0, 1) := by decide +kernel
theorem d_R_lays_44 : decode b_R_lays 44 = .ok (.invokevirtual 251, 3) := by decide +kernel
theorem d_R_lays_47 : decode b_R_lays 47 = .ok (.aload_n 0, 1) := by decide +kernel
theorem d_R_lays_48 : decode b_R_lays 48 = .ok (.iload_n 1, 1) := by decide +kernel
theorem d_R_lays_49 : decode b_R_lays 49 = .ok (.sipush 256, 3) := by decide +kernel
theorem d_R_lays_52 : decode b_R_lays 52 = .ok (.invokevirtual 251, 3) := by decide +kernel
theorem d_R_lays_55 : decode b_R_lays 55 = .ok (.iinc 1 1, 3) := by decide +kernel
theorem d_R_lays_58 : decode b_R_lays 58 = .ok (.goto (-56), 3) := by decide +kernel
theorem d_R_lays_61 : decode b_R_lays 61 = .ok (.return_, 1) := by decide +kernel
theorem d_R_pairMany_0 : decode b_R_pairMany 0 = .ok (.iconst 0, 1) := by decide +kernel
theorem d_R_pairMany_1 : decode b_R_pairMany 1 = .ok (.istore_n 1, 1) := by decide +kernel
theorem d_R_pairMany_2 : decode b_R_pairMany 2 = .ok (.iconst 1, 1) := by decide +kernel
theorem d_R_pairMany_3 : decode b_R_pairMany 3 = .ok (.istore_n 2, 1) := by decide +kernel
theorem d_R_pairMany_4 : decode b_R_pairMany 4 = .ok (.iload_n 2, 1) := by decide +kernel
theorem d_R_pairMany_5 : decode b_R_pairMany 5 = .ok (.aload_n 0, 1) := by decide +kernel
theorem d_R_pairMany_6 : decode b_R_pairMany 6 = .ok (.invokevirtual 71, 3) := by decide +kernel
theorem d_R_pairMany_9 : decode b_R_pairMany 9 = .ok (.if_icmp .gt 17, 3) := by decide +kernel
theorem d_R_pairMany_12 : decode b_R_pairMany 12 = .ok (.iload_n 1, 1) := by decide +kernel
theorem d_R_pairMany_13 : decode b_R_pairMany 13 = .ok (.aload_n 0, 1) := by decide +kernel
theorem d_R_pairMany_14 : decode b_R_pairMany 14 = .ok (.iload_n 2, 1) := by decide +kernel
theorem d_R_pairMany_15 : decode b_R_pairMany 15 = .ok (.invokevirtual 248, 3) := by decide +kernel
theorem d_R_pairMany_18 : decode b_R_pairMany 18 = .ok (.iadd, 1) := by decide +kernel
theorem d_R_pairMany_19 : decode b_R_pairMany 19 = .ok (.istore_n 1, 1) := by decide +kernel
theorem d_R_pairMany_20 : decode b_R_pairMany 20 = .ok (.iinc 2 1, 3) := by decide +kernel
theorem d_R_pairMany_23 : decode b_R_pairMany 23 = .ok (.goto (-19), 3) := by decide +kernel
theorem d_R_pairMany_26 : decode b_R_pairMany 26 = .ok (.iload_n 1, 1) := by decide +kernel
theorem d_R_pairMany_27 : decode b_R_pairMany 27 = .ok (.ireturn, 1) := by decide +kernel
theorem d_R_noParts_0 : decode b_R_noParts 0 = .ok (.iconst 0, 1) := by decide +kernel
theorem d_R_noParts_1 : decode b_R_noParts 1 = .ok (.istore_n 1, 1) := by decide +kernel
theorem d_R_noParts_2 : decode b_R_noParts 2 = .ok (.iload_n 1, 1) := by decide +kernel
theorem d_R_noParts_3 : decode b_R_noParts 3 = .ok (.sipush 256, 3) := by decide +kernel
theorem d_R_noParts_6 : decode b_R_noParts 6 = .ok (.if_icmp .ge 16, 3) := by decide +kernel
theorem d_R_noParts_9 : decode b_R_noParts 9 = .ok (.aload_n 0, 1) := by decide +kernel
theorem d_R_noParts_10 : decode b_R_noParts 10 = .ok (.getfield 52, 3) := by decide +kernel
theorem d_R_noParts_13 : decode b_R_noParts 13 = .ok (.iload_n 1, 1) := by decide +kernel
theorem d_R_noParts_14 : decode b_R_noParts 14 = .ok (.iconst 0, 1) := by decide +kernel
theorem d_R_noParts_15 : decode b_R_noParts 15 = .ok (.iastore, 1) := by decide +kernel
theorem d_R_noParts_16 : decode b_R_noParts 16 = .ok (.iinc 1 1, 3) := by decide +kernel
theorem d_R_noParts_19 : decode b_R_noParts 19 = .ok (.goto (-17), 3) := by decide +kernel
theorem d_R_noParts_22 : decode b_R_noParts 22 = .ok (.return_, 1) := by decide +kernel
theorem d_R_partsOfBest_0 : decode b_R_partsOfBest 0 = .ok (.aload_n 0, 1) := by decide +kernel
theorem d_R_partsOfBest_1 : decode b_R_partsOfBest 1 = .ok (.invokevirtual 254, 3) := by decide +kernel
theorem d_R_partsOfBest_4 : decode b_R_partsOfBest 4 = .ok (.aload_n 0, 1) := by decide +kernel
theorem d_R_partsOfBest_5 : decode b_R_partsOfBest 5 = .ok (.getfield 52, 3) := by decide +kernel
theorem d_R_partsOfBest_8 : decode b_R_partsOfBest 8 = .ok (.iload_n 1, 1) := by decide +kernel
theorem d_R_partsOfBest_9 : decode b_R_partsOfBest 9 = .ok (.aload_n 0, 1) := by decide +kernel
theorem d_R_partsOfBest_10 : decode b_R_partsOfBest 10 = .ok (.getfield 49, 3) := by decide +kernel
theorem d_R_partsOfBest_13 : decode b_R_partsOfBest 13 = .ok (.iload_n 1, 1) := by decide +kernel
theorem d_R_partsOfBest_14 : decode b_R_partsOfBest 14 = .ok (.iaload, 1) := by decide +kernel
theorem d_R_partsOfBest_15 : decode b_R_partsOfBest 15 = .ok (.iastore, 1) := by decide +kernel
theorem d_R_partsOfBest_16 : decode b_R_partsOfBest 16 = .ok (.iload_n 1, 1) := by decide +kernel
theorem d_R_partsOfBest_17 : decode b_R_partsOfBest 17 = .ok (.istore_n 2, 1) := by decide +kernel
theorem d_R_partsOfBest_18 : decode b_R_partsOfBest 18 = .ok (.iload_n 2, 1) := by decide +kernel
theorem d_R_partsOfBest_19 : decode b_R_partsOfBest 19 = .ok (.ifCond .le 70, 3) := by decide +kernel
theorem d_R_partsOfBest_22 : decode b_R_partsOfBest 22 = .ok (.aload_n 0, 1) := by decide +kernel
theorem d_R_partsOfBest_23 : decode b_R_partsOfBest 23 = .ok (.getfield 52, 3) := by decide +kernel
theorem d_R_partsOfBest_26 : decode b_R_partsOfBest 26 = .ok (.iload_n 2, 1) := by decide +kernel
theorem d_R_partsOfBest_27 : decode b_R_partsOfBest 27 = .ok (.iaload, 1) := by decide +kernel
theorem d_R_partsOfBest_28 : decode b_R_partsOfBest 28 = .ok (.ifCond .le 55, 3) := by decide +kernel
theorem d_R_partsOfBest_31 : decode b_R_partsOfBest 31 = .ok (.aload_n 0, 1) := by decide +kernel
theorem d_R_partsOfBest_32 : decode b_R_partsOfBest 32 = .ok (.getfield 52, 3) := by decide +kernel
theorem d_R_partsOfBest_35 : decode b_R_partsOfBest 35 = .ok (.aload_n 0, 1) := by decide +kernel
theorem d_R_partsOfBest_36 : decode b_R_partsOfBest 36 = .ok (.getfield 52, 3) := by decide +kernel
theorem d_R_partsOfBest_39 : decode b_R_partsOfBest 39 = .ok (.iload_n 2, 1) := by decide +kernel
theorem d_R_partsOfBest_40 : decode b_R_partsOfBest 40 = .ok (.iaload, 1) := by decide +kernel
theorem d_R_partsOfBest_41 : decode b_R_partsOfBest 41 = .ok (.aload_n 0, 1) := by decide +kernel
theorem d_R_partsOfBest_42 : decode b_R_partsOfBest 42 = .ok (.getfield 49, 3) := by decide +kernel
theorem d_R_partsOfBest_45 : decode b_R_partsOfBest 45 = .ok (.aload_n 0, 1) := by decide +kernel
theorem d_R_partsOfBest_46 : decode b_R_partsOfBest 46 = .ok (.getfield 52, 3) := by decide +kernel
theorem d_R_partsOfBest_49 : decode b_R_partsOfBest 49 = .ok (.iload_n 2, 1) := by decide +kernel
theorem d_R_partsOfBest_50 : decode b_R_partsOfBest 50 = .ok (.iaload, 1) := by decide +kernel
theorem d_R_partsOfBest_51 : decode b_R_partsOfBest 51 = .ok (.iaload, 1) := by decide +kernel
theorem d_R_partsOfBest_52 : decode b_R_partsOfBest 52 = .ok (.iastore, 1) := by decide +kernel
theorem d_R_partsOfBest_53 : decode b_R_partsOfBest 53 = .ok (.aload_n 0, 1) := by decide +kernel
theorem d_R_partsOfBest_54 : decode b_R_partsOfBest 54 = .ok (.getfield 52, 3) := by decide +kernel
theorem d_R_partsOfBest_57 : decode b_R_partsOfBest 57 = .ok (.iload_n 2, 1) := by decide +kernel
theorem d_R_partsOfBest_58 : decode b_R_partsOfBest 58 = .ok (.aload_n 0, 1) := by decide +kernel
theorem d_R_partsOfBest_59 : decode b_R_partsOfBest 59 = .ok (.getfield 52, 3) := by decide +kernel
theorem d_R_partsOfBest_62 : decode b_R_partsOfBest 62 = .ok (.iload_n 2, 1) := by decide +kernel
theorem d_R_partsOfBest_63 : decode b_R_partsOfBest 63 = .ok (.iaload, 1) := by decide +kernel
theorem d_R_partsOfBest_64 : decode b_R_partsOfBest 64 = .ok (.iconst (-1), 1) := by decide +kernel
theorem d_R_partsOfBest_65 : decode b_R_partsOfBest 65 = .ok (.ixor, 1) := by decide +kernel
theorem d_R_partsOfBest_66 : decode b_R_partsOfBest 66 = .ok (.iand, 1) := by decide +kernel
theorem d_R_partsOfBest_67 : decode b_R_partsOfBest 67 = .ok (.aload_n 0, 1) := by decide +kernel
theorem d_R_partsOfBest_68 : decode b_R_partsOfBest 68 = .ok (.getfield 49, 3) := by decide +kernel
theorem d_R_partsOfBest_71 : decode b_R_partsOfBest 71 = .ok (.iload_n 2, 1) := by decide +kernel
theorem d_R_partsOfBest_72 : decode b_R_partsOfBest 72 = .ok (.aload_n 0, 1) := by decide +kernel
theorem d_R_partsOfBest_73 : decode b_R_partsOfBest 73 = .ok (.getfield 52, 3) := by decide +kernel
theorem d_R_partsOfBest_76 : decode b_R_partsOfBest 76 = .ok (.iload_n 2, 1) := by decide +kernel
theorem d_R_partsOfBest_77 : decode b_R_partsOfBest 77 = .ok (.iaload, 1) := by decide +kernel
theorem d_R_partsOfBest_78 : decode b_R_partsOfBest 78 = .ok (.iconst (-1), 1) := by decide +kernel
theorem d_R_partsOfBest_79 : decode b_R_partsOfBest 79 = .ok (.ixor, 1) := by decide +kernel
theorem d_R_partsOfBest_80 : decode b_R_partsOfBest 80 = .ok (.iand, 1) := by decide +kernel
theorem d_R_partsOfBest_81 : decode b_R_partsOfBest 81 = .ok (.iaload, 1) := by decide +kernel
theorem d_R_partsOfBest_82 : decode b_R_partsOfBest 82 = .ok (.iastore, 1) := by decide +kernel
theorem d_R_partsOfBest_83 : decode b_R_partsOfBest 83 = .ok (.iinc 2 (-1), 3) := by decide +kernel
theorem d_R_partsOfBest_86 : decode b_R_partsOfBest 86 = .ok (.goto (-68), 3) := by decide +kernel
theorem d_R_partsOfBest_89 : decode b_R_partsOfBest 89 = .ok (.return_, 1) := by decide +kernel
theorem d_R_costOfParts_0 : decode b_R_costOfParts 0 = .ok (.lconst 0, 1) := by decide +kernel
theorem d_R_costOfParts_1 : decode b_R_costOfParts 1 = .ok (.lstore_n 2, 1) := by decide +kernel
theorem d_R_costOfParts_2 : decode b_R_costOfParts 2 = .ok (.iconst 1, 1) := by decide +kernel
theorem d_R_costOfParts_3 : decode b_R_costOfParts 3 = .ok (.istore 4, 2) := by decide +kernel
theorem d_R_costOfParts_5 : decode b_R_costOfParts 5 = .ok (.iload 4, 2) := by decide +kernel
theorem d_R_costOfParts_7 : decode b_R_costOfParts 7 = .ok (.sipush 256, 3) := by decide +kernel
theorem d_R_costOfParts_10 : decode b_R_costOfParts 10 = .ok (.if_icmp .ge 44, 3) := by decide +kernel
theorem d_R_costOfParts_13 : decode b_R_costOfParts 13 = .ok (.aload_n 0, 1) := by decide +kernel
theorem d_R_costOfParts_14 : decode b_R_costOfParts 14 = .ok (.getfield 52, 3) := by decide +kernel
theorem d_R_costOfParts_17 : decode b_R_costOfParts 17 = .ok (.iload 4, 2) := by decide +kernel
theorem d_R_costOfParts_19 : decode b_R_costOfParts 19 = .ok (.iaload, 1) := by decide +kernel
theorem d_R_costOfParts_20 : decode b_R_costOfParts 20 = .ok (.ifCond .le 26, 3) := by decide +kernel
theorem d_R_costOfParts_23 : decode b_R_costOfParts 23 = .ok (.iload 4, 2) := by decide +kernel
theorem d_R_costOfParts_25 : decode b_R_costOfParts 25 = .ok (.iload_n 1, 1) := by decide +kernel
theorem d_R_costOfParts_26 : decode b_R_costOfParts 26 = .ok (.invokestatic 75, 3) := by decide +kernel
theorem d_R_costOfParts_29 : decode b_R_costOfParts 29 = .ok (.ifCond .eq 17, 3) := by decide +kernel
theorem d_R_costOfParts_32 : decode b_R_costOfParts 32 = .ok (.lload_n 2, 1) := by decide +kernel
theorem d_R_costOfParts_33 : decode b_R_costOfParts 33 = .ok (.aload_n 0, 1) := by decide +kernel
theorem d_R_costOfParts_34 : decode b_R_costOfParts 34 = .ok (.getfield 33, 3) := by decide +kernel
theorem d_R_costOfParts_37 : decode b_R_costOfParts 37 = .ok (.iload 4, 2) := by decide +kernel
theorem d_R_costOfParts_39 : decode b_R_costOfParts 39 = .ok (.laload, 1) := by decide +kernel
theorem d_R_costOfParts_40 : decode b_R_costOfParts 40 = .ok (.invokestatic 238, 3) := by decide +kernel
theorem d_R_costOfParts_43 : decode b_R_costOfParts 43 = .ok (.goto 4, 3) := by decide +kernel
theorem d_R_costOfParts_46 : decode b_R_costOfParts 46 = .ok (.lload_n 2, 1) := by decide +kernel
theorem d_R_costOfParts_47 : decode b_R_costOfParts 47 = .ok (.lstore_n 2, 1) := by decide +kernel
theorem d_R_costOfParts_48 : decode b_R_costOfParts 48 = .ok (.iinc 4 1, 3) := by decide +kernel
theorem d_R_costOfParts_51 : decode b_R_costOfParts 51 = .ok (.goto (-46), 3) := by decide +kernel
theorem d_R_costOfParts_54 : decode b_R_costOfParts 54 = .ok (.lload_n 2, 1) := by decide +kernel
theorem d_R_costOfParts_55 : decode b_R_costOfParts 55 = .ok (.lreturn, 1) := by decide +kernel
theorem d_R_crossesOfParts_0 : decode b_R_crossesOfParts 0 = .ok (.iconst 0, 1) := by decide +kernel
theorem d_R_crossesOfParts_1 : decode b_R_crossesOfParts 1 = .ok (.istore_n 1, 1) := by decide +kernel
theorem d_R_crossesOfParts_2 : decode b_R_crossesOfParts 2 = .ok (.iconst 1, 1) := by decide +kernel
theorem d_R_crossesOfParts_3 : decode b_R_crossesOfParts 3 = .ok (.istore_n 2, 1) := by decide +kernel
theorem d_R_crossesOfParts_4 : decode b_R_crossesOfParts 4 = .ok (.iload_n 2, 1) := by decide +kernel
theorem d_R_crossesOfParts_5 : decode b_R_crossesOfParts 5 = .ok (.sipush 256, 3) := by decide +kernel
theorem d_R_crossesOfParts_8 : decode b_R_crossesOfParts 8 = .ok (.if_icmp .ge 49, 3) := by decide +kernel
theorem d_R_crossesOfParts_11 : decode b_R_crossesOfParts 11 = .ok (.iload_n 1, 1) := by decide +kernel
theorem d_R_crossesOfParts_12 : decode b_R_crossesOfParts 12 = .ok (.aload_n 0, 1) := by decide +kernel
theorem d_R_crossesOfParts_13 : decode b_R_crossesOfParts 13 = .ok (.getfield 52, 3) := by decide +kernel
theorem d_R_crossesOfParts_16 : decode b_R_crossesOfParts 16 = .ok (.iload_n 2, 1) := by decide +kernel
theorem d_R_crossesOfParts_17 : decode b_R_crossesOfParts 17 = .ok (.iaload, 1) := by decide +kernel
theorem d_R_crossesOfParts_18 : decode b_R_crossesOfParts 18 = .ok (.ifCond .le 30, 3) := by decide +kernel
theorem d_R_crossesOfParts_21 : decode b_R_crossesOfParts 21 = .ok (.aload_n 0, 1) := by decide +kernel
theorem d_R_crossesOfParts_22 : decode b_R_crossesOfParts 22 = .ok (.aload_n 0, 1) := by decide +kernel
theorem d_R_crossesOfParts_23 : decode b_R_crossesOfParts 23 = .ok (.getfield 52, 3) := by decide +kernel
theorem d_R_crossesOfParts_26 : decode b_R_crossesOfParts 26 = .ok (.iload_n 2, 1) := by decide +kernel
theorem d_R_crossesOfParts_27 : decode b_R_crossesOfParts 27 = .ok (.iaload, 1) := by decide +kernel
theorem d_R_crossesOfParts_28 : decode b_R_crossesOfParts 28 = .ok (.iload_n 2, 1) := by decide +kernel
theorem d_R_crossesOfParts_29 : decode b_R_crossesOfParts 29 = .ok (.aload_n 0, 1) := by decide +kernel
theorem d_R_crossesOfParts_30 : decode b_R_crossesOfParts 30 = .ok (.getfield 52, 3) := by decide +kernel
theorem d_R_crossesOfParts_33 : decode b_R_crossesOfParts 33 = .ok (.iload_n 2, 1) := by decide +kernel
theorem d_R_crossesOfParts_34 : decode b_R_crossesOfParts 34 = .ok (.iaload, 1) := by decide +kernel
theorem d_R_crossesOfParts_35 : decode b_R_crossesOfParts 35 = .ok (.iconst (-1), 1) := by decide +kernel
theorem d_R_crossesOfParts_36 : decode b_R_crossesOfParts 36 = .ok (.ixor, 1) := by decide +kernel
theorem d_R_crossesOfParts_37 : decode b_R_crossesOfParts 37 = .ok (.iand, 1) := by decide +kernel
theorem d_R_crossesOfParts_38 : decode b_R_crossesOfParts 38 = .ok (.invokevirtual 235, 3) := by decide +kernel
theorem d_R_crossesOfParts_41 : decode b_R_crossesOfParts 41 = .ok (.ifCond .ne 7, 3) := by decide +kernel
theorem d_R_crossesOfParts_44 : decode b_R_crossesOfParts 44 = .ok (.iconst 1, 1) := by decide +kernel
theorem d_R_crossesOfParts_45 : decode b_R_crossesOfParts 45 = .ok (.goto 4, 3) := by decide +kernel
theorem d_R_crossesOfParts_48 : decode b_R_crossesOfParts 48 = .ok (.iconst 0, 1) := by decide +kernel
theorem d_R_crossesOfParts_49 : decode b_R_crossesOfParts 49 = .ok (.iadd, 1) := by decide +kernel
theorem d_R_crossesOfParts_50 : decode b_R_crossesOfParts 50 = .ok (.istore_n 1, 1) := by decide +kernel
theorem d_R_crossesOfParts_51 : decode b_R_crossesOfParts 51 = .ok (.iinc 2 1, 3) := by decide +kernel
theorem d_R_crossesOfParts_54 : decode b_R_crossesOfParts 54 = .ok (.goto (-50), 3) := by decide +kernel
theorem d_R_crossesOfParts_57 : decode b_R_crossesOfParts 57 = .ok (.iload_n 1, 1) := by decide +kernel
theorem d_R_crossesOfParts_58 : decode b_R_crossesOfParts 58 = .ok (.ireturn, 1) := by decide +kernel
theorem d_R_isLess_0 : decode b_R_isLess 0 = .ok (.aload_n 0, 1) := by decide +kernel
theorem d_R_isLess_1 : decode b_R_isLess 1 = .ok (.getfield 33, 3) := by decide +kernel
theorem d_R_isLess_4 : decode b_R_isLess 4 = .ok (.iload_n 1, 1) := by decide +kernel
theorem d_R_isLess_5 : decode b_R_isLess 5 = .ok (.iload_n 2, 1) := by decide +kernel
theorem d_R_isLess_6 : decode b_R_isLess 6 = .ok (.ior, 1) := by decide +kernel
theorem d_R_isLess_7 : decode b_R_isLess 7 = .ok (.laload, 1) := by decide +kernel
theorem d_R_isLess_8 : decode b_R_isLess 8 = .ok (.aload_n 0, 1) := by decide +kernel
theorem d_R_isLess_9 : decode b_R_isLess 9 = .ok (.getfield 33, 3) := by decide +kernel
theorem d_R_isLess_12 : decode b_R_isLess 12 = .ok (.iload_n 3, 1) := by decide +kernel
theorem d_R_isLess_13 : decode b_R_isLess 13 = .ok (.iload 4, 2) := by decide +kernel
theorem d_R_isLess_15 : decode b_R_isLess 15 = .ok (.ior, 1) := by decide +kernel
theorem d_R_isLess_16 : decode b_R_isLess 16 = .ok (.laload, 1) := by decide +kernel
theorem d_R_isLess_17 : decode b_R_isLess 17 = .ok (.lsub, 1) := by decide +kernel
theorem d_R_isLess_18 : decode b_R_isLess 18 = .ok (.lstore 5, 2) := by decide +kernel
theorem d_R_isLess_20 : decode b_R_isLess 20 = .ok (.lload 5, 2) := by decide +kernel
theorem d_R_isLess_22 : decode b_R_isLess 22 = .ok (.lconst 0, 1) := by decide +kernel
theorem d_R_isLess_23 : decode b_R_isLess 23 = .ok (.lcmp, 1) := by decide +kernel
theorem d_R_isLess_24 : decode b_R_isLess 24 = .ok (.ifCond .eq 18, 3) := by decide +kernel
theorem d_R_isLess_27 : decode b_R_isLess 27 = .ok (.lload 5, 2) := by decide +kernel
theorem d_R_isLess_29 : decode b_R_isLess 29 = .ok (.lconst 0, 1) := by decide +kernel
theorem d_R_isLess_30 : decode b_R_isLess 30 = .ok (.lcmp, 1) := by decide +kernel
theorem d_R_isLess_31 : decode b_R_isLess 31 = .ok (.ifCond .ge 7, 3) := by decide +kernel
theorem d_R_isLess_34 : decode b_R_isLess 34 = .ok (.iconst 1, 1) := by decide +kernel
theorem d_R_isLess_35 : decode b_R_isLess 35 = .ok (.goto 36, 3) := by decide +kernel
theorem d_R_isLess_38 : decode b_R_isLess 38 = .ok (.iconst 0, 1) := by decide +kernel
theorem d_R_isLess_39 : decode b_R_isLess 39 = .ok (.goto 32, 3) := by decide +kernel
theorem d_R_isLess_42 : decode b_R_isLess 42 = .ok (.iload_n 1, 1) := by decide +kernel
theorem d_R_isLess_43 : decode b_R_isLess 43 = .ok (.iload_n 3, 1) := by decide +kernel
theorem d_R_isLess_44 : decode b_R_isLess 44 = .ok (.if_icmp .eq 16, 3) := by decide +kernel
theorem d_R_isLess_47 : decode b_R_isLess 47 = .ok (.iload_n 1, 1) := by decide +kernel
theorem d_R_isLess_48 : decode b_R_isLess 48 = .ok (.iload_n 3, 1) := by decide +kernel
theorem d_R_isLess_49 : decode b_R_isLess 49 = .ok (.if_icmp .ge 7, 3) := by decide +kernel
theorem d_R_isLess_52 : decode b_R_isLess 52 = .ok (.iconst 1, 1) := by decide +kernel
theorem d_R_isLess_53 : decode b_R_isLess 53 = .ok (.goto 18, 3) := by decide +kernel
theorem d_R_isLess_56 : decode b_R_isLess 56 = .ok (.iconst 0, 1) := by decide +kernel
theorem d_R_isLess_57 : decode b_R_isLess 57 = .ok (.goto 14, 3) := by decide +kernel
theorem d_R_isLess_60 : decode b_R_isLess 60 = .ok (.iload_n 2, 1) := by decide +kernel
theorem d_R_isLess_61 : decode b_R_isLess 61 = .ok (.iload 4, 2) := by decide +kernel
theorem d_R_isLess_63 : decode b_R_isLess 63 = .ok (.if_icmp .ge 7, 3) := by decide +kernel
theorem d_R_isLess_66 : decode b_R_isLess 66 = .ok (.iconst 1, 1) := by decide +kernel
theorem d_R_isLess_67 : decode b_R_isLess 67 = .ok (.goto 4, 3) := by decide +kernel
theorem d_R_isLess_70 : decode b_R_isLess 70 = .ok (.iconst 0, 1) := by decide +kernel
theorem d_R_isLess_71 : decode b_R_isLess 71 = .ok (.ireturn, 1) := by decide +kernel
theorem d_R_joinsGreedily_0 : decode b_R_joinsGreedily 0 = .ok (.iconst 0, 1) := by decide +kernel
theorem d_R_joinsGreedily_1 : decode b_R_joinsGreedily 1 = .ok (.istore_n 1, 1) := by decide +kernel
theorem d_R_joinsGreedily_2 : decode b_R_joinsGreedily 2 = .ok (.iconst 0, 1) := by decide +kernel
theorem d_R_joinsGreedily_3 : decode b_R_joinsGreedily 3 = .ok (.istore_n 2, 1) := by decide +kernel
theorem d_R_joinsGreedily_4 : decode b_R_joinsGreedily 4 = .ok (.iconst 0, 1) := by decide +kernel
theorem d_R_joinsGreedily_5 : decode b_R_joinsGreedily 5 = .ok (.istore_n 3, 1) := by decide +kernel
theorem d_R_joinsGreedily_6 : decode b_R_joinsGreedily 6 = .ok (.iconst 0, 1) := by decide +kernel
theorem d_R_joinsGreedily_7 : decode b_R_joinsGreedily 7 = .ok (.istore 4, 2) := by decide +kernel
theorem d_R_joinsGreedily_9 : decode b_R_joinsGreedily 9 = .ok (.iload 4, 2) := by decide +kernel
theorem d_R_joinsGreedily_11 : decode b_R_joinsGreedily 11 = .ok (.aload_n 0, 1) := by decide +kernel
theorem d_R_joinsGreedily_12 : decode b_R_joinsGreedily 12 = .ok (.getfield 257, 3) := by decide +kernel
theorem d_R_joinsGreedily_15 : decode b_R_joinsGreedily 15 = .ok (.if_icmp .ge 116, 3) := by decide +kernel
theorem d_R_joinsGreedily_18 : decode b_R_joinsGreedily 18 = .ok (.iconst 0, 1) := by decide +kernel
theorem d_R_joinsGreedily_19 : decode b_R_joinsGreedily 19 = .ok (.istore 5, 2) := by decide +kernel
theorem d_R_joinsGreedily_21 : decode b_R_joinsGreedily 21 = .ok (.iload 5, 2) := by decide +kernel
theorem d_R_joinsGreedily_23 : decode b_R_joinsGreedily 23 = .ok (.aload_n 0, 1) := by decide +kernel
theorem d_R_joinsGreedily_24 : decode b_R_joinsGreedily 24 = .ok (.getfield 257, 3) := by decide +kernel
theorem d_R_joinsGreedily_27 : decode b_R_joinsGreedily 27 = .ok (.if_icmp .ge 98, 3) := by decide +kernel
theorem d_R_joinsGreedily_30 : decode b_R_joinsGreedily 30 = .ok (.aload_n 0, 1) := by decide +kernel
theorem d_R_joinsGreedily_31 : decode b_R_joinsGreedily 31 = .ok (.getfield 55, 3) := by decide +kernel
theorem d_R_joinsGreedily_34 : decode b_R_joinsGreedily 34 = .ok (.iload 4, 2) := by decide +kernel
theorem d_R_joinsGreedily_36 : decode b_R_joinsGreedily 36 = .ok (.iaload, 1) := by decide +kernel
theorem d_R_joinsGreedily_37 : decode b_R_joinsGreedily 37 = .ok (.istore 6, 2) := by decide +kernel
theorem d_R_joinsGreedily_39 : decode b_R_joinsGreedily 39 = .ok (.aload_n 0, 1) := by decide +kernel
theorem d_R_joinsGreedily_40 : decode b_R_joinsGreedily 40 = .ok (.getfield 55, 3) := by decide +kernel
theorem d_R_joinsGreedily_43 : decode b_R_joinsGreedily 43 = .ok (.iload 5, 2) := by decide +kernel
theorem d_R_joinsGreedily_45 : decode b_R_joinsGreedily 45 = .ok (.iaload, 1) := by decide +kernel
theorem d_R_joinsGreedily_46 : decode b_R_joinsGreedily 46 = .ok (.istore 7, 2) := by decide +kernel
theorem d_R_joinsGreedily_48 : decode b_R_joinsGreedily 48 = .ok (.iload 4, 2) := by decide +kernel
theorem d_R_joinsGreedily_50 : decode b_R_joinsGreedily 50 = .ok (.iload 5, 2) := by decide +kernel
theorem d_R_joinsGreedily_52 : decode b_R_joinsGreedily 52 = .ok (.if_icmp .eq 67, 3) := by decide +kernel
theorem d_R_joinsGreedily_55 : decode b_R_joinsGreedily 55 = .ok (.iload 6, 2) := by decide +kernel
theorem d_R_joinsGreedily_57 : decode b_R_joinsGreedily 57 = .ok (.iload 7, 2) := by decide +kernel
theorem d_R_joinsGreedily_59 : decode b_R_joinsGreedily 59 = .ok (.invokestatic 193, 3) := by decide +kernel
theorem d_R_joinsGreedily_62 : decode b_R_joinsGreedily 62 = .ok (.ifCond .ne 6, 3) := by decide +kernel
theorem d_R_joinsGreedily_65 : decode b_R_joinsGreedily 65 = .ok (.goto 54, 3) := by decide +kernel
theorem d_R_joinsGreedily_68 : decode b_R_joinsGreedily 68 = .ok (.aload_n 0, 1) := by decide +kernel
theorem d_R_joinsGreedily_69 : decode b_R_joinsGreedily 69 = .ok (.iload 6, 2) := by decide +kernel
theorem d_R_joinsGreedily_71 : decode b_R_joinsGreedily 71 = .ok (.iload 7, 2) := by decide +kernel
theorem d_R_joinsGreedily_73 : decode b_R_joinsGreedily 73 = .ok (.invokevirtual 235, 3) := by decide +kernel
theorem d_R_joinsGreedily_76 : decode b_R_joinsGreedily 76 = .ok (.istore 8, 2) := by decide +kernel
theorem d_R_joinsGreedily_78 : decode b_R_joinsGreedily 78 = .ok (.iload_n 1, 1) := by decide +kernel
theorem d_R_joinsGreedily_79 : decode b_R_joinsGreedily 79 = .ok (.ifCond .eq 31, 3) := by decide +kernel
theorem d_R_joinsGreedily_82 : decode b_R_joinsGreedily 82 = .ok (.iload 8, 2) := by decide +kernel
theorem d_R_joinsGreedily_84 : decode b_R_joinsGreedily 84 = .ok (.ifCond .eq 7, 3) := by decide +kernel
theorem d_R_joinsGreedily_87 : decode b_R_joinsGreedily 87 = .ok (.iload_n 3, 1) := by decide +kernel
theorem d_R_joinsGreedily_88 : decode b_R_joinsGreedily 88 = .ok (.ifCond .eq 22, 3) := by decide +kernel
theorem d_R_joinsGreedily_91 : decode b_R_joinsGreedily 91 = .ok (.iload 8, 2) := by decide +kernel
theorem d_R_joinsGreedily_93 : decode b_R_joinsGreedily 93 = .ok (.iload_n 3, 1) := by decide +kernel
theorem d_R_joinsGreedily_94 : decode b_R_joinsGreedily 94 = .ok (.if_icmp .ne 25, 3) := by decide +kernel
theorem d_R_joinsGreedily_97 : decode b_R_joinsGreedily 97 = .ok (.aload_n 0, 1) := by decide +kernel
theorem d_R_joinsGreedily_98 : decode b_R_joinsGreedily 98 = .ok (.iload 6, 2) := by decide +kernel
theorem d_R_joinsGreedily_100 : decode b_R_joinsGreedily 100 = .ok (.iload 7, 2) := by decide +kernel
theorem d_R_joinsGreedily_102 : decode b_R_joinsGreedily 102 = .ok (.iload_n 1, 1) := by decide +kernel
theorem d_R_joinsGreedily_103 : decode b_R_joinsGreedily 103 = .ok (.iload_n 2, 1) := by decide +kernel
theorem d_R_joinsGreedily_104 : decode b_R_joinsGreedily 104 = .ok (.invokevirtual 263, 3) := by decide +kernel
theorem d_R_joinsGreedily_107 : decode b_R_joinsGreedily 107 = .ok (.ifCond .eq 12, 3) := by decide +kernel
theorem d_R_joinsGreedily_110 : decode b_R_joinsGreedily 110 = .ok (.iload 6, 2) := by decide +kernel
theorem d_R_joinsGreedily_112 : decode b_R_joinsGreedily 112 = .ok (.istore_n 1, 1) := by decide +kernel
theorem d_R_joinsGreedily_113 : decode b_R_joinsGreedily 113 = .ok (.iload 7, 2) := by decide +kernel
theorem d_R_joinsGreedily_115 : decode b_R_joinsGreedily 115 = .ok (.istore_n 2, 1) := by decide +kernel
theorem d_R_joinsGreedily_116 : decode b_R_joinsGreedily 116 = .ok (.iload 8, 2) := by decide +kernel
theorem d_R_joinsGreedily_118 : decode b_R_joinsGreedily 118 = .ok (.istore_n 3, 1) := by decide +kernel
theorem d_R_joinsGreedily_119 : decode b_R_joinsGreedily 119 = .ok (.iinc 5 1, 3) := by decide +kernel
theorem d_R_joinsGreedily_122 : decode b_R_joinsGreedily 122 = .ok (.goto (-101), 3) := by decide +kernel
theorem d_R_joinsGreedily_125 : decode b_R_joinsGreedily 125 = .ok (.iinc 4 1, 3) := by decide +kernel
theorem d_R_joinsGreedily_128 : decode b_R_joinsGreedily 128 = .ok (.goto (-119), 3) := by decide +kernel
theorem d_R_joinsGreedily_131 : decode b_R_joinsGreedily 131 = .ok (.aload_n 0, 1) := by decide +kernel
theorem d_R_joinsGreedily_132 : decode b_R_joinsGreedily 132 = .ok (.getfield 52, 3) := by decide +kernel
theorem d_R_joinsGreedily_135 : decode b_R_joinsGreedily 135 = .ok (.iload_n 1, 1) := by decide +kernel
theorem d_R_joinsGreedily_136 : decode b_R_joinsGreedily 136 = .ok (.iload_n 2, 1) := by decide +kernel
theorem d_R_joinsGreedily_137 : decode b_R_joinsGreedily 137 = .ok (.ior, 1) := by decide +kernel
theorem d_R_joinsGreedily_138 : decode b_R_joinsGreedily 138 = .ok (.iload_n 1, 1) := by decide +kernel
theorem d_R_joinsGreedily_139 : decode b_R_joinsGreedily 139 = .ok (.iastore, 1) := by decide +kernel
theorem d_R_joinsGreedily_140 : decode b_R_joinsGreedily 140 = .ok (.iconst 0, 1) := by decide +kernel
theorem d_R_joinsGreedily_141 : decode b_R_joinsGreedily 141 = .ok (.istore 4, 2) := by decide +kernel
theorem d_R_joinsGreedily_143 : decode b_R_joinsGreedily 143 = .ok (.iconst 0, 1) := by decide +kernel
theorem d_R_joinsGreedily_144 : decode b_R_joinsGreedily 144 = .ok (.istore 5, 2) := by decide +kernel
theorem d_R_joinsGreedily_146 : decode b_R_joinsGreedily 146 = .ok (.iload 5, 2) := by decide +kernel
theorem d_R_joinsGreedily_148 : decode b_R_joinsGreedily 148 = .ok (.aload_n 0, 1) := by decide +kernel
theorem d_R_joinsGreedily_149 : decode b_R_joinsGreedily 149 = .ok (.getfield 257, 3) := by decide +kernel
theorem d_R_joinsGreedily_152 : decode b_R_joinsGreedily 152 = .ok (.if_icmp .ge 67, 3) := by decide +kernel
theorem d_R_joinsGreedily_155 : decode b_R_joinsGreedily 155 = .ok (.aload_n 0, 1) := by decide +kernel
theorem d_R_joinsGreedily_156 : decode b_R_joinsGreedily 156 = .ok (.getfield 55, 3) := by decide +kernel
theorem d_R_joinsGreedily_159 : decode b_R_joinsGreedily 159 = .ok (.iload 5, 2) := by decide +kernel
theorem d_R_joinsGreedily_161 : decode b_R_joinsGreedily 161 = .ok (.iaload, 1) := by decide +kernel
theorem d_R_joinsGreedily_162 : decode b_R_joinsGreedily 162 = .ok (.iload_n 1, 1) := by decide +kernel
theorem d_R_joinsGreedily_163 : decode b_R_joinsGreedily 163 = .ok (.if_icmp .eq 18, 3) := by decide +kernel
theorem d_R_joinsGreedily_166 : decode b_R_joinsGreedily 166 = .ok (.aload_n 0, 1) := by decide +kernel
theorem d_R_joinsGreedily_167 : decode b_R_joinsGreedily 167 = .ok (.getfield 55, 3) := by decide +kernel
theorem d_R_joinsGreedily_170 : decode b_R_joinsGreedily 170 = .ok (.iload 5, 2) := by decide +kernel
theorem d_R_joinsGreedily_172 : decode b_R_joinsGreedily 172 = .ok (.iaload, 1) := by decide +kernel
theorem d_R_joinsGreedily_173 : decode b_R_joinsGreedily 173 = .ok (.iload_n 2, 1) := by decide +kernel
theorem d_R_joinsGreedily_174 : decode b_R_joinsGreedily 174 = .ok (.if_icmp .eq 7, 3) := by decide +kernel
theorem d_R_joinsGreedily_177 : decode b_R_joinsGreedily 177 = .ok (.iconst 1, 1) := by decide +kernel
theorem d_R_joinsGreedily_178 : decode b_R_joinsGreedily 178 = .ok (.goto 4, 3) := by decide +kernel
theorem d_R_joinsGreedily_181 : decode b_R_joinsGreedily 181 = .ok (.iconst 0, 1) := by decide +kernel
theorem d_R_joinsGreedily_182 : decode b_R_joinsGreedily 182 = .ok (.istore 6, 2) := by decide +kernel
theorem d_R_joinsGreedily_184 : decode b_R_joinsGreedily 184 = .ok (.aload_n 0, 1) := by decide +kernel
theorem d_R_joinsGreedily_185 : decode b_R_joinsGreedily 185 = .ok (.getfield 55, 3) := by decide +kernel
theorem d_R_joinsGreedily_188 : decode b_R_joinsGreedily 188 = .ok (.iload 4, 2) := by decide +kernel
theorem d_R_joinsGreedily_190 : decode b_R_joinsGreedily 190 = .ok (.aload_n 0, 1) := by decide +kernel
theorem d_R_joinsGreedily_191 : decode b_R_joinsGreedily 191 = .ok (.getfield 55, 3) := by decide +kernel
theorem d_R_joinsGreedily_194 : decode b_R_joinsGreedily 194 = .ok (.iload 5, 2) := by decide +kernel
theorem d_R_joinsGreedily_196 : decode b_R_joinsGreedily 196 = .ok (.iaload, 1) := by decide +kernel
theorem d_R_joinsGreedily_197 : decode b_R_joinsGreedily 197 = .ok (.iastore, 1) := by decide +kernel
theorem d_R_joinsGreedily_198 : decode b_R_joinsGreedily 198 = .ok (.iload 4, 2) := by decide +kernel
theorem d_R_joinsGreedily_200 : decode b_R_joinsGreedily 200 = .ok (.iload 6, 2) := by decide +kernel
theorem d_R_joinsGreedily_202 : decode b_R_joinsGreedily 202 = .ok (.ifCond .eq 7, 3) := by decide +kernel
theorem d_R_joinsGreedily_205 : decode b_R_joinsGreedily 205 = .ok (.iconst 1, 1) := by decide +kernel
theorem d_R_joinsGreedily_206 : decode b_R_joinsGreedily 206 = .ok (.goto 4, 3) := by decide +kernel
theorem d_R_joinsGreedily_209 : decode b_R_joinsGreedily 209 = .ok (.iconst 0, 1) := by decide +kernel
theorem d_R_joinsGreedily_210 : decode b_R_joinsGreedily 210 = .ok (.iadd, 1) := by decide +kernel
theorem d_R_joinsGreedily_211 : decode b_R_joinsGreedily 211 = .ok (.istore 4, 2) := by decide +kernel
theorem d_R_joinsGreedily_213 : decode b_R_joinsGreedily 213 = .ok (.iinc 5 1, 3) := by decide +kernel
theorem d_R_joinsGreedily_216 : decode b_R_joinsGreedily 216 = .ok (.goto (-70), 3) := by decide +kernel
theorem d_R_joinsGreedily_219 : decode b_R_joinsGreedily 219 = .ok (.aload_n 0, 1) := by decide +kernel
theorem d_R_joinsGreedily_220 : decode b_R_joinsGreedily 220 = .ok (.getfield 55, 3) := by decide +kernel
theorem d_R_joinsGreedily_223 : decode b_R_joinsGreedily 223 = .ok (.iload 4, 2) := by decide +kernel
theorem d_R_joinsGreedily_225 : decode b_R_joinsGreedily 225 = .ok (.iload_n 1, 1) := by decide +kernel
theorem d_R_joinsGreedily_226 : decode b_R_joinsGreedily 226 = .ok (.iload_n 2, 1) := by decide +kernel
theorem d_R_joinsGreedily_227 : decode b_R_joinsGreedily 227 = .ok (.ior, 1) := by decide +kernel
theorem d_R_joinsGreedily_228 : decode b_R_joinsGreedily 228 = .ok (.iastore, 1) := by decide +kernel
theorem d_R_joinsGreedily_229 : decode b_R_joinsGreedily 229 = .ok (.aload_n 0, 1) := by decide +kernel
theorem d_R_joinsGreedily_230 : decode b_R_joinsGreedily 230 = .ok (.iload 4, 2) := by decide +kernel
theorem d_R_joinsGreedily_232 : decode b_R_joinsGreedily 232 = .ok (.iconst 1, 1) := by decide +kernel
theorem d_R_joinsGreedily_233 : decode b_R_joinsGreedily 233 = .ok (.iadd, 1) := by decide +kernel
theorem d_R_joinsGreedily_234 : decode b_R_joinsGreedily 234 = .ok (.putfield 257, 3) := by decide +kernel
theorem d_R_joinsGreedily_237 : decode b_R_joinsGreedily 237 = .ok (.return_, 1) := by decide +kernel
theorem d_R_partsOfGreedy_0 : decode b_R_partsOfGreedy 0 = .ok (.aload_n 0, 1) := by decide +kernel
theorem d_R_partsOfGreedy_1 : decode b_R_partsOfGreedy 1 = .ok (.invokevirtual 254, 3) := by decide +kernel
theorem d_R_partsOfGreedy_4 : decode b_R_partsOfGreedy 4 = .ok (.aload_n 0, 1) := by decide +kernel
theorem d_R_partsOfGreedy_5 : decode b_R_partsOfGreedy 5 = .ok (.aload_n 0, 1) := by decide +kernel
theorem d_R_partsOfGreedy_6 : decode b_R_partsOfGreedy 6 = .ok (.getfield 7, 3) := by decide +kernel
theorem d_R_partsOfGreedy_9 : decode b_R_partsOfGreedy 9 = .ok (.iconst 0, 1) := by decide +kernel
theorem d_R_partsOfGreedy_10 : decode b_R_partsOfGreedy 10 = .ok (.iaload, 1) := by decide +kernel
theorem d_R_partsOfGreedy_11 : decode b_R_partsOfGreedy 11 = .ok (.putfield 257, 3) := by decide +kernel
theorem d_R_partsOfGreedy_14 : decode b_R_partsOfGreedy 14 = .ok (.iconst 0, 1) := by decide +kernel
theorem d_R_partsOfGreedy_15 : decode b_R_partsOfGreedy 15 = .ok (.istore_n 1, 1) := by decide +kernel
theorem d_R_partsOfGreedy_16 : decode b_R_partsOfGreedy 16 = .ok (.iload_n 1, 1) := by decide +kernel
theorem d_R_partsOfGreedy_17 : decode b_R_partsOfGreedy 17 = .ok (.aload_n 0, 1) := by decide +kernel
theorem d_R_partsOfGreedy_18 : decode b_R_partsOfGreedy 18 = .ok (.getfield 257, 3) := by decide +kernel
theorem d_R_partsOfGreedy_21 : decode b_R_partsOfGreedy 21 = .ok (.if_icmp .ge 18, 3) := by decide +kernel
