theorem d_J_init_0 : decode b_J_init 0 = .ok (.aload_n 0, 1) := by decide +kernel
theorem d_J_init_1 : decode b_J_init 1 = .ok (.invokespecial 3, 3) := by decide +kernel
theorem d_J_init_4 : decode b_J_init 4 = .ok (.aload_n 0, 1) := by decide +kernel
theorem d_J_init_5 : decode b_J_init 5 = .ok (.new 9, 3) := by decide +kernel
theorem d_J_init_8 : decode b_J_init 8 = .ok (.dup, 1) := by decide +kernel
theorem d_J_init_9 : decode b_J_init 9 = .ok (.invokespecial 11, 3) := by decide +kernel
theorem d_J_init_12 : decode b_J_init 12 = .ok (.putfield 12, 3) := by decide +kernel
theorem d_J_init_15 : decode b_J_init 15 = .ok (.aload_n 0, 1) := by decide +kernel
theorem d_J_init_16 : decode b_J_init 16 = .ok (.iconst 3, 1) := by decide +kernel
theorem d_J_init_17 : decode b_J_init 17 = .ok (.anewarray 9, 3) := by decide +kernel
theorem d_J_init_20 : decode b_J_init 20 = .ok (.putfield 16, 3) := by decide +kernel
theorem d_J_init_23 : decode b_J_init 23 = .ok (.iconst 0, 1) := by decide +kernel
theorem d_J_init_24 : decode b_J_init 24 = .ok (.istore_n 1, 1) := by decide +kernel
theorem d_J_init_25 : decode b_J_init 25 = .ok (.iload_n 1, 1) := by decide +kernel
theorem d_J_init_26 : decode b_J_init 26 = .ok (.iconst 3, 1) := by decide +kernel
theorem d_J_init_27 : decode b_J_init 27 = .ok (.if_icmp .ge 22, 3) := by decide +kernel
theorem d_J_init_30 : decode b_J_init 30 = .ok (.aload_n 0, 1) := by decide +kernel
theorem d_J_init_31 : decode b_J_init 31 = .ok (.getfield 16, 3) := by decide +kernel
theorem d_J_init_34 : decode b_J_init 34 = .ok (.iload_n 1, 1) := by decide +kernel
theorem d_J_init_35 : decode b_J_init 35 = .ok (.new 9, 3) := by decide +kernel
theorem d_J_init_38 : decode b_J_init 38 = .ok (.dup, 1) := by decide +kernel
theorem d_J_init_39 : decode b_J_init 39 = .ok (.invokespecial 11, 3) := by decide +kernel
theorem d_J_init_42 : decode b_J_init 42 = .ok (.aastore, 1) := by decide +kernel
theorem d_J_init_43 : decode b_J_init 43 = .ok (.iinc 1 1, 3) := by decide +kernel
theorem d_J_init_46 : decode b_J_init 46 = .ok (.goto (-21), 3) := by decide +kernel
theorem d_J_init_49 : decode b_J_init 49 = .ok (.aload_n 0, 1) := by decide +kernel
theorem d_J_init_50 : decode b_J_init 50 = .ok (.bipush 8, 2) := by decide +kernel
theorem d_J_init_52 : decode b_J_init 52 = .ok (.anewarray 20, 3) := by decide +kernel
theorem d_J_init_55 : decode b_J_init 55 = .ok (.putfield 22, 3) := by decide +kernel
theorem d_J_init_58 : decode b_J_init 58 = .ok (.aload_n 0, 1) := by decide +kernel
theorem d_J_init_59 : decode b_J_init 59 = .ok (.bipush 8, 2) := by decide +kernel
theorem d_J_init_61 : decode b_J_init 61 = .ok (.anewarray 26, 3) := by decide +kernel
theorem d_J_init_64 : decode b_J_init 64 = .ok (.putfield 28, 3) := by decide +kernel
theorem d_J_init_67 : decode b_J_init 67 = .ok (.iconst 0, 1) := by decide +kernel
theorem d_J_init_68 : decode b_J_init 68 = .ok (.istore_n 1, 1) := by decide +kernel
theorem d_J_init_69 : decode b_J_init 69 = .ok (.iload_n 1, 1) := by decide +kernel
theorem d_J_init_70 : decode b_J_init 70 = .ok (.bipush 8, 2) := by decide +kernel
theorem d_J_init_72 : decode b_J_init 72 = .ok (.if_icmp .ge 35, 3) := by decide +kernel
theorem d_J_init_75 : decode b_J_init 75 = .ok (.aload_n 0, 1) := by decide +kernel
theorem d_J_init_76 : decode b_J_init 76 = .ok (.getfield 22, 3) := by decide +kernel
theorem d_J_init_79 : decode b_J_init 79 = .ok (.iload_n 1, 1) := by decide +kernel
theorem d_J_init_80 : decode b_J_init 80 = .ok (.new 20, 3) := by decide +kernel
theorem d_J_init_83 : decode b_J_init 83 = .ok (.dup, 1) := by decide +kernel
theorem d_J_init_84 : decode b_J_init 84 = .ok (.invokespecial 32, 3) := by decide +kernel
theorem d_J_init_87 : decode b_J_init 87 = .ok (.aastore, 1) := by decide +kernel
theorem d_J_init_88 : decode b_J_init 88 = .ok (.aload_n 0, 1) := by decide +kernel
theorem d_J_init_89 : decode b_J_init 89 = .ok (.getfield 28, 3) := by decide +kernel
theorem d_J_init_92 : decode b_J_init 92 = .ok (.iload_n 1, 1) := by decide +kernel
theorem d_J_init_93 : decode b_J_init 93 = .ok (.new 26, 3) := by decide +kernel
theorem d_J_init_96 : decode b_J_init 96 = .ok (.dup, 1) := by decide +kernel
theorem d_J_init_97 : decode b_J_init 97 = .ok (.invokespecial 33, 3) := by decide +kernel
theorem d_J_init_100 : decode b_J_init 100 = .ok (.aastore, 1) := by decide +kernel
theorem d_J_init_101 : decode b_J_init 101 = .ok (.iinc 1 1, 3) := by decide +kernel
theorem d_J_init_104 : decode b_J_init 104 = .ok (.goto (-35), 3) := by decide +kernel
theorem d_J_init_107 : decode b_J_init 107 = .ok (.aload_n 0, 1) := by decide +kernel
theorem d_J_init_108 : decode b_J_init 108 = .ok (.new 34, 3) := by decide +kernel
theorem d_J_init_111 : decode b_J_init 111 = .ok (.dup, 1) := by decide +kernel
theorem d_J_init_112 : decode b_J_init 112 = .ok (.invokespecial 36, 3) := by decide +kernel
theorem d_J_init_115 : decode b_J_init 115 = .ok (.putfield 37, 3) := by decide +kernel
theorem d_J_init_118 : decode b_J_init 118 = .ok (.aload_n 0, 1) := by decide +kernel
theorem d_J_init_119 : decode b_J_init 119 = .ok (.new 41, 3) := by decide +kernel
theorem d_J_init_122 : decode b_J_init 122 = .ok (.dup, 1) := by decide +kernel
theorem d_J_init_123 : decode b_J_init 123 = .ok (.invokespecial 43, 3) := by decide +kernel
theorem d_J_init_126 : decode b_J_init 126 = .ok (.putfield 44, 3) := by decide +kernel
theorem d_J_init_129 : decode b_J_init 129 = .ok (.aload_n 0, 1) := by decide +kernel
theorem d_J_init_130 : decode b_J_init 130 = .ok (.new 48, 3) := by decide +kernel
theorem d_J_init_133 : decode b_J_init 133 = .ok (.dup, 1) := by decide +kernel
theorem d_J_init_134 : decode b_J_init 134 = .ok (.invokespecial 50, 3) := by decide +kernel
theorem d_J_init_137 : decode b_J_init 137 = .ok (.putfield 51, 3) := by decide +kernel
theorem d_J_init_140 : decode b_J_init 140 = .ok (.aload_n 0, 1) := by decide +kernel
theorem d_J_init_141 : decode b_J_init 141 = .ok (.new 55, 3) := by decide +kernel
theorem d_J_init_144 : decode b_J_init 144 = .ok (.dup, 1) := by decide +kernel
theorem d_J_init_145 : decode b_J_init 145 = .ok (.invokespecial 57, 3) := by decide +kernel
theorem d_J_init_148 : decode b_J_init 148 = .ok (.putfield 58, 3) := by decide +kernel
theorem d_J_init_151 : decode b_J_init 151 = .ok (.aload_n 0, 1) := by decide +kernel
theorem d_J_init_152 : decode b_J_init 152 = .ok (.new 55, 3) := by decide +kernel
theorem d_J_init_155 : decode b_J_init 155 = .ok (.dup, 1) := by decide +kernel
theorem d_J_init_156 : decode b_J_init 156 = .ok (.invokespecial 57, 3) := by decide +kernel
theorem d_J_init_159 : decode b_J_init 159 = .ok (.putfield 62, 3) := by decide +kernel
theorem d_J_init_162 : decode b_J_init 162 = .ok (.aload_n 0, 1) := by decide +kernel
theorem d_J_init_163 : decode b_J_init 163 = .ok (.new 65, 3) := by decide +kernel
theorem d_J_init_166 : decode b_J_init 166 = .ok (.dup, 1) := by decide +kernel
theorem d_J_init_167 : decode b_J_init 167 = .ok (.invokespecial 67, 3) := by decide +kernel
theorem d_J_init_170 : decode b_J_init 170 = .ok (.putfield 68, 3) := by decide +kernel
theorem d_J_init_173 : decode b_J_init 173 = .ok (.aload_n 0, 1) := by decide +kernel
theorem d_J_init_174 : decode b_J_init 174 = .ok (.new 72, 3) := by decide +kernel
theorem d_J_init_177 : decode b_J_init 177 = .ok (.dup, 1) := by decide +kernel
theorem d_J_init_178 : decode b_J_init 178 = .ok (.invokespecial 74, 3) := by decide +kernel
theorem d_J_init_181 : decode b_J_init 181 = .ok (.putfield 75, 3) := by decide +kernel
theorem d_J_init_184 : decode b_J_init 184 = .ok (.aload_n 0, 1) := by decide +kernel
theorem d_J_init_185 : decode b_J_init 185 = .ok (.new 26, 3) := by decide +kernel
theorem d_J_init_188 : decode b_J_init 188 = .ok (.dup, 1) := by decide +kernel
theorem d_J_init_189 : decode b_J_init 189 = .ok (.invokespecial 33, 3) := by decide +kernel
theorem d_J_init_192 : decode b_J_init 192 = .ok (.putfield 79, 3) := by decide +kernel
theorem d_J_init_195 : decode b_J_init 195 = .ok (.aload_n 0, 1) := by decide +kernel
theorem d_J_init_196 : decode b_J_init 196 = .ok (.bipush 29, 2) := by decide +kernel
theorem d_J_init_198 : decode b_J_init 198 = .ok (.newarray .int, 2) := by decide +kernel
theorem d_J_init_200 : decode b_J_init 200 = .ok (.putfield 83, 3) := by decide +kernel
theorem d_J_init_203 : decode b_J_init 203 = .ok (.aload_n 0, 1) := by decide +kernel
theorem d_J_init_204 : decode b_J_init 204 = .ok (.new 20, 3) := by decide +kernel
theorem d_J_init_207 : decode b_J_init 207 = .ok (.dup, 1) := by decide +kernel
theorem d_J_init_208 : decode b_J_init 208 = .ok (.invokespecial 32, 3) := by decide +kernel
theorem d_J_init_211 : decode b_J_init 211 = .ok (.putfield 87, 3) := by decide +kernel
theorem d_J_init_214 : decode b_J_init 214 = .ok (.aload_n 0, 1) := by decide +kernel
theorem d_J_init_215 : decode b_J_init 215 = .ok (.new 48, 3) := by decide +kernel
theorem d_J_init_218 : decode b_J_init 218 = .ok (.dup, 1) := by decide +kernel
theorem d_J_init_219 : decode b_J_init 219 = .ok (.invokespecial 50, 3) := by decide +kernel
theorem d_J_init_222 : decode b_J_init 222 = .ok (.putfield 91, 3) := by decide +kernel
theorem d_J_init_225 : decode b_J_init 225 = .ok (.aload_n 0, 1) := by decide +kernel
theorem d_J_init_226 : decode b_J_init 226 = .ok (.new 55, 3) := by decide +kernel
theorem d_J_init_229 : decode b_J_init 229 = .ok (.dup, 1) := by decide +kernel
theorem d_J_init_230 : decode b_J_init 230 = .ok (.invokespecial 57, 3) := by decide +kernel
theorem d_J_init_233 : decode b_J_init 233 = .ok (.putfield 94, 3) := by decide +kernel
theorem d_J_init_236 : decode b_J_init 236 = .ok (.return_, 1) := by decide +kernel
theorem d_J_type_0 : decode b_J_type 0 = .ok (.aload_n 0, 1) := by decide +kernel
theorem d_J_type_1 : decode b_J_type 1 = .ok (.getfield 12, 3) := by decide +kernel
theorem d_J_type_4 : decode b_J_type 4 = .ok (.getfield 97, 3) := by decide +kernel
theorem d_J_type_7 : decode b_J_type 7 = .ok (.lload_n 1, 1) := by decide +kernel
theorem d_J_type_8 : decode b_J_type 8 = .ok (.invokevirtual 101, 3) := by decide +kernel
theorem d_J_type_11 : decode b_J_type 11 = .ok (.ifCond .eq 16, 3) := by decide +kernel
theorem d_J_type_14 : decode b_J_type 14 = .ok (.aload_n 0, 1) := by decide +kernel
theorem d_J_type_15 : decode b_J_type 15 = .ok (.getfield 12, 3) := by decide +kernel
theorem d_J_type_18 : decode b_J_type 18 = .ok (.getfield 97, 3) := by decide +kernel
theorem d_J_type_21 : decode b_J_type 21 = .ok (.getfield 107, 3) := by decide +kernel
theorem d_J_type_24 : decode b_J_type 24 = .ok (.goto 4, 3) := by decide +kernel
theorem d_J_type_27 : decode b_J_type 27 = .ok (.iconst (-1), 1) := by decide +kernel
theorem d_J_type_28 : decode b_J_type 28 = .ok (.ireturn, 1) := by decide +kernel
theorem d_J_query_0 : decode b_J_query 0 = .ok (.aload_n 0, 1) := by decide +kernel
theorem d_J_query_1 : decode b_J_query 1 = .ok (.aload_n 0, 1) := by decide +kernel
theorem d_J_query_2 : decode b_J_query 2 = .ok (.getfield 37, 3) := by decide +kernel
theorem d_J_query_5 : decode b_J_query 5 = .ok (.invokevirtual 111, 3) := by decide +kernel
theorem d_J_query_8 : decode b_J_query 8 = .ok (.ifCond .ne 5, 3) := by decide +kernel
theorem d_J_query_11 : decode b_J_query 11 = .ok (.iconst (-1), 1) := by decide +kernel
theorem d_J_query_12 : decode b_J_query 12 = .ok (.ireturn, 1) := by decide +kernel
theorem d_J_query_13 : decode b_J_query 13 = .ok (.aload_n 0, 1) := by decide +kernel
theorem d_J_query_14 : decode b_J_query 14 = .ok (.getfield 12, 3) := by decide +kernel
theorem d_J_query_17 : decode b_J_query 17 = .ok (.getfield 115, 3) := by decide +kernel
theorem d_J_query_20 : decode b_J_query 20 = .ok (.aload_n 0, 1) := by decide +kernel
theorem d_J_query_21 : decode b_J_query 21 = .ok (.getfield 37, 3) := by decide +kernel
theorem d_J_query_24 : decode b_J_query 24 = .ok (.getfield 118, 3) := by decide +kernel
theorem d_J_query_27 : decode b_J_query 27 = .ok (.invokevirtual 119, 3) := by decide +kernel
theorem d_J_query_30 : decode b_J_query 30 = .ok (.aload_n 0, 1) := by decide +kernel
theorem d_J_query_31 : decode b_J_query 31 = .ok (.getfield 12, 3) := by decide +kernel
theorem d_J_query_34 : decode b_J_query 34 = .ok (.getfield 123, 3) := by decide +kernel
theorem d_J_query_37 : decode b_J_query 37 = .ok (.invokevirtual 126, 3) := by decide +kernel
theorem d_J_query_40 : decode b_J_query 40 = .ok (.aload_n 0, 1) := by decide +kernel
theorem d_J_query_41 : decode b_J_query 41 = .ok (.iconst 0, 1) := by decide +kernel
theorem d_J_query_42 : decode b_J_query 42 = .ok (.putfield 129, 3) := by decide +kernel
theorem d_J_query_45 : decode b_J_query 45 = .ok (.aload_n 0, 1) := by decide +kernel
theorem d_J_query_46 : decode b_J_query 46 = .ok (.invokevirtual 132, 3) := by decide +kernel
theorem d_J_query_49 : decode b_J_query 49 = .ok (.aload_n 0, 1) := by decide +kernel
theorem d_J_query_50 : decode b_J_query 50 = .ok (.getfield 12, 3) := by decide +kernel
theorem d_J_query_53 : decode b_J_query 53 = .ok (.getfield 115, 3) := by decide +kernel
theorem d_J_query_56 : decode b_J_query 56 = .ok (.getfield 135, 3) := by decide +kernel
theorem d_J_query_59 : decode b_J_query 59 = .ok (.ireturn, 1) := by decide +kernel
theorem d_J_plan_0 : decode b_J_plan 0 = .ok (.aload_n 0, 1) := by decide +kernel
theorem d_J_plan_1 : decode b_J_plan 1 = .ok (.getfield 44, 3) := by decide +kernel
theorem d_J_plan_4 : decode b_J_plan 4 = .ok (.aload_n 0, 1) := by decide +kernel
theorem d_J_plan_5 : decode b_J_plan 5 = .ok (.getfield 12, 3) := by decide +kernel
theorem d_J_plan_8 : decode b_J_plan 8 = .ok (.getfield 115, 3) := by decide +kernel
theorem d_J_plan_11 : decode b_J_plan 11 = .ok (.getfield 135, 3) := by decide +kernel
theorem d_J_plan_14 : decode b_J_plan 14 = .ok (.putfield 138, 3) := by decide +kernel
theorem d_J_plan_17 : decode b_J_plan 17 = .ok (.aload_n 0, 1) := by decide +kernel
theorem d_J_plan_18 : decode b_J_plan 18 = .ok (.aload_n 0, 1) := by decide +kernel
theorem d_J_plan_19 : decode b_J_plan 19 = .ok (.getfield 44, 3) := by decide +kernel
theorem d_J_plan_22 : decode b_J_plan 22 = .ok (.invokevirtual 111, 3) := by decide +kernel
theorem d_J_plan_25 : decode b_J_plan 25 = .ok (.ifCond .ne 5, 3) := by decide +kernel
theorem d_J_plan_28 : decode b_J_plan 28 = .ok (.iconst (-1), 1) := by decide +kernel
theorem d_J_plan_29 : decode b_J_plan 29 = .ok (.ireturn, 1) := by decide +kernel
theorem d_J_plan_30 : decode b_J_plan 30 = .ok (.aload_n 0, 1) := by decide +kernel
theorem d_J_plan_31 : decode b_J_plan 31 = .ok (.invokevirtual 139, 3) := by decide +kernel
theorem d_J_plan_34 : decode b_J_plan 34 = .ok (.aload_n 0, 1) := by decide +kernel
theorem d_J_plan_35 : decode b_J_plan 35 = .ok (.getfield 12, 3) := by decide +kernel
theorem d_J_plan_38 : decode b_J_plan 38 = .ok (.getfield 123, 3) := by decide +kernel
theorem d_J_plan_41 : decode b_J_plan 41 = .ok (.aload_n 0, 1) := by decide +kernel
theorem d_J_plan_42 : decode b_J_plan 42 = .ok (.getfield 44, 3) := by decide +kernel
theorem d_J_plan_45 : decode b_J_plan 45 = .ok (.invokevirtual 142, 3) := by decide +kernel
theorem d_J_plan_48 : decode b_J_plan 48 = .ok (.aload_n 0, 1) := by decide +kernel
theorem d_J_plan_49 : decode b_J_plan 49 = .ok (.getfield 44, 3) := by decide +kernel
theorem d_J_plan_52 : decode b_J_plan 52 = .ok (.getfield 146, 3) := by decide +kernel
theorem d_J_plan_55 : decode b_J_plan 55 = .ok (.invokevirtual 149, 3) := by decide +kernel
theorem d_J_plan_58 : decode b_J_plan 58 = .ok (.aload_n 0, 1) := by decide +kernel
theorem d_J_plan_59 : decode b_J_plan 59 = .ok (.getfield 12, 3) := by decide +kernel
theorem d_J_plan_62 : decode b_J_plan 62 = .ok (.getfield 123, 3) := by decide +kernel
theorem d_J_plan_65 : decode b_J_plan 65 = .ok (.getfield 153, 3) := by decide +kernel
theorem d_J_plan_68 : decode b_J_plan 68 = .ok (.ireturn, 1) := by decide +kernel
theorem d_J_fault_0 : decode b_J_fault 0 = .ok (.iload_n 1, 1) := by decide +kernel
theorem d_J_fault_1 : decode b_J_fault 1 = .ok (.ifCond .eq 13, 3) := by decide +kernel
theorem d_J_fault_4 : decode b_J_fault 4 = .ok (.aload_n 0, 1) := by decide +kernel
theorem d_J_fault_5 : decode b_J_fault 5 = .ok (.getfield 12, 3) := by decide +kernel
theorem d_J_fault_8 : decode b_J_fault 8 = .ok (.getfield 156, 3) := by decide +kernel
theorem d_J_fault_11 : decode b_J_fault 11 = .ok (.goto 10, 3) := by decide +kernel
theorem d_J_fault_14 : decode b_J_fault 14 = .ok (.aload_n 0, 1) := by decide +kernel
theorem d_J_fault_15 : decode b_J_fault 15 = .ok (.getfield 12, 3) := by decide +kernel
theorem d_J_fault_18 : decode b_J_fault 18 = .ok (.getfield 159, 3) := by decide +kernel
theorem d_J_fault_21 : decode b_J_fault 21 = .ok (.ireturn, 1) := by decide +kernel
theorem d_J_add_0 : decode b_J_add 0 = .ok (.iload_n 1, 1) := by decide +kernel
theorem d_J_add_1 : decode b_J_add 1 = .ok (.invokestatic 162, 3) := by decide +kernel
theorem d_J_add_4 : decode b_J_add 4 = .ok (.ifCond .eq 18, 3) := by decide +kernel
theorem d_J_add_7 : decode b_J_add 7 = .ok (.aload_n 0, 1) := by decide +kernel
theorem d_J_add_8 : decode b_J_add 8 = .ok (.getfield 12, 3) := by decide +kernel
theorem d_J_add_11 : decode b_J_add 11 = .ok (.getfield 115, 3) := by decide +kernel
theorem d_J_add_14 : decode b_J_add 14 = .ok (.getfield 135, 3) := by decide +kernel
theorem d_J_add_17 : decode b_J_add 17 = .ok (.bipush 8, 2) := by decide +kernel
theorem d_J_add_19 : decode b_J_add 19 = .ok (.if_icmp .lt 5, 3) := by decide +kernel
theorem d_J_add_22 : decode b_J_add 22 = .ok (.iconst (-1), 1) := by decide +kernel
theorem d_J_add_23 : decode b_J_add 23 = .ok (.ireturn, 1) := by decide +kernel
theorem d_J_add_24 : decode b_J_add 24 = .ok (.aload_n 0, 1) := by decide +kernel
theorem d_J_add_25 : decode b_J_add 25 = .ok (.invokevirtual 139, 3) := by decide +kernel
theorem d_J_add_28 : decode b_J_add 28 = .ok (.aload_n 0, 1) := by decide +kernel
theorem d_J_add_29 : decode b_J_add 29 = .ok (.getfield 12, 3) := by decide +kernel
theorem d_J_add_32 : decode b_J_add 32 = .ok (.getfield 115, 3) := by decide +kernel
theorem d_J_add_35 : decode b_J_add 35 = .ok (.iload_n 1, 1) := by decide +kernel
theorem d_J_add_36 : decode b_J_add 36 = .ok (.invokevirtual 166, 3) := by decide +kernel
theorem d_J_add_39 : decode b_J_add 39 = .ok (.aload_n 0, 1) := by decide +kernel
theorem d_J_add_40 : decode b_J_add 40 = .ok (.invokevirtual 170, 3) := by decide +kernel
theorem d_J_add_43 : decode b_J_add 43 = .ok (.aload_n 0, 1) := by decide +kernel
theorem d_J_add_44 : decode b_J_add 44 = .ok (.getfield 12, 3) := by decide +kernel
theorem d_J_add_47 : decode b_J_add 47 = .ok (.getfield 115, 3) := by decide +kernel
theorem d_J_add_50 : decode b_J_add 50 = .ok (.getfield 135, 3) := by decide +kernel
theorem d_J_add_53 : decode b_J_add 53 = .ok (.iconst 1, 1) := by decide +kernel
theorem d_J_add_54 : decode b_J_add 54 = .ok (.isub, 1) := by decide +kernel
theorem d_J_add_55 : decode b_J_add 55 = .ok (.ireturn, 1) := by decide +kernel
theorem d_J_rows_0 : decode b_J_rows 0 = .ok (.aload_n 0, 1) := by decide +kernel
theorem d_J_rows_1 : decode b_J_rows 1 = .ok (.getfield 12, 3) := by decide +kernel
theorem d_J_rows_4 : decode b_J_rows 4 = .ok (.getfield 115, 3) := by decide +kernel
theorem d_J_rows_7 : decode b_J_rows 7 = .ok (.astore_n 3, 1) := by decide +kernel
theorem d_J_rows_8 : decode b_J_rows 8 = .ok (.aload_n 3, 1) := by decide +kernel
theorem d_J_rows_9 : decode b_J_rows 9 = .ok (.iload_n 1, 1) := by decide +kernel
theorem d_J_rows_10 : decode b_J_rows 10 = .ok (.invokevirtual 173, 3) := by decide +kernel
theorem d_J_rows_13 : decode b_J_rows 13 = .ok (.ifCond .eq 20, 3) := by decide +kernel
theorem d_J_rows_16 : decode b_J_rows 16 = .ok (.iload_n 2, 1) := by decide +kernel
theorem d_J_rows_17 : decode b_J_rows 17 = .ok (.invokestatic 162, 3) := by decide +kernel
theorem d_J_rows_20 : decode b_J_rows 20 = .ok (.ifCond .eq 13, 3) := by decide +kernel
theorem d_J_rows_23 : decode b_J_rows 23 = .ok (.aload_n 3, 1) := by decide +kernel
theorem d_J_rows_24 : decode b_J_rows 24 = .ok (.getfield 176, 3) := by decide +kernel
theorem d_J_rows_27 : decode b_J_rows 27 = .ok (.iload_n 1, 1) := by decide +kernel
theorem d_J_rows_28 : decode b_J_rows 28 = .ok (.iaload, 1) := by decide +kernel
theorem d_J_rows_29 : decode b_J_rows 29 = .ok (.iload_n 2, 1) := by decide +kernel
theorem d_J_rows_30 : decode b_J_rows 30 = .ok (.if_icmp .ne 5, 3) := by decide +kernel
theorem d_J_rows_33 : decode b_J_rows 33 = .ok (.iconst 0, 1) := by decide +kernel
theorem d_J_rows_34 : decode b_J_rows 34 = .ok (.ireturn, 1) := by decide +kernel
theorem d_J_rows_35 : decode b_J_rows 35 = .ok (.aload_n 0, 1) := by decide +kernel
theorem d_J_rows_36 : decode b_J_rows 36 = .ok (.invokevirtual 139, 3) := by decide +kernel
theorem d_J_rows_39 : decode b_J_rows 39 = .ok (.aload_n 3, 1) := by decide +kernel
theorem d_J_rows_40 : decode b_J_rows 40 = .ok (.getfield 176, 3) := by decide +kernel
theorem d_J_rows_43 : decode b_J_rows 43 = .ok (.iload_n 1, 1) := by decide +kernel
theorem d_J_rows_44 : decode b_J_rows 44 = .ok (.iload_n 2, 1) := by decide +kernel
theorem d_J_rows_45 : decode b_J_rows 45 = .ok (.iastore, 1) := by decide +kernel
theorem d_J_rows_46 : decode b_J_rows 46 = .ok (.aload_n 0, 1) := by decide +kernel
theorem d_J_rows_47 : decode b_J_rows 47 = .ok (.invokevirtual 170, 3) := by decide +kernel
theorem d_J_rows_50 : decode b_J_rows 50 = .ok (.iconst 1, 1) := by decide +kernel
theorem d_J_rows_51 : decode b_J_rows 51 = .ok (.ireturn, 1) := by decide +kernel
theorem d_J_link_0 : decode b_J_link 0 = .ok (.aload_n 0, 1) := by decide +kernel
theorem d_J_link_1 : decode b_J_link 1 = .ok (.getfield 12, 3) := by decide +kernel
theorem d_J_link_4 : decode b_J_link 4 = .ok (.getfield 115, 3) := by decide +kernel
theorem d_J_link_7 : decode b_J_link 7 = .ok (.astore 4, 2) := by decide +kernel
theorem d_J_link_9 : decode b_J_link 9 = .ok (.aload 4, 2) := by decide +kernel
theorem d_J_link_11 : decode b_J_link 11 = .ok (.iload_n 1, 1) := by decide +kernel
theorem d_J_link_12 : decode b_J_link 12 = .ok (.iload_n 2, 1) := by decide +kernel
theorem d_J_link_13 : decode b_J_link 13 = .ok (.invokevirtual 179, 3) := by decide +kernel
theorem d_J_link_16 : decode b_J_link 16 = .ok (.ifCond .eq 20, 3) := by decide +kernel
theorem d_J_link_19 : decode b_J_link 19 = .ok (.iload_n 3, 1) := by decide +kernel
theorem d_J_link_20 : decode b_J_link 20 = .ok (.invokestatic 183, 3) := by decide +kernel
theorem d_J_link_23 : decode b_J_link 23 = .ok (.ifCond .eq 13, 3) := by decide +kernel
theorem d_J_link_26 : decode b_J_link 26 = .ok (.aload 4, 2) := by decide +kernel
theorem d_J_link_28 : decode b_J_link 28 = .ok (.getfield 186, 3) := by decide +kernel
theorem d_J_link_31 : decode b_J_link 31 = .ok (.bipush 16, 2) := by decide +kernel
theorem d_J_link_33 : decode b_J_link 33 = .ok (.if_icmp .lt 5, 3) := by decide +kernel
theorem d_J_link_36 : decode b_J_link 36 = .ok (.iconst (-1), 1) := by decide +kernel
theorem d_J_link_37 : decode b_J_link 37 = .ok (.ireturn, 1) := by decide +kernel
theorem d_J_link_38 : decode b_J_link 38 = .ok (.aload_n 0, 1) := by decide +kernel
theorem d_J_link_39 : decode b_J_link 39 = .ok (.invokevirtual 139, 3) := by decide +kernel
theorem d_J_link_42 : decode b_J_link 42 = .ok (.aload 4, 2) := by decide +kernel
theorem d_J_link_44 : decode b_J_link 44 = .ok (.iload_n 1, 1) := by decide +kernel
theorem d_J_link_45 : decode b_J_link 45 = .ok (.iload_n 2, 1) := by decide +kernel
theorem d_J_link_46 : decode b_J_link 46 = .ok (.iload_n 3, 1) := by decide +kernel
theorem d_J_link_47 : decode b_J_link 47 = .ok (.invokevirtual 189, 3) := by decide +kernel
theorem d_J_link_50 : decode b_J_link 50 = .ok (.aload_n 0, 1) := by decide +kernel
theorem d_J_link_51 : decode b_J_link 51 = .ok (.invokevirtual 170, 3) := by decide +kernel
theorem d_J_link_54 : decode b_J_link 54 = .ok (.aload 4, 2) := by decide +kernel
theorem d_J_link_56 : decode b_J_link 56 = .ok (.getfield 186, 3) := by decide +kernel
theorem d_J_link_59 : decode b_J_link 59 = .ok (.iconst 1, 1) := by decide +kernel
theorem d_J_link_60 : decode b_J_link 60 = .ok (.isub, 1) := by decide +kernel
theorem d_J_link_61 : decode b_J_link 61 = .ok (.ireturn, 1) := by decide +kernel
theorem d_J_cut_0 : decode b_J_cut 0 = .ok (.aload_n 0, 1) := by decide +kernel
theorem d_J_cut_1 : decode b_J_cut 1 = .ok (.getfield 12, 3) := by decide +kernel
theorem d_J_cut_4 : decode b_J_cut 4 = .ok (.getfield 115, 3) := by decide +kernel
theorem d_J_cut_7 : decode b_J_cut 7 = .ok (.iload_n 1, 1) := by decide +kernel
theorem d_J_cut_8 : decode b_J_cut 8 = .ok (.invokevirtual 193, 3) := by decide +kernel
theorem d_J_cut_11 : decode b_J_cut 11 = .ok (.ifCond .ne 5, 3) := by decide +kernel
theorem d_J_cut_14 : decode b_J_cut 14 = .ok (.iconst (-1), 1) := by decide +kernel
theorem d_J_cut_15 : decode b_J_cut 15 = .ok (.ireturn, 1) := by decide +kernel
theorem d_J_cut_16 : decode b_J_cut 16 = .ok (.aload_n 0, 1) := by decide +kernel
theorem d_J_cut_17 : decode b_J_cut 17 = .ok (.invokevirtual 139, 3) := by decide +kernel
theorem d_J_cut_20 : decode b_J_cut 20 = .ok (.aload_n 0, 1) := by decide +kernel
theorem d_J_cut_21 : decode b_J_cut 21 = .ok (.getfield 12, 3) := by decide +kernel
theorem d_J_cut_24 : decode b_J_cut 24 = .ok (.getfield 115, 3) := by decide +kernel
theorem d_J_cut_27 : decode b_J_cut 27 = .ok (.iload_n 1, 1) := by decide +kernel
theorem d_J_cut_28 : decode b_J_cut 28 = .ok (.invokevirtual 196, 3) := by decide +kernel
theorem d_J_cut_31 : decode b_J_cut 31 = .ok (.aload_n 0, 1) := by decide +kernel
theorem d_J_cut_32 : decode b_J_cut 32 = .ok (.invokevirtual 170, 3) := by decide +kernel
theorem d_J_cut_35 : decode b_J_cut 35 = .ok (.aload_n 0, 1) := by decide +kernel
theorem d_J_cut_36 : decode b_J_cut 36 = .ok (.getfield 12, 3) := by decide +kernel
theorem d_J_cut_39 : decode b_J_cut 39 = .ok (.getfield 115, 3) := by decide +kernel
theorem d_J_cut_42 : decode b_J_cut 42 = .ok (.getfield 186, 3) := by decide +kernel
theorem d_J_cut_45 : decode b_J_cut 45 = .ok (.ireturn, 1) := by decide +kernel
theorem d_J_by_0 : decode b_J_by 0 = .ok (.aload_n 0, 1) := by decide +kernel
theorem d_J_by_1 : decode b_J_by 1 = .ok (.getfield 12, 3) := by decide +kernel
theorem d_J_by_4 : decode b_J_by 4 = .ok (.getfield 115, 3) := by decide +kernel
theorem d_J_by_7 : decode b_J_by 7 = .ok (.astore_n 3, 1) := by decide +kernel
theorem d_J_by_8 : decode b_J_by 8 = .ok (.aload_n 3, 1) := by decide +kernel
theorem d_J_by_9 : decode b_J_by 9 = .ok (.iload_n 1, 1) := by decide +kernel
theorem d_J_by_10 : decode b_J_by 10 = .ok (.invokevirtual 193, 3) := by decide +kernel
theorem d_J_by_13 : decode b_J_by 13 = .ok (.ifCond .eq 20, 3) := by decide +kernel
theorem d_J_by_16 : decode b_J_by 16 = .ok (.iload_n 2, 1) := by decide +kernel
theorem d_J_by_17 : decode b_J_by 17 = .ok (.invokestatic 183, 3) := by decide +kernel
theorem d_J_by_20 : decode b_J_by 20 = .ok (.ifCond .eq 13, 3) := by decide +kernel
theorem d_J_by_23 : decode b_J_by 23 = .ok (.aload_n 3, 1) := by decide +kernel
theorem d_J_by_24 : decode b_J_by 24 = .ok (.getfield 199, 3) := by decide +kernel
theorem d_J_by_27 : decode b_J_by 27 = .ok (.iload_n 1, 1) := by decide +kernel
theorem d_J_by_28 : decode b_J_by 28 = .ok (.iaload, 1) := by decide +kernel
theorem d_J_by_29 : decode b_J_by 29 = .ok (.iload_n 2, 1) := by decide +kernel
theorem d_J_by_30 : decode b_J_by 30 = .ok (.if_icmp .ne 5, 3) := by decide +kernel
theorem d_J_by_33 : decode b_J_by 33 = .ok (.iconst 0, 1) := by decide +kernel
theorem d_J_by_34 : decode b_J_by 34 = .ok (.ireturn, 1) := by decide +kernel
theorem d_J_by_35 : decode b_J_by 35 = .ok (.aload_n 0, 1) := by decide +kernel
theorem d_J_by_36 : decode b_J_by 36 = .ok (.invokevirtual 139, 3) := by decide +kernel
theorem d_J_by_39 : decode b_J_by 39 = .ok (.aload_n 3, 1) := by decide +kernel
theorem d_J_by_40 : decode b_J_by 40 = .ok (.getfield 199, 3) := by decide +kernel
theorem d_J_by_43 : decode b_J_by 43 = .ok (.iload_n 1, 1) := by decide +kernel
theorem d_J_by_44 : decode b_J_by 44 = .ok (.iload_n 2, 1) := by decide +kernel
theorem d_J_by_45 : decode b_J_by 45 = .ok (.iastore, 1) := by decide +kernel
theorem d_J_by_46 : decode b_J_by 46 = .ok (.aload_n 0, 1) := by decide +kernel
theorem d_J_by_47 : decode b_J_by 47 = .ok (.invokevirtual 170, 3) := by decide +kernel
theorem d_J_by_50 : decode b_J_by 50 = .ok (.iconst 1, 1) := by decide +kernel
theorem d_J_by_51 : decode b_J_by 51 = .ok (.ireturn, 1) := by decide +kernel
theorem d_J_limit_0 : decode b_J_limit 0 = .ok (.iload_n 1, 1) := by decide +kernel
theorem d_J_limit_1 : decode b_J_limit 1 = .ok (.invokestatic 202, 3) := by decide +kernel
theorem d_J_limit_4 : decode b_J_limit 4 = .ok (.ifCond .eq 17, 3) := by decide +kernel
theorem d_J_limit_7 : decode b_J_limit 7 = .ok (.aload_n 0, 1) := by decide +kernel
theorem d_J_limit_8 : decode b_J_limit 8 = .ok (.getfield 12, 3) := by decide +kernel
theorem d_J_limit_11 : decode b_J_limit 11 = .ok (.getfield 115, 3) := by decide +kernel
theorem d_J_limit_14 : decode b_J_limit 14 = .ok (.getfield 205, 3) := by decide +kernel
theorem d_J_limit_17 : decode b_J_limit 17 = .ok (.iload_n 1, 1) := by decide +kernel
theorem d_J_limit_18 : decode b_J_limit 18 = .ok (.if_icmp .ne 5, 3) := by decide +kernel
theorem d_J_limit_21 : decode b_J_limit 21 = .ok (.iconst 0, 1) := by decide +kernel
theorem d_J_limit_22 : decode b_J_limit 22 = .ok (.ireturn, 1) := by decide +kernel
theorem d_J_limit_23 : decode b_J_limit 23 = .ok (.aload_n 0, 1) := by decide +kernel
theorem d_J_limit_24 : decode b_J_limit 24 = .ok (.invokevirtual 139, 3) := by decide +kernel
theorem d_J_limit_27 : decode b_J_limit 27 = .ok (.aload_n 0, 1) := by decide +kernel
theorem d_J_limit_28 : decode b_J_limit 28 = .ok (.getfield 12, 3) := by decide +kernel
theorem d_J_limit_31 : decode b_J_limit 31 = .ok (.getfield 115, 3) := by decide +kernel
theorem d_J_limit_34 : decode b_J_limit 34 = .ok (.iload_n 1, 1) := by decide +kernel
theorem d_J_limit_35 : decode b_J_limit 35 = .ok (.putfield 205, 3) := by decide +kernel
theorem d_J_limit_38 : decode b_J_limit 38 = .ok (.iconst 1, 1) := by decide +kernel
theorem d_J_limit_39 : decode b_J_limit 39 = .ok (.ireturn, 1) := by decide +kernel
theorem d_J_choose_0 : decode b_J_choose 0 = .ok (.aload_n 0, 1) := by decide +kernel
theorem d_J_choose_1 : decode b_J_choose 1 = .ok (.getfield 12, 3) := by decide +kernel
theorem d_J_choose_4 : decode b_J_choose 4 = .ok (.getfield 115, 3) := by decide +kernel
theorem d_J_choose_7 : decode b_J_choose 7 = .ok (.getfield 135, 3) := by decide +kernel
theorem d_J_choose_10 : decode b_J_choose 10 = .ok (.ifCond .ne 5, 3) := by decide +kernel
theorem d_J_choose_13 : decode b_J_choose 13 = .ok (.iconst (-1), 1) := by decide +kernel
theorem d_J_choose_14 : decode b_J_choose 14 = .ok (.ireturn, 1) := by decide +kernel
theorem d_J_choose_15 : decode b_J_choose 15 = .ok (.aload_n 0, 1) := by decide +kernel
theorem d_J_choose_16 : decode b_J_choose 16 = .ok (.getfield 12, 3) := by decide +kernel
theorem d_J_choose_19 : decode b_J_choose 19 = .ok (.getfield 115, 3) := by decide +kernel
theorem d_J_choose_22 : decode b_J_choose 22 = .ok (.invokevirtual 208, 3) := by decide +kernel
theorem d_J_choose_25 : decode b_J_choose 25 = .ok (.istore_n 1, 1) := by decide +kernel
theorem d_J_choose_26 : decode b_J_choose 26 = .ok (.aload_n 0, 1) := by decide +kernel
theorem d_J_choose_27 : decode b_J_choose 27 = .ok (.invokevirtual 211, 3) := by decide +kernel
theorem d_J_choose_30 : decode b_J_choose 30 = .ok (.getfield 215, 3) := by decide +kernel
theorem d_J_choose_33 : decode b_J_choose 33 = .ok (.aload_n 0, 1) := by decide +kernel
theorem d_J_choose_34 : decode b_J_choose 34 = .ok (.getfield 12, 3) := by decide +kernel
theorem d_J_choose_37 : decode b_J_choose 37 = .ok (.getfield 115, 3) := by decide +kernel
theorem d_J_choose_40 : decode b_J_choose 40 = .ok (.getfield 205, 3) := by decide +kernel
theorem d_J_choose_43 : decode b_J_choose 43 = .ok (.if_icmp .gt 7, 3) := by decide +kernel
theorem d_J_choose_46 : decode b_J_choose 46 = .ok (.iconst 1, 1) := by decide +kernel
theorem d_J_choose_47 : decode b_J_choose 47 = .ok (.goto 4, 3) := by decide +kernel
theorem d_J_choose_50 : decode b_J_choose 50 = .ok (.iconst 0, 1) := by decide +kernel
theorem d_J_choose_51 : decode b_J_choose 51 = .ok (.istore_n 2, 1) := by decide +kernel
theorem d_J_choose_52 : decode b_J_choose 52 = .ok (.aload_n 0, 1) := by decide +kernel
theorem d_J_choose_53 : decode b_J_choose 53 = .ok (.invokevirtual 139, 3) := by decide +kernel
theorem d_J_choose_56 : decode b_J_choose 56 = .ok (.iload_n 2, 1) := by decide +kernel
theorem d_J_choose_57 : decode b_J_choose 57 = .ok (.ifCond .eq 25, 3) := by decide +kernel
theorem d_J_choose_60 : decode b_J_choose 60 = .ok (.aload_n 0, 1) := by decide +kernel
theorem d_J_choose_61 : decode b_J_choose 61 = .ok (.getfield 12, 3) := by decide +kernel
theorem d_J_choose_64 : decode b_J_choose 64 = .ok (.getfield 123, 3) := by decide +kernel
theorem d_J_choose_67 : decode b_J_choose 67 = .ok (.iload_n 1, 1) := by decide +kernel
theorem d_J_choose_68 : decode b_J_choose 68 = .ok (.aload_n 0, 1) := by decide +kernel
theorem d_J_choose_69 : decode b_J_choose 69 = .ok (.iconst 0, 1) := by decide +kernel
theorem d_J_choose_70 : decode b_J_choose 70 = .ok (.invokevirtual 218, 3) := by decide +kernel
theorem d_J_choose_73 : decode b_J_choose 73 = .ok (.getfield 222, 3) := by decide +kernel
theorem d_J_choose_76 : decode b_J_choose 76 = .ok (.invokevirtual 149, 3) := by decide +kernel
theorem d_J_choose_79 : decode b_J_choose 79 = .ok (.goto 39, 3) := by decide +kernel
theorem d_J_choose_82 : decode b_J_choose 82 = .ok (.aload_n 0, 1) := by decide +kernel
theorem d_J_choose_83 : decode b_J_choose 83 = .ok (.getfield 68, 3) := by decide +kernel
theorem d_J_choose_86 : decode b_J_choose 86 = .ok (.aload_n 0, 1) := by decide +kernel
theorem d_J_choose_87 : decode b_J_choose 87 = .ok (.getfield 12, 3) := by decide +kernel
theorem d_J_choose_90 : decode b_J_choose 90 = .ok (.getfield 115, 3) := by decide +kernel
theorem d_J_choose_93 : decode b_J_choose 93 = .ok (.aload_n 0, 1) := by decide +kernel
theorem d_J_choose_94 : decode b_J_choose 94 = .ok (.invokevirtual 225, 3) := by decide +kernel
theorem d_J_choose_97 : decode b_J_choose 97 = .ok (.invokevirtual 228, 3) := by decide +kernel
theorem d_J_choose_100 : decode b_J_choose 100 = .ok (.aload_n 0, 1) := by decide +kernel
theorem d_J_choose_101 : decode b_J_choose 101 = .ok (.getfield 12, 3) := by decide +kernel
theorem d_J_choose_104 : decode b_J_choose 104 = .ok (.getfield 123, 3) := by decide +kernel
theorem d_J_choose_107 : decode b_J_choose 107 = .ok (.iload_n 1, 1) := by decide +kernel
theorem d_J_choose_108 : decode b_J_choose 108 = .ok (.aload_n 0, 1) := by decide +kernel
theorem d_J_choose_109 : decode b_J_choose 109 = .ok (.getfield 68, 3) := by decide +kernel
theorem d_J_choose_112 : decode b_J_choose 112 = .ok (.getfield 232, 3) := by decide +kernel
theorem d_J_choose_115 : decode b_J_choose 115 = .ok (.invokevirtual 149, 3) := by decide +kernel
theorem d_J_choose_118 : decode b_J_choose 118 = .ok (.iload_n 2, 1) := by decide +kernel
theorem d_J_choose_119 : decode b_J_choose 119 = .ok (.ifCond .eq 7, 3) := by decide +kernel
theorem d_J_choose_122 : decode b_J_choose 122 = .ok (.iconst 0, 1) := by decide +kernel
theorem d_J_choose_123 : decode b_J_choose 123 = .ok (.goto 4, 3) := by decide +kernel
theorem d_J_choose_126 : decode b_J_choose 126 = .ok (.iconst 1, 1) := by decide +kernel
theorem d_J_choose_127 : decode b_J_choose 127 = .ok (.ireturn, 1) := by decide +kernel
theorem d_J_step_0 : decode b_J_step 0 = .ok (.aload_n 0, 1) := by decide +kernel
theorem d_J_step_1 : decode b_J_step 1 = .ok (.getfield 12, 3) := by decide +kernel
theorem d_J_step_4 : decode b_J_step 4 = .ok (.getfield 123, 3) := by decide +kernel
theorem d_J_step_7 : decode b_J_step 7 = .ok (.invokevirtual 233, 3) := by decide +kernel
theorem d_J_step_10 : decode b_J_step 10 = .ok (.ifCond .eq 5, 3) := by decide +kernel
theorem d_J_step_13 : decode b_J_step 13 = .ok (.iconst (-1), 1) := by decide +kernel
theorem d_J_step_14 : decode b_J_step 14 = .ok (.ireturn, 1) := by decide +kernel
theorem d_J_step_15 : decode b_J_step 15 = .ok (.aload_n 0, 1) := by decide +kernel
theorem d_J_step_16 : decode b_J_step 16 = .ok (.getfield 75, 3) := by decide +kernel
theorem d_J_step_19 : decode b_J_step 19 = .ok (.aload_n 0, 1) := by decide +kernel
theorem d_J_step_20 : decode b_J_step 20 = .ok (.getfield 12, 3) := by decide +kernel
theorem d_J_step_23 : decode b_J_step 23 = .ok (.getfield 123, 3) := by decide +kernel
theorem d_J_step_26 : decode b_J_step 26 = .ok (.aload_n 0, 1) := by decide +kernel
theorem d_J_step_27 : decode b_J_step 27 = .ok (.invokevirtual 225, 3) := by decide +kernel
theorem d_J_step_30 : decode b_J_step 30 = .ok (.invokevirtual 237, 3) := by decide +kernel
theorem d_J_step_33 : decode b_J_step 33 = .ok (.istore_n 1, 1) := by decide +kernel
theorem d_J_step_34 : decode b_J_step 34 = .ok (.iload_n 1, 1) := by decide +kernel
theorem d_J_step_35 : decode b_J_step 35 = .ok (.iconst (-1), 1) := by decide +kernel
theorem d_J_step_36 : decode b_J_step 36 = .ok (.if_icmp .ne 5, 3) := by decide +kernel
theorem d_J_step_39 : decode b_J_step 39 = .ok (.iconst 0, 1) := by decide +kernel
theorem d_J_step_40 : decode b_J_step 40 = .ok (.ireturn, 1) := by decide +kernel
theorem d_J_step_41 : decode b_J_step 41 = .ok (.aload_n 0, 1) := by decide +kernel
theorem d_J_step_42 : decode b_J_step 42 = .ok (.invokevirtual 139, 3) := by decide +kernel
theorem d_J_step_45 : decode b_J_step 45 = .ok (.aload_n 0, 1) := by decide +kernel
theorem d_J_step_46 : decode b_J_step 46 = .ok (.getfield 75, 3) := by decide +kernel
theorem d_J_step_49 : decode b_J_step 49 = .ok (.aload_n 0, 1) := by decide +kernel
theorem d_J_step_50 : decode b_J_step 50 = .ok (.getfield 12, 3) := by decide +kernel
theorem d_J_step_53 : decode b_J_step 53 = .ok (.getfield 123, 3) := by decide +kernel
theorem d_J_step_56 : decode b_J_step 56 = .ok (.iload_n 1, 1) := by decide +kernel
theorem d_J_step_57 : decode b_J_step 57 = .ok (.invokevirtual 241, 3) := by decide +kernel
theorem d_J_step_60 : decode b_J_step 60 = .ok (.aload_n 0, 1) := by decide +kernel
theorem d_J_step_61 : decode b_J_step 61 = .ok (.getfield 12, 3) := by decide +kernel
theorem d_J_step_64 : decode b_J_step 64 = .ok (.getfield 123, 3) := by decide +kernel
theorem d_J_step_67 : decode b_J_step 67 = .ok (.aload_n 0, 1) := by decide +kernel
theorem d_J_step_68 : decode b_J_step 68 = .ok (.getfield 75, 3) := by decide +kernel
theorem d_J_step_71 : decode b_J_step 71 = .ok (.getfield 245, 3) := by decide +kernel
theorem d_J_step_74 : decode b_J_step 74 = .ok (.invokevirtual 248, 3) := by decide +kernel
theorem d_J_step_77 : decode b_J_step 77 = .ok (.iconst 1, 1) := by decide +kernel
theorem d_J_step_78 : decode b_J_step 78 = .ok (.iload_n 1, 1) := by decide +kernel
theorem d_J_step_79 : decode b_J_step 79 = .ok (.invokestatic 251, 3) := by decide +kernel
theorem d_J_step_82 : decode b_J_step 82 = .ok (.iadd, 1) := by decide +kernel
theorem d_J_step_83 : decode b_J_step 83 = .ok (.ireturn, 1) := by decide +kernel
theorem d_J_undo_0 : decode b_J_undo 0 = .ok (.aload_n 0, 1) := by decide +kernel
theorem d_J_undo_1 : decode b_J_undo 1 = .ok (.getfield 129, 3) := by decide +kernel
theorem d_J_undo_4 : decode b_J_undo 4 = .ok (.ifCond .ne 5, 3) := by decide +kernel
theorem d_J_undo_7 : decode b_J_undo 7 = .ok (.iconst (-1), 1) := by decide +kernel
theorem d_J_undo_8 : decode b_J_undo 8 = .ok (.ireturn, 1) := by decide +kernel
theorem d_J_undo_9 : decode b_J_undo 9 = .ok (.aload_n 0, 1) := by decide +kernel
theorem d_J_undo_10 : decode b_J_undo 10 = .ok (.dup, 1) := by decide +kernel
theorem d_J_undo_11 : decode b_J_undo 11 = .ok (.getfield 129, 3) := by decide +kernel
theorem d_J_undo_14 : decode b_J_undo 14 = .ok (.iconst 1, 1) := by decide +kernel
theorem d_J_undo_15 : decode b_J_undo 15 = .ok (.isub, 1) := by decide +kernel
theorem d_J_undo_16 : decode b_J_undo 16 = .ok (.putfield 129, 3) := by decide +kernel
theorem d_J_undo_19 : decode b_J_undo 19 = .ok (.aload_n 0, 1) := by decide +kernel
theorem d_J_undo_20 : decode b_J_undo 20 = .ok (.aload_n 0, 1) := by decide +kernel
theorem d_J_undo_21 : decode b_J_undo 21 = .ok (.getfield 255, 3) := by decide +kernel
theorem d_J_undo_24 : decode b_J_undo 24 = .ok (.bipush 8, 2) := by decide +kernel
theorem d_J_undo_26 : decode b_J_undo 26 = .ok (.iadd, 1) := by decide +kernel
theorem d_J_undo_27 : decode b_J_undo 27 = .ok (.iconst 1, 1) := by decide +kernel
theorem d_J_undo_28 : decode b_J_undo 28 = .ok (.isub, 1) := by decide +kernel
theorem d_J_undo_29 : decode b_J_undo 29 = .ok (.bipush 8, 2) := by decide +kernel
theorem d_J_undo_31 : decode b_J_undo 31 = .ok (.irem, 1) := by decide +kernel
theorem d_J_undo_32 : decode b_J_undo 32 = .ok (.putfield 255, 3) := by decide +kernel
theorem d_J_undo_35 : decode b_J_undo 35 = .ok (.aload_n 0, 1) := by decide +kernel
theorem d_J_undo_36 : decode b_J_undo 36 = .ok (.getfield 12, 3) := by decide +kernel
theorem d_J_undo_39 : decode b_J_undo 39 = .ok (.getfield 115, 3) := by decide +kernel
theorem d_J_undo_42 : decode b_J_undo 42 = .ok (.aload_n 0, 1) := by decide +kernel
theorem d_J_undo_43 : decode b_J_undo 43 = .ok (.getfield 22, 3) := by decide +kernel
theorem d_J_undo_46 : decode b_J_undo 46 = .ok (.aload_n 0, 1) := by decide +kernel
theorem d_J_undo_47 : decode b_J_undo 47 = .ok (.getfield 255, 3) := by decide +kernel
theorem d_J_undo_50 : decode b_J_undo 50 = .ok (.aaload, 1) := by decide +kernel
theorem d_J_undo_51 : decode b_J_undo 51 = .ok (.invokevirtual 119, 3) := by decide +kernel
theorem d_J_undo_54 : decode b_J_undo 54 = .ok (.aload_n 0, 1) := by decide +kernel
theorem d_J_undo_55 : decode b_J_undo 55 = .ok (.getfield 12, 3) := by decide +kernel
theorem d_J_undo_58 : decode b_J_undo 58 = .ok (.getfield 123, 3) := by decide +kernel
theorem d_J_undo_61 : decode b_J_undo 61 = .ok (.aload_n 0, 1) := by decide +kernel
theorem d_J_undo_62 : decode b_J_undo 62 = .ok (.getfield 28, 3) := by decide +kernel
theorem d_J_undo_65 : decode b_J_undo 65 = .ok (.aload_n 0, 1) := by decide +kernel
theorem d_J_undo_66 : decode b_J_undo 66 = .ok (.getfield 255, 3) := by decide +kernel
theorem d_J_undo_69 : decode b_J_undo 69 = .ok (.aaload, 1) := by decide +kernel
theorem d_J_undo_70 : decode b_J_undo 70 = .ok (.invokevirtual 248, 3) := by decide +kernel
theorem d_J_undo_73 : decode b_J_undo 73 = .ok (.aload_n 0, 1) := by decide +kernel
theorem d_J_undo_74 : decode b_J_undo 74 = .ok (.invokevirtual 132, 3) := by decide +kernel
theorem d_J_undo_77 : decode b_J_undo 77 = .ok (.aload_n 0, 1) := by decide +kernel
theorem d_J_undo_78 : decode b_J_undo 78 = .ok (.getfield 129, 3) := by decide +kernel
theorem d_J_undo_81 : decode b_J_undo 81 = .ok (.ireturn, 1) := by decide +kernel
theorem d_J_count_0 : decode b_J_count 0 = .ok (.iload_n 1, 1) := by decide +kernel
theorem d_J_count_1 : decode b_J_count 1 = .ok (.tableswitch 238 0 11 #[63, 74, 85, 96, 104, 112, 120, 143, 171, 203, 208, 219], 63) := by decide +kernel
theorem d_J_count_64 : decode b_J_count 64 = .ok (.aload_n 0, 1) := by decide +kernel
theorem d_J_count_65 : decode b_J_count 65 = .ok (.getfield 12, 3) := by decide +kernel
theorem d_J_count_68 : decode b_J_count 68 = .ok (.getfield 115, 3) := by decide +kernel
theorem d_J_count_71 : decode b_J_count 71 = .ok (.getfield 135, 3) := by decide +kernel
theorem d_J_count_74 : decode b_J_count 74 = .ok (.ireturn, 1) := by decide +kernel
theorem d_J_count_75 : decode b_J_count 75 = .ok (.aload_n 0, 1) := by decide +kernel
theorem d_J_count_76 : decode b_J_count 76 = .ok (.getfield 12, 3) := by decide +kernel
theorem d_J_count_79 : decode b_J_count 79 = .ok (.getfield 115, 3) := by decide +kernel
theorem d_J_count_82 : decode b_J_count 82 = .ok (.getfield 186, 3) := by decide +kernel
theorem d_J_count_85 : decode b_J_count 85 = .ok (.ireturn, 1) := by decide +kernel
theorem d_J_count_86 : decode b_J_count 86 = .ok (.aload_n 0, 1) := by decide +kernel
theorem d_J_count_87 : decode b_J_count 87 = .ok (.getfield 12, 3) := by decide +kernel
theorem d_J_count_90 : decode b_J_count 90 = .ok (.getfield 115, 3) := by decide +kernel
theorem d_J_count_93 : decode b_J_count 93 = .ok (.getfield 205, 3) := by decide +kernel
theorem d_J_count_96 : decode b_J_count 96 = .ok (.ireturn, 1) := by decide +kernel
theorem d_J_count_97 : decode b_J_count 97 = .ok (.aload_n 0, 1) := by decide +kernel
theorem d_J_count_98 : decode b_J_count 98 = .ok (.invokevirtual 211, 3) := by decide +kernel
theorem d_J_count_101 : decode b_J_count 101 = .ok (.getfield 258, 3) := by decide +kernel
theorem d_J_count_104 : decode b_J_count 104 = .ok (.ireturn, 1) := by decide +kernel
theorem d_J_count_105 : decode b_J_count 105 = .ok (.aload_n 0, 1) := by decide +kernel
theorem d_J_count_106 : decode b_J_count 106 = .ok (.invokevirtual 211, 3) := by decide +kernel
theorem d_J_count_109 : decode b_J_count 109 = .ok (.getfield 215, 3) := by decide +kernel
theorem d_J_count_112 : decode b_J_count 112 = .ok (.ireturn, 1) := by decide +kernel
theorem d_J_count_113 : decode b_J_count 113 = .ok (.aload_n 0, 1) := by decide +kernel
theorem d_J_count_114 : decode b_J_count 114 = .ok (.invokevirtual 225, 3) := by decide +kernel
theorem d_J_count_117 : decode b_J_count 117 = .ok (.getfield 261, 3) := by decide +kernel
theorem d_J_count_120 : decode b_J_count 120 = .ok (.ireturn, 1) := by decide +kernel
theorem d_J_count_121 : decode b_J_count 121 = .ok (.aload_n 0, 1) := by decide +kernel
theorem d_J_count_122 : decode b_J_count 122 = .ok (.aload_n 0, 1) := by decide +kernel
theorem d_J_count_123 : decode b_J_count 123 = .ok (.getfield 12, 3) := by decide +kernel
theorem d_J_count_126 : decode b_J_count 126 = .ok (.getfield 115, 3) := by decide +kernel
theorem d_J_count_129 : decode b_J_count 129 = .ok (.invokevirtual 208, 3) := by decide +kernel
theorem d_J_count_132 : decode b_J_count 132 = .ok (.invokevirtual 264, 3) := by decide +kernel
theorem d_J_count_135 : decode b_J_count 135 = .ok (.ifCond .eq 7, 3) := by decide +kernel
theorem d_J_count_138 : decode b_J_count 138 = .ok (.iconst 1, 1) := by decide +kernel
theorem d_J_count_139 : decode b_J_count 139 = .ok (.goto 4, 3) := by decide +kernel
theorem d_J_count_142 : decode b_J_count 142 = .ok (.iconst 0, 1) := by decide +kernel
theorem d_J_count_143 : decode b_J_count 143 = .ok (.ireturn, 1) := by decide +kernel
theorem d_J_count_144 : decode b_J_count 144 = .ok (.aload_n 0, 1) := by decide +kernel
theorem d_J_count_145 : decode b_J_count 145 = .ok (.getfield 12, 3) := by decide +kernel
theorem d_J_count_148 : decode b_J_count 148 = .ok (.getfield 123, 3) := by decide +kernel
theorem d_J_count_151 : decode b_J_count 151 = .ok (.invokevirtual 233, 3) := by decide +kernel
theorem d_J_count_154 : decode b_J_count 154 = .ok (.ifCond .eq 7, 3) := by decide +kernel
theorem d_J_count_157 : decode b_J_count 157 = .ok (.iconst (-1), 1) := by decide +kernel
theorem d_J_count_158 : decode b_J_count 158 = .ok (.goto 13, 3) := by decide +kernel
theorem d_J_count_161 : decode b_J_count 161 = .ok (.aload_n 0, 1) := by decide +kernel
theorem d_J_count_162 : decode b_J_count 162 = .ok (.getfield 12, 3) := by decide +kernel
theorem d_J_count_165 : decode b_J_count 165 = .ok (.getfield 123, 3) := by decide +kernel
theorem d_J_count_168 : decode b_J_count 168 = .ok (.getfield 153, 3) := by decide +kernel
theorem d_J_count_171 : decode b_J_count 171 = .ok (.ireturn, 1) := by decide +kernel
theorem d_J_count_172 : decode b_J_count 172 = .ok (.aload_n 0, 1) := by decide +kernel
theorem d_J_count_173 : decode b_J_count 173 = .ok (.getfield 12, 3) := by decide +kernel
theorem d_J_count_176 : decode b_J_count 176 = .ok (.getfield 123, 3) := by decide +kernel
theorem d_J_count_179 : decode b_J_count 179 = .ok (.invokevirtual 233, 3) := by decide +kernel
theorem d_J_count_182 : decode b_J_count 182 = .ok (.ifCond .eq 7, 3) := by decide +kernel
theorem d_J_count_185 : decode b_J_count 185 = .ok (.iconst (-1), 1) := by decide +kernel
theorem d_J_count_186 : decode b_J_count 186 = .ok (.goto 17, 3) := by decide +kernel
theorem d_J_count_189 : decode b_J_count 189 = .ok (.aload_n 0, 1) := by decide +kernel
theorem d_J_count_190 : decode b_J_count 190 = .ok (.invokevirtual 225, 3) := by decide +kernel
theorem d_J_count_193 : decode b_J_count 193 = .ok (.aload_n 0, 1) := by decide +kernel
theorem d_J_count_194 : decode b_J_count 194 = .ok (.getfield 12, 3) := by decide +kernel
theorem d_J_count_197 : decode b_J_count 197 = .ok (.getfield 123, 3) := by decide +kernel
theorem d_J_count_200 : decode b_J_count 200 = .ok (.invokevirtual 267, 3) := by decide +kernel
theorem d_J_count_203 : decode b_J_count 203 = .ok (.ireturn, 1) := by decide +kernel
theorem d_J_count_204 : decode b_J_count 204 = .ok (.aload_n 0, 1) := by decide +kernel
theorem d_J_count_205 : decode b_J_count 205 = .ok (.getfield 129, 3) := by decide +kernel
theorem d_J_count_208 : decode b_J_count 208 = .ok (.ireturn, 1) := by decide +kernel
theorem d_J_count_209 : decode b_J_count 209 = .ok (.aload_n 0, 1) := by decide +kernel
theorem d_J_count_210 : decode b_J_count 210 = .ok (.getfield 12, 3) := by decide +kernel
theorem d_J_count_213 : decode b_J_count 213 = .ok (.getfield 97, 3) := by decide +kernel
theorem d_J_count_216 : decode b_J_count 216 = .ok (.getfield 107, 3) := by decide +kernel
theorem d_J_count_219 : decode b_J_count 219 = .ok (.ireturn, 1) := by decide +kernel
theorem d_J_count_220 : decode b_J_count 220 = .ok (.aload_n 0, 1) := by decide +kernel
theorem d_J_count_221 : decode b_J_count 221 = .ok (.getfield 68, 3) := by decide +kernel
theorem d_J_count_224 : decode b_J_count 224 = .ok (.aload_n 0, 1) := by decide +kernel
theorem d_J_count_225 : decode b_J_count 225 = .ok (.getfield 12, 3) := by decide +kernel
theorem d_J_count_228 : decode b_J_count 228 = .ok (.getfield 115, 3) := by decide +kernel
theorem d_J_count_231 : decode b_J_count 231 = .ok (.aload_n 0, 1) := by decide +kernel
theorem d_J_count_232 : decode b_J_count 232 = .ok (.invokevirtual 225, 3) := by decide +kernel
theorem d_J_count_235 : decode b_J_count 235 = .ok (.invokevirtual 271, 3) := by decide +kernel
theorem d_J_count_238 : decode b_J_count 238 = .ok (.ireturn, 1) := by decide +kernel
theorem d_J_count_239 : decode b_J_count 239 = .ok (.iconst (-1), 1) := by decide +kernel
theorem d_J_count_240 : decode b_J_count 240 = .ok (.ireturn, 1) := by decide +kernel
theorem d_J_edge_0 : decode b_J_edge 0 = .ok (.aload_n 0, 1) := by decide +kernel
theorem d_J_edge_1 : decode b_J_edge 1 = .ok (.getfield 12, 3) := by decide +kernel
theorem d_J_edge_4 : decode b_J_edge 4 = .ok (.getfield 115, 3) := by decide +kernel
theorem d_J_edge_7 : decode b_J_edge 7 = .ok (.iload_n 1, 1) := by decide +kernel
theorem d_J_edge_8 : decode b_J_edge 8 = .ok (.invokevirtual 193, 3) := by decide +kernel
theorem d_J_edge_11 : decode b_J_edge 11 = .ok (.ifCond .ne 14, 3) := by decide +kernel
theorem d_J_edge_14 : decode b_J_edge 14 = .ok (.new 275, 3) := by decide +kernel
theorem d_J_edge_17 : decode b_J_edge 17 = .ok (.dup, 1) := by decide +kernel
theorem d_J_edge_18 : decode b_J_edge 18 = .ok (.ldc_w 277, 3) := by decide +kernel
theorem d_J_edge_21 : decode b_J_edge 21 = .ok (.invokespecial 279, 3) := by decide +kernel
theorem d_J_edge_24 : decode b_J_edge 24 = .ok (.athrow, 1) := by decide +kernel
theorem d_J_edge_25 : decode b_J_edge 25 = .ok (.iload_n 2, 1) := by decide +kernel
theorem d_J_edge_26 : decode b_J_edge 26 = .ok (.tableswitch 65 0 2 #[26, 39, 52], 26) := by decide +kernel
theorem d_J_edge_52 : decode b_J_edge 52 = .ok (.aload_n 0, 1) := by decide +kernel
theorem d_J_edge_53 : decode b_J_edge 53 = .ok (.getfield 12, 3) := by decide +kernel
theorem d_J_edge_56 : decode b_J_edge 56 = .ok (.getfield 115, 3) := by decide +kernel
theorem d_J_edge_59 : decode b_J_edge 59 = .ok (.getfield 282, 3) := by decide +kernel
theorem d_J_edge_62 : decode b_J_edge 62 = .ok (.iload_n 1, 1) := by decide +kernel
theorem d_J_edge_63 : decode b_J_edge 63 = .ok (.iaload, 1) := by decide +kernel
theorem d_J_edge_64 : decode b_J_edge 64 = .ok (.ireturn, 1) := by decide +kernel
theorem d_J_edge_65 : decode b_J_edge 65 = .ok (.aload_n 0, 1) := by decide +kernel
theorem d_J_edge_66 : decode b_J_edge 66 = .ok (.getfield 12, 3) := by decide +kernel
theorem d_J_edge_69 : decode b_J_edge 69 = .ok (.getfield 115, 3) := by decide +kernel
theorem d_J_edge_72 : decode b_J_edge 72 = .ok (.getfield 285, 3) := by decide +kernel
theorem d_J_edge_75 : decode b_J_edge 75 = .ok (.iload_n 1, 1) := by decide +kernel
theorem d_J_edge_76 : decode b_J_edge 76 = .ok (.iaload, 1) := by decide +kernel
theorem d_J_edge_77 : decode b_J_edge 77 = .ok (.ireturn, 1) := by decide +kernel
theorem d_J_edge_78 : decode b_J_edge 78 = .ok (.aload_n 0, 1) := by decide +kernel
theorem d_J_edge_79 : decode b_J_edge 79 = .ok (.getfield 12, 3) := by decide +kernel
theorem d_J_edge_82 : decode b_J_edge 82 = .ok (.getfield 115, 3) := by decide +kernel
theorem d_J_edge_85 : decode b_J_edge 85 = .ok (.getfield 199, 3) := by decide +kernel
theorem d_J_edge_88 : decode b_J_edge 88 = .ok (.iload_n 1, 1) := by decide +kernel
theorem d_J_edge_89 : decode b_J_edge 89 = .ok (.iaload, 1) := by decide +kernel
theorem d_J_edge_90 : decode b_J_edge 90 = .ok (.ireturn, 1) := by decide +kernel
theorem d_J_edge_91 : decode b_J_edge 91 = .ok (.new 275, 3) := by decide +kernel
theorem d_J_edge_94 : decode b_J_edge 94 = .ok (.dup, 1) := by decide +kernel
theorem d_J_edge_95 : decode b_J_edge 95 = .ok (.ldc_w 288, 3) := by decide +kernel
theorem d_J_edge_98 : decode b_J_edge 98 = .ok (.invokespecial 279, 3) := by decide +kernel
theorem d_J_edge_101 : decode b_J_edge 101 = .ok (.athrow, 1) := by decide +kernel
theorem d_J_size_0 : decode b_J_size 0 = .ok (.aload_n 0, 1) := by decide +kernel
theorem d_J_size_1 : decode b_J_size 1 = .ok (.getfield 12, 3) := by decide +kernel
theorem d_J_size_4 : decode b_J_size 4 = .ok (.getfield 115, 3) := by decide +kernel
theorem d_J_size_7 : decode b_J_size 7 = .ok (.iload_n 1, 1) := by decide +kernel
theorem d_J_size_8 : decode b_J_size 8 = .ok (.invokevirtual 290, 3) := by decide +kernel
theorem d_J_size_11 : decode b_J_size 11 = .ok (.ifCond .ne 7, 3) := by decide +kernel
theorem d_J_size_14 : decode b_J_size 14 = .ok (.ldc2_w 293, 3) := by decide +kernel
theorem d_J_size_17 : decode b_J_size 17 = .ok (.lreturn, 1) := by decide +kernel
theorem d_J_size_18 : decode b_J_size 18 = .ok (.iload_n 2, 1) := by decide +kernel
theorem d_J_size_19 : decode b_J_size 19 = .ok (.ifCond .eq 21, 3) := by decide +kernel
theorem d_J_size_22 : decode b_J_size 22 = .ok (.aload_n 0, 1) := by decide +kernel
theorem d_J_size_23 : decode b_J_size 23 = .ok (.invokevirtual 225, 3) := by decide +kernel
theorem d_J_size_26 : decode b_J_size 26 = .ok (.getfield 295, 3) := by decide +kernel
theorem d_J_size_29 : decode b_J_size 29 = .ok (.iload_n 1, 1) := by decide +kernel
theorem d_J_size_30 : decode b_J_size 30 = .ok (.baload, 1) := by decide +kernel
theorem d_J_size_31 : decode b_J_size 31 = .ok (.ifCond .eq 7, 3) := by decide +kernel
theorem d_J_size_34 : decode b_J_size 34 = .ok (.lconst 1, 1) := by decide +kernel
theorem d_J_size_35 : decode b_J_size 35 = .ok (.goto 4, 3) := by decide +kernel
theorem d_J_size_38 : decode b_J_size 38 = .ok (.lconst 0, 1) := by decide +kernel
theorem d_J_size_39 : decode b_J_size 39 = .ok (.lreturn, 1) := by decide +kernel
theorem d_J_size_40 : decode b_J_size 40 = .ok (.aload_n 0, 1) := by decide +kernel
theorem d_J_size_41 : decode b_J_size 41 = .ok (.invokevirtual 225, 3) := by decide +kernel
theorem d_J_size_44 : decode b_J_size 44 = .ok (.getfield 299, 3) := by decide +kernel
theorem d_J_size_47 : decode b_J_size 47 = .ok (.iload_n 1, 1) := by decide +kernel
theorem d_J_size_48 : decode b_J_size 48 = .ok (.laload, 1) := by decide +kernel
theorem d_J_size_49 : decode b_J_size 49 = .ok (.lreturn, 1) := by decide +kernel
theorem d_J_connected_0 : decode b_J_connected 0 = .ok (.aload_n 0, 1) := by decide +kernel
theorem d_J_connected_1 : decode b_J_connected 1 = .ok (.getfield 12, 3) := by decide +kernel
theorem d_J_connected_4 : decode b_J_connected 4 = .ok (.getfield 115, 3) := by decide +kernel
theorem d_J_connected_7 : decode b_J_connected 7 = .ok (.iload_n 1, 1) := by decide +kernel
theorem d_J_connected_8 : decode b_J_connected 8 = .ok (.invokevirtual 290, 3) := by decide +kernel
theorem d_J_connected_11 : decode b_J_connected 11 = .ok (.ifCond .eq 19, 3) := by decide +kernel
theorem d_J_connected_14 : decode b_J_connected 14 = .ok (.aload_n 0, 1) := by decide +kernel
theorem d_J_connected_15 : decode b_J_connected 15 = .ok (.invokevirtual 211, 3) := by decide +kernel
theorem d_J_connected_18 : decode b_J_connected 18 = .ok (.getfield 303, 3) := by decide +kernel
theorem d_J_connected_21 : decode b_J_connected 21 = .ok (.iload_n 1, 1) := by decide +kernel
theorem d_J_connected_22 : decode b_J_connected 22 = .ok (.baload, 1) := by decide +kernel
theorem d_J_connected_23 : decode b_J_connected 23 = .ok (.ifCond .eq 7, 3) := by decide +kernel
theorem d_J_connected_26 : decode b_J_connected 26 = .ok (.iconst 1, 1) := by decide +kernel
theorem d_J_connected_27 : decode b_J_connected 27 = .ok (.goto 4, 3) := by decide +kernel
theorem d_J_connected_30 : decode b_J_connected 30 = .ok (.iconst 0, 1) := by decide +kernel
theorem d_J_connected_31 : decode b_J_connected 31 = .ok (.ireturn, 1) := by decide +kernel
theorem d_J_joined_0 : decode b_J_joined 0 = .ok (.aload_n 0, 1) := by decide +kernel
theorem d_J_joined_1 : decode b_J_joined 1 = .ok (.getfield 12, 3) := by decide +kernel
theorem d_J_joined_4 : decode b_J_joined 4 = .ok (.getfield 115, 3) := by decide +kernel
theorem d_J_joined_7 : decode b_J_joined 7 = .ok (.iload_n 1, 1) := by decide +kernel
theorem d_J_joined_8 : decode b_J_joined 8 = .ok (.iload_n 2, 1) := by decide +kernel
theorem d_J_joined_9 : decode b_J_joined 9 = .ok (.invokevirtual 179, 3) := by decide +kernel
theorem d_J_joined_12 : decode b_J_joined 12 = .ok (.ifCond .eq 19, 3) := by decide +kernel
theorem d_J_joined_15 : decode b_J_joined 15 = .ok (.aload_n 0, 1) := by decide +kernel
theorem d_J_joined_16 : decode b_J_joined 16 = .ok (.invokevirtual 225, 3) := by decide +kernel
theorem d_J_joined_19 : decode b_J_joined 19 = .ok (.iload_n 1, 1) := by decide +kernel
theorem d_J_joined_20 : decode b_J_joined 20 = .ok (.iload_n 2, 1) := by decide +kernel
theorem d_J_joined_21 : decode b_J_joined 21 = .ok (.invokevirtual 305, 3) := by decide +kernel
theorem d_J_joined_24 : decode b_J_joined 24 = .ok (.ifCond .eq 7, 3) := by decide +kernel
theorem d_J_joined_27 : decode b_J_joined 27 = .ok (.iconst 1, 1) := by decide +kernel
theorem d_J_joined_28 : decode b_J_joined 28 = .ok (.goto 4, 3) := by decide +kernel
theorem d_J_joined_31 : decode b_J_joined 31 = .ok (.iconst 0, 1) := by decide +kernel
theorem d_J_joined_32 : decode b_J_joined 32 = .ok (.ireturn, 1) := by decide +kernel
theorem d_J_pair_0 : decode b_J_pair 0 = .ok (.iload_n 1, 1) := by decide +kernel
theorem d_J_pair_1 : decode b_J_pair 1 = .ok (.ifCond .lt 14, 3) := by decide +kernel
theorem d_J_pair_4 : decode b_J_pair 4 = .ok (.iload_n 1, 1) := by decide +kernel
theorem d_J_pair_5 : decode b_J_pair 5 = .ok (.aload_n 0, 1) := by decide +kernel
theorem d_J_pair_6 : decode b_J_pair 6 = .ok (.invokevirtual 211, 3) := by decide +kernel
theorem d_J_pair_9 : decode b_J_pair 9 = .ok (.getfield 215, 3) := by decide +kernel
theorem d_J_pair_12 : decode b_J_pair 12 = .ok (.if_icmp .lt 5, 3) := by decide +kernel
theorem d_J_pair_15 : decode b_J_pair 15 = .ok (.iconst (-1), 1) := by decide +kernel
theorem d_J_pair_16 : decode b_J_pair 16 = .ok (.ireturn, 1) := by decide +kernel
theorem d_J_pair_17 : decode b_J_pair 17 = .ok (.aload_n 0, 1) := by decide +kernel
theorem d_J_pair_18 : decode b_J_pair 18 = .ok (.getfield 51, 3) := by decide +kernel
theorem d_J_pair_21 : decode b_J_pair 21 = .ok (.iload_n 1, 1) := by decide +kernel
theorem d_J_pair_22 : decode b_J_pair 22 = .ok (.iload_n 2, 1) := by decide +kernel
theorem d_J_pair_23 : decode b_J_pair 23 = .ok (.invokevirtual 308, 3) := by decide +kernel
theorem d_J_pair_26 : decode b_J_pair 26 = .ok (.ireturn, 1) := by decide +kernel
theorem d_J_best_0 : decode b_J_best 0 = .ok (.aload_n 0, 1) := by decide +kernel
theorem d_J_best_1 : decode b_J_best 1 = .ok (.getfield 12, 3) := by decide +kernel
theorem d_J_best_4 : decode b_J_best 4 = .ok (.getfield 115, 3) := by decide +kernel
theorem d_J_best_7 : decode b_J_best 7 = .ok (.iload_n 1, 1) := by decide +kernel
theorem d_J_best_8 : decode b_J_best 8 = .ok (.invokevirtual 290, 3) := by decide +kernel
theorem d_J_best_11 : decode b_J_best 11 = .ok (.ifCond .ne 7, 3) := by decide +kernel
theorem d_J_best_14 : decode b_J_best 14 = .ok (.ldc2_w 293, 3) := by decide +kernel
theorem d_J_best_17 : decode b_J_best 17 = .ok (.lreturn, 1) := by decide +kernel
theorem d_J_best_18 : decode b_J_best 18 = .ok (.aload_n 0, 1) := by decide +kernel
theorem d_J_best_19 : decode b_J_best 19 = .ok (.iload_n 2, 1) := by decide +kernel
theorem d_J_best_20 : decode b_J_best 20 = .ok (.invokevirtual 218, 3) := by decide +kernel
theorem d_J_best_23 : decode b_J_best 23 = .ok (.astore 4, 2) := by decide +kernel
theorem d_J_best_25 : decode b_J_best 25 = .ok (.iload_n 3, 1) := by decide +kernel
theorem d_J_best_26 : decode b_J_best 26 = .ok (.tableswitch 52 0 2 #[26, 34, 43], 26) := by decide +kernel
theorem d_J_best_52 : decode b_J_best 52 = .ok (.aload 4, 2) := by decide +kernel
theorem d_J_best_54 : decode b_J_best 54 = .ok (.getfield 312, 3) := by decide +kernel
theorem d_J_best_57 : decode b_J_best 57 = .ok (.iload_n 1, 1) := by decide +kernel
theorem d_J_best_58 : decode b_J_best 58 = .ok (.laload, 1) := by decide +kernel
theorem d_J_best_59 : decode b_J_best 59 = .ok (.lreturn, 1) := by decide +kernel
theorem d_J_best_60 : decode b_J_best 60 = .ok (.aload 4, 2) := by decide +kernel
theorem d_J_best_62 : decode b_J_best 62 = .ok (.getfield 315, 3) := by decide +kernel
theorem d_J_best_65 : decode b_J_best 65 = .ok (.iload_n 1, 1) := by decide +kernel
theorem d_J_best_66 : decode b_J_best 66 = .ok (.iaload, 1) := by decide +kernel
theorem d_J_best_67 : decode b_J_best 67 = .ok (.i2l, 1) := by decide +kernel
theorem d_J_best_68 : decode b_J_best 68 = .ok (.lreturn, 1) := by decide +kernel
theorem d_J_best_69 : decode b_J_best 69 = .ok (.aload 4, 2) := by decide +kernel
theorem d_J_best_71 : decode b_J_best 71 = .ok (.getfield 222, 3) := by decide +kernel
theorem d_J_best_74 : decode b_J_best 74 = .ok (.iload_n 1, 1) := by decide +kernel
theorem d_J_best_75 : decode b_J_best 75 = .ok (.iaload, 1) := by decide +kernel
theorem d_J_best_76 : decode b_J_best 76 = .ok (.i2l, 1) := by decide +kernel
theorem d_J_best_77 : decode b_J_best 77 = .ok (.lreturn, 1) := by decide +kernel
theorem d_J_best_78 : decode b_J_best 78 = .ok (.ldc2_w 293, 3) := by decide +kernel
theorem d_J_best_81 : decode b_J_best 81 = .ok (.lreturn, 1) := by decide +kernel
theorem d_J_greedy_0 : decode b_J_greedy 0 = .ok (.aload_n 0, 1) := by decide +kernel
theorem d_J_greedy_1 : decode b_J_greedy 1 = .ok (.getfield 12, 3) := by decide +kernel
theorem d_J_greedy_4 : decode b_J_greedy 4 = .ok (.getfield 115, 3) := by decide +kernel
theorem d_J_greedy_7 : decode b_J_greedy 7 = .ok (.getfield 135, 3) := by decide +kernel
theorem d_J_greedy_10 : decode b_J_greedy 10 = .ok (.ifCond .ne 7, 3) := by decide +kernel
theorem d_J_greedy_13 : decode b_J_greedy 13 = .ok (.ldc2_w 293, 3) := by decide +kernel
theorem d_J_greedy_16 : decode b_J_greedy 16 = .ok (.lreturn, 1) := by decide +kernel
theorem d_J_greedy_17 : decode b_J_greedy 17 = .ok (.aload_n 0, 1) := by decide +kernel
theorem d_J_greedy_18 : decode b_J_greedy 18 = .ok (.getfield 68, 3) := by decide +kernel
theorem d_J_greedy_21 : decode b_J_greedy 21 = .ok (.aload_n 0, 1) := by decide +kernel
theorem d_J_greedy_22 : decode b_J_greedy 22 = .ok (.getfield 12, 3) := by decide +kernel
theorem d_J_greedy_25 : decode b_J_greedy 25 = .ok (.getfield 115, 3) := by decide +kernel
theorem d_J_greedy_28 : decode b_J_greedy 28 = .ok (.aload_n 0, 1) := by decide +kernel
theorem d_J_greedy_29 : decode b_J_greedy 29 = .ok (.invokevirtual 225, 3) := by decide +kernel
theorem d_J_greedy_32 : decode b_J_greedy 32 = .ok (.invokevirtual 228, 3) := by decide +kernel
theorem d_J_greedy_35 : decode b_J_greedy 35 = .ok (.aload_n 0, 1) := by decide +kernel
theorem d_J_greedy_36 : decode b_J_greedy 36 = .ok (.getfield 79, 3) := by decide +kernel
theorem d_J_greedy_39 : decode b_J_greedy 39 = .ok (.aload_n 0, 1) := by decide +kernel
theorem d_J_greedy_40 : decode b_J_greedy 40 = .ok (.getfield 12, 3) := by decide +kernel
theorem d_J_greedy_43 : decode b_J_greedy 43 = .ok (.getfield 115, 3) := by decide +kernel
theorem d_J_greedy_46 : decode b_J_greedy 46 = .ok (.invokevirtual 208, 3) := by decide +kernel
theorem d_J_greedy_49 : decode b_J_greedy 49 = .ok (.aload_n 0, 1) := by decide +kernel
theorem d_J_greedy_50 : decode b_J_greedy 50 = .ok (.getfield 68, 3) := by decide +kernel
theorem d_J_greedy_53 : decode b_J_greedy 53 = .ok (.getfield 232, 3) := by decide +kernel
theorem d_J_greedy_56 : decode b_J_greedy 56 = .ok (.invokevirtual 149, 3) := by decide +kernel
theorem d_J_greedy_59 : decode b_J_greedy 59 = .ok (.iload_n 1, 1) := by decide +kernel
theorem d_J_greedy_60 : decode b_J_greedy 60 = .ok (.tableswitch 85 0 2 #[28, 47, 60], 28) := by decide +kernel
theorem d_J_greedy_88 : decode b_J_greedy 88 = .ok (.aload_n 0, 1) := by decide +kernel
theorem d_J_greedy_89 : decode b_J_greedy 89 = .ok (.getfield 51, 3) := by decide +kernel
theorem d_J_greedy_92 : decode b_J_greedy 92 = .ok (.aload_n 0, 1) := by decide +kernel
theorem d_J_greedy_93 : decode b_J_greedy 93 = .ok (.getfield 79, 3) := by decide +kernel
theorem d_J_greedy_96 : decode b_J_greedy 96 = .ok (.aload_n 0, 1) := by decide +kernel
theorem d_J_greedy_97 : decode b_J_greedy 97 = .ok (.getfield 79, 3) := by decide +kernel
theorem d_J_greedy_100 : decode b_J_greedy 100 = .ok (.getfield 318, 3) := by decide +kernel
theorem d_J_greedy_103 : decode b_J_greedy 103 = .ok (.invokevirtual 321, 3) := by decide +kernel
theorem d_J_greedy_106 : decode b_J_greedy 106 = .ok (.lreturn, 1) := by decide +kernel
theorem d_J_greedy_107 : decode b_J_greedy 107 = .ok (.aload_n 0, 1) := by decide +kernel
theorem d_J_greedy_108 : decode b_J_greedy 108 = .ok (.getfield 51, 3) := by decide +kernel
theorem d_J_greedy_111 : decode b_J_greedy 111 = .ok (.aload_n 0, 1) := by decide +kernel
theorem d_J_greedy_112 : decode b_J_greedy 112 = .ok (.getfield 79, 3) := by decide +kernel
theorem d_J_greedy_115 : decode b_J_greedy 115 = .ok (.invokevirtual 267, 3) := by decide +kernel
theorem d_J_greedy_118 : decode b_J_greedy 118 = .ok (.i2l, 1) := by decide +kernel
theorem d_J_greedy_119 : decode b_J_greedy 119 = .ok (.lreturn, 1) := by decide +kernel
theorem d_J_greedy_120 : decode b_J_greedy 120 = .ok (.aload_n 0, 1) := by decide +kernel
theorem d_J_greedy_121 : decode b_J_greedy 121 = .ok (.getfield 79, 3) := by decide +kernel
theorem d_J_greedy_124 : decode b_J_greedy 124 = .ok (.getfield 153, 3) := by decide +kernel
theorem d_J_greedy_127 : decode b_J_greedy 127 = .ok (.ifCond .ne 7, 3) := by decide +kernel
theorem d_J_greedy_130 : decode b_J_greedy 130 = .ok (.lconst 0, 1) := by decide +kernel
theorem d_J_greedy_131 : decode b_J_greedy 131 = .ok (.goto 13, 3) := by decide +kernel
theorem d_J_greedy_134 : decode b_J_greedy 134 = .ok (.aload_n 0, 1) := by decide +kernel
theorem d_J_greedy_135 : decode b_J_greedy 135 = .ok (.getfield 79, 3) := by decide +kernel
theorem d_J_greedy_138 : decode b_J_greedy 138 = .ok (.getfield 325, 3) := by decide +kernel
theorem d_J_greedy_141 : decode b_J_greedy 141 = .ok (.iconst 0, 1) := by decide +kernel
theorem d_J_greedy_142 : decode b_J_greedy 142 = .ok (.iaload, 1) := by decide +kernel
theorem d_J_greedy_143 : decode b_J_greedy 143 = .ok (.i2l, 1) := by decide +kernel
theorem d_J_greedy_144 : decode b_J_greedy 144 = .ok (.lreturn, 1) := by decide +kernel
theorem d_J_greedy_145 : decode b_J_greedy 145 = .ok (.ldc2_w 293, 3) := by decide +kernel
theorem d_J_greedy_148 : decode b_J_greedy 148 = .ok (.lreturn, 1) := by decide +kernel
theorem d_J_node_0 : decode b_J_node 0 = .ok (.aload_n 0, 1) := by decide +kernel
theorem d_J_node_1 : decode b_J_node 1 = .ok (.getfield 12, 3) := by decide +kernel
theorem d_J_node_4 : decode b_J_node 4 = .ok (.getfield 123, 3) := by decide +kernel
theorem d_J_node_7 : decode b_J_node 7 = .ok (.astore_n 3, 1) := by decide +kernel
theorem d_J_node_8 : decode b_J_node 8 = .ok (.aload_n 3, 1) := by decide +kernel
theorem d_J_node_9 : decode b_J_node 9 = .ok (.invokevirtual 233, 3) := by decide +kernel
theorem d_J_node_12 : decode b_J_node 12 = .ok (.ifCond .ne 15, 3) := by decide +kernel
theorem d_J_node_15 : decode b_J_node 15 = .ok (.iload_n 1, 1) := by decide +kernel
theorem d_J_node_16 : decode b_J_node 16 = .ok (.ifCond .lt 11, 3) := by decide +kernel
theorem d_J_node_19 : decode b_J_node 19 = .ok (.iload_n 1, 1) := by decide +kernel
theorem d_J_node_20 : decode b_J_node 20 = .ok (.aload_n 3, 1) := by decide +kernel
theorem d_J_node_21 : decode b_J_node 21 = .ok (.getfield 153, 3) := by decide +kernel
theorem d_J_node_24 : decode b_J_node 24 = .ok (.if_icmp .lt 14, 3) := by decide +kernel
theorem d_J_node_27 : decode b_J_node 27 = .ok (.new 275, 3) := by decide +kernel
theorem d_J_node_30 : decode b_J_node 30 = .ok (.dup, 1) := by decide +kernel
theorem d_J_node_31 : decode b_J_node 31 = .ok (.ldc_w 326, 3) := by decide +kernel
theorem d_J_node_34 : decode b_J_node 34 = .ok (.invokespecial 279, 3) := by decide +kernel
theorem d_J_node_37 : decode b_J_node 37 = .ok (.athrow, 1) := by decide +kernel
theorem d_J_node_38 : decode b_J_node 38 = .ok (.iload_n 2, 1) := by decide +kernel
theorem d_J_node_39 : decode b_J_node 39 = .ok (.tableswitch 97 0 4 #[33, 41, 49, 64, 79], 33) := by decide +kernel
theorem d_J_node_72 : decode b_J_node 72 = .ok (.aload_n 3, 1) := by decide +kernel
theorem d_J_node_73 : decode b_J_node 73 = .ok (.getfield 328, 3) := by decide +kernel
theorem d_J_node_76 : decode b_J_node 76 = .ok (.iload_n 1, 1) := by decide +kernel
theorem d_J_node_77 : decode b_J_node 77 = .ok (.iaload, 1) := by decide +kernel
theorem d_J_node_78 : decode b_J_node 78 = .ok (.i2l, 1) := by decide +kernel
theorem d_J_node_79 : decode b_J_node 79 = .ok (.lreturn, 1) := by decide +kernel
theorem d_J_node_80 : decode b_J_node 80 = .ok (.aload_n 3, 1) := by decide +kernel
theorem d_J_node_81 : decode b_J_node 81 = .ok (.getfield 325, 3) := by decide +kernel
theorem d_J_node_84 : decode b_J_node 84 = .ok (.iload_n 1, 1) := by decide +kernel
theorem d_J_node_85 : decode b_J_node 85 = .ok (.iaload, 1) := by decide +kernel
theorem d_J_node_86 : decode b_J_node 86 = .ok (.i2l, 1) := by decide +kernel
theorem d_J_node_87 : decode b_J_node 87 = .ok (.lreturn, 1) := by decide +kernel
theorem d_J_node_88 : decode b_J_node 88 = .ok (.aload_n 0, 1) := by decide +kernel
theorem d_J_node_89 : decode b_J_node 89 = .ok (.invokevirtual 225, 3) := by decide +kernel
theorem d_J_node_92 : decode b_J_node 92 = .ok (.getfield 299, 3) := by decide +kernel
theorem d_J_node_95 : decode b_J_node 95 = .ok (.aload_n 3, 1) := by decide +kernel
theorem d_J_node_96 : decode b_J_node 96 = .ok (.getfield 328, 3) := by decide +kernel
theorem d_J_node_99 : decode b_J_node 99 = .ok (.iload_n 1, 1) := by decide +kernel
theorem d_J_node_100 : decode b_J_node 100 = .ok (.iaload, 1) := by decide +kernel
theorem d_J_node_101 : decode b_J_node 101 = .ok (.laload, 1) := by decide +kernel
theorem d_J_node_102 : decode b_J_node 102 = .ok (.lreturn, 1) := by decide +kernel
theorem d_J_node_103 : decode b_J_node 103 = .ok (.aload_n 0, 1) := by decide +kernel
theorem d_J_node_104 : decode b_J_node 104 = .ok (.invokevirtual 225, 3) := by decide +kernel
theorem d_J_node_107 : decode b_J_node 107 = .ok (.aload_n 3, 1) := by decide +kernel
theorem d_J_node_108 : decode b_J_node 108 = .ok (.aload_n 3, 1) := by decide +kernel
theorem d_J_node_109 : decode b_J_node 109 = .ok (.getfield 328, 3) := by decide +kernel
theorem d_J_node_112 : decode b_J_node 112 = .ok (.iload_n 1, 1) := by decide +kernel
theorem d_J_node_113 : decode b_J_node 113 = .ok (.iaload, 1) := by decide +kernel
theorem d_J_node_114 : decode b_J_node 114 = .ok (.invokevirtual 321, 3) := by decide +kernel
theorem d_J_node_117 : decode b_J_node 117 = .ok (.lreturn, 1) := by decide +kernel
theorem d_J_node_118 : decode b_J_node 118 = .ok (.aload_n 0, 1) := by decide +kernel
theorem d_J_node_119 : decode b_J_node 119 = .ok (.invokevirtual 225, 3) := by decide +kernel
theorem d_J_node_122 : decode b_J_node 122 = .ok (.aload_n 3, 1) := by decide +kernel
theorem d_J_node_123 : decode b_J_node 123 = .ok (.iload_n 1, 1) := by decide +kernel
theorem d_J_node_124 : decode b_J_node 124 = .ok (.invokevirtual 331, 3) := by decide +kernel
theorem d_J_node_127 : decode b_J_node 127 = .ok (.ifCond .eq 7, 3) := by decide +kernel
theorem d_J_node_130 : decode b_J_node 130 = .ok (.lconst 1, 1) := by decide +kernel
theorem d_J_node_131 : decode b_J_node 131 = .ok (.goto 4, 3) := by decide +kernel
theorem d_J_node_134 : decode b_J_node 134 = .ok (.lconst 0, 1) := by decide +kernel
theorem d_J_node_135 : decode b_J_node 135 = .ok (.lreturn, 1) := by decide +kernel
theorem d_J_node_136 : decode b_J_node 136 = .ok (.new 275, 3) := by decide +kernel
theorem d_J_node_139 : decode b_J_node 139 = .ok (.dup, 1) := by decide +kernel
theorem d_J_node_140 : decode b_J_node 140 = .ok (.ldc_w 335, 3) := by decide +kernel
theorem d_J_node_143 : decode b_J_node 143 = .ok (.invokespecial 279, 3) := by decide +kernel
theorem d_J_node_146 : decode b_J_node 146 = .ok (.athrow, 1) := by decide +kernel
theorem d_J_cost_0 : decode b_J_cost 0 = .ok (.aload_n 0, 1) := by decide +kernel
theorem d_J_cost_1 : decode b_J_cost 1 = .ok (.getfield 12, 3) := by decide +kernel
theorem d_J_cost_4 : decode b_J_cost 4 = .ok (.getfield 123, 3) := by decide +kernel
theorem d_J_cost_7 : decode b_J_cost 7 = .ok (.invokevirtual 233, 3) := by decide +kernel
theorem d_J_cost_10 : decode b_J_cost 10 = .ok (.ifCond .eq 9, 3) := by decide +kernel
theorem d_J_cost_13 : decode b_J_cost 13 = .ok (.ldc2_w 293, 3) := by decide +kernel
theorem d_J_cost_16 : decode b_J_cost 16 = .ok (.goto 27, 3) := by decide +kernel
theorem d_J_cost_19 : decode b_J_cost 19 = .ok (.aload_n 0, 1) := by decide +kernel
theorem d_J_cost_20 : decode b_J_cost 20 = .ok (.invokevirtual 225, 3) := by decide +kernel
theorem d_J_cost_23 : decode b_J_cost 23 = .ok (.aload_n 0, 1) := by decide +kernel
theorem d_J_cost_24 : decode b_J_cost 24 = .ok (.getfield 12, 3) := by decide +kernel
theorem d_J_cost_27 : decode b_J_cost 27 = .ok (.getfield 123, 3) := by decide +kernel
theorem d_J_cost_30 : decode b_J_cost 30 = .ok (.aload_n 0, 1) := by decide +kernel
theorem d_J_cost_31 : decode b_J_cost 31 = .ok (.getfield 12, 3) := by decide +kernel
theorem d_J_cost_34 : decode b_J_cost 34 = .ok (.getfield 123, 3) := by decide +kernel
theorem d_J_cost_37 : decode b_J_cost 37 = .ok (.getfield 318, 3) := by decide +kernel
theorem d_J_cost_40 : decode b_J_cost 40 = .ok (.invokevirtual 321, 3) := by decide +kernel
theorem d_J_cost_43 : decode b_J_cost 43 = .ok (.lreturn, 1) := by decide +kernel
theorem d_J_told_0 : decode b_J_told 0 = .ok (.aload_n 0, 1) := by decide +kernel
theorem d_J_told_1 : decode b_J_told 1 = .ok (.getfield 12, 3) := by decide +kernel
theorem d_J_told_4 : decode b_J_told 4 = .ok (.getfield 123, 3) := by decide +kernel
theorem d_J_told_7 : decode b_J_told 7 = .ok (.invokevirtual 233, 3) := by decide +kernel
theorem d_J_told_10 : decode b_J_told 10 = .ok (.ifCond .eq 5, 3) := by decide +kernel
theorem d_J_told_13 : decode b_J_told 13 = .ok (.iconst (-1), 1) := by decide +kernel
theorem d_J_told_14 : decode b_J_told 14 = .ok (.ireturn, 1) := by decide +kernel
theorem d_J_told_15 : decode b_J_told 15 = .ok (.aload_n 0, 1) := by decide +kernel
theorem d_J_told_16 : decode b_J_told 16 = .ok (.getfield 12, 3) := by decide +kernel
theorem d_J_told_19 : decode b_J_told 19 = .ok (.getfield 123, 3) := by decide +kernel
theorem d_J_told_22 : decode b_J_told 22 = .ok (.aload_n 0, 1) := by decide +kernel
theorem d_J_told_23 : decode b_J_told 23 = .ok (.getfield 83, 3) := by decide +kernel
theorem d_J_told_26 : decode b_J_told 26 = .ok (.invokevirtual 337, 3) := by decide +kernel
theorem d_J_told_29 : decode b_J_told 29 = .ok (.istore_n 2, 1) := by decide +kernel
theorem d_J_told_30 : decode b_J_told 30 = .ok (.iload_n 1, 1) := by decide +kernel
theorem d_J_told_31 : decode b_J_told 31 = .ok (.iconst (-1), 1) := by decide +kernel
theorem d_J_told_32 : decode b_J_told 32 = .ok (.if_icmp .ne 5, 3) := by decide +kernel
theorem d_J_told_35 : decode b_J_told 35 = .ok (.iload_n 2, 1) := by decide +kernel
theorem d_J_told_36 : decode b_J_told 36 = .ok (.ireturn, 1) := by decide +kernel
theorem d_J_told_37 : decode b_J_told 37 = .ok (.iload_n 1, 1) := by decide +kernel
theorem d_J_told_38 : decode b_J_told 38 = .ok (.ifCond .lt 8, 3) := by decide +kernel
theorem d_J_told_41 : decode b_J_told 41 = .ok (.iload_n 1, 1) := by decide +kernel
theorem d_J_told_42 : decode b_J_told 42 = .ok (.iload_n 2, 1) := by decide +kernel
theorem d_J_told_43 : decode b_J_told 43 = .ok (.if_icmp .lt 7, 3) := by decide +kernel
theorem d_J_told_46 : decode b_J_told 46 = .ok (.iconst (-1), 1) := by decide +kernel
theorem d_J_told_47 : decode b_J_told 47 = .ok (.goto 9, 3) := by decide +kernel
theorem d_J_told_50 : decode b_J_told 50 = .ok (.aload_n 0, 1) := by decide +kernel
theorem d_J_told_51 : decode b_J_told 51 = .ok (.getfield 83, 3) := by decide +kernel
theorem d_J_told_54 : decode b_J_told 54 = .ok (.iload_n 1, 1) := by decide +kernel
theorem d_J_told_55 : decode b_J_told 55 = .ok (.iaload, 1) := by decide +kernel
theorem d_J_told_56 : decode b_J_told 56 = .ok (.ireturn, 1) := by decide +kernel
theorem d_J_move_0 : decode b_J_move 0 = .ok (.aload_n 0, 1) := by decide +kernel
theorem d_J_move_1 : decode b_J_move 1 = .ok (.getfield 12, 3) := by decide +kernel
theorem d_J_move_4 : decode b_J_move 4 = .ok (.getfield 123, 3) := by decide +kernel
theorem d_J_move_7 : decode b_J_move 7 = .ok (.invokevirtual 233, 3) := by decide +kernel
theorem d_J_move_10 : decode b_J_move 10 = .ok (.ifCond .eq 7, 3) := by decide +kernel
theorem d_J_move_13 : decode b_J_move 13 = .ok (.ldc2_w 293, 3) := by decide +kernel
theorem d_J_move_16 : decode b_J_move 16 = .ok (.lreturn, 1) := by decide +kernel
theorem d_J_move_17 : decode b_J_move 17 = .ok (.aload_n 0, 1) := by decide +kernel
theorem d_J_move_18 : decode b_J_move 18 = .ok (.getfield 12, 3) := by decide +kernel
theorem d_J_move_21 : decode b_J_move 21 = .ok (.getfield 123, 3) := by decide +kernel
theorem d_J_move_24 : decode b_J_move 24 = .ok (.invokestatic 341, 3) := by decide +kernel
theorem d_J_move_27 : decode b_J_move 27 = .ok (.istore_n 2, 1) := by decide +kernel
theorem d_J_move_28 : decode b_J_move 28 = .ok (.iload_n 1, 1) := by decide +kernel
theorem d_J_move_29 : decode b_J_move 29 = .ok (.iconst (-1), 1) := by decide +kernel
theorem d_J_move_30 : decode b_J_move 30 = .ok (.if_icmp .ne 6, 3) := by decide +kernel
theorem d_J_move_33 : decode b_J_move 33 = .ok (.iload_n 2, 1) := by decide +kernel
theorem d_J_move_34 : decode b_J_move 34 = .ok (.i2l, 1) := by decide +kernel
theorem d_J_move_35 : decode b_J_move 35 = .ok (.lreturn, 1) := by decide +kernel
theorem d_J_move_36 : decode b_J_move 36 = .ok (.iload_n 1, 1) := by decide +kernel
theorem d_J_move_37 : decode b_J_move 37 = .ok (.ifCond .lt 8, 3) := by decide +kernel
theorem d_J_move_40 : decode b_J_move 40 = .ok (.iload_n 1, 1) := by decide +kernel
theorem d_J_move_41 : decode b_J_move 41 = .ok (.iload_n 2, 1) := by decide +kernel
theorem d_J_move_42 : decode b_J_move 42 = .ok (.if_icmp .lt 7, 3) := by decide +kernel
theorem d_J_move_45 : decode b_J_move 45 = .ok (.ldc2_w 293, 3) := by decide +kernel
theorem d_J_move_48 : decode b_J_move 48 = .ok (.lreturn, 1) := by decide +kernel
theorem d_J_move_49 : decode b_J_move 49 = .ok (.aload_n 0, 1) := by decide +kernel
theorem d_J_move_50 : decode b_J_move 50 = .ok (.getfield 75, 3) := by decide +kernel
theorem d_J_move_53 : decode b_J_move 53 = .ok (.aload_n 0, 1) := by decide +kernel
theorem d_J_move_54 : decode b_J_move 54 = .ok (.getfield 12, 3) := by decide +kernel
theorem d_J_move_57 : decode b_J_move 57 = .ok (.getfield 123, 3) := by decide +kernel
theorem d_J_move_60 : decode b_J_move 60 = .ok (.iload_n 1, 1) := by decide +kernel
theorem d_J_move_61 : decode b_J_move 61 = .ok (.invokevirtual 241, 3) := by decide +kernel
theorem d_J_move_64 : decode b_J_move 64 = .ok (.aload_n 0, 1) := by decide +kernel
theorem d_J_move_65 : decode b_J_move 65 = .ok (.invokevirtual 225, 3) := by decide +kernel
theorem d_J_move_68 : decode b_J_move 68 = .ok (.aload_n 0, 1) := by decide +kernel
theorem d_J_move_69 : decode b_J_move 69 = .ok (.getfield 75, 3) := by decide +kernel
theorem d_J_move_72 : decode b_J_move 72 = .ok (.getfield 245, 3) := by decide +kernel
theorem d_J_move_75 : decode b_J_move 75 = .ok (.aload_n 0, 1) := by decide +kernel
theorem d_J_move_76 : decode b_J_move 76 = .ok (.getfield 75, 3) := by decide +kernel
theorem d_J_move_79 : decode b_J_move 79 = .ok (.getfield 245, 3) := by decide +kernel
theorem d_J_move_82 : decode b_J_move 82 = .ok (.getfield 318, 3) := by decide +kernel
theorem d_J_move_85 : decode b_J_move 85 = .ok (.invokevirtual 321, 3) := by decide +kernel
theorem d_J_move_88 : decode b_J_move 88 = .ok (.lreturn, 1) := by decide +kernel
theorem d_J_steps_0 : decode b_J_steps 0 = .ok (.aload_n 0, 1) := by decide +kernel
theorem d_J_steps_1 : decode b_J_steps 1 = .ok (.getfield 12, 3) := by decide +kernel
theorem d_J_steps_4 : decode b_J_steps 4 = .ok (.getfield 123, 3) := by decide +kernel
theorem d_J_steps_7 : decode b_J_steps 7 = .ok (.invokevirtual 233, 3) := by decide +kernel
theorem d_J_steps_10 : decode b_J_steps 10 = .ok (.ifCond .eq 5, 3) := by decide +kernel
theorem d_J_steps_13 : decode b_J_steps 13 = .ok (.iconst (-1), 1) := by decide +kernel
theorem d_J_steps_14 : decode b_J_steps 14 = .ok (.ireturn, 1) := by decide +kernel
theorem d_J_steps_15 : decode b_J_steps 15 = .ok (.aload_n 0, 1) := by decide +kernel
theorem d_J_steps_16 : decode b_J_steps 16 = .ok (.getfield 79, 3) := by decide +kernel
theorem d_J_steps_19 : decode b_J_steps 19 = .ok (.aload_n 0, 1) := by decide +kernel
theorem d_J_steps_20 : decode b_J_steps 20 = .ok (.getfield 12, 3) := by decide +kernel
theorem d_J_steps_23 : decode b_J_steps 23 = .ok (.getfield 123, 3) := by decide +kernel
theorem d_J_steps_26 : decode b_J_steps 26 = .ok (.invokevirtual 248, 3) := by decide +kernel
theorem d_J_steps_29 : decode b_J_steps 29 = .ok (.iconst 0, 1) := by decide +kernel
theorem d_J_steps_30 : decode b_J_steps 30 = .ok (.istore_n 1, 1) := by decide +kernel
theorem d_J_steps_31 : decode b_J_steps 31 = .ok (.iload_n 1, 1) := by decide +kernel
theorem d_J_steps_32 : decode b_J_steps 32 = .ok (.ldc_w 344, 3) := by decide +kernel
theorem d_J_steps_35 : decode b_J_steps 35 = .ok (.if_icmp .ge 58, 3) := by decide +kernel
theorem d_J_steps_38 : decode b_J_steps 38 = .ok (.aload_n 0, 1) := by decide +kernel
theorem d_J_steps_39 : decode b_J_steps 39 = .ok (.getfield 75, 3) := by decide +kernel
theorem d_J_steps_42 : decode b_J_steps 42 = .ok (.aload_n 0, 1) := by decide +kernel
theorem d_J_steps_43 : decode b_J_steps 43 = .ok (.getfield 79, 3) := by decide +kernel
theorem d_J_steps_46 : decode b_J_steps 46 = .ok (.aload_n 0, 1) := by decide +kernel
theorem d_J_steps_47 : decode b_J_steps 47 = .ok (.invokevirtual 225, 3) := by decide +kernel
theorem d_J_steps_50 : decode b_J_steps 50 = .ok (.invokevirtual 237, 3) := by decide +kernel
theorem d_J_steps_53 : decode b_J_steps 53 = .ok (.istore_n 2, 1) := by decide +kernel
theorem d_J_steps_54 : decode b_J_steps 54 = .ok (.iload_n 2, 1) := by decide +kernel
theorem d_J_steps_55 : decode b_J_steps 55 = .ok (.iconst (-1), 1) := by decide +kernel
theorem d_J_steps_56 : decode b_J_steps 56 = .ok (.if_icmp .ne 5, 3) := by decide +kernel
theorem d_J_steps_59 : decode b_J_steps 59 = .ok (.iload_n 1, 1) := by decide +kernel
theorem d_J_steps_60 : decode b_J_steps 60 = .ok (.ireturn, 1) := by decide +kernel
theorem d_J_steps_61 : decode b_J_steps 61 = .ok (.aload_n 0, 1) := by decide +kernel
theorem d_J_steps_62 : decode b_J_steps 62 = .ok (.getfield 75, 3) := by decide +kernel
theorem d_J_steps_65 : decode b_J_steps 65 = .ok (.aload_n 0, 1) := by decide +kernel
theorem d_J_steps_66 : decode b_J_steps 66 = .ok (.getfield 79, 3) := by decide +kernel
theorem d_J_steps_69 : decode b_J_steps 69 = .ok (.iload_n 2, 1) := by decide +kernel
theorem d_J_steps_70 : decode b_J_steps 70 = .ok (.invokevirtual 241, 3) := by decide +kernel
theorem d_J_steps_73 : decode b_J_steps 73 = .ok (.aload_n 0, 1) := by decide +kernel
theorem d_J_steps_74 : decode b_J_steps 74 = .ok (.getfield 79, 3) := by decide +kernel
theorem d_J_steps_77 : decode b_J_steps 77 = .ok (.aload_n 0, 1) := by decide +kernel
theorem d_J_steps_78 : decode b_J_steps 78 = .ok (.getfield 75, 3) := by decide +kernel
theorem d_J_steps_81 : decode b_J_steps 81 = .ok (.getfield 245, 3) := by decide +kernel
theorem d_J_steps_84 : decode b_J_steps 84 = .ok (.invokevirtual 248, 3) := by decide +kernel
theorem d_J_steps_87 : decode b_J_steps 87 = .ok (.iinc 1 1, 3) := by decide +kernel
theorem d_J_steps_90 : decode b_J_steps 90 = .ok (.goto (-59), 3) := by decide +kernel
theorem d_J_steps_93 : decode b_J_steps 93 = .ok (.ldc_w 344, 3) := by decide +kernel
theorem d_J_steps_96 : decode b_J_steps 96 = .ok (.ireturn, 1) := by decide +kernel
theorem d_J_would_0 : decode b_J_would 0 = .ok (.iload_n 1, 1) := by decide +kernel
theorem d_J_would_1 : decode b_J_would 1 = .ok (.ifCond .eq 32, 3) := by decide +kernel
theorem d_J_would_4 : decode b_J_would 4 = .ok (.aload_n 0, 1) := by decide +kernel
theorem d_J_would_5 : decode b_J_would 5 = .ok (.getfield 12, 3) := by decide +kernel
theorem d_J_would_8 : decode b_J_would 8 = .ok (.getfield 115, 3) := by decide +kernel
theorem d_J_would_11 : decode b_J_would 11 = .ok (.iload_n 2, 1) := by decide +kernel
theorem d_J_would_12 : decode b_J_would 12 = .ok (.invokevirtual 193, 3) := by decide +kernel
theorem d_J_would_15 : decode b_J_would 15 = .ok (.ifCond .eq 14, 3) := by decide +kernel
theorem d_J_would_18 : decode b_J_would 18 = .ok (.iload_n 3, 1) := by decide +kernel
theorem d_J_would_19 : decode b_J_would 19 = .ok (.invokestatic 183, 3) := by decide +kernel
theorem d_J_would_22 : decode b_J_would 22 = .ok (.ifCond .eq 7, 3) := by decide +kernel
theorem d_J_would_25 : decode b_J_would 25 = .ok (.iconst 1, 1) := by decide +kernel
theorem d_J_would_26 : decode b_J_would 26 = .ok (.goto 33, 3) := by decide +kernel
theorem d_J_would_29 : decode b_J_would 29 = .ok (.iconst 0, 1) := by decide +kernel
theorem d_J_would_30 : decode b_J_would 30 = .ok (.goto 29, 3) := by decide +kernel
theorem d_J_would_33 : decode b_J_would 33 = .ok (.aload_n 0, 1) := by decide +kernel
theorem d_J_would_34 : decode b_J_would 34 = .ok (.getfield 12, 3) := by decide +kernel
theorem d_J_would_37 : decode b_J_would 37 = .ok (.getfield 115, 3) := by decide +kernel
theorem d_J_would_40 : decode b_J_would 40 = .ok (.iload_n 2, 1) := by decide +kernel
theorem d_J_would_41 : decode b_J_would 41 = .ok (.invokevirtual 173, 3) := by decide +kernel
theorem d_J_would_44 : decode b_J_would 44 = .ok (.ifCond .eq 14, 3) := by decide +kernel
theorem d_J_would_47 : decode b_J_would 47 = .ok (.iload_n 3, 1) := by decide +kernel
theorem d_J_would_48 : decode b_J_would 48 = .ok (.invokestatic 162, 3) := by decide +kernel
theorem d_J_would_51 : decode b_J_would 51 = .ok (.ifCond .eq 7, 3) := by decide +kernel
theorem d_J_would_54 : decode b_J_would 54 = .ok (.iconst 1, 1) := by decide +kernel
theorem d_J_would_55 : decode b_J_would 55 = .ok (.goto 4, 3) := by decide +kernel
theorem d_J_would_58 : decode b_J_would 58 = .ok (.iconst 0, 1) := by decide +kernel
theorem d_J_would_59 : decode b_J_would 59 = .ok (.istore 4, 2) := by decide +kernel
theorem d_J_would_61 : decode b_J_would 61 = .ok (.iload 4, 2) := by decide +kernel
theorem d_J_would_63 : decode b_J_would 63 = .ok (.ifCond .ne 7, 3) := by decide +kernel
theorem d_J_would_66 : decode b_J_would 66 = .ok (.ldc2_w 293, 3) := by decide +kernel
theorem d_J_would_69 : decode b_J_would 69 = .ok (.lreturn, 1) := by decide +kernel
theorem d_J_would_70 : decode b_J_would 70 = .ok (.aload_n 0, 1) := by decide +kernel
theorem d_J_would_71 : decode b_J_would 71 = .ok (.getfield 87, 3) := by decide +kernel
theorem d_J_would_74 : decode b_J_would 74 = .ok (.aload_n 0, 1) := by decide +kernel
theorem d_J_would_75 : decode b_J_would 75 = .ok (.getfield 12, 3) := by decide +kernel
theorem d_J_would_78 : decode b_J_would 78 = .ok (.getfield 115, 3) := by decide +kernel
theorem d_J_would_81 : decode b_J_would 81 = .ok (.invokevirtual 119, 3) := by decide +kernel
theorem d_J_would_84 : decode b_J_would 84 = .ok (.iload_n 1, 1) := by decide +kernel
theorem d_J_would_85 : decode b_J_would 85 = .ok (.ifCond .eq 16, 3) := by decide +kernel
theorem d_J_would_88 : decode b_J_would 88 = .ok (.aload_n 0, 1) := by decide +kernel
theorem d_J_would_89 : decode b_J_would 89 = .ok (.getfield 87, 3) := by decide +kernel
theorem d_J_would_92 : decode b_J_would 92 = .ok (.getfield 199, 3) := by decide +kernel
theorem d_J_would_95 : decode b_J_would 95 = .ok (.iload_n 2, 1) := by decide +kernel
theorem d_J_would_96 : decode b_J_would 96 = .ok (.iload_n 3, 1) := by decide +kernel
theorem d_J_would_97 : decode b_J_would 97 = .ok (.iastore, 1) := by decide +kernel
theorem d_J_would_98 : decode b_J_would 98 = .ok (.goto 13, 3) := by decide +kernel
theorem d_J_would_101 : decode b_J_would 101 = .ok (.aload_n 0, 1) := by decide +kernel
theorem d_J_would_102 : decode b_J_would 102 = .ok (.getfield 87, 3) := by decide +kernel
theorem d_J_would_105 : decode b_J_would 105 = .ok (.getfield 176, 3) := by decide +kernel
theorem d_J_would_108 : decode b_J_would 108 = .ok (.iload_n 2, 1) := by decide +kernel
theorem d_J_would_109 : decode b_J_would 109 = .ok (.iload_n 3, 1) := by decide +kernel
theorem d_J_would_110 : decode b_J_would 110 = .ok (.iastore, 1) := by decide +kernel
theorem d_J_would_111 : decode b_J_would 111 = .ok (.aload_n 0, 1) := by decide +kernel
theorem d_J_would_112 : decode b_J_would 112 = .ok (.invokevirtual 345, 3) := by decide +kernel
theorem d_J_would_115 : decode b_J_would 115 = .ok (.lreturn, 1) := by decide +kernel
theorem d_J_needed_0 : decode b_J_needed 0 = .ok (.iconst (-1), 1) := by decide +kernel
theorem d_J_needed_1 : decode b_J_needed 1 = .ok (.istore_n 2, 1) := by decide +kernel
theorem d_J_needed_2 : decode b_J_needed 2 = .ok (.ldc2_w 293, 3) := by decide +kernel
theorem d_J_needed_5 : decode b_J_needed 5 = .ok (.lstore_n 3, 1) := by decide +kernel
theorem d_J_needed_6 : decode b_J_needed 6 = .ok (.iconst 0, 1) := by decide +kernel
theorem d_J_needed_7 : decode b_J_needed 7 = .ok (.istore 5, 2) := by decide +kernel
theorem d_J_needed_9 : decode b_J_needed 9 = .ok (.iload 5, 2) := by decide +kernel
theorem d_J_needed_11 : decode b_J_needed 11 = .ok (.aload_n 0, 1) := by decide +kernel
theorem d_J_needed_12 : decode b_J_needed 12 = .ok (.getfield 12, 3) := by decide +kernel
theorem d_J_needed_15 : decode b_J_needed 15 = .ok (.getfield 115, 3) := by decide +kernel
theorem d_J_needed_18 : decode b_J_needed 18 = .ok (.getfield 186, 3) := by decide +kernel
theorem d_J_needed_21 : decode b_J_needed 21 = .ok (.if_icmp .ge 51, 3) := by decide +kernel
theorem d_J_needed_24 : decode b_J_needed 24 = .ok (.aload_n 0, 1) := by decide +kernel
theorem d_J_needed_25 : decode b_J_needed 25 = .ok (.getfield 87, 3) := by decide +kernel
theorem d_J_needed_28 : decode b_J_needed 28 = .ok (.aload_n 0, 1) := by decide +kernel
theorem d_J_needed_29 : decode b_J_needed 29 = .ok (.getfield 12, 3) := by decide +kernel
theorem d_J_needed_32 : decode b_J_needed 32 = .ok (.getfield 115, 3) := by decide +kernel
theorem d_J_needed_35 : decode b_J_needed 35 = .ok (.invokevirtual 119, 3) := by decide +kernel
theorem d_J_needed_38 : decode b_J_needed 38 = .ok (.aload_n 0, 1) := by decide +kernel
theorem d_J_needed_39 : decode b_J_needed 39 = .ok (.getfield 87, 3) := by decide +kernel
theorem d_J_needed_42 : decode b_J_needed 42 = .ok (.iload 5, 2) := by decide +kernel
theorem d_J_needed_44 : decode b_J_needed 44 = .ok (.invokevirtual 196, 3) := by decide +kernel
theorem d_J_needed_47 : decode b_J_needed 47 = .ok (.aload_n 0, 1) := by decide +kernel
theorem d_J_needed_48 : decode b_J_needed 48 = .ok (.invokevirtual 345, 3) := by decide +kernel
theorem d_J_needed_51 : decode b_J_needed 51 = .ok (.lstore 6, 2) := by decide +kernel
theorem d_J_needed_53 : decode b_J_needed 53 = .ok (.lload 6, 2) := by decide +kernel
theorem d_J_needed_55 : decode b_J_needed 55 = .ok (.lload_n 3, 1) := by decide +kernel
theorem d_J_needed_56 : decode b_J_needed 56 = .ok (.lcmp, 1) := by decide +kernel
theorem d_J_needed_57 : decode b_J_needed 57 = .ok (.ifCond .le 9, 3) := by decide +kernel
theorem d_J_needed_60 : decode b_J_needed 60 = .ok (.lload 6, 2) := by decide +kernel
theorem d_J_needed_62 : decode b_J_needed 62 = .ok (.lstore_n 3, 1) := by decide +kernel
theorem d_J_needed_63 : decode b_J_needed 63 = .ok (.iload 5, 2) := by decide +kernel
theorem d_J_needed_65 : decode b_J_needed 65 = .ok (.istore_n 2, 1) := by decide +kernel
theorem d_J_needed_66 : decode b_J_needed 66 = .ok (.iinc 5 1, 3) := by decide +kernel
theorem d_J_needed_69 : decode b_J_needed 69 = .ok (.goto (-60), 3) := by decide +kernel
theorem d_J_needed_72 : decode b_J_needed 72 = .ok (.iload_n 1, 1) := by decide +kernel
theorem d_J_needed_73 : decode b_J_needed 73 = .ok (.ifCond .eq 7, 3) := by decide +kernel
theorem d_J_needed_76 : decode b_J_needed 76 = .ok (.lload_n 3, 1) := by decide +kernel
theorem d_J_needed_77 : decode b_J_needed 77 = .ok (.goto 5, 3) := by decide +kernel
theorem d_J_needed_80 : decode b_J_needed 80 = .ok (.iload_n 2, 1) := by decide +kernel
theorem d_J_needed_81 : decode b_J_needed 81 = .ok (.i2l, 1) := by decide +kernel
theorem d_J_needed_82 : decode b_J_needed 82 = .ok (.lreturn, 1) := by decide +kernel
theorem d_J_image_0 : decode b_J_image 0 = .ok (.iload_n 1, 1) := by decide +kernel
theorem d_J_image_1 : decode b_J_image 1 = .ok (.ifCond .lt 8, 3) := by decide +kernel
theorem d_J_image_4 : decode b_J_image 4 = .ok (.iload_n 1, 1) := by decide +kernel
theorem d_J_image_5 : decode b_J_image 5 = .ok (.iconst 3, 1) := by decide +kernel
theorem d_J_image_6 : decode b_J_image 6 = .ok (.if_icmp .lt 5, 3) := by decide +kernel
theorem d_J_image_9 : decode b_J_image 9 = .ok (.iconst 0, 1) := by decide +kernel
theorem d_J_image_10 : decode b_J_image 10 = .ok (.ireturn, 1) := by decide +kernel
theorem d_J_image_11 : decode b_J_image 11 = .ok (.aload_n 0, 1) := by decide +kernel
theorem d_J_image_12 : decode b_J_image 12 = .ok (.getfield 16, 3) := by decide +kernel
theorem d_J_image_15 : decode b_J_image 15 = .ok (.iload_n 1, 1) := by decide +kernel
theorem d_J_image_16 : decode b_J_image 16 = .ok (.aaload, 1) := by decide +kernel
theorem d_J_image_17 : decode b_J_image 17 = .ok (.aload_n 0, 1) := by decide +kernel
theorem d_J_image_18 : decode b_J_image 18 = .ok (.getfield 12, 3) := by decide +kernel
theorem d_J_image_21 : decode b_J_image 21 = .ok (.invokevirtual 349, 3) := by decide +kernel
theorem d_J_image_24 : decode b_J_image 24 = .ok (.aload_n 0, 1) := by decide +kernel
theorem d_J_image_25 : decode b_J_image 25 = .ok (.getfield 16, 3) := by decide +kernel
theorem d_J_image_28 : decode b_J_image 28 = .ok (.iload_n 1, 1) := by decide +kernel
theorem d_J_image_29 : decode b_J_image 29 = .ok (.aaload, 1) := by decide +kernel
theorem d_J_image_30 : decode b_J_image 30 = .ok (.iconst 1, 1) := by decide +kernel
theorem d_J_image_31 : decode b_J_image 31 = .ok (.putfield 352, 3) := by decide +kernel
theorem d_J_image_34 : decode b_J_image 34 = .ok (.iconst 1, 1) := by decide +kernel
theorem d_J_image_35 : decode b_J_image 35 = .ok (.ireturn, 1) := by decide +kernel
theorem d_J_again_0 : decode b_J_again 0 = .ok (.iload_n 1, 1) := by decide +kernel
theorem d_J_again_1 : decode b_J_again 1 = .ok (.ifCond .lt 20, 3) := by decide +kernel
theorem d_J_again_4 : decode b_J_again 4 = .ok (.iload_n 1, 1) := by decide +kernel
theorem d_J_again_5 : decode b_J_again 5 = .ok (.iconst 3, 1) := by decide +kernel
theorem d_J_again_6 : decode b_J_again 6 = .ok (.if_icmp .ge 15, 3) := by decide +kernel
theorem d_J_again_9 : decode b_J_again 9 = .ok (.aload_n 0, 1) := by decide +kernel
theorem d_J_again_10 : decode b_J_again 10 = .ok (.getfield 16, 3) := by decide +kernel
theorem d_J_again_13 : decode b_J_again 13 = .ok (.iload_n 1, 1) := by decide +kernel
theorem d_J_again_14 : decode b_J_again 14 = .ok (.aaload, 1) := by decide +kernel
theorem d_J_again_15 : decode b_J_again 15 = .ok (.getfield 352, 3) := by decide +kernel
theorem d_J_again_18 : decode b_J_again 18 = .ok (.ifCond .ne 5, 3) := by decide +kernel
theorem d_J_again_21 : decode b_J_again 21 = .ok (.iconst 0, 1) := by decide +kernel
theorem d_J_again_22 : decode b_J_again 22 = .ok (.ireturn, 1) := by decide +kernel
theorem d_J_again_23 : decode b_J_again 23 = .ok (.aload_n 0, 1) := by decide +kernel
theorem d_J_again_24 : decode b_J_again 24 = .ok (.getfield 12, 3) := by decide +kernel
theorem d_J_again_27 : decode b_J_again 27 = .ok (.aload_n 0, 1) := by decide +kernel
theorem d_J_again_28 : decode b_J_again 28 = .ok (.getfield 16, 3) := by decide +kernel
theorem d_J_again_31 : decode b_J_again 31 = .ok (.iload_n 1, 1) := by decide +kernel
theorem d_J_again_32 : decode b_J_again 32 = .ok (.aaload, 1) := by decide +kernel
theorem d_J_again_33 : decode b_J_again 33 = .ok (.invokevirtual 349, 3) := by decide +kernel
theorem d_J_again_36 : decode b_J_again 36 = .ok (.aload_n 0, 1) := by decide +kernel
theorem d_J_again_37 : decode b_J_again 37 = .ok (.iconst 0, 1) := by decide +kernel
theorem d_J_again_38 : decode b_J_again 38 = .ok (.putfield 129, 3) := by decide +kernel
theorem d_J_again_41 : decode b_J_again 41 = .ok (.aload_n 0, 1) := by decide +kernel
theorem d_J_again_42 : decode b_J_again 42 = .ok (.invokevirtual 132, 3) := by decide +kernel
theorem d_J_again_45 : decode b_J_again 45 = .ok (.iconst 1, 1) := by decide +kernel
theorem d_J_again_46 : decode b_J_again 46 = .ok (.ireturn, 1) := by decide +kernel
theorem d_J_isSound_0 : decode b_J_isSound 0 = .ok (.aload_n 1, 1) := by decide +kernel
theorem d_J_isSound_1 : decode b_J_isSound 1 = .ok (.aload_n 0, 1) := by decide +kernel
theorem d_J_isSound_2 : decode b_J_isSound 2 = .ok (.getfield 12, 3) := by decide +kernel
theorem d_J_isSound_5 : decode b_J_isSound 5 = .ok (.getfield 97, 3) := by decide +kernel
theorem d_J_isSound_8 : decode b_J_isSound 8 = .ok (.invokevirtual 356, 3) := by decide +kernel
theorem d_J_isSound_11 : decode b_J_isSound 11 = .ok (.aload_n 0, 1) := by decide +kernel
theorem d_J_isSound_12 : decode b_J_isSound 12 = .ok (.getfield 12, 3) := by decide +kernel
theorem d_J_isSound_15 : decode b_J_isSound 15 = .ok (.getfield 97, 3) := by decide +kernel
theorem d_J_isSound_18 : decode b_J_isSound 18 = .ok (.iconst 0, 1) := by decide +kernel
theorem d_J_isSound_19 : decode b_J_isSound 19 = .ok (.putfield 107, 3) := by decide +kernel
theorem d_J_isSound_22 : decode b_J_isSound 22 = .ok (.aload_n 0, 1) := by decide +kernel
theorem d_J_isSound_23 : decode b_J_isSound 23 = .ok (.getfield 12, 3) := by decide +kernel
theorem d_J_isSound_26 : decode b_J_isSound 26 = .ok (.aload_n 1, 1) := by decide +kernel
theorem d_J_isSound_27 : decode b_J_isSound 27 = .ok (.getfield 362, 3) := by decide +kernel
theorem d_J_isSound_30 : decode b_J_isSound 30 = .ok (.putfield 159, 3) := by decide +kernel
theorem d_J_isSound_33 : decode b_J_isSound 33 = .ok (.aload_n 0, 1) := by decide +kernel
theorem d_J_isSound_34 : decode b_J_isSound 34 = .ok (.getfield 12, 3) := by decide +kernel
theorem d_J_isSound_37 : decode b_J_isSound 37 = .ok (.aload_n 1, 1) := by decide +kernel
theorem d_J_isSound_38 : decode b_J_isSound 38 = .ok (.getfield 363, 3) := by decide +kernel
theorem d_J_isSound_41 : decode b_J_isSound 41 = .ok (.putfield 156, 3) := by decide +kernel
theorem d_J_isSound_44 : decode b_J_isSound 44 = .ok (.aload_n 1, 1) := by decide +kernel
theorem d_J_isSound_45 : decode b_J_isSound 45 = .ok (.getfield 362, 3) := by decide +kernel
theorem d_J_isSound_48 : decode b_J_isSound 48 = .ok (.ifCond .ne 7, 3) := by decide +kernel
theorem d_J_isSound_51 : decode b_J_isSound 51 = .ok (.iconst 1, 1) := by decide +kernel
theorem d_J_isSound_52 : decode b_J_isSound 52 = .ok (.goto 4, 3) := by decide +kernel
theorem d_J_isSound_55 : decode b_J_isSound 55 = .ok (.iconst 0, 1) := by decide +kernel
theorem d_J_isSound_56 : decode b_J_isSound 56 = .ok (.ireturn, 1) := by decide +kernel
theorem d_J_remember_0 : decode b_J_remember 0 = .ok (.aload_n 0, 1) := by decide +kernel
theorem d_J_remember_1 : decode b_J_remember 1 = .ok (.getfield 22, 3) := by decide +kernel
theorem d_J_remember_4 : decode b_J_remember 4 = .ok (.aload_n 0, 1) := by decide +kernel
theorem d_J_remember_5 : decode b_J_remember 5 = .ok (.getfield 255, 3) := by decide +kernel
theorem d_J_remember_8 : decode b_J_remember 8 = .ok (.aaload, 1) := by decide +kernel
theorem d_J_remember_9 : decode b_J_remember 9 = .ok (.aload_n 0, 1) := by decide +kernel
theorem d_J_remember_10 : decode b_J_remember 10 = .ok (.getfield 12, 3) := by decide +kernel
theorem d_J_remember_13 : decode b_J_remember 13 = .ok (.getfield 115, 3) := by decide +kernel
theorem d_J_remember_16 : decode b_J_remember 16 = .ok (.invokevirtual 119, 3) := by decide +kernel
theorem d_J_remember_19 : decode b_J_remember 19 = .ok (.aload_n 0, 1) := by decide +kernel
theorem d_J_remember_20 : decode b_J_remember 20 = .ok (.getfield 28, 3) := by decide +kernel
theorem d_J_remember_23 : decode b_J_remember 23 = .ok (.aload_n 0, 1) := by decide +kernel
theorem d_J_remember_24 : decode b_J_remember 24 = .ok (.getfield 255, 3) := by decide +kernel
theorem d_J_remember_27 : decode b_J_remember 27 = .ok (.aaload, 1) := by decide +kernel
theorem d_J_remember_28 : decode b_J_remember 28 = .ok (.aload_n 0, 1) := by decide +kernel
theorem d_J_remember_29 : decode b_J_remember 29 = .ok (.getfield 12, 3) := by decide +kernel
theorem d_J_remember_32 : decode b_J_remember 32 = .ok (.getfield 123, 3) := by decide +kernel
theorem d_J_remember_35 : decode b_J_remember 35 = .ok (.invokevirtual 248, 3) := by decide +kernel
theorem d_J_remember_38 : decode b_J_remember 38 = .ok (.aload_n 0, 1) := by decide +kernel
theorem d_J_remember_39 : decode b_J_remember 39 = .ok (.aload_n 0, 1) := by decide +kernel
theorem d_J_remember_40 : decode b_J_remember 40 = .ok (.getfield 255, 3) := by decide +kernel
theorem d_J_remember_43 : decode b_J_remember 43 = .ok (.iconst 1, 1) := by decide +kernel
theorem d_J_remember_44 : decode b_J_remember 44 = .ok (.iadd, 1) := by decide +kernel
theorem d_J_remember_45 : decode b_J_remember 45 = .ok (.bipush 8, 2) := by decide +kernel
theorem d_J_remember_47 : decode b_J_remember 47 = .ok (.irem, 1) := by decide +kernel
theorem d_J_remember_48 : decode b_J_remember 48 = .ok (.putfield 255, 3) := by decide +kernel
theorem d_J_remember_51 : decode b_J_remember 51 = .ok (.aload_n 0, 1) := by decide +kernel
theorem d_J_remember_52 : decode b_J_remember 52 = .ok (.aload_n 0, 1) := by decide +kernel
theorem d_J_remember_53 : decode b_J_remember 53 = .ok (.getfield 129, 3) := by decide +kernel
theorem d_J_remember_56 : decode b_J_remember 56 = .ok (.iconst 1, 1) := by decide +kernel
theorem d_J_remember_57 : decode b_J_remember 57 = .ok (.iadd, 1) := by decide +kernel
theorem d_J_remember_58 : decode b_J_remember 58 = .ok (.bipush 8, 2) := by decide +kernel
theorem d_J_remember_60 : decode b_J_remember 60 = .ok (.invokestatic 364, 3) := by decide +kernel
theorem d_J_remember_63 : decode b_J_remember 63 = .ok (.putfield 129, 3) := by decide +kernel
theorem d_J_remember_66 : decode b_J_remember 66 = .ok (.return_, 1) := by decide +kernel
theorem d_J_changed_0 : decode b_J_changed 0 = .ok (.aload_n 0, 1) := by decide +kernel
theorem d_J_changed_1 : decode b_J_changed 1 = .ok (.getfield 12, 3) := by decide +kernel
theorem d_J_changed_4 : decode b_J_changed 4 = .ok (.getfield 123, 3) := by decide +kernel
theorem d_J_changed_7 : decode b_J_changed 7 = .ok (.invokevirtual 126, 3) := by decide +kernel
theorem d_J_changed_10 : decode b_J_changed 10 = .ok (.aload_n 0, 1) := by decide +kernel
theorem d_J_changed_11 : decode b_J_changed 11 = .ok (.invokevirtual 132, 3) := by decide +kernel
theorem d_J_changed_14 : decode b_J_changed 14 = .ok (.return_, 1) := by decide +kernel
theorem d_J_forget_0 : decode b_J_forget 0 = .ok (.aload_n 0, 1) := by decide +kernel
theorem d_J_forget_1 : decode b_J_forget 1 = .ok (.getfield 51, 3) := by decide +kernel
theorem d_J_forget_4 : decode b_J_forget 4 = .ok (.iconst 0, 1) := by decide +kernel
theorem d_J_forget_5 : decode b_J_forget 5 = .ok (.putfield 370, 3) := by decide +kernel
theorem d_J_forget_8 : decode b_J_forget 8 = .ok (.aload_n 0, 1) := by decide +kernel
theorem d_J_forget_9 : decode b_J_forget 9 = .ok (.getfield 51, 3) := by decide +kernel
theorem d_J_forget_12 : decode b_J_forget 12 = .ok (.iconst 0, 1) := by decide +kernel
theorem d_J_forget_13 : decode b_J_forget 13 = .ok (.putfield 373, 3) := by decide +kernel
theorem d_J_forget_16 : decode b_J_forget 16 = .ok (.aload_n 0, 1) := by decide +kernel
theorem d_J_forget_17 : decode b_J_forget 17 = .ok (.getfield 58, 3) := by decide +kernel
theorem d_J_forget_20 : decode b_J_forget 20 = .ok (.iconst 0, 1) := by decide +kernel
theorem d_J_forget_21 : decode b_J_forget 21 = .ok (.putfield 376, 3) := by decide +kernel
theorem d_J_forget_24 : decode b_J_forget 24 = .ok (.aload_n 0, 1) := by decide +kernel
theorem d_J_forget_25 : decode b_J_forget 25 = .ok (.getfield 62, 3) := by decide +kernel
theorem d_J_forget_28 : decode b_J_forget 28 = .ok (.iconst 0, 1) := by decide +kernel
theorem d_J_forget_29 : decode b_J_forget 29 = .ok (.putfield 376, 3) := by decide +kernel
theorem d_J_forget_32 : decode b_J_forget 32 = .ok (.return_, 1) := by decide +kernel
theorem d_J_knownSets_0 : decode b_J_knownSets 0 = .ok (.aload_n 0, 1) := by decide +kernel
theorem d_J_knownSets_1 : decode b_J_knownSets 1 = .ok (.getfield 51, 3) := by decide +kernel
theorem d_J_knownSets_4 : decode b_J_knownSets 4 = .ok (.getfield 370, 3) := by decide +kernel
theorem d_J_knownSets_7 : decode b_J_knownSets 7 = .ok (.ifCond .ne 17, 3) := by decide +kernel
theorem d_J_knownSets_10 : decode b_J_knownSets 10 = .ok (.aload_n 0, 1) := by decide +kernel
theorem d_J_knownSets_11 : decode b_J_knownSets 11 = .ok (.getfield 51, 3) := by decide +kernel
theorem d_J_knownSets_14 : decode b_J_knownSets 14 = .ok (.aload_n 0, 1) := by decide +kernel
theorem d_J_knownSets_15 : decode b_J_knownSets 15 = .ok (.getfield 12, 3) := by decide +kernel
theorem d_J_knownSets_18 : decode b_J_knownSets 18 = .ok (.getfield 115, 3) := by decide +kernel
theorem d_J_knownSets_21 : decode b_J_knownSets 21 = .ok (.invokevirtual 377, 3) := by decide +kernel
theorem d_J_knownSets_24 : decode b_J_knownSets 24 = .ok (.aload_n 0, 1) := by decide +kernel
theorem d_J_knownSets_25 : decode b_J_knownSets 25 = .ok (.getfield 51, 3) := by decide +kernel
theorem d_J_knownSets_28 : decode b_J_knownSets 28 = .ok (.areturn, 1) := by decide +kernel
theorem d_J_pairedSets_0 : decode b_J_pairedSets 0 = .ok (.aload_n 0, 1) := by decide +kernel
theorem d_J_pairedSets_1 : decode b_J_pairedSets 1 = .ok (.getfield 51, 3) := by decide +kernel
theorem d_J_pairedSets_4 : decode b_J_pairedSets 4 = .ok (.getfield 373, 3) := by decide +kernel
theorem d_J_pairedSets_7 : decode b_J_pairedSets 7 = .ok (.ifCond .ne 10, 3) := by decide +kernel
theorem d_J_pairedSets_10 : decode b_J_pairedSets 10 = .ok (.aload_n 0, 1) := by decide +kernel
theorem d_J_pairedSets_11 : decode b_J_pairedSets 11 = .ok (.invokevirtual 225, 3) := by decide +kernel
theorem d_J_pairedSets_14 : decode b_J_pairedSets 14 = .ok (.invokevirtual 380, 3) := by decide +kernel
theorem d_J_pairedSets_17 : decode b_J_pairedSets 17 = .ok (.aload_n 0, 1) := by decide +kernel
theorem d_J_pairedSets_18 : decode b_J_pairedSets 18 = .ok (.getfield 51, 3) := by decide +kernel
theorem d_J_pairedSets_21 : decode b_J_pairedSets 21 = .ok (.areturn, 1) := by decide +kernel
theorem d_J_bestOf_0 : decode b_J_bestOf 0 = .ok (.iload_n 1, 1) := by decide +kernel
theorem d_J_bestOf_1 : decode b_J_bestOf 1 = .ok (.ifCond .eq 10, 3) := by decide +kernel
theorem d_J_bestOf_4 : decode b_J_bestOf 4 = .ok (.aload_n 0, 1) := by decide +kernel
theorem d_J_bestOf_5 : decode b_J_bestOf 5 = .ok (.getfield 62, 3) := by decide +kernel
theorem d_J_bestOf_8 : decode b_J_bestOf 8 = .ok (.goto 7, 3) := by decide +kernel
theorem d_J_bestOf_11 : decode b_J_bestOf 11 = .ok (.aload_n 0, 1) := by decide +kernel
theorem d_J_bestOf_12 : decode b_J_bestOf 12 = .ok (.getfield 58, 3) := by decide +kernel
theorem d_J_bestOf_15 : decode b_J_bestOf 15 = .ok (.astore_n 2, 1) := by decide +kernel
theorem d_J_bestOf_16 : decode b_J_bestOf 16 = .ok (.aload_n 2, 1) := by decide +kernel
theorem d_J_bestOf_17 : decode b_J_bestOf 17 = .ok (.getfield 376, 3) := by decide +kernel
theorem d_J_bestOf_20 : decode b_J_bestOf 20 = .ok (.ifCond .ne 12, 3) := by decide +kernel
theorem d_J_bestOf_23 : decode b_J_bestOf 23 = .ok (.aload_n 2, 1) := by decide +kernel
theorem d_J_bestOf_24 : decode b_J_bestOf 24 = .ok (.aload_n 0, 1) := by decide +kernel
theorem d_J_bestOf_25 : decode b_J_bestOf 25 = .ok (.invokevirtual 225, 3) := by decide +kernel
theorem d_J_bestOf_28 : decode b_J_bestOf 28 = .ok (.iload_n 1, 1) := by decide +kernel
theorem d_J_bestOf_29 : decode b_J_bestOf 29 = .ok (.invokevirtual 383, 3) := by decide +kernel
theorem d_J_bestOf_32 : decode b_J_bestOf 32 = .ok (.aload_n 2, 1) := by decide +kernel
theorem d_J_bestOf_33 : decode b_J_bestOf 33 = .ok (.areturn, 1) := by decide +kernel
theorem d_J_costOfTrial_0 : decode b_J_costOfTrial 0 = .ok (.aload_n 0, 1) := by decide +kernel
theorem d_J_costOfTrial_1 : decode b_J_costOfTrial 1 = .ok (.getfield 91, 3) := by decide +kernel
theorem d_J_costOfTrial_4 : decode b_J_costOfTrial 4 = .ok (.aload_n 0, 1) := by decide +kernel
theorem d_J_costOfTrial_5 : decode b_J_costOfTrial 5 = .ok (.getfield 87, 3) := by decide +kernel
theorem d_J_costOfTrial_8 : decode b_J_costOfTrial 8 = .ok (.invokevirtual 377, 3) := by decide +kernel
theorem d_J_costOfTrial_11 : decode b_J_costOfTrial 11 = .ok (.aload_n 0, 1) := by decide +kernel
theorem d_J_costOfTrial_12 : decode b_J_costOfTrial 12 = .ok (.getfield 94, 3) := by decide +kernel
theorem d_J_costOfTrial_15 : decode b_J_costOfTrial 15 = .ok (.aload_n 0, 1) := by decide +kernel
theorem d_J_costOfTrial_16 : decode b_J_costOfTrial 16 = .ok (.getfield 91, 3) := by decide +kernel
theorem d_J_costOfTrial_19 : decode b_J_costOfTrial 19 = .ok (.iconst 0, 1) := by decide +kernel
theorem d_J_costOfTrial_20 : decode b_J_costOfTrial 20 = .ok (.invokevirtual 383, 3) := by decide +kernel
theorem d_J_costOfTrial_23 : decode b_J_costOfTrial 23 = .ok (.aload_n 0, 1) := by decide +kernel
theorem d_J_costOfTrial_24 : decode b_J_costOfTrial 24 = .ok (.getfield 94, 3) := by decide +kernel
theorem d_J_costOfTrial_27 : decode b_J_costOfTrial 27 = .ok (.getfield 312, 3) := by decide +kernel
theorem d_J_costOfTrial_30 : decode b_J_costOfTrial 30 = .ok (.aload_n 0, 1) := by decide +kernel
theorem d_J_costOfTrial_31 : decode b_J_costOfTrial 31 = .ok (.getfield 87, 3) := by decide +kernel
theorem d_J_costOfTrial_34 : decode b_J_costOfTrial 34 = .ok (.invokevirtual 208, 3) := by decide +kernel
theorem d_J_costOfTrial_37 : decode b_J_costOfTrial 37 = .ok (.laload, 1) := by decide +kernel
theorem d_J_costOfTrial_38 : decode b_J_costOfTrial 38 = .ok (.lreturn, 1) := by decide +kernel
theorem d_J_isOne_0 : decode b_J_isOne 0 = .ok (.iload_n 0, 1) := by decide +kernel
theorem d_J_isOne_1 : decode b_J_isOne 1 = .ok (.invokestatic 387, 3) := by decide +kernel
theorem d_J_isOne_4 : decode b_J_isOne 4 = .ok (.iconst 1, 1) := by decide +kernel
theorem d_J_isOne_5 : decode b_J_isOne 5 = .ok (.if_icmp .ne 7, 3) := by decide +kernel
theorem d_J_isOne_8 : decode b_J_isOne 8 = .ok (.iconst 1, 1) := by decide +kernel
theorem d_J_isOne_9 : decode b_J_isOne 9 = .ok (.goto 4, 3) := by decide +kernel
theorem d_J_isOne_12 : decode b_J_isOne 12 = .ok (.iconst 0, 1) := by decide +kernel
theorem d_J_isOne_13 : decode b_J_isOne 13 = .ok (.ireturn, 1) := by decide +kernel
theorem d_J_least_0 : decode b_J_least 0 = .ok (.iload_n 0, 1) := by decide +kernel
theorem d_J_least_1 : decode b_J_least 1 = .ok (.iload_n 0, 1) := by decide +kernel
theorem d_J_least_2 : decode b_J_least 2 = .ok (.ineg, 1) := by decide +kernel
theorem d_J_least_3 : decode b_J_least 3 = .ok (.iand, 1) := by decide +kernel
theorem d_J_least_4 : decode b_J_least 4 = .ok (.ireturn, 1) := by decide +kernel
theorem d_J_relationOf_0 : decode b_J_relationOf 0 = .ok (.iload_n 0, 1) := by decide +kernel
theorem d_J_relationOf_1 : decode b_J_relationOf 1 = .ok (.iconst 1, 1) := by decide +kernel
theorem d_J_relationOf_2 : decode b_J_relationOf 2 = .ok (.isub, 1) := by decide +kernel
theorem d_J_relationOf_3 : decode b_J_relationOf 3 = .ok (.invokestatic 387, 3) := by decide +kernel
theorem d_J_relationOf_6 : decode b_J_relationOf 6 = .ok (.ireturn, 1) := by decide +kernel
theorem d_J_firstOf_0 : decode b_J_firstOf 0 = .ok (.iload_n 0, 1) := by decide +kernel
theorem d_J_firstOf_1 : decode b_J_firstOf 1 = .ok (.invokestatic 392, 3) := by decide +kernel
theorem d_J_firstOf_4 : decode b_J_firstOf 4 = .ok (.iload_n 1, 1) := by decide +kernel
theorem d_J_firstOf_5 : decode b_J_firstOf 5 = .ok (.invokestatic 392, 3) := by decide +kernel
theorem d_J_firstOf_8 : decode b_J_firstOf 8 = .ok (.if_icmp .ge 7, 3) := by decide +kernel
theorem d_J_firstOf_11 : decode b_J_firstOf 11 = .ok (.iload_n 0, 1) := by decide +kernel
theorem d_J_firstOf_12 : decode b_J_firstOf 12 = .ok (.goto 4, 3) := by decide +kernel
theorem d_J_firstOf_15 : decode b_J_firstOf 15 = .ok (.iload_n 1, 1) := by decide +kernel
theorem d_J_firstOf_16 : decode b_J_firstOf 16 = .ok (.ireturn, 1) := by decide +kernel
theorem d_J_splitsOf_0 : decode b_J_splitsOf 0 = .ok (.iconst 1, 1) := by decide +kernel
theorem d_J_splitsOf_1 : decode b_J_splitsOf 1 = .ok (.iload_n 0, 1) := by decide +kernel
theorem d_J_splitsOf_2 : decode b_J_splitsOf 2 = .ok (.iload_n 0, 1) := by decide +kernel
theorem d_J_splitsOf_3 : decode b_J_splitsOf 3 = .ok (.invokestatic 392, 3) := by decide +kernel
theorem d_J_splitsOf_6 : decode b_J_splitsOf 6 = .ok (.ixor, 1) := by decide +kernel
theorem d_J_splitsOf_7 : decode b_J_splitsOf 7 = .ok (.invokestatic 387, 3) := by decide +kernel
theorem d_J_splitsOf_10 : decode b_J_splitsOf 10 = .ok (.ishl, 1) := by decide +kernel
theorem d_J_splitsOf_11 : decode b_J_splitsOf 11 = .ok (.iconst 1, 1) := by decide +kernel
theorem d_J_splitsOf_12 : decode b_J_splitsOf 12 = .ok (.isub, 1) := by decide +kernel
theorem d_J_splitsOf_13 : decode b_J_splitsOf 13 = .ok (.ireturn, 1) := by decide +kernel
theorem d_J_nextPart_0 : decode b_J_nextPart 0 = .ok (.iload_n 0, 1) := by decide +kernel
theorem d_J_nextPart_1 : decode b_J_nextPart 1 = .ok (.invokestatic 392, 3) := by decide +kernel
theorem d_J_nextPart_4 : decode b_J_nextPart 4 = .ok (.istore_n 2, 1) := by decide +kernel
theorem d_J_nextPart_5 : decode b_J_nextPart 5 = .ok (.iload_n 0, 1) := by decide +kernel
theorem d_J_nextPart_6 : decode b_J_nextPart 6 = .ok (.iload_n 2, 1) := by decide +kernel
theorem d_J_nextPart_7 : decode b_J_nextPart 7 = .ok (.ixor, 1) := by decide +kernel
theorem d_J_nextPart_8 : decode b_J_nextPart 8 = .ok (.istore_n 3, 1) := by decide +kernel
theorem d_J_nextPart_9 : decode b_J_nextPart 9 = .ok (.iload_n 2, 1) := by decide +kernel
theorem d_J_nextPart_10 : decode b_J_nextPart 10 = .ok (.iload_n 1, 1) := by decide +kernel
theorem d_J_nextPart_11 : decode b_J_nextPart 11 = .ok (.iload_n 2, 1) := by decide +kernel
theorem d_J_nextPart_12 : decode b_J_nextPart 12 = .ok (.ixor, 1) := by decide +kernel
theorem d_J_nextPart_13 : decode b_J_nextPart 13 = .ok (.iload_n 3, 1) := by decide +kernel
theorem d_J_nextPart_14 : decode b_J_nextPart 14 = .ok (.isub, 1) := by decide +kernel
theorem d_J_nextPart_15 : decode b_J_nextPart 15 = .ok (.iload_n 3, 1) := by decide +kernel
theorem d_J_nextPart_16 : decode b_J_nextPart 16 = .ok (.iand, 1) := by decide +kernel
theorem d_J_nextPart_17 : decode b_J_nextPart 17 = .ok (.ior, 1) := by decide +kernel
theorem d_J_nextPart_18 : decode b_J_nextPart 18 = .ok (.ireturn, 1) := by decide +kernel
theorem d_J_isBetter_0 : decode b_J_isBetter 0 = .ok (.iload_n 0, 1) := by decide +kernel
theorem d_J_isBetter_1 : decode b_J_isBetter 1 = .ok (.iload_n 3, 1) := by decide +kernel
theorem d_J_isBetter_2 : decode b_J_isBetter 2 = .ok (.if_icmp .lt 15, 3) := by decide +kernel
theorem d_J_isBetter_5 : decode b_J_isBetter 5 = .ok (.iload_n 0, 1) := by decide +kernel
theorem d_J_isBetter_6 : decode b_J_isBetter 6 = .ok (.iload_n 3, 1) := by decide +kernel
theorem d_J_isBetter_7 : decode b_J_isBetter 7 = .ok (.if_icmp .ne 14, 3) := by decide +kernel
theorem d_J_isBetter_10 : decode b_J_isBetter 10 = .ok (.lload_n 1, 1) := by decide +kernel
theorem d_J_isBetter_11 : decode b_J_isBetter 11 = .ok (.lload 4, 2) := by decide +kernel
theorem d_J_isBetter_13 : decode b_J_isBetter 13 = .ok (.lcmp, 1) := by decide +kernel
theorem d_J_isBetter_14 : decode b_J_isBetter 14 = .ok (.ifCond .ge 7, 3) := by decide +kernel
theorem d_J_isBetter_17 : decode b_J_isBetter 17 = .ok (.iconst 1, 1) := by decide +kernel
theorem d_J_isBetter_18 : decode b_J_isBetter 18 = .ok (.goto 4, 3) := by decide +kernel
theorem d_J_isBetter_21 : decode b_J_isBetter 21 = .ok (.iconst 0, 1) := by decide +kernel
theorem d_J_isBetter_22 : decode b_J_isBetter 22 = .ok (.ireturn, 1) := by decide +kernel
theorem d_B_init_0 : decode b_B_init 0 = .ok (.aload_n 0, 1) := by decide +kernel
theorem d_B_init_1 : decode b_B_init 1 = .ok (.invokespecial 3, 3) := by decide +kernel
theorem d_B_init_4 : decode b_B_init 4 = .ok (.aload_n 0, 1) := by decide +kernel
theorem d_B_init_5 : decode b_B_init 5 = .ok (.sipush 256, 3) := by decide +kernel
theorem d_B_init_8 : decode b_B_init 8 = .ok (.newarray .long, 2) := by decide +kernel
theorem d_B_init_10 : decode b_B_init 10 = .ok (.putfield 9, 3) := by decide +kernel
theorem d_B_init_13 : decode b_B_init 13 = .ok (.aload_n 0, 1) := by decide +kernel
theorem d_B_init_14 : decode b_B_init 14 = .ok (.sipush 256, 3) := by decide +kernel
theorem d_B_init_17 : decode b_B_init 17 = .ok (.newarray .int, 2) := by decide +kernel
theorem d_B_init_19 : decode b_B_init 19 = .ok (.putfield 15, 3) := by decide +kernel
theorem d_B_init_22 : decode b_B_init 22 = .ok (.aload_n 0, 1) := by decide +kernel
theorem d_B_init_23 : decode b_B_init 23 = .ok (.sipush 256, 3) := by decide +kernel
theorem d_B_init_26 : decode b_B_init 26 = .ok (.newarray .int, 2) := by decide +kernel
theorem d_B_init_28 : decode b_B_init 28 = .ok (.putfield 19, 3) := by decide +kernel
theorem d_B_init_31 : decode b_B_init 31 = .ok (.return_, 1) := by decide +kernel
theorem d_B_find_0 : decode b_B_find 0 = .ok (.iconst 1, 1) := by decide +kernel
theorem d_B_find_1 : decode b_B_find 1 = .ok (.istore_n 3, 1) := by decide +kernel
theorem d_B_find_2 : decode b_B_find 2 = .ok (.iload_n 3, 1) := by decide +kernel
theorem d_B_find_3 : decode b_B_find 3 = .ok (.aload_n 1, 1) := by decide +kernel
theorem d_B_find_4 : decode b_B_find 4 = .ok (.getfield 22, 3) := by decide +kernel
theorem d_B_find_7 : decode b_B_find 7 = .ok (.if_icmp .ge 16, 3) := by decide +kernel
theorem d_B_find_10 : decode b_B_find 10 = .ok (.aload_n 0, 1) := by decide +kernel
theorem d_B_find_11 : decode b_B_find 11 = .ok (.iload_n 3, 1) := by decide +kernel
theorem d_B_find_12 : decode b_B_find 12 = .ok (.aload_n 1, 1) := by decide +kernel
theorem d_B_find_13 : decode b_B_find 13 = .ok (.iload_n 2, 1) := by decide +kernel
theorem d_B_find_14 : decode b_B_find 14 = .ok (.invokevirtual 28, 3) := by decide +kernel
theorem d_B_find_17 : decode b_B_find 17 = .ok (.iinc 3 1, 3) := by decide +kernel
theorem d_B_find_20 : decode b_B_find 20 = .ok (.goto (-18), 3) := by decide +kernel
theorem d_B_find_23 : decode b_B_find 23 = .ok (.aload_n 0, 1) := by decide +kernel
theorem d_B_find_24 : decode b_B_find 24 = .ok (.iconst 1, 1) := by decide +kernel
theorem d_B_find_25 : decode b_B_find 25 = .ok (.putfield 32, 3) := by decide +kernel
theorem d_B_find_28 : decode b_B_find 28 = .ok (.return_, 1) := by decide +kernel
theorem d_B_findOf_0 : decode b_B_findOf 0 = .ok (.aload_n 0, 1) := by decide +kernel
theorem d_B_findOf_1 : decode b_B_findOf 1 = .ok (.getfield 9, 3) := by decide +kernel
theorem d_B_findOf_4 : decode b_B_findOf 4 = .ok (.iload_n 1, 1) := by decide +kernel
theorem d_B_findOf_5 : decode b_B_findOf 5 = .ok (.lconst 0, 1) := by decide +kernel
theorem d_B_findOf_6 : decode b_B_findOf 6 = .ok (.lastore, 1) := by decide +kernel
theorem d_B_findOf_7 : decode b_B_findOf 7 = .ok (.aload_n 0, 1) := by decide +kernel
theorem d_B_findOf_8 : decode b_B_findOf 8 = .ok (.getfield 15, 3) := by decide +kernel
theorem d_B_findOf_11 : decode b_B_findOf 11 = .ok (.iload_n 1, 1) := by decide +kernel
theorem d_B_findOf_12 : decode b_B_findOf 12 = .ok (.iconst 0, 1) := by decide +kernel
theorem d_B_findOf_13 : decode b_B_findOf 13 = .ok (.iastore, 1) := by decide +kernel
theorem d_B_findOf_14 : decode b_B_findOf 14 = .ok (.aload_n 0, 1) := by decide +kernel
theorem d_B_findOf_15 : decode b_B_findOf 15 = .ok (.getfield 19, 3) := by decide +kernel
theorem d_B_findOf_18 : decode b_B_findOf 18 = .ok (.iload_n 1, 1) := by decide +kernel
theorem d_B_findOf_19 : decode b_B_findOf 19 = .ok (.iconst 0, 1) := by decide +kernel
theorem d_B_findOf_20 : decode b_B_findOf 20 = .ok (.iastore, 1) := by decide +kernel
theorem d_B_findOf_21 : decode b_B_findOf 21 = .ok (.iload_n 1, 1) := by decide +kernel
theorem d_B_findOf_22 : decode b_B_findOf 22 = .ok (.invokestatic 36, 3) := by decide +kernel
theorem d_B_findOf_25 : decode b_B_findOf 25 = .ok (.istore 4, 2) := by decide +kernel
theorem d_B_findOf_27 : decode b_B_findOf 27 = .ok (.iload_n 1, 1) := by decide +kernel
theorem d_B_findOf_28 : decode b_B_findOf 28 = .ok (.invokestatic 40, 3) := by decide +kernel
theorem d_B_findOf_31 : decode b_B_findOf 31 = .ok (.istore 5, 2) := by decide +kernel
theorem d_B_findOf_33 : decode b_B_findOf 33 = .ok (.iconst 0, 1) := by decide +kernel
theorem d_B_findOf_34 : decode b_B_findOf 34 = .ok (.istore 6, 2) := by decide +kernel
theorem d_B_findOf_36 : decode b_B_findOf 36 = .ok (.iload 6, 2) := by decide +kernel
theorem d_B_findOf_38 : decode b_B_findOf 38 = .ok (.iload 4, 2) := by decide +kernel
theorem d_B_findOf_40 : decode b_B_findOf 40 = .ok (.if_icmp .ge 47, 3) := by decide +kernel
theorem d_B_findOf_43 : decode b_B_findOf 43 = .ok (.iload_n 3, 1) := by decide +kernel
theorem d_B_findOf_44 : decode b_B_findOf 44 = .ok (.ifCond .eq 21, 3) := by decide +kernel
theorem d_B_findOf_47 : decode b_B_findOf 47 = .ok (.iload 5, 2) := by decide +kernel
theorem d_B_findOf_49 : decode b_B_findOf 49 = .ok (.invokestatic 43, 3) := by decide +kernel
theorem d_B_findOf_52 : decode b_B_findOf 52 = .ok (.ifCond .ne 13, 3) := by decide +kernel
theorem d_B_findOf_55 : decode b_B_findOf 55 = .ok (.iload_n 1, 1) := by decide +kernel
theorem d_B_findOf_56 : decode b_B_findOf 56 = .ok (.iload 5, 2) := by decide +kernel
theorem d_B_findOf_58 : decode b_B_findOf 58 = .ok (.ixor, 1) := by decide +kernel
theorem d_B_findOf_59 : decode b_B_findOf 59 = .ok (.invokestatic 43, 3) := by decide +kernel
theorem d_B_findOf_62 : decode b_B_findOf 62 = .ok (.ifCond .eq 11, 3) := by decide +kernel
theorem d_B_findOf_65 : decode b_B_findOf 65 = .ok (.aload_n 0, 1) := by decide +kernel
theorem d_B_findOf_66 : decode b_B_findOf 66 = .ok (.iload_n 1, 1) := by decide +kernel
theorem d_B_findOf_67 : decode b_B_findOf 67 = .ok (.iload 5, 2) := by decide +kernel
theorem d_B_findOf_69 : decode b_B_findOf 69 = .ok (.aload_n 2, 1) := by decide +kernel
theorem d_B_findOf_70 : decode b_B_findOf 70 = .ok (.invokevirtual 47, 3) := by decide +kernel
theorem d_B_findOf_73 : decode b_B_findOf 73 = .ok (.iload_n 1, 1) := by decide +kernel
theorem d_B_findOf_74 : decode b_B_findOf 74 = .ok (.iload 5, 2) := by decide +kernel
theorem d_B_findOf_76 : decode b_B_findOf 76 = .ok (.invokestatic 51, 3) := by decide +kernel
theorem d_B_findOf_79 : decode b_B_findOf 79 = .ok (.istore 5, 2) := by decide +kernel
theorem d_B_findOf_81 : decode b_B_findOf 81 = .ok (.iinc 6 1, 3) := by decide +kernel
theorem d_B_findOf_84 : decode b_B_findOf 84 = .ok (.goto (-48), 3) := by decide +kernel
theorem d_B_findOf_87 : decode b_B_findOf 87 = .ok (.return_, 1) := by decide +kernel
theorem d_B_weigh_0 : decode b_B_weigh 0 = .ok (.iload_n 1, 1) := by decide +kernel
theorem d_B_weigh_1 : decode b_B_weigh 1 = .ok (.iload_n 2, 1) := by decide +kernel
theorem d_B_weigh_2 : decode b_B_weigh 2 = .ok (.ixor, 1) := by decide +kernel
theorem d_B_weigh_3 : decode b_B_weigh 3 = .ok (.istore 4, 2) := by decide +kernel
theorem d_B_weigh_5 : decode b_B_weigh 5 = .ok (.aload_n 0, 1) := by decide +kernel
theorem d_B_weigh_6 : decode b_B_weigh 6 = .ok (.getfield 15, 3) := by decide +kernel
theorem d_B_weigh_9 : decode b_B_weigh 9 = .ok (.iload_n 2, 1) := by decide +kernel
theorem d_B_weigh_10 : decode b_B_weigh 10 = .ok (.iaload, 1) := by decide +kernel
theorem d_B_weigh_11 : decode b_B_weigh 11 = .ok (.aload_n 0, 1) := by decide +kernel
theorem d_B_weigh_12 : decode b_B_weigh 12 = .ok (.getfield 15, 3) := by decide +kernel
theorem d_B_weigh_15 : decode b_B_weigh 15 = .ok (.iload 4, 2) := by decide +kernel
theorem d_B_weigh_17 : decode b_B_weigh 17 = .ok (.iaload, 1) := by decide +kernel
theorem d_B_weigh_18 : decode b_B_weigh 18 = .ok (.iadd, 1) := by decide +kernel
theorem d_B_weigh_19 : decode b_B_weigh 19 = .ok (.aload_n 3, 1) := by decide +kernel
theorem d_B_weigh_20 : decode b_B_weigh 20 = .ok (.iload_n 2, 1) := by decide +kernel
theorem d_B_weigh_21 : decode b_B_weigh 21 = .ok (.iload 4, 2) := by decide +kernel
theorem d_B_weigh_23 : decode b_B_weigh 23 = .ok (.invokevirtual 55, 3) := by decide +kernel
theorem d_B_weigh_26 : decode b_B_weigh 26 = .ok (.ifCond .eq 7, 3) := by decide +kernel
theorem d_B_weigh_29 : decode b_B_weigh 29 = .ok (.iconst 0, 1) := by decide +kernel
theorem d_B_weigh_30 : decode b_B_weigh 30 = .ok (.goto 4, 3) := by decide +kernel
theorem d_B_weigh_33 : decode b_B_weigh 33 = .ok (.iconst 1, 1) := by decide +kernel
theorem d_B_weigh_34 : decode b_B_weigh 34 = .ok (.iadd, 1) := by decide +kernel
theorem d_B_weigh_35 : decode b_B_weigh 35 = .ok (.istore 5, 2) := by decide +kernel
theorem d_B_weigh_37 : decode b_B_weigh 37 = .ok (.ldc2_w 59, 3) := by decide +kernel
theorem d_B_weigh_40 : decode b_B_weigh 40 = .ok (.aload_n 0, 1) := by decide +kernel
theorem d_B_weigh_41 : decode b_B_weigh 41 = .ok (.getfield 9, 3) := by decide +kernel
theorem d_B_weigh_44 : decode b_B_weigh 44 = .ok (.iload_n 2, 1) := by decide +kernel
theorem d_B_weigh_45 : decode b_B_weigh 45 = .ok (.laload, 1) := by decide +kernel
theorem d_B_weigh_46 : decode b_B_weigh 46 = .ok (.aload_n 0, 1) := by decide +kernel
theorem d_B_weigh_47 : decode b_B_weigh 47 = .ok (.getfield 9, 3) := by decide +kernel
theorem d_B_weigh_50 : decode b_B_weigh 50 = .ok (.iload 4, 2) := by decide +kernel
theorem d_B_weigh_52 : decode b_B_weigh 52 = .ok (.laload, 1) := by decide +kernel
theorem d_B_weigh_53 : decode b_B_weigh 53 = .ok (.ladd, 1) := by decide +kernel
theorem d_B_weigh_54 : decode b_B_weigh 54 = .ok (.aload_n 3, 1) := by decide +kernel
theorem d_B_weigh_55 : decode b_B_weigh 55 = .ok (.getfield 61, 3) := by decide +kernel
theorem d_B_weigh_58 : decode b_B_weigh 58 = .ok (.iload_n 1, 1) := by decide +kernel
theorem d_B_weigh_59 : decode b_B_weigh 59 = .ok (.laload, 1) := by decide +kernel
theorem d_B_weigh_60 : decode b_B_weigh 60 = .ok (.ladd, 1) := by decide +kernel
theorem d_B_weigh_61 : decode b_B_weigh 61 = .ok (.invokestatic 64, 3) := by decide +kernel
theorem d_B_weigh_64 : decode b_B_weigh 64 = .ok (.lstore 6, 2) := by decide +kernel
theorem d_B_weigh_66 : decode b_B_weigh 66 = .ok (.aload_n 0, 1) := by decide +kernel
theorem d_B_weigh_67 : decode b_B_weigh 67 = .ok (.getfield 19, 3) := by decide +kernel
theorem d_B_weigh_70 : decode b_B_weigh 70 = .ok (.iload_n 1, 1) := by decide +kernel
theorem d_B_weigh_71 : decode b_B_weigh 71 = .ok (.iaload, 1) := by decide +kernel
theorem d_B_weigh_72 : decode b_B_weigh 72 = .ok (.ifCond .eq 25, 3) := by decide +kernel
theorem d_B_weigh_75 : decode b_B_weigh 75 = .ok (.iload 5, 2) := by decide +kernel
theorem d_B_weigh_77 : decode b_B_weigh 77 = .ok (.lload 6, 2) := by decide +kernel
theorem d_B_weigh_79 : decode b_B_weigh 79 = .ok (.aload_n 0, 1) := by decide +kernel
theorem d_B_weigh_80 : decode b_B_weigh 80 = .ok (.getfield 15, 3) := by decide +kernel
theorem d_B_weigh_83 : decode b_B_weigh 83 = .ok (.iload_n 1, 1) := by decide +kernel
theorem d_B_weigh_84 : decode b_B_weigh 84 = .ok (.iaload, 1) := by decide +kernel
theorem d_B_weigh_85 : decode b_B_weigh 85 = .ok (.aload_n 0, 1) := by decide +kernel
theorem d_B_weigh_86 : decode b_B_weigh 86 = .ok (.getfield 9, 3) := by decide +kernel
theorem d_B_weigh_89 : decode b_B_weigh 89 = .ok (.iload_n 1, 1) := by decide +kernel
theorem d_B_weigh_90 : decode b_B_weigh 90 = .ok (.laload, 1) := by decide +kernel
theorem d_B_weigh_91 : decode b_B_weigh 91 = .ok (.invokestatic 70, 3) := by decide +kernel
theorem d_B_weigh_94 : decode b_B_weigh 94 = .ok (.ifCond .eq 26, 3) := by decide +kernel
theorem d_B_weigh_97 : decode b_B_weigh 97 = .ok (.aload_n 0, 1) := by decide +kernel
theorem d_B_weigh_98 : decode b_B_weigh 98 = .ok (.getfield 9, 3) := by decide +kernel
theorem d_B_weigh_101 : decode b_B_weigh 101 = .ok (.iload_n 1, 1) := by decide +kernel
theorem d_B_weigh_102 : decode b_B_weigh 102 = .ok (.lload 6, 2) := by decide +kernel
theorem d_B_weigh_104 : decode b_B_weigh 104 = .ok (.lastore, 1) := by decide +kernel
theorem d_B_weigh_105 : decode b_B_weigh 105 = .ok (.aload_n 0, 1) := by decide +kernel
theorem d_B_weigh_106 : decode b_B_weigh 106 = .ok (.getfield 15, 3) := by decide +kernel
theorem d_B_weigh_109 : decode b_B_weigh 109 = .ok (.iload_n 1, 1) := by decide +kernel
theorem d_B_weigh_110 : decode b_B_weigh 110 = .ok (.iload 5, 2) := by decide +kernel
theorem d_B_weigh_112 : decode b_B_weigh 112 = .ok (.iastore, 1) := by decide +kernel
theorem d_B_weigh_113 : decode b_B_weigh 113 = .ok (.aload_n 0, 1) := by decide +kernel
theorem d_B_weigh_114 : decode b_B_weigh 114 = .ok (.getfield 19, 3) := by decide +kernel
theorem d_B_weigh_117 : decode b_B_weigh 117 = .ok (.iload_n 1, 1) := by decide +kernel
theorem d_B_weigh_118 : decode b_B_weigh 118 = .ok (.iload_n 2, 1) := by decide +kernel
theorem d_B_weigh_119 : decode b_B_weigh 119 = .ok (.iastore, 1) := by decide +kernel
theorem d_B_weigh_120 : decode b_B_weigh 120 = .ok (.return_, 1) := by decide +kernel
theorem d_G_init_0 : decode b_G_init 0 = .ok (.aload_n 0, 1) := by decide +kernel
theorem d_G_init_1 : decode b_G_init 1 = .ok (.invokespecial 3, 3) := by decide +kernel
theorem d_G_init_4 : decode b_G_init 4 = .ok (.aload_n 0, 1) := by decide +kernel
theorem d_G_init_5 : decode b_G_init 5 = .ok (.sipush 1000, 3) := by decide +kernel
theorem d_G_init_8 : decode b_G_init 8 = .ok (.putfield 9, 3) := by decide +kernel
theorem d_G_init_11 : decode b_G_init 11 = .ok (.aload_n 0, 1) := by decide +kernel
theorem d_G_init_12 : decode b_G_init 12 = .ok (.bipush 8, 2) := by decide +kernel
theorem d_G_init_14 : decode b_G_init 14 = .ok (.newarray .int, 2) := by decide +kernel
theorem d_G_init_16 : decode b_G_init 16 = .ok (.putfield 15, 3) := by decide +kernel
theorem d_G_init_19 : decode b_G_init 19 = .ok (.aload_n 0, 1) := by decide +kernel
theorem d_G_init_20 : decode b_G_init 20 = .ok (.bipush 16, 2) := by decide +kernel
theorem d_G_init_22 : decode b_G_init 22 = .ok (.newarray .int, 2) := by decide +kernel
theorem d_G_init_24 : decode b_G_init 24 = .ok (.putfield 19, 3) := by decide +kernel
theorem d_G_init_27 : decode b_G_init 27 = .ok (.aload_n 0, 1) := by decide +kernel
theorem d_G_init_28 : decode b_G_init 28 = .ok (.bipush 16, 2) := by decide +kernel
theorem d_G_init_30 : decode b_G_init 30 = .ok (.newarray .int, 2) := by decide +kernel
theorem d_G_init_32 : decode b_G_init 32 = .ok (.putfield 22, 3) := by decide +kernel
theorem d_G_init_35 : decode b_G_init 35 = .ok (.aload_n 0, 1) := by decide +kernel
theorem d_G_init_36 : decode b_G_init 36 = .ok (.bipush 16, 2) := by decide +kernel
theorem d_G_init_38 : decode b_G_init 38 = .ok (.newarray .int, 2) := by decide +kernel
theorem d_G_init_40 : decode b_G_init 40 = .ok (.putfield 25, 3) := by decide +kernel
theorem d_G_init_43 : decode b_G_init 43 = .ok (.return_, 1) := by decide +kernel
theorem d_G_canBeRows_0 : decode b_G_canBeRows 0 = .ok (.iload_n 0, 1) := by decide +kernel
theorem d_G_canBeRows_1 : decode b_G_canBeRows 1 = .ok (.iconst 1, 1) := by decide +kernel
theorem d_G_canBeRows_2 : decode b_G_canBeRows 2 = .ok (.if_icmp .lt 13, 3) := by decide +kernel
theorem d_G_canBeRows_5 : decode b_G_canBeRows 5 = .ok (.iload_n 0, 1) := by decide +kernel
theorem d_G_canBeRows_6 : decode b_G_canBeRows 6 = .ok (.ldc 28, 2) := by decide +kernel
theorem d_G_canBeRows_8 : decode b_G_canBeRows 8 = .ok (.if_icmp .gt 7, 3) := by decide +kernel
theorem d_G_canBeRows_11 : decode b_G_canBeRows 11 = .ok (.iconst 1, 1) := by decide +kernel
theorem d_G_canBeRows_12 : decode b_G_canBeRows 12 = .ok (.goto 4, 3) := by decide +kernel
theorem d_G_canBeRows_15 : decode b_G_canBeRows 15 = .ok (.iconst 0, 1) := by decide +kernel
theorem d_G_canBeRows_16 : decode b_G_canBeRows 16 = .ok (.ireturn, 1) := by decide +kernel
theorem d_G_canBeBy_0 : decode b_G_canBeBy 0 = .ok (.iload_n 0, 1) := by decide +kernel
theorem d_G_canBeBy_1 : decode b_G_canBeBy 1 = .ok (.iconst 1, 1) := by decide +kernel
theorem d_G_canBeBy_2 : decode b_G_canBeBy 2 = .ok (.if_icmp .lt 13, 3) := by decide +kernel
theorem d_G_canBeBy_5 : decode b_G_canBeBy 5 = .ok (.iload_n 0, 1) := by decide +kernel
theorem d_G_canBeBy_6 : decode b_G_canBeBy 6 = .ok (.ldc 29, 2) := by decide +kernel
theorem d_G_canBeBy_8 : decode b_G_canBeBy 8 = .ok (.if_icmp .gt 7, 3) := by decide +kernel
theorem d_G_canBeBy_11 : decode b_G_canBeBy 11 = .ok (.iconst 1, 1) := by decide +kernel
theorem d_G_canBeBy_12 : decode b_G_canBeBy 12 = .ok (.goto 4, 3) := by decide +kernel
theorem d_G_canBeBy_15 : decode b_G_canBeBy 15 = .ok (.iconst 0, 1) := by decide +kernel
theorem d_G_canBeBy_16 : decode b_G_canBeBy 16 = .ok (.ireturn, 1) := by decide +kernel
theorem d_G_canBeLimit_0 : decode b_G_canBeLimit 0 = .ok (.iload_n 0, 1) := by decide +kernel
theorem d_G_canBeLimit_1 : decode b_G_canBeLimit 1 = .ok (.ifCond .lt 14, 3) := by decide +kernel
theorem d_G_canBeLimit_4 : decode b_G_canBeLimit 4 = .ok (.iload_n 0, 1) := by decide +kernel
theorem d_G_canBeLimit_5 : decode b_G_canBeLimit 5 = .ok (.sipush 5000, 3) := by decide +kernel
theorem d_G_canBeLimit_8 : decode b_G_canBeLimit 8 = .ok (.if_icmp .gt 7, 3) := by decide +kernel
theorem d_G_canBeLimit_11 : decode b_G_canBeLimit 11 = .ok (.iconst 1, 1) := by decide +kernel
theorem d_G_canBeLimit_12 : decode b_G_canBeLimit 12 = .ok (.goto 4, 3) := by decide +kernel
theorem d_G_canBeLimit_15 : decode b_G_canBeLimit 15 = .ok (.iconst 0, 1) := by decide +kernel
theorem d_G_canBeLimit_16 : decode b_G_canBeLimit 16 = .ok (.ireturn, 1) := by decide +kernel
theorem d_G_clear_0 : decode b_G_clear 0 = .ok (.aload_n 0, 1) := by decide +kernel
theorem d_G_clear_1 : decode b_G_clear 1 = .ok (.iconst 0, 1) := by decide +kernel
theorem d_G_clear_2 : decode b_G_clear 2 = .ok (.putfield 30, 3) := by decide +kernel
theorem d_G_clear_5 : decode b_G_clear 5 = .ok (.aload_n 0, 1) := by decide +kernel
theorem d_G_clear_6 : decode b_G_clear 6 = .ok (.iconst 0, 1) := by decide +kernel
theorem d_G_clear_7 : decode b_G_clear 7 = .ok (.putfield 33, 3) := by decide +kernel
theorem d_G_clear_10 : decode b_G_clear 10 = .ok (.aload_n 0, 1) := by decide +kernel
theorem d_G_clear_11 : decode b_G_clear 11 = .ok (.sipush 1000, 3) := by decide +kernel
theorem d_G_clear_14 : decode b_G_clear 14 = .ok (.putfield 9, 3) := by decide +kernel
theorem d_G_clear_17 : decode b_G_clear 17 = .ok (.return_, 1) := by decide +kernel
theorem d_G_copy_0 : decode b_G_copy 0 = .ok (.aload_n 0, 1) := by decide +kernel
theorem d_G_copy_1 : decode b_G_copy 1 = .ok (.aload_n 1, 1) := by decide +kernel
theorem d_G_copy_2 : decode b_G_copy 2 = .ok (.getfield 30, 3) := by decide +kernel
theorem d_G_copy_5 : decode b_G_copy 5 = .ok (.putfield 30, 3) := by decide +kernel
theorem d_G_copy_8 : decode b_G_copy 8 = .ok (.aload_n 0, 1) := by decide +kernel
theorem d_G_copy_9 : decode b_G_copy 9 = .ok (.aload_n 1, 1) := by decide +kernel
theorem d_G_copy_10 : decode b_G_copy 10 = .ok (.getfield 33, 3) := by decide +kernel
theorem d_G_copy_13 : decode b_G_copy 13 = .ok (.putfield 33, 3) := by decide +kernel
theorem d_G_copy_16 : decode b_G_copy 16 = .ok (.aload_n 0, 1) := by decide +kernel
theorem d_G_copy_17 : decode b_G_copy 17 = .ok (.aload_n 1, 1) := by decide +kernel
theorem d_G_copy_18 : decode b_G_copy 18 = .ok (.getfield 9, 3) := by decide +kernel
theorem d_G_copy_21 : decode b_G_copy 21 = .ok (.putfield 9, 3) := by decide +kernel
theorem d_G_copy_24 : decode b_G_copy 24 = .ok (.aload_n 1, 1) := by decide +kernel
theorem d_G_copy_25 : decode b_G_copy 25 = .ok (.getfield 15, 3) := by decide +kernel
theorem d_G_copy_28 : decode b_G_copy 28 = .ok (.iconst 0, 1) := by decide +kernel
theorem d_G_copy_29 : decode b_G_copy 29 = .ok (.aload_n 0, 1) := by decide +kernel
theorem d_G_copy_30 : decode b_G_copy 30 = .ok (.getfield 15, 3) := by decide +kernel
theorem d_G_copy_33 : decode b_G_copy 33 = .ok (.iconst 0, 1) := by decide +kernel
theorem d_G_copy_34 : decode b_G_copy 34 = .ok (.bipush 8, 2) := by decide +kernel
theorem d_G_copy_36 : decode b_G_copy 36 = .ok (.invokestatic 36, 3) := by decide +kernel
theorem d_G_copy_39 : decode b_G_copy 39 = .ok (.aload_n 1, 1) := by decide +kernel
theorem d_G_copy_40 : decode b_G_copy 40 = .ok (.getfield 19, 3) := by decide +kernel
theorem d_G_copy_43 : decode b_G_copy 43 = .ok (.iconst 0, 1) := by decide +kernel
theorem d_G_copy_44 : decode b_G_copy 44 = .ok (.aload_n 0, 1) := by decide +kernel
theorem d_G_copy_45 : decode b_G_copy 45 = .ok (.getfield 19, 3) := by decide +kernel
theorem d_G_copy_48 : decode b_G_copy 48 = .ok (.iconst 0, 1) := by decide +kernel
theorem d_G_copy_49 : decode b_G_copy 49 = .ok (.bipush 16, 2) := by decide +kernel
theorem d_G_copy_51 : decode b_G_copy 51 = .ok (.invokestatic 36, 3) := by decide +kernel
theorem d_G_copy_54 : decode b_G_copy 54 = .ok (.aload_n 1, 1) := by decide +kernel
theorem d_G_copy_55 : decode b_G_copy 55 = .ok (.getfield 22, 3) := by decide +kernel
theorem d_G_copy_58 : decode b_G_copy 58 = .ok (.iconst 0, 1) := by decide +kernel
theorem d_G_copy_59 : decode b_G_copy 59 = .ok (.aload_n 0, 1) := by decide +kernel
theorem d_G_copy_60 : decode b_G_copy 60 = .ok (.getfield 22, 3) := by decide +kernel
theorem d_G_copy_63 : decode b_G_copy 63 = .ok (.iconst 0, 1) := by decide +kernel
theorem d_G_copy_64 : decode b_G_copy 64 = .ok (.bipush 16, 2) := by decide +kernel
theorem d_G_copy_66 : decode b_G_copy 66 = .ok (.invokestatic 36, 3) := by decide +kernel
theorem d_G_copy_69 : decode b_G_copy 69 = .ok (.aload_n 1, 1) := by decide +kernel
theorem d_G_copy_70 : decode b_G_copy 70 = .ok (.getfield 25, 3) := by decide +kernel
theorem d_G_copy_73 : decode b_G_copy 73 = .ok (.iconst 0, 1) := by decide +kernel
theorem d_G_copy_74 : decode b_G_copy 74 = .ok (.aload_n 0, 1) := by decide +kernel
theorem d_G_copy_75 : decode b_G_copy 75 = .ok (.getfield 25, 3) := by decide +kernel
theorem d_G_copy_78 : decode b_G_copy 78 = .ok (.iconst 0, 1) := by decide +kernel
theorem d_G_copy_79 : decode b_G_copy 79 = .ok (.bipush 16, 2) := by decide +kernel
theorem d_G_copy_81 : decode b_G_copy 81 = .ok (.invokestatic 36, 3) := by decide +kernel
theorem d_G_copy_84 : decode b_G_copy 84 = .ok (.return_, 1) := by decide +kernel
theorem d_G_all_0 : decode b_G_all 0 = .ok (.iconst 1, 1) := by decide +kernel
theorem d_G_all_1 : decode b_G_all 1 = .ok (.aload_n 0, 1) := by decide +kernel
theorem d_G_all_2 : decode b_G_all 2 = .ok (.getfield 30, 3) := by decide +kernel
theorem d_G_all_5 : decode b_G_all 5 = .ok (.ishl, 1) := by decide +kernel
theorem d_G_all_6 : decode b_G_all 6 = .ok (.iconst 1, 1) := by decide +kernel
theorem d_G_all_7 : decode b_G_all 7 = .ok (.isub, 1) := by decide +kernel
theorem d_G_all_8 : decode b_G_all 8 = .ok (.ireturn, 1) := by decide +kernel
theorem d_G_holds_0 : decode b_G_holds 0 = .ok (.iload_n 1, 1) := by decide +kernel
theorem d_G_holds_1 : decode b_G_holds 1 = .ok (.ifCond .le 15, 3) := by decide +kernel
theorem d_G_holds_4 : decode b_G_holds 4 = .ok (.iload_n 1, 1) := by decide +kernel
theorem d_G_holds_5 : decode b_G_holds 5 = .ok (.aload_n 0, 1) := by decide +kernel
theorem d_G_holds_6 : decode b_G_holds 6 = .ok (.invokevirtual 42, 3) := by decide +kernel
theorem d_G_holds_9 : decode b_G_holds 9 = .ok (.if_icmp .gt 7, 3) := by decide +kernel
theorem d_G_holds_12 : decode b_G_holds 12 = .ok (.iconst 1, 1) := by decide +kernel
theorem d_G_holds_13 : decode b_G_holds 13 = .ok (.goto 4, 3) := by decide +kernel
theorem d_G_holds_16 : decode b_G_holds 16 = .ok (.iconst 0, 1) := by decide +kernel
theorem d_G_holds_17 : decode b_G_holds 17 = .ok (.ireturn, 1) := by decide +kernel
theorem d_G_hasRelation_0 : decode b_G_hasRelation 0 = .ok (.iload_n 1, 1) := by decide +kernel
theorem d_G_hasRelation_1 : decode b_G_hasRelation 1 = .ok (.ifCond .lt 15, 3) := by decide +kernel
theorem d_G_hasRelation_4 : decode b_G_hasRelation 4 = .ok (.iload_n 1, 1) := by decide +kernel
theorem d_G_hasRelation_5 : decode b_G_hasRelation 5 = .ok (.aload_n 0, 1) := by decide +kernel
theorem d_G_hasRelation_6 : decode b_G_hasRelation 6 = .ok (.getfield 30, 3) := by decide +kernel
theorem d_G_hasRelation_9 : decode b_G_hasRelation 9 = .ok (.if_icmp .ge 7, 3) := by decide +kernel
theorem d_G_hasRelation_12 : decode b_G_hasRelation 12 = .ok (.iconst 1, 1) := by decide +kernel
theorem d_G_hasRelation_13 : decode b_G_hasRelation 13 = .ok (.goto 4, 3) := by decide +kernel
theorem d_G_hasRelation_16 : decode b_G_hasRelation 16 = .ok (.iconst 0, 1) := by decide +kernel
theorem d_G_hasRelation_17 : decode b_G_hasRelation 17 = .ok (.ireturn, 1) := by decide +kernel
theorem d_G_hasEdge_0 : decode b_G_hasEdge 0 = .ok (.iload_n 1, 1) := by decide +kernel
theorem d_G_hasEdge_1 : decode b_G_hasEdge 1 = .ok (.ifCond .lt 15, 3) := by decide +kernel
theorem d_G_hasEdge_4 : decode b_G_hasEdge 4 = .ok (.iload_n 1, 1) := by decide +kernel
theorem d_G_hasEdge_5 : decode b_G_hasEdge 5 = .ok (.aload_n 0, 1) := by decide +kernel
theorem d_G_hasEdge_6 : decode b_G_hasEdge 6 = .ok (.getfield 33, 3) := by decide +kernel
theorem d_G_hasEdge_9 : decode b_G_hasEdge 9 = .ok (.if_icmp .ge 7, 3) := by decide +kernel
theorem d_G_hasEdge_12 : decode b_G_hasEdge 12 = .ok (.iconst 1, 1) := by decide +kernel
theorem d_G_hasEdge_13 : decode b_G_hasEdge 13 = .ok (.goto 4, 3) := by decide +kernel
theorem d_G_hasEdge_16 : decode b_G_hasEdge 16 = .ok (.iconst 0, 1) := by decide +kernel
theorem d_G_hasEdge_17 : decode b_G_hasEdge 17 = .ok (.ireturn, 1) := by decide +kernel
theorem d_G_canLink_0 : decode b_G_canLink 0 = .ok (.aload_n 0, 1) := by decide +kernel
theorem d_G_canLink_1 : decode b_G_canLink 1 = .ok (.iload_n 1, 1) := by decide +kernel
theorem d_G_canLink_2 : decode b_G_canLink 2 = .ok (.invokevirtual 46, 3) := by decide +kernel
theorem d_G_canLink_5 : decode b_G_canLink 5 = .ok (.ifCond .eq 21, 3) := by decide +kernel
theorem d_G_canLink_8 : decode b_G_canLink 8 = .ok (.aload_n 0, 1) := by decide +kernel
theorem d_G_canLink_9 : decode b_G_canLink 9 = .ok (.iload_n 2, 1) := by decide +kernel
theorem d_G_canLink_10 : decode b_G_canLink 10 = .ok (.invokevirtual 46, 3) := by decide +kernel
theorem d_G_canLink_13 : decode b_G_canLink 13 = .ok (.ifCond .eq 13, 3) := by decide +kernel
theorem d_G_canLink_16 : decode b_G_canLink 16 = .ok (.iload_n 1, 1) := by decide +kernel
theorem d_G_canLink_17 : decode b_G_canLink 17 = .ok (.iload_n 2, 1) := by decide +kernel
theorem d_G_canLink_18 : decode b_G_canLink 18 = .ok (.iand, 1) := by decide +kernel
theorem d_G_canLink_19 : decode b_G_canLink 19 = .ok (.ifCond .ne 7, 3) := by decide +kernel
theorem d_G_canLink_22 : decode b_G_canLink 22 = .ok (.iconst 1, 1) := by decide +kernel
theorem d_G_canLink_23 : decode b_G_canLink 23 = .ok (.goto 4, 3) := by decide +kernel
theorem d_G_canLink_26 : decode b_G_canLink 26 = .ok (.iconst 0, 1) := by decide +kernel
theorem d_G_canLink_27 : decode b_G_canLink 27 = .ok (.ireturn, 1) := by decide +kernel
theorem d_G_addRelation_0 : decode b_G_addRelation 0 = .ok (.aload_n 0, 1) := by decide +kernel
theorem d_G_addRelation_1 : decode b_G_addRelation 1 = .ok (.getfield 30, 3) := by decide +kernel
theorem d_G_addRelation_4 : decode b_G_addRelation 4 = .ok (.bipush 8, 2) := by decide +kernel
theorem d_G_addRelation_6 : decode b_G_addRelation 6 = .ok (.if_icmp .ge 23, 3) := by decide +kernel
theorem d_G_addRelation_9 : decode b_G_addRelation 9 = .ok (.aload_n 0, 1) := by decide +kernel
theorem d_G_addRelation_10 : decode b_G_addRelation 10 = .ok (.getfield 15, 3) := by decide +kernel
theorem d_G_addRelation_13 : decode b_G_addRelation 13 = .ok (.aload_n 0, 1) := by decide +kernel
theorem d_G_addRelation_14 : decode b_G_addRelation 14 = .ok (.getfield 30, 3) := by decide +kernel
theorem d_G_addRelation_17 : decode b_G_addRelation 17 = .ok (.iload_n 1, 1) := by decide +kernel
theorem d_G_addRelation_18 : decode b_G_addRelation 18 = .ok (.iastore, 1) := by decide +kernel
theorem d_G_addRelation_19 : decode b_G_addRelation 19 = .ok (.aload_n 0, 1) := by decide +kernel
theorem d_G_addRelation_20 : decode b_G_addRelation 20 = .ok (.dup, 1) := by decide +kernel
theorem d_G_addRelation_21 : decode b_G_addRelation 21 = .ok (.getfield 30, 3) := by decide +kernel
theorem d_G_addRelation_24 : decode b_G_addRelation 24 = .ok (.iconst 1, 1) := by decide +kernel
theorem d_G_addRelation_25 : decode b_G_addRelation 25 = .ok (.iadd, 1) := by decide +kernel
theorem d_G_addRelation_26 : decode b_G_addRelation 26 = .ok (.putfield 30, 3) := by decide +kernel
theorem d_G_addRelation_29 : decode b_G_addRelation 29 = .ok (.return_, 1) := by decide +kernel
theorem d_G_addEdge_0 : decode b_G_addEdge 0 = .ok (.aload_n 0, 1) := by decide +kernel
theorem d_G_addEdge_1 : decode b_G_addEdge 1 = .ok (.getfield 33, 3) := by decide +kernel
theorem d_G_addEdge_4 : decode b_G_addEdge 4 = .ok (.bipush 16, 2) := by decide +kernel
theorem d_G_addEdge_6 : decode b_G_addEdge 6 = .ok (.if_icmp .ge 43, 3) := by decide +kernel
theorem d_G_addEdge_9 : decode b_G_addEdge 9 = .ok (.aload_n 0, 1) := by decide +kernel
theorem d_G_addEdge_10 : decode b_G_addEdge 10 = .ok (.getfield 19, 3) := by decide +kernel
theorem d_G_addEdge_13 : decode b_G_addEdge 13 = .ok (.aload_n 0, 1) := by decide +kernel
theorem d_G_addEdge_14 : decode b_G_addEdge 14 = .ok (.getfield 33, 3) := by decide +kernel
theorem d_G_addEdge_17 : decode b_G_addEdge 17 = .ok (.iload_n 1, 1) := by decide +kernel
theorem d_G_addEdge_18 : decode b_G_addEdge 18 = .ok (.iastore, 1) := by decide +kernel
theorem d_G_addEdge_19 : decode b_G_addEdge 19 = .ok (.aload_n 0, 1) := by decide +kernel
theorem d_G_addEdge_20 : decode b_G_addEdge 20 = .ok (.getfield 22, 3) := by decide +kernel
theorem d_G_addEdge_23 : decode b_G_addEdge 23 = .ok (.aload_n 0, 1) := by decide +kernel
theorem d_G_addEdge_24 : decode b_G_addEdge 24 = .ok (.getfield 33, 3) := by decide +kernel
theorem d_G_addEdge_27 : decode b_G_addEdge 27 = .ok (.iload_n 2, 1) := by decide +kernel
theorem d_G_addEdge_28 : decode b_G_addEdge 28 = .ok (.iastore, 1) := by decide +kernel
theorem d_G_addEdge_29 : decode b_G_addEdge 29 = .ok (.aload_n 0, 1) := by decide +kernel
theorem d_G_addEdge_30 : decode b_G_addEdge 30 = .ok (.getfield 25, 3) := by decide +kernel
theorem d_G_addEdge_33 : decode b_G_addEdge 33 = .ok (.aload_n 0, 1) := by decide +kernel
theorem d_G_addEdge_34 : decode b_G_addEdge 34 = .ok (.getfield 33, 3) := by decide +kernel
theorem d_G_addEdge_37 : decode b_G_addEdge 37 = .ok (.iload_n 3, 1) := by decide +kernel
theorem d_G_addEdge_38 : decode b_G_addEdge 38 = .ok (.iastore, 1) := by decide +kernel
theorem d_G_addEdge_39 : decode b_G_addEdge 39 = .ok (.aload_n 0, 1) := by decide +kernel
theorem d_G_addEdge_40 : decode b_G_addEdge 40 = .ok (.dup, 1) := by decide +kernel
theorem d_G_addEdge_41 : decode b_G_addEdge 41 = .ok (.getfield 33, 3) := by decide +kernel
theorem d_G_addEdge_44 : decode b_G_addEdge 44 = .ok (.iconst 1, 1) := by decide +kernel
theorem d_G_addEdge_45 : decode b_G_addEdge 45 = .ok (.iadd, 1) := by decide +kernel
theorem d_G_addEdge_46 : decode b_G_addEdge 46 = .ok (.putfield 33, 3) := by decide +kernel
theorem d_G_addEdge_49 : decode b_G_addEdge 49 = .ok (.return_, 1) := by decide +kernel
theorem d_G_dropEdge_0 : decode b_G_dropEdge 0 = .ok (.aload_n 0, 1) := by decide +kernel
theorem d_G_dropEdge_1 : decode b_G_dropEdge 1 = .ok (.iload_n 1, 1) := by decide +kernel
theorem d_G_dropEdge_2 : decode b_G_dropEdge 2 = .ok (.invokevirtual 50, 3) := by decide +kernel
theorem d_G_dropEdge_5 : decode b_G_dropEdge 5 = .ok (.ifCond .eq 76, 3) := by decide +kernel
theorem d_G_dropEdge_8 : decode b_G_dropEdge 8 = .ok (.aload_n 0, 1) := by decide +kernel
theorem d_G_dropEdge_9 : decode b_G_dropEdge 9 = .ok (.dup, 1) := by decide +kernel
theorem d_G_dropEdge_10 : decode b_G_dropEdge 10 = .ok (.getfield 33, 3) := by decide +kernel
theorem d_G_dropEdge_13 : decode b_G_dropEdge 13 = .ok (.iconst 1, 1) := by decide +kernel
theorem d_G_dropEdge_14 : decode b_G_dropEdge 14 = .ok (.isub, 1) := by decide +kernel
theorem d_G_dropEdge_15 : decode b_G_dropEdge 15 = .ok (.putfield 33, 3) := by decide +kernel
theorem d_G_dropEdge_18 : decode b_G_dropEdge 18 = .ok (.aload_n 0, 1) := by decide +kernel
theorem d_G_dropEdge_19 : decode b_G_dropEdge 19 = .ok (.getfield 19, 3) := by decide +kernel
theorem d_G_dropEdge_22 : decode b_G_dropEdge 22 = .ok (.iload_n 1, 1) := by decide +kernel
theorem d_G_dropEdge_23 : decode b_G_dropEdge 23 = .ok (.iconst 1, 1) := by decide +kernel
theorem d_G_dropEdge_24 : decode b_G_dropEdge 24 = .ok (.iadd, 1) := by decide +kernel
theorem d_G_dropEdge_25 : decode b_G_dropEdge 25 = .ok (.aload_n 0, 1) := by decide +kernel
theorem d_G_dropEdge_26 : decode b_G_dropEdge 26 = .ok (.getfield 19, 3) := by decide +kernel
theorem d_G_dropEdge_29 : decode b_G_dropEdge 29 = .ok (.iload_n 1, 1) := by decide +kernel
theorem d_G_dropEdge_30 : decode b_G_dropEdge 30 = .ok (.aload_n 0, 1) := by decide +kernel
theorem d_G_dropEdge_31 : decode b_G_dropEdge 31 = .ok (.getfield 33, 3) := by decide +kernel
theorem d_G_dropEdge_34 : decode b_G_dropEdge 34 = .ok (.iload_n 1, 1) := by decide +kernel
theorem d_G_dropEdge_35 : decode b_G_dropEdge 35 = .ok (.isub, 1) := by decide +kernel
theorem d_G_dropEdge_36 : decode b_G_dropEdge 36 = .ok (.invokestatic 36, 3) := by decide +kernel
theorem d_G_dropEdge_39 : decode b_G_dropEdge 39 = .ok (.aload_n 0, 1) := by decide +kernel
theorem d_G_dropEdge_40 : decode b_G_dropEdge 40 = .ok (.getfield 22, 3) := by decide +kernel
theorem d_G_dropEdge_43 : decode b_G_dropEdge 43 = .ok (.iload_n 1, 1) := by decide +kernel
theorem d_G_dropEdge_44 : decode b_G_dropEdge 44 = .ok (.iconst 1, 1) := by decide +kernel
theorem d_G_dropEdge_45 : decode b_G_dropEdge 45 = .ok (.iadd, 1) := by decide +kernel
theorem d_G_dropEdge_46 : decode b_G_dropEdge 46 = .ok (.aload_n 0, 1) := by decide +kernel
theorem d_G_dropEdge_47 : decode b_G_dropEdge 47 = .ok (.getfield 22, 3) := by decide +kernel
theorem d_G_dropEdge_50 : decode b_G_dropEdge 50 = .ok (.iload_n 1, 1) := by decide +kernel
theorem d_G_dropEdge_51 : decode b_G_dropEdge 51 = .ok (.aload_n 0, 1) := by decide +kernel
theorem d_G_dropEdge_52 : decode b_G_dropEdge 52 = .ok (.getfield 33, 3) := by decide +kernel
theorem d_G_dropEdge_55 : decode b_G_dropEdge 55 = .ok (.iload_n 1, 1) := by decide +kernel
theorem d_G_dropEdge_56 : decode b_G_dropEdge 56 = .ok (.isub, 1) := by decide +kernel
theorem d_G_dropEdge_57 : decode b_G_dropEdge 57 = .ok (.invokestatic 36, 3) := by decide +kernel
theorem d_G_dropEdge_60 : decode b_G_dropEdge 60 = .ok (.aload_n 0, 1) := by decide +kernel
theorem d_G_dropEdge_61 : decode b_G_dropEdge 61 = .ok (.getfield 25, 3) := by decide +kernel
theorem d_G_dropEdge_64 : decode b_G_dropEdge 64 = .ok (.iload_n 1, 1) := by decide +kernel
theorem d_G_dropEdge_65 : decode b_G_dropEdge 65 = .ok (.iconst 1, 1) := by decide +kernel
theorem d_G_dropEdge_66 : decode b_G_dropEdge 66 = .ok (.iadd, 1) := by decide +kernel
theorem d_G_dropEdge_67 : decode b_G_dropEdge 67 = .ok (.aload_n 0, 1) := by decide +kernel
theorem d_G_dropEdge_68 : decode b_G_dropEdge 68 = .ok (.getfield 25, 3) := by decide +kernel
theorem d_G_dropEdge_71 : decode b_G_dropEdge 71 = .ok (.iload_n 1, 1) := by decide +kernel
theorem d_G_dropEdge_72 : decode b_G_dropEdge 72 = .ok (.aload_n 0, 1) := by decide +kernel
theorem d_G_dropEdge_73 : decode b_G_dropEdge 73 = .ok (.getfield 33, 3) := by decide +kernel
theorem d_G_dropEdge_76 : decode b_G_dropEdge 76 = .ok (.iload_n 1, 1) := by decide +kernel
theorem d_G_dropEdge_77 : decode b_G_dropEdge 77 = .ok (.isub, 1) := by decide +kernel
theorem d_G_dropEdge_78 : decode b_G_dropEdge 78 = .ok (.invokestatic 36, 3) := by decide +kernel
theorem d_G_dropEdge_81 : decode b_G_dropEdge 81 = .ok (.return_, 1) := by decide +kernel
theorem d_V_init_0 : decode b_V_init 0 = .ok (.aload_n 0, 1) := by decide +kernel
theorem d_V_init_1 : decode b_V_init 1 = .ok (.invokespecial 3, 3) := by decide +kernel
theorem d_V_init_4 : decode b_V_init 4 = .ok (.aload_n 0, 1) := by decide +kernel
theorem d_V_init_5 : decode b_V_init 5 = .ok (.new 9, 3) := by decide +kernel
theorem d_V_init_8 : decode b_V_init 8 = .ok (.dup, 1) := by decide +kernel
theorem d_V_init_9 : decode b_V_init 9 = .ok (.invokespecial 11, 3) := by decide +kernel
theorem d_V_init_12 : decode b_V_init 12 = .ok (.putfield 12, 3) := by decide +kernel
theorem d_V_init_15 : decode b_V_init 15 = .ok (.aload_n 0, 1) := by decide +kernel
theorem d_V_init_16 : decode b_V_init 16 = .ok (.sipush 256, 3) := by decide +kernel
theorem d_V_init_19 : decode b_V_init 19 = .ok (.newarray .int, 2) := by decide +kernel
theorem d_V_init_21 : decode b_V_init 21 = .ok (.putfield 18, 3) := by decide +kernel
theorem d_V_init_24 : decode b_V_init 24 = .ok (.return_, 1) := by decide +kernel
theorem d_V_movesOf_0 : decode b_V_movesOf 0 = .ok (.aload_n 0, 1) := by decide +kernel
theorem d_V_movesOf_1 : decode b_V_movesOf 1 = .ok (.getfield 22, 3) := by decide +kernel
theorem d_V_movesOf_4 : decode b_V_movesOf 4 = .ok (.iconst 2, 1) := by decide +kernel
theorem d_V_movesOf_5 : decode b_V_movesOf 5 = .ok (.if_icmp .ge 7, 3) := by decide +kernel
theorem d_V_movesOf_8 : decode b_V_movesOf 8 = .ok (.iconst 0, 1) := by decide +kernel
theorem d_V_movesOf_9 : decode b_V_movesOf 9 = .ok (.goto 11, 3) := by decide +kernel
theorem d_V_movesOf_12 : decode b_V_movesOf 12 = .ok (.iconst 2, 1) := by decide +kernel
theorem d_V_movesOf_13 : decode b_V_movesOf 13 = .ok (.aload_n 0, 1) := by decide +kernel
theorem d_V_movesOf_14 : decode b_V_movesOf 14 = .ok (.getfield 22, 3) := by decide +kernel
theorem d_V_movesOf_17 : decode b_V_movesOf 17 = .ok (.iconst 1, 1) := by decide +kernel
theorem d_V_movesOf_18 : decode b_V_movesOf 18 = .ok (.isub, 1) := by decide +kernel
theorem d_V_movesOf_19 : decode b_V_movesOf 19 = .ok (.imul, 1) := by decide +kernel
theorem d_V_movesOf_20 : decode b_V_movesOf 20 = .ok (.ireturn, 1) := by decide +kernel
theorem d_V_kindOf_0 : decode b_V_kindOf 0 = .ok (.iload_n 0, 1) := by decide +kernel
theorem d_V_kindOf_1 : decode b_V_kindOf 1 = .ok (.iconst 2, 1) := by decide +kernel
theorem d_V_kindOf_2 : decode b_V_kindOf 2 = .ok (.irem, 1) := by decide +kernel
theorem d_V_kindOf_3 : decode b_V_kindOf 3 = .ok (.ireturn, 1) := by decide +kernel
theorem d_V_make_0 : decode b_V_make 0 = .ok (.iload_n 2, 1) := by decide +kernel
theorem d_V_make_1 : decode b_V_make 1 = .ok (.iconst 2, 1) := by decide +kernel
theorem d_V_make_2 : decode b_V_make 2 = .ok (.idiv, 1) := by decide +kernel
theorem d_V_make_3 : decode b_V_make 3 = .ok (.istore_n 3, 1) := by decide +kernel
theorem d_V_make_4 : decode b_V_make 4 = .ok (.iconst 0, 1) := by decide +kernel
theorem d_V_make_5 : decode b_V_make 5 = .ok (.istore 4, 2) := by decide +kernel
theorem d_V_make_7 : decode b_V_make 7 = .ok (.iload 4, 2) := by decide +kernel
theorem d_V_make_9 : decode b_V_make 9 = .ok (.aload_n 1, 1) := by decide +kernel
theorem d_V_make_10 : decode b_V_make 10 = .ok (.getfield 22, 3) := by decide +kernel
theorem d_V_make_13 : decode b_V_make 13 = .ok (.if_icmp .ge 93, 3) := by decide +kernel
theorem d_V_make_16 : decode b_V_make 16 = .ok (.iconst 0, 1) := by decide +kernel
theorem d_V_make_17 : decode b_V_make 17 = .ok (.istore 5, 2) := by decide +kernel
theorem d_V_make_19 : decode b_V_make 19 = .ok (.iload 5, 2) := by decide +kernel
theorem d_V_make_21 : decode b_V_make 21 = .ok (.iconst 2, 1) := by decide +kernel
theorem d_V_make_22 : decode b_V_make 22 = .ok (.if_icmp .ge 78, 3) := by decide +kernel
theorem d_V_make_25 : decode b_V_make 25 = .ok (.iload 5, 2) := by decide +kernel
theorem d_V_make_27 : decode b_V_make 27 = .ok (.ifCond .ne 13, 3) := by decide +kernel
theorem d_V_make_30 : decode b_V_make 30 = .ok (.aload_n 1, 1) := by decide +kernel
theorem d_V_make_31 : decode b_V_make 31 = .ok (.getfield 26, 3) := by decide +kernel
theorem d_V_make_34 : decode b_V_make 34 = .ok (.iload 4, 2) := by decide +kernel
theorem d_V_make_36 : decode b_V_make 36 = .ok (.iaload, 1) := by decide +kernel
theorem d_V_make_37 : decode b_V_make 37 = .ok (.goto 18, 3) := by decide +kernel
theorem d_V_make_40 : decode b_V_make 40 = .ok (.aload_n 1, 1) := by decide +kernel
theorem d_V_make_41 : decode b_V_make 41 = .ok (.getfield 29, 3) := by decide +kernel
theorem d_V_make_44 : decode b_V_make 44 = .ok (.iload 4, 2) := by decide +kernel
theorem d_V_make_46 : decode b_V_make 46 = .ok (.iaload, 1) := by decide +kernel
theorem d_V_make_47 : decode b_V_make 47 = .ok (.aload_n 1, 1) := by decide +kernel
theorem d_V_make_48 : decode b_V_make 48 = .ok (.getfield 26, 3) := by decide +kernel
theorem d_V_make_51 : decode b_V_make 51 = .ok (.iload 4, 2) := by decide +kernel
theorem d_V_make_53 : decode b_V_make 53 = .ok (.iaload, 1) := by decide +kernel
theorem d_V_make_54 : decode b_V_make 54 = .ok (.ixor, 1) := by decide +kernel
theorem d_V_make_55 : decode b_V_make 55 = .ok (.istore 6, 2) := by decide +kernel
theorem d_V_make_57 : decode b_V_make 57 = .ok (.iload 6, 2) := by decide +kernel
theorem d_V_make_59 : decode b_V_make 59 = .ok (.invokestatic 32, 3) := by decide +kernel
theorem d_V_make_62 : decode b_V_make 62 = .ok (.ifCond .eq 6, 3) := by decide +kernel
theorem d_V_make_65 : decode b_V_make 65 = .ok (.goto 29, 3) := by decide +kernel
theorem d_V_make_68 : decode b_V_make 68 = .ok (.iload_n 3, 1) := by decide +kernel
theorem d_V_make_69 : decode b_V_make 69 = .ok (.ifCond .ne 22, 3) := by decide +kernel
theorem d_V_make_72 : decode b_V_make 72 = .ok (.aload_n 0, 1) := by decide +kernel
theorem d_V_make_73 : decode b_V_make 73 = .ok (.aload_n 1, 1) := by decide +kernel
theorem d_V_make_74 : decode b_V_make 74 = .ok (.aload_n 1, 1) := by decide +kernel
theorem d_V_make_75 : decode b_V_make 75 = .ok (.getfield 29, 3) := by decide +kernel
theorem d_V_make_78 : decode b_V_make 78 = .ok (.iload 4, 2) := by decide +kernel
theorem d_V_make_80 : decode b_V_make 80 = .ok (.iaload, 1) := by decide +kernel
theorem d_V_make_81 : decode b_V_make 81 = .ok (.iload 6, 2) := by decide +kernel
theorem d_V_make_83 : decode b_V_make 83 = .ok (.iload_n 2, 1) := by decide +kernel
theorem d_V_make_84 : decode b_V_make 84 = .ok (.invokestatic 36, 3) := by decide +kernel
theorem d_V_make_87 : decode b_V_make 87 = .ok (.invokevirtual 40, 3) := by decide +kernel
theorem d_V_make_90 : decode b_V_make 90 = .ok (.return_, 1) := by decide +kernel
theorem d_V_make_91 : decode b_V_make 91 = .ok (.iinc 3 (-1), 3) := by decide +kernel
theorem d_V_make_94 : decode b_V_make 94 = .ok (.iinc 5 1, 3) := by decide +kernel
theorem d_V_make_97 : decode b_V_make 97 = .ok (.goto (-78), 3) := by decide +kernel
theorem d_V_make_100 : decode b_V_make 100 = .ok (.iinc 4 1, 3) := by decide +kernel
theorem d_V_make_103 : decode b_V_make 103 = .ok (.goto (-96), 3) := by decide +kernel
theorem d_V_make_106 : decode b_V_make 106 = .ok (.return_, 1) := by decide +kernel
theorem d_V_turn_0 : decode b_V_turn 0 = .ok (.iconst 0, 1) := by decide +kernel
theorem d_V_turn_1 : decode b_V_turn 1 = .ok (.istore 5, 2) := by decide +kernel
theorem d_V_turn_3 : decode b_V_turn 3 = .ok (.iload 5, 2) := by decide +kernel
theorem d_V_turn_5 : decode b_V_turn 5 = .ok (.aload_n 1, 1) := by decide +kernel
theorem d_V_turn_6 : decode b_V_turn 6 = .ok (.getfield 22, 3) := by decide +kernel
theorem d_V_turn_9 : decode b_V_turn 9 = .ok (.if_icmp .ge 28, 3) := by decide +kernel
theorem d_V_turn_12 : decode b_V_turn 12 = .ok (.aload_n 0, 1) := by decide +kernel
theorem d_V_turn_13 : decode b_V_turn 13 = .ok (.getfield 18, 3) := by decide +kernel
theorem d_V_turn_16 : decode b_V_turn 16 = .ok (.aload_n 1, 1) := by decide +kernel
theorem d_V_turn_17 : decode b_V_turn 17 = .ok (.getfield 29, 3) := by decide +kernel
theorem d_V_turn_20 : decode b_V_turn 20 = .ok (.iload 5, 2) := by decide +kernel
theorem d_V_turn_22 : decode b_V_turn 22 = .ok (.iaload, 1) := by decide +kernel
theorem d_V_turn_23 : decode b_V_turn 23 = .ok (.aload_n 1, 1) := by decide +kernel
theorem d_V_turn_24 : decode b_V_turn 24 = .ok (.getfield 26, 3) := by decide +kernel
theorem d_V_turn_27 : decode b_V_turn 27 = .ok (.iload 5, 2) := by decide +kernel
theorem d_V_turn_29 : decode b_V_turn 29 = .ok (.iaload, 1) := by decide +kernel
theorem d_V_turn_30 : decode b_V_turn 30 = .ok (.iastore, 1) := by decide +kernel
theorem d_V_turn_31 : decode b_V_turn 31 = .ok (.iinc 5 1, 3) := by decide +kernel
theorem d_V_turn_34 : decode b_V_turn 34 = .ok (.goto (-31), 3) := by decide +kernel
theorem d_V_turn_37 : decode b_V_turn 37 = .ok (.aload_n 0, 1) := by decide +kernel
theorem d_V_turn_38 : decode b_V_turn 38 = .ok (.getfield 18, 3) := by decide +kernel
theorem d_V_turn_41 : decode b_V_turn 41 = .ok (.iload_n 3, 1) := by decide +kernel
theorem d_V_turn_42 : decode b_V_turn 42 = .ok (.iaload, 1) := by decide +kernel
theorem d_V_turn_43 : decode b_V_turn 43 = .ok (.istore 5, 2) := by decide +kernel
theorem d_V_turn_45 : decode b_V_turn 45 = .ok (.iload 4, 2) := by decide +kernel
theorem d_V_turn_47 : decode b_V_turn 47 = .ok (.ifCond .ne 8, 3) := by decide +kernel
theorem d_V_turn_50 : decode b_V_turn 50 = .ok (.iload 5, 2) := by decide +kernel
theorem d_V_turn_52 : decode b_V_turn 52 = .ok (.goto 7, 3) := by decide +kernel
theorem d_V_turn_55 : decode b_V_turn 55 = .ok (.iload_n 3, 1) := by decide +kernel
theorem d_V_turn_56 : decode b_V_turn 56 = .ok (.iload 5, 2) := by decide +kernel
theorem d_V_turn_58 : decode b_V_turn 58 = .ok (.ixor, 1) := by decide +kernel
theorem d_V_turn_59 : decode b_V_turn 59 = .ok (.istore 6, 2) := by decide +kernel
theorem d_V_turn_61 : decode b_V_turn 61 = .ok (.iload_n 3, 1) := by decide +kernel
theorem d_V_turn_62 : decode b_V_turn 62 = .ok (.iload 6, 2) := by decide +kernel
theorem d_V_turn_64 : decode b_V_turn 64 = .ok (.ixor, 1) := by decide +kernel
theorem d_V_turn_65 : decode b_V_turn 65 = .ok (.istore 7, 2) := by decide +kernel
theorem d_V_turn_67 : decode b_V_turn 67 = .ok (.iload_n 2, 1) := by decide +kernel
theorem d_V_turn_68 : decode b_V_turn 68 = .ok (.iload_n 3, 1) := by decide +kernel
theorem d_V_turn_69 : decode b_V_turn 69 = .ok (.ixor, 1) := by decide +kernel
theorem d_V_turn_70 : decode b_V_turn 70 = .ok (.istore 8, 2) := by decide +kernel
theorem d_V_turn_72 : decode b_V_turn 72 = .ok (.aload_n 0, 1) := by decide +kernel
theorem d_V_turn_73 : decode b_V_turn 73 = .ok (.getfield 18, 3) := by decide +kernel
theorem d_V_turn_76 : decode b_V_turn 76 = .ok (.iload 7, 2) := by decide +kernel
theorem d_V_turn_78 : decode b_V_turn 78 = .ok (.iload 8, 2) := by decide +kernel
theorem d_V_turn_80 : decode b_V_turn 80 = .ok (.ior, 1) := by decide +kernel
theorem d_V_turn_81 : decode b_V_turn 81 = .ok (.iload 7, 2) := by decide +kernel
theorem d_V_turn_83 : decode b_V_turn 83 = .ok (.iload 8, 2) := by decide +kernel
theorem d_V_turn_85 : decode b_V_turn 85 = .ok (.invokestatic 44, 3) := by decide +kernel
theorem d_V_turn_88 : decode b_V_turn 88 = .ok (.iastore, 1) := by decide +kernel
theorem d_V_turn_89 : decode b_V_turn 89 = .ok (.aload_n 0, 1) := by decide +kernel
theorem d_V_turn_90 : decode b_V_turn 90 = .ok (.getfield 18, 3) := by decide +kernel
theorem d_V_turn_93 : decode b_V_turn 93 = .ok (.iload_n 2, 1) := by decide +kernel
theorem d_V_turn_94 : decode b_V_turn 94 = .ok (.iload 6, 2) := by decide +kernel
theorem d_V_turn_96 : decode b_V_turn 96 = .ok (.iload 7, 2) := by decide +kernel
theorem d_V_turn_98 : decode b_V_turn 98 = .ok (.iload 8, 2) := by decide +kernel
theorem d_V_turn_100 : decode b_V_turn 100 = .ok (.ior, 1) := by decide +kernel
theorem d_V_turn_101 : decode b_V_turn 101 = .ok (.invokestatic 44, 3) := by decide +kernel
theorem d_V_turn_104 : decode b_V_turn 104 = .ok (.iastore, 1) := by decide +kernel
theorem d_V_turn_105 : decode b_V_turn 105 = .ok (.aload_n 0, 1) := by decide +kernel
theorem d_V_turn_106 : decode b_V_turn 106 = .ok (.getfield 12, 3) := by decide +kernel
theorem d_V_turn_109 : decode b_V_turn 109 = .ok (.aload_n 1, 1) := by decide +kernel
theorem d_V_turn_110 : decode b_V_turn 110 = .ok (.getfield 48, 3) := by decide +kernel
theorem d_V_turn_113 : decode b_V_turn 113 = .ok (.aload_n 0, 1) := by decide +kernel
theorem d_V_turn_114 : decode b_V_turn 114 = .ok (.getfield 18, 3) := by decide +kernel
theorem d_V_turn_117 : decode b_V_turn 117 = .ok (.invokevirtual 51, 3) := by decide +kernel
theorem d_V_turn_120 : decode b_V_turn 120 = .ok (.return_, 1) := by decide +kernel
theorem d_V_stepOf_0 : decode b_V_stepOf 0 = .ok (.iconst (-1), 1) := by decide +kernel
theorem d_V_stepOf_1 : decode b_V_stepOf 1 = .ok (.istore_n 3, 1) := by decide +kernel
theorem d_V_stepOf_2 : decode b_V_stepOf 2 = .ok (.aload_n 2, 1) := by decide +kernel
theorem d_V_stepOf_3 : decode b_V_stepOf 3 = .ok (.aload_n 1, 1) := by decide +kernel
theorem d_V_stepOf_4 : decode b_V_stepOf 4 = .ok (.invokevirtual 55, 3) := by decide +kernel
theorem d_V_stepOf_7 : decode b_V_stepOf 7 = .ok (.istore 4, 2) := by decide +kernel
theorem d_V_stepOf_9 : decode b_V_stepOf 9 = .ok (.aload_n 2, 1) := by decide +kernel
theorem d_V_stepOf_10 : decode b_V_stepOf 10 = .ok (.aload_n 1, 1) := by decide +kernel
theorem d_V_stepOf_11 : decode b_V_stepOf 11 = .ok (.aload_n 1, 1) := by decide +kernel
theorem d_V_stepOf_12 : decode b_V_stepOf 12 = .ok (.getfield 48, 3) := by decide +kernel
theorem d_V_stepOf_15 : decode b_V_stepOf 15 = .ok (.invokevirtual 61, 3) := by decide +kernel
theorem d_V_stepOf_18 : decode b_V_stepOf 18 = .ok (.lstore 5, 2) := by decide +kernel
theorem d_V_stepOf_20 : decode b_V_stepOf 20 = .ok (.aload_n 1, 1) := by decide +kernel
theorem d_V_stepOf_21 : decode b_V_stepOf 21 = .ok (.invokestatic 65, 3) := by decide +kernel
theorem d_V_stepOf_24 : decode b_V_stepOf 24 = .ok (.istore 7, 2) := by decide +kernel
theorem d_V_stepOf_26 : decode b_V_stepOf 26 = .ok (.iconst 0, 1) := by decide +kernel
theorem d_V_stepOf_27 : decode b_V_stepOf 27 = .ok (.istore 8, 2) := by decide +kernel
theorem d_V_stepOf_29 : decode b_V_stepOf 29 = .ok (.iload 8, 2) := by decide +kernel
theorem d_V_stepOf_31 : decode b_V_stepOf 31 = .ok (.iload 7, 2) := by decide +kernel
theorem d_V_stepOf_33 : decode b_V_stepOf 33 = .ok (.if_icmp .ge 68, 3) := by decide +kernel
theorem d_V_stepOf_36 : decode b_V_stepOf 36 = .ok (.aload_n 0, 1) := by decide +kernel
theorem d_V_stepOf_37 : decode b_V_stepOf 37 = .ok (.aload_n 1, 1) := by decide +kernel
theorem d_V_stepOf_38 : decode b_V_stepOf 38 = .ok (.iload 8, 2) := by decide +kernel
theorem d_V_stepOf_40 : decode b_V_stepOf 40 = .ok (.invokevirtual 68, 3) := by decide +kernel
theorem d_V_stepOf_43 : decode b_V_stepOf 43 = .ok (.aload_n 2, 1) := by decide +kernel
theorem d_V_stepOf_44 : decode b_V_stepOf 44 = .ok (.aload_n 0, 1) := by decide +kernel
theorem d_V_stepOf_45 : decode b_V_stepOf 45 = .ok (.getfield 12, 3) := by decide +kernel
theorem d_V_stepOf_48 : decode b_V_stepOf 48 = .ok (.invokevirtual 55, 3) := by decide +kernel
theorem d_V_stepOf_51 : decode b_V_stepOf 51 = .ok (.istore 9, 2) := by decide +kernel
theorem d_V_stepOf_53 : decode b_V_stepOf 53 = .ok (.aload_n 2, 1) := by decide +kernel
theorem d_V_stepOf_54 : decode b_V_stepOf 54 = .ok (.aload_n 0, 1) := by decide +kernel
theorem d_V_stepOf_55 : decode b_V_stepOf 55 = .ok (.getfield 12, 3) := by decide +kernel
theorem d_V_stepOf_58 : decode b_V_stepOf 58 = .ok (.aload_n 0, 1) := by decide +kernel
theorem d_V_stepOf_59 : decode b_V_stepOf 59 = .ok (.getfield 12, 3) := by decide +kernel
theorem d_V_stepOf_62 : decode b_V_stepOf 62 = .ok (.getfield 48, 3) := by decide +kernel
theorem d_V_stepOf_65 : decode b_V_stepOf 65 = .ok (.invokevirtual 61, 3) := by decide +kernel
theorem d_V_stepOf_68 : decode b_V_stepOf 68 = .ok (.lstore 10, 2) := by decide +kernel
theorem d_V_stepOf_70 : decode b_V_stepOf 70 = .ok (.iload 9, 2) := by decide +kernel
theorem d_V_stepOf_72 : decode b_V_stepOf 72 = .ok (.lload 10, 2) := by decide +kernel
theorem d_V_stepOf_74 : decode b_V_stepOf 74 = .ok (.iload 4, 2) := by decide +kernel
theorem d_V_stepOf_76 : decode b_V_stepOf 76 = .ok (.lload 5, 2) := by decide +kernel
theorem d_V_stepOf_78 : decode b_V_stepOf 78 = .ok (.invokestatic 72, 3) := by decide +kernel
theorem d_V_stepOf_81 : decode b_V_stepOf 81 = .ok (.ifCond .eq 14, 3) := by decide +kernel
theorem d_V_stepOf_84 : decode b_V_stepOf 84 = .ok (.iload 8, 2) := by decide +kernel
theorem d_V_stepOf_86 : decode b_V_stepOf 86 = .ok (.istore_n 3, 1) := by decide +kernel
theorem d_V_stepOf_87 : decode b_V_stepOf 87 = .ok (.iload 9, 2) := by decide +kernel
theorem d_V_stepOf_89 : decode b_V_stepOf 89 = .ok (.istore 4, 2) := by decide +kernel
theorem d_V_stepOf_91 : decode b_V_stepOf 91 = .ok (.lload 10, 2) := by decide +kernel
theorem d_V_stepOf_93 : decode b_V_stepOf 93 = .ok (.lstore 5, 2) := by decide +kernel
theorem d_V_stepOf_95 : decode b_V_stepOf 95 = .ok (.iinc 8 1, 3) := by decide +kernel
theorem d_V_stepOf_98 : decode b_V_stepOf 98 = .ok (.goto (-69), 3) := by decide +kernel
theorem d_V_stepOf_101 : decode b_V_stepOf 101 = .ok (.iload_n 3, 1) := by decide +kernel
theorem d_V_stepOf_102 : decode b_V_stepOf 102 = .ok (.ireturn, 1) := by decide +kernel
theorem d_A_init_0 : decode b_A_init 0 = .ok (.aload_n 0, 1) := by decide +kernel
theorem d_A_init_1 : decode b_A_init 1 = .ok (.invokespecial 3, 3) := by decide +kernel
theorem d_A_init_4 : decode b_A_init 4 = .ok (.aload_n 0, 1) := by decide +kernel
theorem d_A_init_5 : decode b_A_init 5 = .ok (.sipush 256, 3) := by decide +kernel
theorem d_A_init_8 : decode b_A_init 8 = .ok (.newarray .int, 2) := by decide +kernel
theorem d_A_init_10 : decode b_A_init 10 = .ok (.putfield 9, 3) := by decide +kernel
theorem d_A_init_13 : decode b_A_init 13 = .ok (.aload_n 0, 1) := by decide +kernel
theorem d_A_init_14 : decode b_A_init 14 = .ok (.bipush 8, 2) := by decide +kernel
