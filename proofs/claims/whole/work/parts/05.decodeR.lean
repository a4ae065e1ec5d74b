theorem d_R_partsOfGreedy_24 : decode b_R_partsOfGreedy 24 = .ok (.aload_n 0, 1) := by decide +kernel
theorem d_R_partsOfGreedy_25 : decode b_R_partsOfGreedy 25 = .ok (.getfield 55, 3) := by decide +kernel
theorem d_R_partsOfGreedy_28 : decode b_R_partsOfGreedy 28 = .ok (.iload_n 1, 1) := by decide +kernel
theorem d_R_partsOfGreedy_29 : decode b_R_partsOfGreedy 29 = .ok (.iconst 1, 1) := by decide +kernel
theorem d_R_partsOfGreedy_30 : decode b_R_partsOfGreedy 30 = .ok (.iload_n 1, 1) := by decide +kernel
theorem d_R_partsOfGreedy_31 : decode b_R_partsOfGreedy 31 = .ok (.ishl, 1) := by decide +kernel
theorem d_R_partsOfGreedy_32 : decode b_R_partsOfGreedy 32 = .ok (.iastore, 1) := by decide +kernel
theorem d_R_partsOfGreedy_33 : decode b_R_partsOfGreedy 33 = .ok (.iinc 1 1, 3) := by decide +kernel
theorem d_R_partsOfGreedy_36 : decode b_R_partsOfGreedy 36 = .ok (.goto (-20), 3) := by decide +kernel
theorem d_R_partsOfGreedy_39 : decode b_R_partsOfGreedy 39 = .ok (.aload_n 0, 1) := by decide +kernel
theorem d_R_partsOfGreedy_40 : decode b_R_partsOfGreedy 40 = .ok (.getfield 257, 3) := by decide +kernel
theorem d_R_partsOfGreedy_43 : decode b_R_partsOfGreedy 43 = .ok (.iconst 1, 1) := by decide +kernel
theorem d_R_partsOfGreedy_44 : decode b_R_partsOfGreedy 44 = .ok (.if_icmp .le 10, 3) := by decide +kernel
theorem d_R_partsOfGreedy_47 : decode b_R_partsOfGreedy 47 = .ok (.aload_n 0, 1) := by decide +kernel
theorem d_R_partsOfGreedy_48 : decode b_R_partsOfGreedy 48 = .ok (.invokevirtual 260, 3) := by decide +kernel
theorem d_R_partsOfGreedy_51 : decode b_R_partsOfGreedy 51 = .ok (.goto (-12), 3) := by decide +kernel
theorem d_R_partsOfGreedy_54 : decode b_R_partsOfGreedy 54 = .ok (.return_, 1) := by decide +kernel
theorem d_R_takesPlan_0 : decode b_R_takesPlan 0 = .ok (.iconst 0, 1) := by decide +kernel
theorem d_R_takesPlan_1 : decode b_R_takesPlan 1 = .ok (.istore_n 1, 1) := by decide +kernel
theorem d_R_takesPlan_2 : decode b_R_takesPlan 2 = .ok (.iload_n 1, 1) := by decide +kernel
theorem d_R_takesPlan_3 : decode b_R_takesPlan 3 = .ok (.sipush 256, 3) := by decide +kernel
theorem d_R_takesPlan_6 : decode b_R_takesPlan 6 = .ok (.if_icmp .ge 24, 3) := by decide +kernel
theorem d_R_takesPlan_9 : decode b_R_takesPlan 9 = .ok (.aload_n 0, 1) := by decide +kernel
theorem d_R_takesPlan_10 : decode b_R_takesPlan 10 = .ok (.getfield 52, 3) := by decide +kernel
theorem d_R_takesPlan_13 : decode b_R_takesPlan 13 = .ok (.iload_n 1, 1) := by decide +kernel
theorem d_R_takesPlan_14 : decode b_R_takesPlan 14 = .ok (.aload_n 0, 1) := by decide +kernel
theorem d_R_takesPlan_15 : decode b_R_takesPlan 15 = .ok (.getfield 7, 3) := by decide +kernel
theorem d_R_takesPlan_18 : decode b_R_takesPlan 18 = .ok (.bipush 60, 2) := by decide +kernel
theorem d_R_takesPlan_20 : decode b_R_takesPlan 20 = .ok (.iload_n 1, 1) := by decide +kernel
theorem d_R_takesPlan_21 : decode b_R_takesPlan 21 = .ok (.iadd, 1) := by decide +kernel
theorem d_R_takesPlan_22 : decode b_R_takesPlan 22 = .ok (.iaload, 1) := by decide +kernel
theorem d_R_takesPlan_23 : decode b_R_takesPlan 23 = .ok (.iastore, 1) := by decide +kernel
theorem d_R_takesPlan_24 : decode b_R_takesPlan 24 = .ok (.iinc 1 1, 3) := by decide +kernel
theorem d_R_takesPlan_27 : decode b_R_takesPlan 27 = .ok (.goto (-25), 3) := by decide +kernel
theorem d_R_takesPlan_30 : decode b_R_takesPlan 30 = .ok (.return_, 1) := by decide +kernel
theorem d_R_laysNodes_0 : decode b_R_laysNodes 0 = .ok (.aload_n 0, 1) := by decide +kernel
theorem d_R_laysNodes_1 : decode b_R_laysNodes 1 = .ok (.iconst 0, 1) := by decide +kernel
theorem d_R_laysNodes_2 : decode b_R_laysNodes 2 = .ok (.putfield 267, 3) := by decide +kernel
theorem d_R_laysNodes_5 : decode b_R_laysNodes 5 = .ok (.aload_n 0, 1) := by decide +kernel
theorem d_R_laysNodes_6 : decode b_R_laysNodes 6 = .ok (.iconst 1, 1) := by decide +kernel
theorem d_R_laysNodes_7 : decode b_R_laysNodes 7 = .ok (.putfield 203, 3) := by decide +kernel
theorem d_R_laysNodes_10 : decode b_R_laysNodes 10 = .ok (.aload_n 0, 1) := by decide +kernel
theorem d_R_laysNodes_11 : decode b_R_laysNodes 11 = .ok (.getfield 30, 3) := by decide +kernel
theorem d_R_laysNodes_14 : decode b_R_laysNodes 14 = .ok (.iconst 0, 1) := by decide +kernel
theorem d_R_laysNodes_15 : decode b_R_laysNodes 15 = .ok (.iload_n 1, 1) := by decide +kernel
theorem d_R_laysNodes_16 : decode b_R_laysNodes 16 = .ok (.iastore, 1) := by decide +kernel
theorem d_R_laysNodes_17 : decode b_R_laysNodes 17 = .ok (.aload_n 0, 1) := by decide +kernel
theorem d_R_laysNodes_18 : decode b_R_laysNodes 18 = .ok (.getfield 203, 3) := by decide +kernel
theorem d_R_laysNodes_21 : decode b_R_laysNodes 21 = .ok (.ifCond .le 101, 3) := by decide +kernel
theorem d_R_laysNodes_24 : decode b_R_laysNodes 24 = .ok (.aload_n 0, 1) := by decide +kernel
theorem d_R_laysNodes_25 : decode b_R_laysNodes 25 = .ok (.dup, 1) := by decide +kernel
theorem d_R_laysNodes_26 : decode b_R_laysNodes 26 = .ok (.getfield 203, 3) := by decide +kernel
theorem d_R_laysNodes_29 : decode b_R_laysNodes 29 = .ok (.iconst 1, 1) := by decide +kernel
theorem d_R_laysNodes_30 : decode b_R_laysNodes 30 = .ok (.isub, 1) := by decide +kernel
theorem d_R_laysNodes_31 : decode b_R_laysNodes 31 = .ok (.putfield 203, 3) := by decide +kernel
theorem d_R_laysNodes_34 : decode b_R_laysNodes 34 = .ok (.aload_n 0, 1) := by decide +kernel
theorem d_R_laysNodes_35 : decode b_R_laysNodes 35 = .ok (.getfield 30, 3) := by decide +kernel
theorem d_R_laysNodes_38 : decode b_R_laysNodes 38 = .ok (.aload_n 0, 1) := by decide +kernel
theorem d_R_laysNodes_39 : decode b_R_laysNodes 39 = .ok (.getfield 203, 3) := by decide +kernel
theorem d_R_laysNodes_42 : decode b_R_laysNodes 42 = .ok (.iaload, 1) := by decide +kernel
theorem d_R_laysNodes_43 : decode b_R_laysNodes 43 = .ok (.istore_n 2, 1) := by decide +kernel
theorem d_R_laysNodes_44 : decode b_R_laysNodes 44 = .ok (.aload_n 0, 1) := by decide +kernel
theorem d_R_laysNodes_45 : decode b_R_laysNodes 45 = .ok (.getfield 52, 3) := by decide +kernel
theorem d_R_laysNodes_48 : decode b_R_laysNodes 48 = .ok (.iload_n 2, 1) := by decide +kernel
theorem d_R_laysNodes_49 : decode b_R_laysNodes 49 = .ok (.iaload, 1) := by decide +kernel
theorem d_R_laysNodes_50 : decode b_R_laysNodes 50 = .ok (.ifCond .le 69, 3) := by decide +kernel
theorem d_R_laysNodes_53 : decode b_R_laysNodes 53 = .ok (.aload_n 0, 1) := by decide +kernel
theorem d_R_laysNodes_54 : decode b_R_laysNodes 54 = .ok (.getfield 58, 3) := by decide +kernel
theorem d_R_laysNodes_57 : decode b_R_laysNodes 57 = .ok (.aload_n 0, 1) := by decide +kernel
theorem d_R_laysNodes_58 : decode b_R_laysNodes 58 = .ok (.getfield 267, 3) := by decide +kernel
theorem d_R_laysNodes_61 : decode b_R_laysNodes 61 = .ok (.iload_n 2, 1) := by decide +kernel
theorem d_R_laysNodes_62 : decode b_R_laysNodes 62 = .ok (.iastore, 1) := by decide +kernel
theorem d_R_laysNodes_63 : decode b_R_laysNodes 63 = .ok (.aload_n 0, 1) := by decide +kernel
theorem d_R_laysNodes_64 : decode b_R_laysNodes 64 = .ok (.dup, 1) := by decide +kernel
theorem d_R_laysNodes_65 : decode b_R_laysNodes 65 = .ok (.getfield 267, 3) := by decide +kernel
theorem d_R_laysNodes_68 : decode b_R_laysNodes 68 = .ok (.iconst 1, 1) := by decide +kernel
theorem d_R_laysNodes_69 : decode b_R_laysNodes 69 = .ok (.iadd, 1) := by decide +kernel
theorem d_R_laysNodes_70 : decode b_R_laysNodes 70 = .ok (.putfield 267, 3) := by decide +kernel
theorem d_R_laysNodes_73 : decode b_R_laysNodes 73 = .ok (.aload_n 0, 1) := by decide +kernel
theorem d_R_laysNodes_74 : decode b_R_laysNodes 74 = .ok (.getfield 30, 3) := by decide +kernel
theorem d_R_laysNodes_77 : decode b_R_laysNodes 77 = .ok (.aload_n 0, 1) := by decide +kernel
theorem d_R_laysNodes_78 : decode b_R_laysNodes 78 = .ok (.getfield 203, 3) := by decide +kernel
theorem d_R_laysNodes_81 : decode b_R_laysNodes 81 = .ok (.iload_n 2, 1) := by decide +kernel
theorem d_R_laysNodes_82 : decode b_R_laysNodes 82 = .ok (.aload_n 0, 1) := by decide +kernel
theorem d_R_laysNodes_83 : decode b_R_laysNodes 83 = .ok (.getfield 52, 3) := by decide +kernel
theorem d_R_laysNodes_86 : decode b_R_laysNodes 86 = .ok (.iload_n 2, 1) := by decide +kernel
theorem d_R_laysNodes_87 : decode b_R_laysNodes 87 = .ok (.iaload, 1) := by decide +kernel
theorem d_R_laysNodes_88 : decode b_R_laysNodes 88 = .ok (.iconst (-1), 1) := by decide +kernel
theorem d_R_laysNodes_89 : decode b_R_laysNodes 89 = .ok (.ixor, 1) := by decide +kernel
theorem d_R_laysNodes_90 : decode b_R_laysNodes 90 = .ok (.iand, 1) := by decide +kernel
theorem d_R_laysNodes_91 : decode b_R_laysNodes 91 = .ok (.iastore, 1) := by decide +kernel
theorem d_R_laysNodes_92 : decode b_R_laysNodes 92 = .ok (.aload_n 0, 1) := by decide +kernel
theorem d_R_laysNodes_93 : decode b_R_laysNodes 93 = .ok (.getfield 30, 3) := by decide +kernel
theorem d_R_laysNodes_96 : decode b_R_laysNodes 96 = .ok (.aload_n 0, 1) := by decide +kernel
theorem d_R_laysNodes_97 : decode b_R_laysNodes 97 = .ok (.getfield 203, 3) := by decide +kernel
theorem d_R_laysNodes_100 : decode b_R_laysNodes 100 = .ok (.iconst 1, 1) := by decide +kernel
theorem d_R_laysNodes_101 : decode b_R_laysNodes 101 = .ok (.iadd, 1) := by decide +kernel
theorem d_R_laysNodes_102 : decode b_R_laysNodes 102 = .ok (.aload_n 0, 1) := by decide +kernel
theorem d_R_laysNodes_103 : decode b_R_laysNodes 103 = .ok (.getfield 52, 3) := by decide +kernel
theorem d_R_laysNodes_106 : decode b_R_laysNodes 106 = .ok (.iload_n 2, 1) := by decide +kernel
theorem d_R_laysNodes_107 : decode b_R_laysNodes 107 = .ok (.iaload, 1) := by decide +kernel
theorem d_R_laysNodes_108 : decode b_R_laysNodes 108 = .ok (.iastore, 1) := by decide +kernel
theorem d_R_laysNodes_109 : decode b_R_laysNodes 109 = .ok (.aload_n 0, 1) := by decide +kernel
theorem d_R_laysNodes_110 : decode b_R_laysNodes 110 = .ok (.dup, 1) := by decide +kernel
theorem d_R_laysNodes_111 : decode b_R_laysNodes 111 = .ok (.getfield 203, 3) := by decide +kernel
theorem d_R_laysNodes_114 : decode b_R_laysNodes 114 = .ok (.iconst 2, 1) := by decide +kernel
theorem d_R_laysNodes_115 : decode b_R_laysNodes 115 = .ok (.iadd, 1) := by decide +kernel
theorem d_R_laysNodes_116 : decode b_R_laysNodes 116 = .ok (.putfield 203, 3) := by decide +kernel
theorem d_R_laysNodes_119 : decode b_R_laysNodes 119 = .ok (.goto (-102), 3) := by decide +kernel
theorem d_R_laysNodes_122 : decode b_R_laysNodes 122 = .ok (.return_, 1) := by decide +kernel
theorem d_R_isMove_0 : decode b_R_isMove 0 = .ok (.iload_n 1, 1) := by decide +kernel
theorem d_R_isMove_1 : decode b_R_isMove 1 = .ok (.istore_n 2, 1) := by decide +kernel
theorem d_R_isMove_2 : decode b_R_isMove 2 = .ok (.iconst 0, 1) := by decide +kernel
theorem d_R_isMove_3 : decode b_R_isMove 3 = .ok (.istore_n 3, 1) := by decide +kernel
theorem d_R_isMove_4 : decode b_R_isMove 4 = .ok (.iload_n 3, 1) := by decide +kernel
theorem d_R_isMove_5 : decode b_R_isMove 5 = .ok (.aload_n 0, 1) := by decide +kernel
theorem d_R_isMove_6 : decode b_R_isMove 6 = .ok (.getfield 267, 3) := by decide +kernel
theorem d_R_isMove_9 : decode b_R_isMove 9 = .ok (.if_icmp .ge 150, 3) := by decide +kernel
theorem d_R_isMove_12 : decode b_R_isMove 12 = .ok (.iconst 0, 1) := by decide +kernel
theorem d_R_isMove_13 : decode b_R_isMove 13 = .ok (.istore 4, 2) := by decide +kernel
theorem d_R_isMove_15 : decode b_R_isMove 15 = .ok (.iload 4, 2) := by decide +kernel
theorem d_R_isMove_17 : decode b_R_isMove 17 = .ok (.iconst 2, 1) := by decide +kernel
theorem d_R_isMove_18 : decode b_R_isMove 18 = .ok (.if_icmp .ge 135, 3) := by decide +kernel
theorem d_R_isMove_21 : decode b_R_isMove 21 = .ok (.aload_n 0, 1) := by decide +kernel
theorem d_R_isMove_22 : decode b_R_isMove 22 = .ok (.getfield 58, 3) := by decide +kernel
theorem d_R_isMove_25 : decode b_R_isMove 25 = .ok (.iload_n 3, 1) := by decide +kernel
theorem d_R_isMove_26 : decode b_R_isMove 26 = .ok (.iaload, 1) := by decide +kernel
theorem d_R_isMove_27 : decode b_R_isMove 27 = .ok (.istore 5, 2) := by decide +kernel
theorem d_R_isMove_29 : decode b_R_isMove 29 = .ok (.iload 4, 2) := by decide +kernel
theorem d_R_isMove_31 : decode b_R_isMove 31 = .ok (.ifCond .ne 13, 3) := by decide +kernel
theorem d_R_isMove_34 : decode b_R_isMove 34 = .ok (.aload_n 0, 1) := by decide +kernel
theorem d_R_isMove_35 : decode b_R_isMove 35 = .ok (.getfield 52, 3) := by decide +kernel
theorem d_R_isMove_38 : decode b_R_isMove 38 = .ok (.iload 5, 2) := by decide +kernel
theorem d_R_isMove_40 : decode b_R_isMove 40 = .ok (.iaload, 1) := by decide +kernel
theorem d_R_isMove_41 : decode b_R_isMove 41 = .ok (.goto 15, 3) := by decide +kernel
theorem d_R_isMove_44 : decode b_R_isMove 44 = .ok (.iload 5, 2) := by decide +kernel
theorem d_R_isMove_46 : decode b_R_isMove 46 = .ok (.aload_n 0, 1) := by decide +kernel
theorem d_R_isMove_47 : decode b_R_isMove 47 = .ok (.getfield 52, 3) := by decide +kernel
theorem d_R_isMove_50 : decode b_R_isMove 50 = .ok (.iload 5, 2) := by decide +kernel
theorem d_R_isMove_52 : decode b_R_isMove 52 = .ok (.iaload, 1) := by decide +kernel
theorem d_R_isMove_53 : decode b_R_isMove 53 = .ok (.iconst (-1), 1) := by decide +kernel
theorem d_R_isMove_54 : decode b_R_isMove 54 = .ok (.ixor, 1) := by decide +kernel
theorem d_R_isMove_55 : decode b_R_isMove 55 = .ok (.iand, 1) := by decide +kernel
theorem d_R_isMove_56 : decode b_R_isMove 56 = .ok (.istore 6, 2) := by decide +kernel
theorem d_R_isMove_58 : decode b_R_isMove 58 = .ok (.aload_n 0, 1) := by decide +kernel
theorem d_R_isMove_59 : decode b_R_isMove 59 = .ok (.getfield 52, 3) := by decide +kernel
theorem d_R_isMove_62 : decode b_R_isMove 62 = .ok (.iload 6, 2) := by decide +kernel
theorem d_R_isMove_64 : decode b_R_isMove 64 = .ok (.iaload, 1) := by decide +kernel
theorem d_R_isMove_65 : decode b_R_isMove 65 = .ok (.ifCond .ne 6, 3) := by decide +kernel
theorem d_R_isMove_68 : decode b_R_isMove 68 = .ok (.goto 79, 3) := by decide +kernel
theorem d_R_isMove_71 : decode b_R_isMove 71 = .ok (.iload_n 2, 1) := by decide +kernel
theorem d_R_isMove_72 : decode b_R_isMove 72 = .ok (.iconst 2, 1) := by decide +kernel
theorem d_R_isMove_73 : decode b_R_isMove 73 = .ok (.if_icmp .ge 71, 3) := by decide +kernel
theorem d_R_isMove_76 : decode b_R_isMove 76 = .ok (.aload_n 0, 1) := by decide +kernel
theorem d_R_isMove_77 : decode b_R_isMove 77 = .ok (.iload 5, 2) := by decide +kernel
theorem d_R_isMove_79 : decode b_R_isMove 79 = .ok (.putfield 270, 3) := by decide +kernel
theorem d_R_isMove_82 : decode b_R_isMove 82 = .ok (.aload_n 0, 1) := by decide +kernel
theorem d_R_isMove_83 : decode b_R_isMove 83 = .ok (.iload 6, 2) := by decide +kernel
theorem d_R_isMove_85 : decode b_R_isMove 85 = .ok (.putfield 273, 3) := by decide +kernel
theorem d_R_isMove_88 : decode b_R_isMove 88 = .ok (.aload_n 0, 1) := by decide +kernel
theorem d_R_isMove_89 : decode b_R_isMove 89 = .ok (.iload 5, 2) := by decide +kernel
theorem d_R_isMove_91 : decode b_R_isMove 91 = .ok (.iload 6, 2) := by decide +kernel
theorem d_R_isMove_93 : decode b_R_isMove 93 = .ok (.iconst (-1), 1) := by decide +kernel
theorem d_R_isMove_94 : decode b_R_isMove 94 = .ok (.ixor, 1) := by decide +kernel
theorem d_R_isMove_95 : decode b_R_isMove 95 = .ok (.iand, 1) := by decide +kernel
theorem d_R_isMove_96 : decode b_R_isMove 96 = .ok (.putfield 276, 3) := by decide +kernel
theorem d_R_isMove_99 : decode b_R_isMove 99 = .ok (.aload_n 0, 1) := by decide +kernel
theorem d_R_isMove_100 : decode b_R_isMove 100 = .ok (.iload_n 2, 1) := by decide +kernel
theorem d_R_isMove_101 : decode b_R_isMove 101 = .ok (.ifCond .ne 13, 3) := by decide +kernel
theorem d_R_isMove_104 : decode b_R_isMove 104 = .ok (.aload_n 0, 1) := by decide +kernel
theorem d_R_isMove_105 : decode b_R_isMove 105 = .ok (.getfield 52, 3) := by decide +kernel
theorem d_R_isMove_108 : decode b_R_isMove 108 = .ok (.iload 6, 2) := by decide +kernel
theorem d_R_isMove_110 : decode b_R_isMove 110 = .ok (.iaload, 1) := by decide +kernel
theorem d_R_isMove_111 : decode b_R_isMove 111 = .ok (.goto 15, 3) := by decide +kernel
theorem d_R_isMove_114 : decode b_R_isMove 114 = .ok (.iload 6, 2) := by decide +kernel
theorem d_R_isMove_116 : decode b_R_isMove 116 = .ok (.aload_n 0, 1) := by decide +kernel
theorem d_R_isMove_117 : decode b_R_isMove 117 = .ok (.getfield 52, 3) := by decide +kernel
theorem d_R_isMove_120 : decode b_R_isMove 120 = .ok (.iload 6, 2) := by decide +kernel
theorem d_R_isMove_122 : decode b_R_isMove 122 = .ok (.iaload, 1) := by decide +kernel
theorem d_R_isMove_123 : decode b_R_isMove 123 = .ok (.iconst (-1), 1) := by decide +kernel
theorem d_R_isMove_124 : decode b_R_isMove 124 = .ok (.ixor, 1) := by decide +kernel
theorem d_R_isMove_125 : decode b_R_isMove 125 = .ok (.iand, 1) := by decide +kernel
theorem d_R_isMove_126 : decode b_R_isMove 126 = .ok (.putfield 279, 3) := by decide +kernel
theorem d_R_isMove_129 : decode b_R_isMove 129 = .ok (.aload_n 0, 1) := by decide +kernel
theorem d_R_isMove_130 : decode b_R_isMove 130 = .ok (.iload 6, 2) := by decide +kernel
theorem d_R_isMove_132 : decode b_R_isMove 132 = .ok (.aload_n 0, 1) := by decide +kernel
theorem d_R_isMove_133 : decode b_R_isMove 133 = .ok (.getfield 279, 3) := by decide +kernel
theorem d_R_isMove_136 : decode b_R_isMove 136 = .ok (.iconst (-1), 1) := by decide +kernel
theorem d_R_isMove_137 : decode b_R_isMove 137 = .ok (.ixor, 1) := by decide +kernel
theorem d_R_isMove_138 : decode b_R_isMove 138 = .ok (.iand, 1) := by decide +kernel
theorem d_R_isMove_139 : decode b_R_isMove 139 = .ok (.putfield 282, 3) := by decide +kernel
theorem d_R_isMove_142 : decode b_R_isMove 142 = .ok (.iconst 1, 1) := by decide +kernel
theorem d_R_isMove_143 : decode b_R_isMove 143 = .ok (.ireturn, 1) := by decide +kernel
theorem d_R_isMove_144 : decode b_R_isMove 144 = .ok (.iinc 2 (-2), 3) := by decide +kernel
theorem d_R_isMove_147 : decode b_R_isMove 147 = .ok (.iinc 4 1, 3) := by decide +kernel
theorem d_R_isMove_150 : decode b_R_isMove 150 = .ok (.goto (-135), 3) := by decide +kernel
theorem d_R_isMove_153 : decode b_R_isMove 153 = .ok (.iinc 3 1, 3) := by decide +kernel
theorem d_R_isMove_156 : decode b_R_isMove 156 = .ok (.goto (-152), 3) := by decide +kernel
theorem d_R_isMove_159 : decode b_R_isMove 159 = .ok (.iconst 0, 1) := by decide +kernel
theorem d_R_isMove_160 : decode b_R_isMove 160 = .ok (.ireturn, 1) := by decide +kernel
theorem d_R_moveMany_0 : decode b_R_moveMany 0 = .ok (.iconst 0, 1) := by decide +kernel
theorem d_R_moveMany_1 : decode b_R_moveMany 1 = .ok (.istore_n 1, 1) := by decide +kernel
theorem d_R_moveMany_2 : decode b_R_moveMany 2 = .ok (.aload_n 0, 1) := by decide +kernel
theorem d_R_moveMany_3 : decode b_R_moveMany 3 = .ok (.iload_n 1, 1) := by decide +kernel
theorem d_R_moveMany_4 : decode b_R_moveMany 4 = .ok (.invokevirtual 285, 3) := by decide +kernel
theorem d_R_moveMany_7 : decode b_R_moveMany 7 = .ok (.ifCond .eq 9, 3) := by decide +kernel
theorem d_R_moveMany_10 : decode b_R_moveMany 10 = .ok (.iinc 1 1, 3) := by decide +kernel
theorem d_R_moveMany_13 : decode b_R_moveMany 13 = .ok (.goto (-11), 3) := by decide +kernel
theorem d_R_moveMany_16 : decode b_R_moveMany 16 = .ok (.iload_n 1, 1) := by decide +kernel
theorem d_R_moveMany_17 : decode b_R_moveMany 17 = .ok (.ireturn, 1) := by decide +kernel
theorem d_R_goes_0 : decode b_R_goes 0 = .ok (.aload_n 0, 1) := by decide +kernel
theorem d_R_goes_1 : decode b_R_goes 1 = .ok (.getfield 282, 3) := by decide +kernel
theorem d_R_goes_4 : decode b_R_goes 4 = .ok (.aload_n 0, 1) := by decide +kernel
theorem d_R_goes_5 : decode b_R_goes 5 = .ok (.getfield 276, 3) := by decide +kernel
theorem d_R_goes_8 : decode b_R_goes 8 = .ok (.ior, 1) := by decide +kernel
theorem d_R_goes_9 : decode b_R_goes 9 = .ok (.istore_n 1, 1) := by decide +kernel
theorem d_R_goes_10 : decode b_R_goes 10 = .ok (.aload_n 0, 1) := by decide +kernel
theorem d_R_goes_11 : decode b_R_goes 11 = .ok (.getfield 52, 3) := by decide +kernel
theorem d_R_goes_14 : decode b_R_goes 14 = .ok (.aload_n 0, 1) := by decide +kernel
theorem d_R_goes_15 : decode b_R_goes 15 = .ok (.getfield 273, 3) := by decide +kernel
theorem d_R_goes_18 : decode b_R_goes 18 = .ok (.iconst 0, 1) := by decide +kernel
theorem d_R_goes_19 : decode b_R_goes 19 = .ok (.iastore, 1) := by decide +kernel
theorem d_R_goes_20 : decode b_R_goes 20 = .ok (.aload_n 0, 1) := by decide +kernel
theorem d_R_goes_21 : decode b_R_goes 21 = .ok (.getfield 52, 3) := by decide +kernel
theorem d_R_goes_24 : decode b_R_goes 24 = .ok (.iload_n 1, 1) := by decide +kernel
theorem d_R_goes_25 : decode b_R_goes 25 = .ok (.aload_n 0, 1) := by decide +kernel
theorem d_R_goes_26 : decode b_R_goes 26 = .ok (.getfield 282, 3) := by decide +kernel
theorem d_R_goes_29 : decode b_R_goes 29 = .ok (.aload_n 0, 1) := by decide +kernel
theorem d_R_goes_30 : decode b_R_goes 30 = .ok (.getfield 276, 3) := by decide +kernel
theorem d_R_goes_33 : decode b_R_goes 33 = .ok (.invokestatic 193, 3) := by decide +kernel
theorem d_R_goes_36 : decode b_R_goes 36 = .ok (.ifCond .eq 10, 3) := by decide +kernel
theorem d_R_goes_39 : decode b_R_goes 39 = .ok (.aload_n 0, 1) := by decide +kernel
theorem d_R_goes_40 : decode b_R_goes 40 = .ok (.getfield 282, 3) := by decide +kernel
theorem d_R_goes_43 : decode b_R_goes 43 = .ok (.goto 7, 3) := by decide +kernel
theorem d_R_goes_46 : decode b_R_goes 46 = .ok (.aload_n 0, 1) := by decide +kernel
theorem d_R_goes_47 : decode b_R_goes 47 = .ok (.getfield 276, 3) := by decide +kernel
theorem d_R_goes_50 : decode b_R_goes 50 = .ok (.iastore, 1) := by decide +kernel
theorem d_R_goes_51 : decode b_R_goes 51 = .ok (.aload_n 0, 1) := by decide +kernel
theorem d_R_goes_52 : decode b_R_goes 52 = .ok (.getfield 52, 3) := by decide +kernel
theorem d_R_goes_55 : decode b_R_goes 55 = .ok (.aload_n 0, 1) := by decide +kernel
theorem d_R_goes_56 : decode b_R_goes 56 = .ok (.getfield 270, 3) := by decide +kernel
theorem d_R_goes_59 : decode b_R_goes 59 = .ok (.aload_n 0, 1) := by decide +kernel
theorem d_R_goes_60 : decode b_R_goes 60 = .ok (.getfield 279, 3) := by decide +kernel
theorem d_R_goes_63 : decode b_R_goes 63 = .ok (.iload_n 1, 1) := by decide +kernel
theorem d_R_goes_64 : decode b_R_goes 64 = .ok (.invokestatic 193, 3) := by decide +kernel
theorem d_R_goes_67 : decode b_R_goes 67 = .ok (.ifCond .eq 10, 3) := by decide +kernel
theorem d_R_goes_70 : decode b_R_goes 70 = .ok (.aload_n 0, 1) := by decide +kernel
theorem d_R_goes_71 : decode b_R_goes 71 = .ok (.getfield 279, 3) := by decide +kernel
theorem d_R_goes_74 : decode b_R_goes 74 = .ok (.goto 4, 3) := by decide +kernel
theorem d_R_goes_77 : decode b_R_goes 77 = .ok (.iload_n 1, 1) := by decide +kernel
theorem d_R_goes_78 : decode b_R_goes 78 = .ok (.iastore, 1) := by decide +kernel
theorem d_R_goes_79 : decode b_R_goes 79 = .ok (.return_, 1) := by decide +kernel
theorem d_R_goesBack_0 : decode b_R_goesBack 0 = .ok (.aload_n 0, 1) := by decide +kernel
theorem d_R_goesBack_1 : decode b_R_goesBack 1 = .ok (.getfield 282, 3) := by decide +kernel
theorem d_R_goesBack_4 : decode b_R_goesBack 4 = .ok (.aload_n 0, 1) := by decide +kernel
theorem d_R_goesBack_5 : decode b_R_goesBack 5 = .ok (.getfield 276, 3) := by decide +kernel
theorem d_R_goesBack_8 : decode b_R_goesBack 8 = .ok (.ior, 1) := by decide +kernel
theorem d_R_goesBack_9 : decode b_R_goesBack 9 = .ok (.istore_n 1, 1) := by decide +kernel
theorem d_R_goesBack_10 : decode b_R_goesBack 10 = .ok (.aload_n 0, 1) := by decide +kernel
theorem d_R_goesBack_11 : decode b_R_goesBack 11 = .ok (.getfield 52, 3) := by decide +kernel
theorem d_R_goesBack_14 : decode b_R_goesBack 14 = .ok (.iload_n 1, 1) := by decide +kernel
theorem d_R_goesBack_15 : decode b_R_goesBack 15 = .ok (.iconst 0, 1) := by decide +kernel
theorem d_R_goesBack_16 : decode b_R_goesBack 16 = .ok (.iastore, 1) := by decide +kernel
theorem d_R_goesBack_17 : decode b_R_goesBack 17 = .ok (.aload_n 0, 1) := by decide +kernel
theorem d_R_goesBack_18 : decode b_R_goesBack 18 = .ok (.getfield 52, 3) := by decide +kernel
theorem d_R_goesBack_21 : decode b_R_goesBack 21 = .ok (.aload_n 0, 1) := by decide +kernel
theorem d_R_goesBack_22 : decode b_R_goesBack 22 = .ok (.getfield 273, 3) := by decide +kernel
theorem d_R_goesBack_25 : decode b_R_goesBack 25 = .ok (.aload_n 0, 1) := by decide +kernel
theorem d_R_goesBack_26 : decode b_R_goesBack 26 = .ok (.getfield 279, 3) := by decide +kernel
theorem d_R_goesBack_29 : decode b_R_goesBack 29 = .ok (.aload_n 0, 1) := by decide +kernel
theorem d_R_goesBack_30 : decode b_R_goesBack 30 = .ok (.getfield 282, 3) := by decide +kernel
theorem d_R_goesBack_33 : decode b_R_goesBack 33 = .ok (.invokestatic 193, 3) := by decide +kernel
theorem d_R_goesBack_36 : decode b_R_goesBack 36 = .ok (.ifCond .eq 10, 3) := by decide +kernel
theorem d_R_goesBack_39 : decode b_R_goesBack 39 = .ok (.aload_n 0, 1) := by decide +kernel
theorem d_R_goesBack_40 : decode b_R_goesBack 40 = .ok (.getfield 279, 3) := by decide +kernel
theorem d_R_goesBack_43 : decode b_R_goesBack 43 = .ok (.goto 7, 3) := by decide +kernel
theorem d_R_goesBack_46 : decode b_R_goesBack 46 = .ok (.aload_n 0, 1) := by decide +kernel
theorem d_R_goesBack_47 : decode b_R_goesBack 47 = .ok (.getfield 282, 3) := by decide +kernel
theorem d_R_goesBack_50 : decode b_R_goesBack 50 = .ok (.iastore, 1) := by decide +kernel
theorem d_R_goesBack_51 : decode b_R_goesBack 51 = .ok (.aload_n 0, 1) := by decide +kernel
theorem d_R_goesBack_52 : decode b_R_goesBack 52 = .ok (.getfield 52, 3) := by decide +kernel
theorem d_R_goesBack_55 : decode b_R_goesBack 55 = .ok (.aload_n 0, 1) := by decide +kernel
theorem d_R_goesBack_56 : decode b_R_goesBack 56 = .ok (.getfield 270, 3) := by decide +kernel
theorem d_R_goesBack_59 : decode b_R_goesBack 59 = .ok (.aload_n 0, 1) := by decide +kernel
theorem d_R_goesBack_60 : decode b_R_goesBack 60 = .ok (.getfield 273, 3) := by decide +kernel
theorem d_R_goesBack_63 : decode b_R_goesBack 63 = .ok (.aload_n 0, 1) := by decide +kernel
theorem d_R_goesBack_64 : decode b_R_goesBack 64 = .ok (.getfield 276, 3) := by decide +kernel
theorem d_R_goesBack_67 : decode b_R_goesBack 67 = .ok (.invokestatic 193, 3) := by decide +kernel
theorem d_R_goesBack_70 : decode b_R_goesBack 70 = .ok (.ifCond .eq 10, 3) := by decide +kernel
theorem d_R_goesBack_73 : decode b_R_goesBack 73 = .ok (.aload_n 0, 1) := by decide +kernel
theorem d_R_goesBack_74 : decode b_R_goesBack 74 = .ok (.getfield 273, 3) := by decide +kernel
theorem d_R_goesBack_77 : decode b_R_goesBack 77 = .ok (.goto 7, 3) := by decide +kernel
theorem d_R_goesBack_80 : decode b_R_goesBack 80 = .ok (.aload_n 0, 1) := by decide +kernel
theorem d_R_goesBack_81 : decode b_R_goesBack 81 = .ok (.getfield 276, 3) := by decide +kernel
theorem d_R_goesBack_84 : decode b_R_goesBack 84 = .ok (.iastore, 1) := by decide +kernel
theorem d_R_goesBack_85 : decode b_R_goesBack 85 = .ok (.return_, 1) := by decide +kernel
theorem d_R_bestMove_0 : decode b_R_bestMove 0 = .ok (.aload_n 0, 1) := by decide +kernel
theorem d_R_bestMove_1 : decode b_R_bestMove 1 = .ok (.iload_n 1, 1) := by decide +kernel
theorem d_R_bestMove_2 : decode b_R_bestMove 2 = .ok (.invokevirtual 288, 3) := by decide +kernel
theorem d_R_bestMove_5 : decode b_R_bestMove 5 = .ok (.iconst (-1), 1) := by decide +kernel
theorem d_R_bestMove_6 : decode b_R_bestMove 6 = .ok (.istore_n 2, 1) := by decide +kernel
theorem d_R_bestMove_7 : decode b_R_bestMove 7 = .ok (.aload_n 0, 1) := by decide +kernel
theorem d_R_bestMove_8 : decode b_R_bestMove 8 = .ok (.invokevirtual 291, 3) := by decide +kernel
theorem d_R_bestMove_11 : decode b_R_bestMove 11 = .ok (.istore_n 3, 1) := by decide +kernel
theorem d_R_bestMove_12 : decode b_R_bestMove 12 = .ok (.aload_n 0, 1) := by decide +kernel
theorem d_R_bestMove_13 : decode b_R_bestMove 13 = .ok (.iload_n 1, 1) := by decide +kernel
theorem d_R_bestMove_14 : decode b_R_bestMove 14 = .ok (.invokevirtual 294, 3) := by decide +kernel
theorem d_R_bestMove_17 : decode b_R_bestMove 17 = .ok (.lstore 4, 2) := by decide +kernel
theorem d_R_bestMove_19 : decode b_R_bestMove 19 = .ok (.aload_n 0, 1) := by decide +kernel
theorem d_R_bestMove_20 : decode b_R_bestMove 20 = .ok (.invokevirtual 298, 3) := by decide +kernel
theorem d_R_bestMove_23 : decode b_R_bestMove 23 = .ok (.istore 6, 2) := by decide +kernel
theorem d_R_bestMove_25 : decode b_R_bestMove 25 = .ok (.iconst 0, 1) := by decide +kernel
theorem d_R_bestMove_26 : decode b_R_bestMove 26 = .ok (.istore 7, 2) := by decide +kernel
theorem d_R_bestMove_28 : decode b_R_bestMove 28 = .ok (.iload 7, 2) := by decide +kernel
theorem d_R_bestMove_30 : decode b_R_bestMove 30 = .ok (.iload 6, 2) := by decide +kernel
theorem d_R_bestMove_32 : decode b_R_bestMove 32 = .ok (.if_icmp .ge 73, 3) := by decide +kernel
theorem d_R_bestMove_35 : decode b_R_bestMove 35 = .ok (.aload_n 0, 1) := by decide +kernel
theorem d_R_bestMove_36 : decode b_R_bestMove 36 = .ok (.iload 7, 2) := by decide +kernel
theorem d_R_bestMove_38 : decode b_R_bestMove 38 = .ok (.invokevirtual 285, 3) := by decide +kernel
theorem d_R_bestMove_41 : decode b_R_bestMove 41 = .ok (.istore 8, 2) := by decide +kernel
theorem d_R_bestMove_43 : decode b_R_bestMove 43 = .ok (.aload_n 0, 1) := by decide +kernel
theorem d_R_bestMove_44 : decode b_R_bestMove 44 = .ok (.invokevirtual 301, 3) := by decide +kernel
theorem d_R_bestMove_47 : decode b_R_bestMove 47 = .ok (.aload_n 0, 1) := by decide +kernel
theorem d_R_bestMove_48 : decode b_R_bestMove 48 = .ok (.invokevirtual 291, 3) := by decide +kernel
theorem d_R_bestMove_51 : decode b_R_bestMove 51 = .ok (.istore 9, 2) := by decide +kernel
theorem d_R_bestMove_53 : decode b_R_bestMove 53 = .ok (.aload_n 0, 1) := by decide +kernel
theorem d_R_bestMove_54 : decode b_R_bestMove 54 = .ok (.iload_n 1, 1) := by decide +kernel
theorem d_R_bestMove_55 : decode b_R_bestMove 55 = .ok (.invokevirtual 294, 3) := by decide +kernel
theorem d_R_bestMove_58 : decode b_R_bestMove 58 = .ok (.lstore 10, 2) := by decide +kernel
theorem d_R_bestMove_60 : decode b_R_bestMove 60 = .ok (.aload_n 0, 1) := by decide +kernel
theorem d_R_bestMove_61 : decode b_R_bestMove 61 = .ok (.invokevirtual 304, 3) := by decide +kernel
theorem d_R_bestMove_64 : decode b_R_bestMove 64 = .ok (.iload 8, 2) := by decide +kernel
theorem d_R_bestMove_66 : decode b_R_bestMove 66 = .ok (.ifCond .eq 33, 3) := by decide +kernel
theorem d_R_bestMove_69 : decode b_R_bestMove 69 = .ok (.iload 9, 2) := by decide +kernel
theorem d_R_bestMove_71 : decode b_R_bestMove 71 = .ok (.iload_n 3, 1) := by decide +kernel
theorem d_R_bestMove_72 : decode b_R_bestMove 72 = .ok (.if_icmp .lt 17, 3) := by decide +kernel
theorem d_R_bestMove_75 : decode b_R_bestMove 75 = .ok (.iload 9, 2) := by decide +kernel
theorem d_R_bestMove_77 : decode b_R_bestMove 77 = .ok (.iload_n 3, 1) := by decide +kernel
theorem d_R_bestMove_78 : decode b_R_bestMove 78 = .ok (.if_icmp .ne 21, 3) := by decide +kernel
theorem d_R_bestMove_81 : decode b_R_bestMove 81 = .ok (.lload 10, 2) := by decide +kernel
theorem d_R_bestMove_83 : decode b_R_bestMove 83 = .ok (.lload 4, 2) := by decide +kernel
theorem d_R_bestMove_85 : decode b_R_bestMove 85 = .ok (.lcmp, 1) := by decide +kernel
theorem d_R_bestMove_86 : decode b_R_bestMove 86 = .ok (.ifCond .ge 13, 3) := by decide +kernel
theorem d_R_bestMove_89 : decode b_R_bestMove 89 = .ok (.iload 7, 2) := by decide +kernel
theorem d_R_bestMove_91 : decode b_R_bestMove 91 = .ok (.istore_n 2, 1) := by decide +kernel
theorem d_R_bestMove_92 : decode b_R_bestMove 92 = .ok (.iload 9, 2) := by decide +kernel
theorem d_R_bestMove_94 : decode b_R_bestMove 94 = .ok (.istore_n 3, 1) := by decide +kernel
theorem d_R_bestMove_95 : decode b_R_bestMove 95 = .ok (.lload 10, 2) := by decide +kernel
theorem d_R_bestMove_97 : decode b_R_bestMove 97 = .ok (.lstore 4, 2) := by decide +kernel
theorem d_R_bestMove_99 : decode b_R_bestMove 99 = .ok (.iinc 7 1, 3) := by decide +kernel
theorem d_R_bestMove_102 : decode b_R_bestMove 102 = .ok (.goto (-74), 3) := by decide +kernel
theorem d_R_bestMove_105 : decode b_R_bestMove 105 = .ok (.iload_n 2, 1) := by decide +kernel
theorem d_R_bestMove_106 : decode b_R_bestMove 106 = .ok (.ireturn, 1) := by decide +kernel
theorem d_R_noPlan_0 : decode b_R_noPlan 0 = .ok (.bipush 59, 2) := by decide +kernel
theorem d_R_noPlan_2 : decode b_R_noPlan 2 = .ok (.istore_n 1, 1) := by decide +kernel
theorem d_R_noPlan_3 : decode b_R_noPlan 3 = .ok (.iload_n 1, 1) := by decide +kernel
theorem d_R_noPlan_4 : decode b_R_noPlan 4 = .ok (.sipush 316, 3) := by decide +kernel
theorem d_R_noPlan_7 : decode b_R_noPlan 7 = .ok (.if_icmp .ge 16, 3) := by decide +kernel
theorem d_R_noPlan_10 : decode b_R_noPlan 10 = .ok (.aload_n 0, 1) := by decide +kernel
theorem d_R_noPlan_11 : decode b_R_noPlan 11 = .ok (.getfield 7, 3) := by decide +kernel
theorem d_R_noPlan_14 : decode b_R_noPlan 14 = .ok (.iload_n 1, 1) := by decide +kernel
theorem d_R_noPlan_15 : decode b_R_noPlan 15 = .ok (.iconst 0, 1) := by decide +kernel
theorem d_R_noPlan_16 : decode b_R_noPlan 16 = .ok (.iastore, 1) := by decide +kernel
theorem d_R_noPlan_17 : decode b_R_noPlan 17 = .ok (.iinc 1 1, 3) := by decide +kernel
theorem d_R_noPlan_20 : decode b_R_noPlan 20 = .ok (.goto (-17), 3) := by decide +kernel
theorem d_R_noPlan_23 : decode b_R_noPlan 23 = .ok (.return_, 1) := by decide +kernel
theorem d_R_isRelation_0 : decode b_R_isRelation 0 = .ok (.iload_n 1, 1) := by decide +kernel
theorem d_R_isRelation_1 : decode b_R_isRelation 1 = .ok (.i2l, 1) := by decide +kernel
theorem d_R_isRelation_2 : decode b_R_isRelation 2 = .ok (.lconst 0, 1) := by decide +kernel
theorem d_R_isRelation_3 : decode b_R_isRelation 3 = .ok (.aload_n 0, 1) := by decide +kernel
theorem d_R_isRelation_4 : decode b_R_isRelation 4 = .ok (.getfield 7, 3) := by decide +kernel
theorem d_R_isRelation_7 : decode b_R_isRelation 7 = .ok (.iconst 0, 1) := by decide +kernel
theorem d_R_isRelation_8 : decode b_R_isRelation 8 = .ok (.iaload, 1) := by decide +kernel
theorem d_R_isRelation_9 : decode b_R_isRelation 9 = .ok (.iconst 1, 1) := by decide +kernel
theorem d_R_isRelation_10 : decode b_R_isRelation 10 = .ok (.isub, 1) := by decide +kernel
theorem d_R_isRelation_11 : decode b_R_isRelation 11 = .ok (.i2l, 1) := by decide +kernel
theorem d_R_isRelation_12 : decode b_R_isRelation 12 = .ok (.invokestatic 107, 3) := by decide +kernel
theorem d_R_isRelation_15 : decode b_R_isRelation 15 = .ok (.ireturn, 1) := by decide +kernel
theorem d_R_isEdge_0 : decode b_R_isEdge 0 = .ok (.iload_n 1, 1) := by decide +kernel
theorem d_R_isEdge_1 : decode b_R_isEdge 1 = .ok (.i2l, 1) := by decide +kernel
theorem d_R_isEdge_2 : decode b_R_isEdge 2 = .ok (.lconst 0, 1) := by decide +kernel
theorem d_R_isEdge_3 : decode b_R_isEdge 3 = .ok (.aload_n 0, 1) := by decide +kernel
theorem d_R_isEdge_4 : decode b_R_isEdge 4 = .ok (.getfield 7, 3) := by decide +kernel
theorem d_R_isEdge_7 : decode b_R_isEdge 7 = .ok (.bipush 9, 2) := by decide +kernel
theorem d_R_isEdge_9 : decode b_R_isEdge 9 = .ok (.iaload, 1) := by decide +kernel
theorem d_R_isEdge_10 : decode b_R_isEdge 10 = .ok (.iconst 1, 1) := by decide +kernel
theorem d_R_isEdge_11 : decode b_R_isEdge 11 = .ok (.isub, 1) := by decide +kernel
theorem d_R_isEdge_12 : decode b_R_isEdge 12 = .ok (.i2l, 1) := by decide +kernel
theorem d_R_isEdge_13 : decode b_R_isEdge 13 = .ok (.invokestatic 107, 3) := by decide +kernel
theorem d_R_isEdge_16 : decode b_R_isEdge 16 = .ok (.ireturn, 1) := by decide +kernel
theorem d_R_add_0 : decode b_R_add 0 = .ok (.aload_n 0, 1) := by decide +kernel
theorem d_R_add_1 : decode b_R_add 1 = .ok (.iconst 0, 1) := by decide +kernel
theorem d_R_add_2 : decode b_R_add 2 = .ok (.putfield 67, 3) := by decide +kernel
theorem d_R_add_5 : decode b_R_add 5 = .ok (.iload_n 1, 1) := by decide +kernel
theorem d_R_add_6 : decode b_R_add 6 = .ok (.i2l, 1) := by decide +kernel
theorem d_R_add_7 : decode b_R_add 7 = .ok (.lconst 1, 1) := by decide +kernel
theorem d_R_add_8 : decode b_R_add 8 = .ok (.ldc2_w 307, 3) := by decide +kernel
theorem d_R_add_11 : decode b_R_add 11 = .ok (.invokestatic 107, 3) := by decide +kernel
theorem d_R_add_14 : decode b_R_add 14 = .ok (.ifCond .eq 14, 3) := by decide +kernel
theorem d_R_add_17 : decode b_R_add 17 = .ok (.aload_n 0, 1) := by decide +kernel
theorem d_R_add_18 : decode b_R_add 18 = .ok (.getfield 7, 3) := by decide +kernel
theorem d_R_add_21 : decode b_R_add 21 = .ok (.iconst 0, 1) := by decide +kernel
theorem d_R_add_22 : decode b_R_add 22 = .ok (.iaload, 1) := by decide +kernel
theorem d_R_add_23 : decode b_R_add 23 = .ok (.bipush 8, 2) := by decide +kernel
theorem d_R_add_25 : decode b_R_add 25 = .ok (.if_icmp .ne 5, 3) := by decide +kernel
theorem d_R_add_28 : decode b_R_add 28 = .ok (.iconst (-1), 1) := by decide +kernel
theorem d_R_add_29 : decode b_R_add 29 = .ok (.ireturn, 1) := by decide +kernel
theorem d_R_add_30 : decode b_R_add 30 = .ok (.aload_n 0, 1) := by decide +kernel
theorem d_R_add_31 : decode b_R_add 31 = .ok (.invokevirtual 218, 3) := by decide +kernel
theorem d_R_add_34 : decode b_R_add 34 = .ok (.aload_n 0, 1) := by decide +kernel
theorem d_R_add_35 : decode b_R_add 35 = .ok (.invokevirtual 309, 3) := by decide +kernel
theorem d_R_add_38 : decode b_R_add 38 = .ok (.aload_n 0, 1) := by decide +kernel
theorem d_R_add_39 : decode b_R_add 39 = .ok (.getfield 7, 3) := by decide +kernel
theorem d_R_add_42 : decode b_R_add 42 = .ok (.iconst 1, 1) := by decide +kernel
theorem d_R_add_43 : decode b_R_add 43 = .ok (.aload_n 0, 1) := by decide +kernel
theorem d_R_add_44 : decode b_R_add 44 = .ok (.getfield 7, 3) := by decide +kernel
theorem d_R_add_47 : decode b_R_add 47 = .ok (.iconst 0, 1) := by decide +kernel
theorem d_R_add_48 : decode b_R_add 48 = .ok (.iaload, 1) := by decide +kernel
theorem d_R_add_49 : decode b_R_add 49 = .ok (.iadd, 1) := by decide +kernel
theorem d_R_add_50 : decode b_R_add 50 = .ok (.iload_n 1, 1) := by decide +kernel
theorem d_R_add_51 : decode b_R_add 51 = .ok (.iastore, 1) := by decide +kernel
theorem d_R_add_52 : decode b_R_add 52 = .ok (.aload_n 0, 1) := by decide +kernel
theorem d_R_add_53 : decode b_R_add 53 = .ok (.getfield 7, 3) := by decide +kernel
theorem d_R_add_56 : decode b_R_add 56 = .ok (.iconst 0, 1) := by decide +kernel
theorem d_R_add_57 : decode b_R_add 57 = .ok (.dup2, 1) := by decide +kernel
theorem d_R_add_58 : decode b_R_add 58 = .ok (.iaload, 1) := by decide +kernel
theorem d_R_add_59 : decode b_R_add 59 = .ok (.iconst 1, 1) := by decide +kernel
theorem d_R_add_60 : decode b_R_add 60 = .ok (.iadd, 1) := by decide +kernel
theorem d_R_add_61 : decode b_R_add 61 = .ok (.iastore, 1) := by decide +kernel
theorem d_R_add_62 : decode b_R_add 62 = .ok (.aload_n 0, 1) := by decide +kernel
theorem d_R_add_63 : decode b_R_add 63 = .ok (.getfield 7, 3) := by decide +kernel
theorem d_R_add_66 : decode b_R_add 66 = .ok (.iconst 0, 1) := by decide +kernel
theorem d_R_add_67 : decode b_R_add 67 = .ok (.iaload, 1) := by decide +kernel
theorem d_R_add_68 : decode b_R_add 68 = .ok (.iconst 1, 1) := by decide +kernel
theorem d_R_add_69 : decode b_R_add 69 = .ok (.isub, 1) := by decide +kernel
theorem d_R_add_70 : decode b_R_add 70 = .ok (.ireturn, 1) := by decide +kernel
theorem d_R_rows_0 : decode b_R_rows 0 = .ok (.aload_n 0, 1) := by decide +kernel
theorem d_R_rows_1 : decode b_R_rows 1 = .ok (.iconst 0, 1) := by decide +kernel
theorem d_R_rows_2 : decode b_R_rows 2 = .ok (.putfield 67, 3) := by decide +kernel
theorem d_R_rows_5 : decode b_R_rows 5 = .ok (.aload_n 0, 1) := by decide +kernel
theorem d_R_rows_6 : decode b_R_rows 6 = .ok (.iload_n 1, 1) := by decide +kernel
theorem d_R_rows_7 : decode b_R_rows 7 = .ok (.invokevirtual 312, 3) := by decide +kernel
theorem d_R_rows_10 : decode b_R_rows 10 = .ok (.ifCond .eq 27, 3) := by decide +kernel
theorem d_R_rows_13 : decode b_R_rows 13 = .ok (.iload_n 2, 1) := by decide +kernel
theorem d_R_rows_14 : decode b_R_rows 14 = .ok (.i2l, 1) := by decide +kernel
theorem d_R_rows_15 : decode b_R_rows 15 = .ok (.lconst 1, 1) := by decide +kernel
theorem d_R_rows_16 : decode b_R_rows 16 = .ok (.ldc2_w 307, 3) := by decide +kernel
theorem d_R_rows_19 : decode b_R_rows 19 = .ok (.invokestatic 107, 3) := by decide +kernel
theorem d_R_rows_22 : decode b_R_rows 22 = .ok (.ifCond .eq 15, 3) := by decide +kernel
theorem d_R_rows_25 : decode b_R_rows 25 = .ok (.aload_n 0, 1) := by decide +kernel
theorem d_R_rows_26 : decode b_R_rows 26 = .ok (.getfield 7, 3) := by decide +kernel
theorem d_R_rows_29 : decode b_R_rows 29 = .ok (.iconst 1, 1) := by decide +kernel
theorem d_R_rows_30 : decode b_R_rows 30 = .ok (.iload_n 1, 1) := by decide +kernel
theorem d_R_rows_31 : decode b_R_rows 31 = .ok (.iadd, 1) := by decide +kernel
theorem d_R_rows_32 : decode b_R_rows 32 = .ok (.iaload, 1) := by decide +kernel
theorem d_R_rows_33 : decode b_R_rows 33 = .ok (.iload_n 2, 1) := by decide +kernel
theorem d_R_rows_34 : decode b_R_rows 34 = .ok (.if_icmp .ne 5, 3) := by decide +kernel
theorem d_R_rows_37 : decode b_R_rows 37 = .ok (.iconst 0, 1) := by decide +kernel
theorem d_R_rows_38 : decode b_R_rows 38 = .ok (.ireturn, 1) := by decide +kernel
theorem d_R_rows_39 : decode b_R_rows 39 = .ok (.aload_n 0, 1) := by decide +kernel
theorem d_R_rows_40 : decode b_R_rows 40 = .ok (.invokevirtual 218, 3) := by decide +kernel
theorem d_R_rows_43 : decode b_R_rows 43 = .ok (.aload_n 0, 1) := by decide +kernel
theorem d_R_rows_44 : decode b_R_rows 44 = .ok (.invokevirtual 309, 3) := by decide +kernel
theorem d_R_rows_47 : decode b_R_rows 47 = .ok (.aload_n 0, 1) := by decide +kernel
theorem d_R_rows_48 : decode b_R_rows 48 = .ok (.getfield 7, 3) := by decide +kernel
theorem d_R_rows_51 : decode b_R_rows 51 = .ok (.iconst 1, 1) := by decide +kernel
theorem d_R_rows_52 : decode b_R_rows 52 = .ok (.iload_n 1, 1) := by decide +kernel
theorem d_R_rows_53 : decode b_R_rows 53 = .ok (.iadd, 1) := by decide +kernel
theorem d_R_rows_54 : decode b_R_rows 54 = .ok (.iload_n 2, 1) := by decide +kernel
theorem d_R_rows_55 : decode b_R_rows 55 = .ok (.iastore, 1) := by decide +kernel
theorem d_R_rows_56 : decode b_R_rows 56 = .ok (.iconst 1, 1) := by decide +kernel
theorem d_R_rows_57 : decode b_R_rows 57 = .ok (.ireturn, 1) := by decide +kernel
theorem d_R_link_0 : decode b_R_link 0 = .ok (.aload_n 0, 1) := by decide +kernel
theorem d_R_link_1 : decode b_R_link 1 = .ok (.iconst 0, 1) := by decide +kernel
theorem d_R_link_2 : decode b_R_link 2 = .ok (.putfield 67, 3) := by decide +kernel
theorem d_R_link_5 : decode b_R_link 5 = .ok (.aload_n 0, 1) := by decide +kernel
theorem d_R_link_6 : decode b_R_link 6 = .ok (.iload_n 1, 1) := by decide +kernel
theorem d_R_link_7 : decode b_R_link 7 = .ok (.invokevirtual 315, 3) := by decide +kernel
theorem d_R_link_10 : decode b_R_link 10 = .ok (.ifCond .eq 41, 3) := by decide +kernel
theorem d_R_link_13 : decode b_R_link 13 = .ok (.aload_n 0, 1) := by decide +kernel
theorem d_R_link_14 : decode b_R_link 14 = .ok (.iload_n 2, 1) := by decide +kernel
theorem d_R_link_15 : decode b_R_link 15 = .ok (.invokevirtual 315, 3) := by decide +kernel
theorem d_R_link_18 : decode b_R_link 18 = .ok (.ifCond .eq 33, 3) := by decide +kernel
theorem d_R_link_21 : decode b_R_link 21 = .ok (.iload_n 1, 1) := by decide +kernel
theorem d_R_link_22 : decode b_R_link 22 = .ok (.iload_n 2, 1) := by decide +kernel
theorem d_R_link_23 : decode b_R_link 23 = .ok (.iand, 1) := by decide +kernel
theorem d_R_link_24 : decode b_R_link 24 = .ok (.ifCond .ne 27, 3) := by decide +kernel
theorem d_R_link_27 : decode b_R_link 27 = .ok (.iload_n 3, 1) := by decide +kernel
theorem d_R_link_28 : decode b_R_link 28 = .ok (.i2l, 1) := by decide +kernel
theorem d_R_link_29 : decode b_R_link 29 = .ok (.lconst 1, 1) := by decide +kernel
theorem d_R_link_30 : decode b_R_link 30 = .ok (.ldc2_w 318, 3) := by decide +kernel
theorem d_R_link_33 : decode b_R_link 33 = .ok (.invokestatic 107, 3) := by decide +kernel
theorem d_R_link_36 : decode b_R_link 36 = .ok (.ifCond .eq 15, 3) := by decide +kernel
theorem d_R_link_39 : decode b_R_link 39 = .ok (.aload_n 0, 1) := by decide +kernel
theorem d_R_link_40 : decode b_R_link 40 = .ok (.getfield 7, 3) := by decide +kernel
theorem d_R_link_43 : decode b_R_link 43 = .ok (.bipush 9, 2) := by decide +kernel
theorem d_R_link_45 : decode b_R_link 45 = .ok (.iaload, 1) := by decide +kernel
theorem d_R_link_46 : decode b_R_link 46 = .ok (.bipush 16, 2) := by decide +kernel
theorem d_R_link_48 : decode b_R_link 48 = .ok (.if_icmp .ne 5, 3) := by decide +kernel
theorem d_R_link_51 : decode b_R_link 51 = .ok (.iconst (-1), 1) := by decide +kernel
theorem d_R_link_52 : decode b_R_link 52 = .ok (.ireturn, 1) := by decide +kernel
theorem d_R_link_53 : decode b_R_link 53 = .ok (.aload_n 0, 1) := by decide +kernel
theorem d_R_link_54 : decode b_R_link 54 = .ok (.invokevirtual 218, 3) := by decide +kernel
theorem d_R_link_57 : decode b_R_link 57 = .ok (.aload_n 0, 1) := by decide +kernel
theorem d_R_link_58 : decode b_R_link 58 = .ok (.invokevirtual 309, 3) := by decide +kernel
theorem d_R_link_61 : decode b_R_link 61 = .ok (.bipush 10, 2) := by decide +kernel
theorem d_R_link_63 : decode b_R_link 63 = .ok (.iconst 3, 1) := by decide +kernel
theorem d_R_link_64 : decode b_R_link 64 = .ok (.aload_n 0, 1) := by decide +kernel
theorem d_R_link_65 : decode b_R_link 65 = .ok (.getfield 7, 3) := by decide +kernel
theorem d_R_link_68 : decode b_R_link 68 = .ok (.bipush 9, 2) := by decide +kernel
theorem d_R_link_70 : decode b_R_link 70 = .ok (.iaload, 1) := by decide +kernel
theorem d_R_link_71 : decode b_R_link 71 = .ok (.imul, 1) := by decide +kernel
theorem d_R_link_72 : decode b_R_link 72 = .ok (.iadd, 1) := by decide +kernel
theorem d_R_link_73 : decode b_R_link 73 = .ok (.istore 4, 2) := by decide +kernel
theorem d_R_link_75 : decode b_R_link 75 = .ok (.aload_n 0, 1) := by decide +kernel
theorem d_R_link_76 : decode b_R_link 76 = .ok (.getfield 7, 3) := by decide +kernel
theorem d_R_link_79 : decode b_R_link 79 = .ok (.iload 4, 2) := by decide +kernel
theorem d_R_link_81 : decode b_R_link 81 = .ok (.iload_n 1, 1) := by decide +kernel
theorem d_R_link_82 : decode b_R_link 82 = .ok (.iastore, 1) := by decide +kernel
theorem d_R_link_83 : decode b_R_link 83 = .ok (.aload_n 0, 1) := by decide +kernel
theorem d_R_link_84 : decode b_R_link 84 = .ok (.getfield 7, 3) := by decide +kernel
theorem d_R_link_87 : decode b_R_link 87 = .ok (.iload 4, 2) := by decide +kernel
theorem d_R_link_89 : decode b_R_link 89 = .ok (.iconst 1, 1) := by decide +kernel
theorem d_R_link_90 : decode b_R_link 90 = .ok (.iadd, 1) := by decide +kernel
theorem d_R_link_91 : decode b_R_link 91 = .ok (.iload_n 2, 1) := by decide +kernel
theorem d_R_link_92 : decode b_R_link 92 = .ok (.iastore, 1) := by decide +kernel
theorem d_R_link_93 : decode b_R_link 93 = .ok (.aload_n 0, 1) := by decide +kernel
theorem d_R_link_94 : decode b_R_link 94 = .ok (.getfield 7, 3) := by decide +kernel
theorem d_R_link_97 : decode b_R_link 97 = .ok (.iload 4, 2) := by decide +kernel
theorem d_R_link_99 : decode b_R_link 99 = .ok (.iconst 2, 1) := by decide +kernel
theorem d_R_link_100 : decode b_R_link 100 = .ok (.iadd, 1) := by decide +kernel
theorem d_R_link_101 : decode b_R_link 101 = .ok (.iload_n 3, 1) := by decide +kernel
theorem d_R_link_102 : decode b_R_link 102 = .ok (.iastore, 1) := by decide +kernel
theorem d_R_link_103 : decode b_R_link 103 = .ok (.aload_n 0, 1) := by decide +kernel
theorem d_R_link_104 : decode b_R_link 104 = .ok (.getfield 7, 3) := by decide +kernel
theorem d_R_link_107 : decode b_R_link 107 = .ok (.bipush 9, 2) := by decide +kernel
theorem d_R_link_109 : decode b_R_link 109 = .ok (.dup2, 1) := by decide +kernel
theorem d_R_link_110 : decode b_R_link 110 = .ok (.iaload, 1) := by decide +kernel
theorem d_R_link_111 : decode b_R_link 111 = .ok (.iconst 1, 1) := by decide +kernel
theorem d_R_link_112 : decode b_R_link 112 = .ok (.iadd, 1) := by decide +kernel
theorem d_R_link_113 : decode b_R_link 113 = .ok (.iastore, 1) := by decide +kernel
theorem d_R_link_114 : decode b_R_link 114 = .ok (.aload_n 0, 1) := by decide +kernel
theorem d_R_link_115 : decode b_R_link 115 = .ok (.getfield 7, 3) := by decide +kernel
theorem d_R_link_118 : decode b_R_link 118 = .ok (.bipush 9, 2) := by decide +kernel
theorem d_R_link_120 : decode b_R_link 120 = .ok (.iaload, 1) := by decide +kernel
theorem d_R_link_121 : decode b_R_link 121 = .ok (.iconst 1, 1) := by decide +kernel
theorem d_R_link_122 : decode b_R_link 122 = .ok (.isub, 1) := by decide +kernel
theorem d_R_link_123 : decode b_R_link 123 = .ok (.ireturn, 1) := by decide +kernel
theorem d_R_takesOut_0 : decode b_R_takesOut 0 = .ok (.bipush 10, 2) := by decide +kernel
theorem d_R_takesOut_2 : decode b_R_takesOut 2 = .ok (.iconst 3, 1) := by decide +kernel
theorem d_R_takesOut_3 : decode b_R_takesOut 3 = .ok (.iload_n 1, 1) := by decide +kernel
theorem d_R_takesOut_4 : decode b_R_takesOut 4 = .ok (.imul, 1) := by decide +kernel
theorem d_R_takesOut_5 : decode b_R_takesOut 5 = .ok (.iadd, 1) := by decide +kernel
theorem d_R_takesOut_6 : decode b_R_takesOut 6 = .ok (.istore_n 2, 1) := by decide +kernel
theorem d_R_takesOut_7 : decode b_R_takesOut 7 = .ok (.iload_n 2, 1) := by decide +kernel
theorem d_R_takesOut_8 : decode b_R_takesOut 8 = .ok (.bipush 10, 2) := by decide +kernel
theorem d_R_takesOut_10 : decode b_R_takesOut 10 = .ok (.iconst 3, 1) := by decide +kernel
theorem d_R_takesOut_11 : decode b_R_takesOut 11 = .ok (.aload_n 0, 1) := by decide +kernel
theorem d_R_takesOut_12 : decode b_R_takesOut 12 = .ok (.getfield 7, 3) := by decide +kernel
theorem d_R_takesOut_15 : decode b_R_takesOut 15 = .ok (.bipush 9, 2) := by decide +kernel
theorem d_R_takesOut_17 : decode b_R_takesOut 17 = .ok (.iaload, 1) := by decide +kernel
theorem d_R_takesOut_18 : decode b_R_takesOut 18 = .ok (.imul, 1) := by decide +kernel
theorem d_R_takesOut_19 : decode b_R_takesOut 19 = .ok (.iadd, 1) := by decide +kernel
theorem d_R_takesOut_20 : decode b_R_takesOut 20 = .ok (.iconst 3, 1) := by decide +kernel
theorem d_R_takesOut_21 : decode b_R_takesOut 21 = .ok (.isub, 1) := by decide +kernel
theorem d_R_takesOut_22 : decode b_R_takesOut 22 = .ok (.if_icmp .ge 23, 3) := by decide +kernel
theorem d_R_takesOut_25 : decode b_R_takesOut 25 = .ok (.aload_n 0, 1) := by decide +kernel
theorem d_R_takesOut_26 : decode b_R_takesOut 26 = .ok (.getfield 7, 3) := by decide +kernel
theorem d_R_takesOut_29 : decode b_R_takesOut 29 = .ok (.iload_n 2, 1) := by decide +kernel
theorem d_R_takesOut_30 : decode b_R_takesOut 30 = .ok (.aload_n 0, 1) := by decide +kernel
theorem d_R_takesOut_31 : decode b_R_takesOut 31 = .ok (.getfield 7, 3) := by decide +kernel
theorem d_R_takesOut_34 : decode b_R_takesOut 34 = .ok (.iload_n 2, 1) := by decide +kernel
theorem d_R_takesOut_35 : decode b_R_takesOut 35 = .ok (.iconst 3, 1) := by decide +kernel
theorem d_R_takesOut_36 : decode b_R_takesOut 36 = .ok (.iadd, 1) := by decide +kernel
theorem d_R_takesOut_37 : decode b_R_takesOut 37 = .ok (.iaload, 1) := by decide +kernel
theorem d_R_takesOut_38 : decode b_R_takesOut 38 = .ok (.iastore, 1) := by decide +kernel
theorem d_R_takesOut_39 : decode b_R_takesOut 39 = .ok (.iinc 2 1, 3) := by decide +kernel
theorem d_R_takesOut_42 : decode b_R_takesOut 42 = .ok (.goto (-35), 3) := by decide +kernel
theorem d_R_takesOut_45 : decode b_R_takesOut 45 = .ok (.aload_n 0, 1) := by decide +kernel
theorem d_R_takesOut_46 : decode b_R_takesOut 46 = .ok (.getfield 7, 3) := by decide +kernel
theorem d_R_takesOut_49 : decode b_R_takesOut 49 = .ok (.bipush 9, 2) := by decide +kernel
theorem d_R_takesOut_51 : decode b_R_takesOut 51 = .ok (.dup2, 1) := by decide +kernel
theorem d_R_takesOut_52 : decode b_R_takesOut 52 = .ok (.iaload, 1) := by decide +kernel
theorem d_R_takesOut_53 : decode b_R_takesOut 53 = .ok (.iconst 1, 1) := by decide +kernel
theorem d_R_takesOut_54 : decode b_R_takesOut 54 = .ok (.isub, 1) := by decide +kernel
theorem d_R_takesOut_55 : decode b_R_takesOut 55 = .ok (.iastore, 1) := by decide +kernel
theorem d_R_takesOut_56 : decode b_R_takesOut 56 = .ok (.return_, 1) := by decide +kernel
theorem d_R_cut_0 : decode b_R_cut 0 = .ok (.aload_n 0, 1) := by decide +kernel
theorem d_R_cut_1 : decode b_R_cut 1 = .ok (.iconst 0, 1) := by decide +kernel
theorem d_R_cut_2 : decode b_R_cut 2 = .ok (.putfield 67, 3) := by decide +kernel
theorem d_R_cut_5 : decode b_R_cut 5 = .ok (.aload_n 0, 1) := by decide +kernel
theorem d_R_cut_6 : decode b_R_cut 6 = .ok (.iload_n 1, 1) := by decide +kernel
theorem d_R_cut_7 : decode b_R_cut 7 = .ok (.invokevirtual 320, 3) := by decide +kernel
theorem d_R_cut_10 : decode b_R_cut 10 = .ok (.ifCond .ne 5, 3) := by decide +kernel
theorem d_R_cut_13 : decode b_R_cut 13 = .ok (.iconst (-1), 1) := by decide +kernel
theorem d_R_cut_14 : decode b_R_cut 14 = .ok (.ireturn, 1) := by decide +kernel
theorem d_R_cut_15 : decode b_R_cut 15 = .ok (.aload_n 0, 1) := by decide +kernel
theorem d_R_cut_16 : decode b_R_cut 16 = .ok (.invokevirtual 218, 3) := by decide +kernel
theorem d_R_cut_19 : decode b_R_cut 19 = .ok (.aload_n 0, 1) := by decide +kernel
theorem d_R_cut_20 : decode b_R_cut 20 = .ok (.invokevirtual 309, 3) := by decide +kernel
theorem d_R_cut_23 : decode b_R_cut 23 = .ok (.aload_n 0, 1) := by decide +kernel
theorem d_R_cut_24 : decode b_R_cut 24 = .ok (.iload_n 1, 1) := by decide +kernel
theorem d_R_cut_25 : decode b_R_cut 25 = .ok (.invokevirtual 323, 3) := by decide +kernel
theorem d_R_cut_28 : decode b_R_cut 28 = .ok (.bipush 10, 2) := by decide +kernel
theorem d_R_cut_30 : decode b_R_cut 30 = .ok (.iconst 3, 1) := by decide +kernel
theorem d_R_cut_31 : decode b_R_cut 31 = .ok (.aload_n 0, 1) := by decide +kernel
theorem d_R_cut_32 : decode b_R_cut 32 = .ok (.getfield 7, 3) := by decide +kernel
theorem d_R_cut_35 : decode b_R_cut 35 = .ok (.bipush 9, 2) := by decide +kernel
theorem d_R_cut_37 : decode b_R_cut 37 = .ok (.iaload, 1) := by decide +kernel
theorem d_R_cut_38 : decode b_R_cut 38 = .ok (.imul, 1) := by decide +kernel
theorem d_R_cut_39 : decode b_R_cut 39 = .ok (.iadd, 1) := by decide +kernel
theorem d_R_cut_40 : decode b_R_cut 40 = .ok (.istore_n 2, 1) := by decide +kernel
theorem d_R_cut_41 : decode b_R_cut 41 = .ok (.iload_n 2, 1) := by decide +kernel
theorem d_R_cut_42 : decode b_R_cut 42 = .ok (.bipush 58, 2) := by decide +kernel
theorem d_R_cut_44 : decode b_R_cut 44 = .ok (.if_icmp .ge 16, 3) := by decide +kernel
theorem d_R_cut_47 : decode b_R_cut 47 = .ok (.aload_n 0, 1) := by decide +kernel
theorem d_R_cut_48 : decode b_R_cut 48 = .ok (.getfield 7, 3) := by decide +kernel
theorem d_R_cut_51 : decode b_R_cut 51 = .ok (.iload_n 2, 1) := by decide +kernel
theorem d_R_cut_52 : decode b_R_cut 52 = .ok (.iconst 0, 1) := by decide +kernel
theorem d_R_cut_53 : decode b_R_cut 53 = .ok (.iastore, 1) := by decide +kernel
theorem d_R_cut_54 : decode b_R_cut 54 = .ok (.iinc 2 1, 3) := by decide +kernel
theorem d_R_cut_57 : decode b_R_cut 57 = .ok (.goto (-16), 3) := by decide +kernel
theorem d_R_cut_60 : decode b_R_cut 60 = .ok (.aload_n 0, 1) := by decide +kernel
theorem d_R_cut_61 : decode b_R_cut 61 = .ok (.getfield 7, 3) := by decide +kernel
theorem d_R_cut_64 : decode b_R_cut 64 = .ok (.bipush 9, 2) := by decide +kernel
theorem d_R_cut_66 : decode b_R_cut 66 = .ok (.iaload, 1) := by decide +kernel
theorem d_R_cut_67 : decode b_R_cut 67 = .ok (.ireturn, 1) := by decide +kernel
theorem d_R_by_0 : decode b_R_by 0 = .ok (.aload_n 0, 1) := by decide +kernel
theorem d_R_by_1 : decode b_R_by 1 = .ok (.iconst 0, 1) := by decide +kernel
theorem d_R_by_2 : decode b_R_by 2 = .ok (.putfield 67, 3) := by decide +kernel
theorem d_R_by_5 : decode b_R_by 5 = .ok (.aload_n 0, 1) := by decide +kernel
theorem d_R_by_6 : decode b_R_by 6 = .ok (.iload_n 1, 1) := by decide +kernel
theorem d_R_by_7 : decode b_R_by 7 = .ok (.invokevirtual 320, 3) := by decide +kernel
theorem d_R_by_10 : decode b_R_by 10 = .ok (.ifCond .eq 24, 3) := by decide +kernel
theorem d_R_by_13 : decode b_R_by 13 = .ok (.iload_n 2, 1) := by decide +kernel
theorem d_R_by_14 : decode b_R_by 14 = .ok (.i2l, 1) := by decide +kernel
theorem d_R_by_15 : decode b_R_by 15 = .ok (.lconst 1, 1) := by decide +kernel
theorem d_R_by_16 : decode b_R_by 16 = .ok (.ldc2_w 318, 3) := by decide +kernel
theorem d_R_by_19 : decode b_R_by 19 = .ok (.invokestatic 107, 3) := by decide +kernel
theorem d_R_by_22 : decode b_R_by 22 = .ok (.ifCond .eq 12, 3) := by decide +kernel
theorem d_R_by_25 : decode b_R_by 25 = .ok (.aload_n 0, 1) := by decide +kernel
theorem d_R_by_26 : decode b_R_by 26 = .ok (.iload_n 1, 1) := by decide +kernel
theorem d_R_by_27 : decode b_R_by 27 = .ok (.invokevirtual 229, 3) := by decide +kernel
theorem d_R_by_30 : decode b_R_by 30 = .ok (.iload_n 2, 1) := by decide +kernel
theorem d_R_by_31 : decode b_R_by 31 = .ok (.if_icmp .ne 5, 3) := by decide +kernel
theorem d_R_by_34 : decode b_R_by 34 = .ok (.iconst 0, 1) := by decide +kernel
theorem d_R_by_35 : decode b_R_by 35 = .ok (.ireturn, 1) := by decide +kernel
theorem d_R_by_36 : decode b_R_by 36 = .ok (.aload_n 0, 1) := by decide +kernel
theorem d_R_by_37 : decode b_R_by 37 = .ok (.invokevirtual 218, 3) := by decide +kernel
theorem d_R_by_40 : decode b_R_by 40 = .ok (.aload_n 0, 1) := by decide +kernel
theorem d_R_by_41 : decode b_R_by 41 = .ok (.invokevirtual 309, 3) := by decide +kernel
theorem d_R_by_44 : decode b_R_by 44 = .ok (.aload_n 0, 1) := by decide +kernel
theorem d_R_by_45 : decode b_R_by 45 = .ok (.getfield 7, 3) := by decide +kernel
theorem d_R_by_48 : decode b_R_by 48 = .ok (.bipush 10, 2) := by decide +kernel
theorem d_R_by_50 : decode b_R_by 50 = .ok (.iconst 3, 1) := by decide +kernel
theorem d_R_by_51 : decode b_R_by 51 = .ok (.iload_n 1, 1) := by decide +kernel
theorem d_R_by_52 : decode b_R_by 52 = .ok (.imul, 1) := by decide +kernel
theorem d_R_by_53 : decode b_R_by 53 = .ok (.iadd, 1) := by decide +kernel
theorem d_R_by_54 : decode b_R_by 54 = .ok (.iconst 2, 1) := by decide +kernel
theorem d_R_by_55 : decode b_R_by 55 = .ok (.iadd, 1) := by decide +kernel
theorem d_R_by_56 : decode b_R_by 56 = .ok (.iload_n 2, 1) := by decide +kernel
theorem d_R_by_57 : decode b_R_by 57 = .ok (.iastore, 1) := by decide +kernel
theorem d_R_by_58 : decode b_R_by 58 = .ok (.iconst 1, 1) := by decide +kernel
theorem d_R_by_59 : decode b_R_by 59 = .ok (.ireturn, 1) := by decide +kernel
theorem d_R_limit_0 : decode b_R_limit 0 = .ok (.aload_n 0, 1) := by decide +kernel
theorem d_R_limit_1 : decode b_R_limit 1 = .ok (.iconst 0, 1) := by decide +kernel
theorem d_R_limit_2 : decode b_R_limit 2 = .ok (.putfield 67, 3) := by decide +kernel
theorem d_R_limit_5 : decode b_R_limit 5 = .ok (.iload_n 1, 1) := by decide +kernel
theorem d_R_limit_6 : decode b_R_limit 6 = .ok (.i2l, 1) := by decide +kernel
theorem d_R_limit_7 : decode b_R_limit 7 = .ok (.lconst 0, 1) := by decide +kernel
theorem d_R_limit_8 : decode b_R_limit 8 = .ok (.ldc2_w 326, 3) := by decide +kernel
theorem d_R_limit_11 : decode b_R_limit 11 = .ok (.invokestatic 107, 3) := by decide +kernel
theorem d_R_limit_14 : decode b_R_limit 14 = .ok (.ifCond .eq 14, 3) := by decide +kernel
theorem d_R_limit_17 : decode b_R_limit 17 = .ok (.aload_n 0, 1) := by decide +kernel
theorem d_R_limit_18 : decode b_R_limit 18 = .ok (.getfield 7, 3) := by decide +kernel
theorem d_R_limit_21 : decode b_R_limit 21 = .ok (.bipush 58, 2) := by decide +kernel
theorem d_R_limit_23 : decode b_R_limit 23 = .ok (.iaload, 1) := by decide +kernel
theorem d_R_limit_24 : decode b_R_limit 24 = .ok (.iload_n 1, 1) := by decide +kernel
theorem d_R_limit_25 : decode b_R_limit 25 = .ok (.if_icmp .ne 5, 3) := by decide +kernel
theorem d_R_limit_28 : decode b_R_limit 28 = .ok (.iconst 0, 1) := by decide +kernel
theorem d_R_limit_29 : decode b_R_limit 29 = .ok (.ireturn, 1) := by decide +kernel
theorem d_R_limit_30 : decode b_R_limit 30 = .ok (.aload_n 0, 1) := by decide +kernel
theorem d_R_limit_31 : decode b_R_limit 31 = .ok (.invokevirtual 218, 3) := by decide +kernel
theorem d_R_limit_34 : decode b_R_limit 34 = .ok (.aload_n 0, 1) := by decide +kernel
theorem d_R_limit_35 : decode b_R_limit 35 = .ok (.getfield 7, 3) := by decide +kernel
theorem d_R_limit_38 : decode b_R_limit 38 = .ok (.bipush 58, 2) := by decide +kernel
theorem d_R_limit_40 : decode b_R_limit 40 = .ok (.iload_n 1, 1) := by decide +kernel
theorem d_R_limit_41 : decode b_R_limit 41 = .ok (.iastore, 1) := by decide +kernel
theorem d_R_limit_42 : decode b_R_limit 42 = .ok (.iconst 1, 1) := by decide +kernel
theorem d_R_limit_43 : decode b_R_limit 43 = .ok (.ireturn, 1) := by decide +kernel
theorem d_R_isPlanNow_0 : decode b_R_isPlanNow 0 = .ok (.aload_n 0, 1) := by decide +kernel
theorem d_R_isPlanNow_1 : decode b_R_isPlanNow 1 = .ok (.getfield 7, 3) := by decide +kernel
theorem d_R_isPlanNow_4 : decode b_R_isPlanNow 4 = .ok (.bipush 59, 2) := by decide +kernel
theorem d_R_isPlanNow_6 : decode b_R_isPlanNow 6 = .ok (.iload_n 1, 1) := by decide +kernel
theorem d_R_isPlanNow_7 : decode b_R_isPlanNow 7 = .ok (.iastore, 1) := by decide +kernel
theorem d_R_isPlanNow_8 : decode b_R_isPlanNow 8 = .ok (.iconst 0, 1) := by decide +kernel
theorem d_R_isPlanNow_9 : decode b_R_isPlanNow 9 = .ok (.istore_n 2, 1) := by decide +kernel
theorem d_R_isPlanNow_10 : decode b_R_isPlanNow 10 = .ok (.iload_n 2, 1) := by decide +kernel
theorem d_R_isPlanNow_11 : decode b_R_isPlanNow 11 = .ok (.sipush 256, 3) := by decide +kernel
theorem d_R_isPlanNow_14 : decode b_R_isPlanNow 14 = .ok (.if_icmp .ge 24, 3) := by decide +kernel
theorem d_R_isPlanNow_17 : decode b_R_isPlanNow 17 = .ok (.aload_n 0, 1) := by decide +kernel
theorem d_R_isPlanNow_18 : decode b_R_isPlanNow 18 = .ok (.getfield 7, 3) := by decide +kernel
theorem d_R_isPlanNow_21 : decode b_R_isPlanNow 21 = .ok (.bipush 60, 2) := by decide +kernel
theorem d_R_isPlanNow_23 : decode b_R_isPlanNow 23 = .ok (.iload_n 2, 1) := by decide +kernel
theorem d_R_isPlanNow_24 : decode b_R_isPlanNow 24 = .ok (.iadd, 1) := by decide +kernel
theorem d_R_isPlanNow_25 : decode b_R_isPlanNow 25 = .ok (.aload_n 0, 1) := by decide +kernel
theorem d_R_isPlanNow_26 : decode b_R_isPlanNow 26 = .ok (.getfield 52, 3) := by decide +kernel
theorem d_R_isPlanNow_29 : decode b_R_isPlanNow 29 = .ok (.iload_n 2, 1) := by decide +kernel
theorem d_R_isPlanNow_30 : decode b_R_isPlanNow 30 = .ok (.iaload, 1) := by decide +kernel
theorem d_R_isPlanNow_31 : decode b_R_isPlanNow 31 = .ok (.iastore, 1) := by decide +kernel
theorem d_R_isPlanNow_32 : decode b_R_isPlanNow 32 = .ok (.iinc 2 1, 3) := by decide +kernel
theorem d_R_isPlanNow_35 : decode b_R_isPlanNow 35 = .ok (.goto (-25), 3) := by decide +kernel
theorem d_R_isPlanNow_38 : decode b_R_isPlanNow 38 = .ok (.return_, 1) := by decide +kernel
theorem d_R_choose_0 : decode b_R_choose 0 = .ok (.aload_n 0, 1) := by decide +kernel
theorem d_R_choose_1 : decode b_R_choose 1 = .ok (.iconst 0, 1) := by decide +kernel
theorem d_R_choose_2 : decode b_R_choose 2 = .ok (.putfield 67, 3) := by decide +kernel
theorem d_R_choose_5 : decode b_R_choose 5 = .ok (.aload_n 0, 1) := by decide +kernel
theorem d_R_choose_6 : decode b_R_choose 6 = .ok (.getfield 7, 3) := by decide +kernel
theorem d_R_choose_9 : decode b_R_choose 9 = .ok (.iconst 0, 1) := by decide +kernel
theorem d_R_choose_10 : decode b_R_choose 10 = .ok (.iaload, 1) := by decide +kernel
theorem d_R_choose_11 : decode b_R_choose 11 = .ok (.ifCond .ne 5, 3) := by decide +kernel
theorem d_R_choose_14 : decode b_R_choose 14 = .ok (.iconst (-1), 1) := by decide +kernel
theorem d_R_choose_15 : decode b_R_choose 15 = .ok (.ireturn, 1) := by decide +kernel
theorem d_R_choose_16 : decode b_R_choose 16 = .ok (.aload_n 0, 1) := by decide +kernel
theorem d_R_choose_17 : decode b_R_choose 17 = .ok (.invokevirtual 328, 3) := by decide +kernel
theorem d_R_choose_20 : decode b_R_choose 20 = .ok (.aload_n 0, 1) := by decide +kernel
theorem d_R_choose_21 : decode b_R_choose 21 = .ok (.invokevirtual 331, 3) := by decide +kernel
theorem d_R_choose_24 : decode b_R_choose 24 = .ok (.aload_n 0, 1) := by decide +kernel
theorem d_R_choose_25 : decode b_R_choose 25 = .ok (.getfield 7, 3) := by decide +kernel
theorem d_R_choose_28 : decode b_R_choose 28 = .ok (.bipush 58, 2) := by decide +kernel
theorem d_R_choose_30 : decode b_R_choose 30 = .ok (.iaload, 1) := by decide +kernel
theorem d_R_choose_31 : decode b_R_choose 31 = .ok (.if_icmp .le 7, 3) := by decide +kernel
theorem d_R_choose_34 : decode b_R_choose 34 = .ok (.iconst 1, 1) := by decide +kernel
theorem d_R_choose_35 : decode b_R_choose 35 = .ok (.goto 4, 3) := by decide +kernel
theorem d_R_choose_38 : decode b_R_choose 38 = .ok (.iconst 0, 1) := by decide +kernel
theorem d_R_choose_39 : decode b_R_choose 39 = .ok (.istore_n 1, 1) := by decide +kernel
theorem d_R_choose_40 : decode b_R_choose 40 = .ok (.iload_n 1, 1) := by decide +kernel
theorem d_R_choose_41 : decode b_R_choose 41 = .ok (.ifCond .eq 10, 3) := by decide +kernel
theorem d_R_choose_44 : decode b_R_choose 44 = .ok (.aload_n 0, 1) := by decide +kernel
theorem d_R_choose_45 : decode b_R_choose 45 = .ok (.invokevirtual 334, 3) := by decide +kernel
theorem d_R_choose_48 : decode b_R_choose 48 = .ok (.goto 11, 3) := by decide +kernel
theorem d_R_choose_51 : decode b_R_choose 51 = .ok (.aload_n 0, 1) := by decide +kernel
theorem d_R_choose_52 : decode b_R_choose 52 = .ok (.aload_n 0, 1) := by decide +kernel
theorem d_R_choose_53 : decode b_R_choose 53 = .ok (.invokevirtual 71, 3) := by decide +kernel
theorem d_R_choose_56 : decode b_R_choose 56 = .ok (.invokevirtual 337, 3) := by decide +kernel
theorem d_R_choose_59 : decode b_R_choose 59 = .ok (.aload_n 0, 1) := by decide +kernel
theorem d_R_choose_60 : decode b_R_choose 60 = .ok (.invokevirtual 218, 3) := by decide +kernel
theorem d_R_choose_63 : decode b_R_choose 63 = .ok (.aload_n 0, 1) := by decide +kernel
theorem d_R_choose_64 : decode b_R_choose 64 = .ok (.aload_n 0, 1) := by decide +kernel
theorem d_R_choose_65 : decode b_R_choose 65 = .ok (.invokevirtual 71, 3) := by decide +kernel
theorem d_R_choose_68 : decode b_R_choose 68 = .ok (.invokevirtual 340, 3) := by decide +kernel
theorem d_R_choose_71 : decode b_R_choose 71 = .ok (.iload_n 1, 1) := by decide +kernel
theorem d_R_choose_72 : decode b_R_choose 72 = .ok (.ifCond .eq 7, 3) := by decide +kernel
theorem d_R_choose_75 : decode b_R_choose 75 = .ok (.iconst 1, 1) := by decide +kernel
theorem d_R_choose_76 : decode b_R_choose 76 = .ok (.goto 4, 3) := by decide +kernel
theorem d_R_choose_79 : decode b_R_choose 79 = .ok (.iconst 0, 1) := by decide +kernel
theorem d_R_choose_80 : decode b_R_choose 80 = .ok (.ireturn, 1) := by decide +kernel
theorem d_R_step_0 : decode b_R_step 0 = .ok (.aload_n 0, 1) := by decide +kernel
theorem d_R_step_1 : decode b_R_step 1 = .ok (.iconst 0, 1) := by decide +kernel
theorem d_R_step_2 : decode b_R_step 2 = .ok (.putfield 67, 3) := by decide +kernel
theorem d_R_step_5 : decode b_R_step 5 = .ok (.aload_n 0, 1) := by decide +kernel
theorem d_R_step_6 : decode b_R_step 6 = .ok (.getfield 7, 3) := by decide +kernel
theorem d_R_step_9 : decode b_R_step 9 = .ok (.bipush 59, 2) := by decide +kernel
theorem d_R_step_11 : decode b_R_step 11 = .ok (.iaload, 1) := by decide +kernel
theorem d_R_step_12 : decode b_R_step 12 = .ok (.istore_n 1, 1) := by decide +kernel
theorem d_R_step_13 : decode b_R_step 13 = .ok (.iload_n 1, 1) := by decide +kernel
theorem d_R_step_14 : decode b_R_step 14 = .ok (.ifCond .ne 5, 3) := by decide +kernel
theorem d_R_step_17 : decode b_R_step 17 = .ok (.iconst (-1), 1) := by decide +kernel
theorem d_R_step_18 : decode b_R_step 18 = .ok (.ireturn, 1) := by decide +kernel
theorem d_R_step_19 : decode b_R_step 19 = .ok (.aload_n 0, 1) := by decide +kernel
theorem d_R_step_20 : decode b_R_step 20 = .ok (.invokevirtual 328, 3) := by decide +kernel
theorem d_R_step_23 : decode b_R_step 23 = .ok (.aload_n 0, 1) := by decide +kernel
theorem d_R_step_24 : decode b_R_step 24 = .ok (.invokevirtual 343, 3) := by decide +kernel
theorem d_R_step_27 : decode b_R_step 27 = .ok (.aload_n 0, 1) := by decide +kernel
theorem d_R_step_28 : decode b_R_step 28 = .ok (.iload_n 1, 1) := by decide +kernel
theorem d_R_step_29 : decode b_R_step 29 = .ok (.invokevirtual 346, 3) := by decide +kernel
theorem d_R_step_32 : decode b_R_step 32 = .ok (.istore_n 2, 1) := by decide +kernel
theorem d_R_step_33 : decode b_R_step 33 = .ok (.iload_n 2, 1) := by decide +kernel
theorem d_R_step_34 : decode b_R_step 34 = .ok (.iconst (-1), 1) := by decide +kernel
theorem d_R_step_35 : decode b_R_step 35 = .ok (.if_icmp .ne 5, 3) := by decide +kernel
theorem d_R_step_38 : decode b_R_step 38 = .ok (.iconst 0, 1) := by decide +kernel
theorem d_R_step_39 : decode b_R_step 39 = .ok (.ireturn, 1) := by decide +kernel
theorem d_R_step_40 : decode b_R_step 40 = .ok (.aload_n 0, 1) := by decide +kernel
theorem d_R_step_41 : decode b_R_step 41 = .ok (.iload_n 2, 1) := by decide +kernel
theorem d_R_step_42 : decode b_R_step 42 = .ok (.invokevirtual 285, 3) := by decide +kernel
theorem d_R_step_45 : decode b_R_step 45 = .ok (.istore_n 3, 1) := by decide +kernel
theorem d_R_step_46 : decode b_R_step 46 = .ok (.aload_n 0, 1) := by decide +kernel
theorem d_R_step_47 : decode b_R_step 47 = .ok (.invokevirtual 301, 3) := by decide +kernel
theorem d_R_step_50 : decode b_R_step 50 = .ok (.aload_n 0, 1) := by decide +kernel
theorem d_R_step_51 : decode b_R_step 51 = .ok (.invokevirtual 218, 3) := by decide +kernel
theorem d_R_step_54 : decode b_R_step 54 = .ok (.aload_n 0, 1) := by decide +kernel
theorem d_R_step_55 : decode b_R_step 55 = .ok (.iload_n 1, 1) := by decide +kernel
theorem d_R_step_56 : decode b_R_step 56 = .ok (.invokevirtual 340, 3) := by decide +kernel
theorem d_R_step_59 : decode b_R_step 59 = .ok (.iconst 1, 1) := by decide +kernel
theorem d_R_step_60 : decode b_R_step 60 = .ok (.iload_n 2, 1) := by decide +kernel
theorem d_R_step_61 : decode b_R_step 61 = .ok (.iconst 2, 1) := by decide +kernel
theorem d_R_step_62 : decode b_R_step 62 = .ok (.irem, 1) := by decide +kernel
theorem d_R_step_63 : decode b_R_step 63 = .ok (.iadd, 1) := by decide +kernel
theorem d_R_step_64 : decode b_R_step 64 = .ok (.ireturn, 1) := by decide +kernel
theorem d_R_undo_0 : decode b_R_undo 0 = .ok (.aload_n 0, 1) := by decide +kernel
theorem d_R_undo_1 : decode b_R_undo 1 = .ok (.iconst 0, 1) := by decide +kernel
theorem d_R_undo_2 : decode b_R_undo 2 = .ok (.putfield 67, 3) := by decide +kernel
theorem d_R_undo_5 : decode b_R_undo 5 = .ok (.aload_n 0, 1) := by decide +kernel
theorem d_R_undo_6 : decode b_R_undo 6 = .ok (.getfield 180, 3) := by decide +kernel
theorem d_R_undo_9 : decode b_R_undo 9 = .ok (.ifCond .ne 5, 3) := by decide +kernel
theorem d_R_undo_12 : decode b_R_undo 12 = .ok (.iconst (-1), 1) := by decide +kernel
theorem d_R_undo_13 : decode b_R_undo 13 = .ok (.ireturn, 1) := by decide +kernel
theorem d_R_undo_14 : decode b_R_undo 14 = .ok (.aload_n 0, 1) := by decide +kernel
theorem d_R_undo_15 : decode b_R_undo 15 = .ok (.dup, 1) := by decide +kernel
theorem d_R_undo_16 : decode b_R_undo 16 = .ok (.getfield 180, 3) := by decide +kernel
theorem d_R_undo_19 : decode b_R_undo 19 = .ok (.iconst 1, 1) := by decide +kernel
theorem d_R_undo_20 : decode b_R_undo 20 = .ok (.isub, 1) := by decide +kernel
theorem d_R_undo_21 : decode b_R_undo 21 = .ok (.putfield 180, 3) := by decide +kernel
theorem d_R_undo_24 : decode b_R_undo 24 = .ok (.iconst 0, 1) := by decide +kernel
theorem d_R_undo_25 : decode b_R_undo 25 = .ok (.istore_n 1, 1) := by decide +kernel
theorem d_R_undo_26 : decode b_R_undo 26 = .ok (.iload_n 1, 1) := by decide +kernel
theorem d_R_undo_27 : decode b_R_undo 27 = .ok (.sipush 316, 3) := by decide +kernel
theorem d_R_undo_30 : decode b_R_undo 30 = .ok (.if_icmp .ge 30, 3) := by decide +kernel
theorem d_R_undo_33 : decode b_R_undo 33 = .ok (.aload_n 0, 1) := by decide +kernel
theorem d_R_undo_34 : decode b_R_undo 34 = .ok (.getfield 7, 3) := by decide +kernel
theorem d_R_undo_37 : decode b_R_undo 37 = .ok (.iload_n 1, 1) := by decide +kernel
theorem d_R_undo_38 : decode b_R_undo 38 = .ok (.aload_n 0, 1) := by decide +kernel
theorem d_R_undo_39 : decode b_R_undo 39 = .ok (.getfield 21, 3) := by decide +kernel
theorem d_R_undo_42 : decode b_R_undo 42 = .ok (.sipush 316, 3) := by decide +kernel
theorem d_R_undo_45 : decode b_R_undo 45 = .ok (.aload_n 0, 1) := by decide +kernel
theorem d_R_undo_46 : decode b_R_undo 46 = .ok (.getfield 180, 3) := by decide +kernel
theorem d_R_undo_49 : decode b_R_undo 49 = .ok (.imul, 1) := by decide +kernel
theorem d_R_undo_50 : decode b_R_undo 50 = .ok (.iload_n 1, 1) := by decide +kernel
theorem d_R_undo_51 : decode b_R_undo 51 = .ok (.iadd, 1) := by decide +kernel
theorem d_R_undo_52 : decode b_R_undo 52 = .ok (.iaload, 1) := by decide +kernel
theorem d_R_undo_53 : decode b_R_undo 53 = .ok (.iastore, 1) := by decide +kernel
theorem d_R_undo_54 : decode b_R_undo 54 = .ok (.iinc 1 1, 3) := by decide +kernel
theorem d_R_undo_57 : decode b_R_undo 57 = .ok (.goto (-31), 3) := by decide +kernel
theorem d_R_undo_60 : decode b_R_undo 60 = .ok (.aload_n 0, 1) := by decide +kernel
theorem d_R_undo_61 : decode b_R_undo 61 = .ok (.getfield 180, 3) := by decide +kernel
theorem d_R_undo_64 : decode b_R_undo 64 = .ok (.ireturn, 1) := by decide +kernel
theorem d_R_connectedMany_0 : decode b_R_connectedMany 0 = .ok (.iconst 0, 1) := by decide +kernel
theorem d_R_connectedMany_1 : decode b_R_connectedMany 1 = .ok (.istore_n 2, 1) := by decide +kernel
theorem d_R_connectedMany_2 : decode b_R_connectedMany 2 = .ok (.iconst 1, 1) := by decide +kernel
theorem d_R_connectedMany_3 : decode b_R_connectedMany 3 = .ok (.istore_n 3, 1) := by decide +kernel
theorem d_R_connectedMany_4 : decode b_R_connectedMany 4 = .ok (.iload_n 3, 1) := by decide +kernel
theorem d_R_connectedMany_5 : decode b_R_connectedMany 5 = .ok (.aload_n 0, 1) := by decide +kernel
theorem d_R_connectedMany_6 : decode b_R_connectedMany 6 = .ok (.invokevirtual 71, 3) := by decide +kernel
theorem d_R_connectedMany_9 : decode b_R_connectedMany 9 = .ok (.if_icmp .gt 42, 3) := by decide +kernel
theorem d_R_connectedMany_12 : decode b_R_connectedMany 12 = .ok (.iload_n 2, 1) := by decide +kernel
theorem d_R_connectedMany_13 : decode b_R_connectedMany 13 = .ok (.iload_n 1, 1) := by decide +kernel
theorem d_R_connectedMany_14 : decode b_R_connectedMany 14 = .ok (.ifCond .eq 15, 3) := by decide +kernel
theorem d_R_connectedMany_17 : decode b_R_connectedMany 17 = .ok (.aload_n 0, 1) := by decide +kernel
theorem d_R_connectedMany_18 : decode b_R_connectedMany 18 = .ok (.getfield 37, 3) := by decide +kernel
theorem d_R_connectedMany_21 : decode b_R_connectedMany 21 = .ok (.iload_n 3, 1) := by decide +kernel
theorem d_R_connectedMany_22 : decode b_R_connectedMany 22 = .ok (.baload, 1) := by decide +kernel
theorem d_R_connectedMany_23 : decode b_R_connectedMany 23 = .ok (.ifCond .eq 19, 3) := by decide +kernel
theorem d_R_connectedMany_26 : decode b_R_connectedMany 26 = .ok (.goto 12, 3) := by decide +kernel
theorem d_R_connectedMany_29 : decode b_R_connectedMany 29 = .ok (.aload_n 0, 1) := by decide +kernel
theorem d_R_connectedMany_30 : decode b_R_connectedMany 30 = .ok (.getfield 40, 3) := by decide +kernel
theorem d_R_connectedMany_33 : decode b_R_connectedMany 33 = .ok (.iload_n 3, 1) := by decide +kernel
theorem d_R_connectedMany_34 : decode b_R_connectedMany 34 = .ok (.baload, 1) := by decide +kernel
theorem d_R_connectedMany_35 : decode b_R_connectedMany 35 = .ok (.ifCond .eq 7, 3) := by decide +kernel
theorem d_R_connectedMany_38 : decode b_R_connectedMany 38 = .ok (.iconst 1, 1) := by decide +kernel
theorem d_R_connectedMany_39 : decode b_R_connectedMany 39 = .ok (.goto 4, 3) := by decide +kernel
theorem d_R_connectedMany_42 : decode b_R_connectedMany 42 = .ok (.iconst 0, 1) := by decide +kernel
theorem d_R_connectedMany_43 : decode b_R_connectedMany 43 = .ok (.iadd, 1) := by decide +kernel
theorem d_R_connectedMany_44 : decode b_R_connectedMany 44 = .ok (.istore_n 2, 1) := by decide +kernel
theorem d_R_connectedMany_45 : decode b_R_connectedMany 45 = .ok (.iinc 3 1, 3) := by decide +kernel
theorem d_R_connectedMany_48 : decode b_R_connectedMany 48 = .ok (.goto (-44), 3) := by decide +kernel
theorem d_R_connectedMany_51 : decode b_R_connectedMany 51 = .ok (.iload_n 2, 1) := by decide +kernel
theorem d_R_connectedMany_52 : decode b_R_connectedMany 52 = .ok (.ireturn, 1) := by decide +kernel
theorem d_R_partMany_0 : decode b_R_partMany 0 = .ok (.aload_n 0, 1) := by decide +kernel
theorem d_R_partMany_1 : decode b_R_partMany 1 = .ok (.aload_n 0, 1) := by decide +kernel
theorem d_R_partMany_2 : decode b_R_partMany 2 = .ok (.getfield 7, 3) := by decide +kernel
theorem d_R_partMany_5 : decode b_R_partMany 5 = .ok (.iconst 0, 1) := by decide +kernel
theorem d_R_partMany_6 : decode b_R_partMany 6 = .ok (.iaload, 1) := by decide +kernel
theorem d_R_partMany_7 : decode b_R_partMany 7 = .ok (.putfield 257, 3) := by decide +kernel
theorem d_R_partMany_10 : decode b_R_partMany 10 = .ok (.iconst 0, 1) := by decide +kernel
theorem d_R_partMany_11 : decode b_R_partMany 11 = .ok (.istore_n 1, 1) := by decide +kernel
theorem d_R_partMany_12 : decode b_R_partMany 12 = .ok (.iload_n 1, 1) := by decide +kernel
theorem d_R_partMany_13 : decode b_R_partMany 13 = .ok (.aload_n 0, 1) := by decide +kernel
theorem d_R_partMany_14 : decode b_R_partMany 14 = .ok (.getfield 257, 3) := by decide +kernel
theorem d_R_partMany_17 : decode b_R_partMany 17 = .ok (.if_icmp .ge 18, 3) := by decide +kernel
theorem d_R_partMany_20 : decode b_R_partMany 20 = .ok (.aload_n 0, 1) := by decide +kernel
theorem d_R_partMany_21 : decode b_R_partMany 21 = .ok (.getfield 55, 3) := by decide +kernel
theorem d_R_partMany_24 : decode b_R_partMany 24 = .ok (.iload_n 1, 1) := by decide +kernel
theorem d_R_partMany_25 : decode b_R_partMany 25 = .ok (.iconst 1, 1) := by decide +kernel
theorem d_R_partMany_26 : decode b_R_partMany 26 = .ok (.iload_n 1, 1) := by decide +kernel
theorem d_R_partMany_27 : decode b_R_partMany 27 = .ok (.ishl, 1) := by decide +kernel
theorem d_R_partMany_28 : decode b_R_partMany 28 = .ok (.iastore, 1) := by decide +kernel
theorem d_R_partMany_29 : decode b_R_partMany 29 = .ok (.iinc 1 1, 3) := by decide +kernel
theorem d_R_partMany_32 : decode b_R_partMany 32 = .ok (.goto (-20), 3) := by decide +kernel
theorem d_R_partMany_35 : decode b_R_partMany 35 = .ok (.iconst 1, 1) := by decide +kernel
theorem d_R_partMany_36 : decode b_R_partMany 36 = .ok (.istore_n 1, 1) := by decide +kernel
theorem d_R_partMany_37 : decode b_R_partMany 37 = .ok (.iload_n 1, 1) := by decide +kernel
theorem d_R_partMany_38 : decode b_R_partMany 38 = .ok (.ifCond .eq 109, 3) := by decide +kernel
theorem d_R_partMany_41 : decode b_R_partMany 41 = .ok (.iconst 0, 1) := by decide +kernel
theorem d_R_partMany_42 : decode b_R_partMany 42 = .ok (.istore_n 1, 1) := by decide +kernel
theorem d_R_partMany_43 : decode b_R_partMany 43 = .ok (.iconst 0, 1) := by decide +kernel
theorem d_R_partMany_44 : decode b_R_partMany 44 = .ok (.istore_n 2, 1) := by decide +kernel
theorem d_R_partMany_45 : decode b_R_partMany 45 = .ok (.iload_n 2, 1) := by decide +kernel
theorem d_R_partMany_46 : decode b_R_partMany 46 = .ok (.aload_n 0, 1) := by decide +kernel
theorem d_R_partMany_47 : decode b_R_partMany 47 = .ok (.getfield 257, 3) := by decide +kernel
theorem d_R_partMany_50 : decode b_R_partMany 50 = .ok (.if_icmp .ge 94, 3) := by decide +kernel
theorem d_R_partMany_53 : decode b_R_partMany 53 = .ok (.iload_n 2, 1) := by decide +kernel
theorem d_R_partMany_54 : decode b_R_partMany 54 = .ok (.iconst 1, 1) := by decide +kernel
theorem d_R_partMany_55 : decode b_R_partMany 55 = .ok (.iadd, 1) := by decide +kernel
theorem d_R_partMany_56 : decode b_R_partMany 56 = .ok (.istore_n 3, 1) := by decide +kernel
theorem d_R_partMany_57 : decode b_R_partMany 57 = .ok (.iload_n 3, 1) := by decide +kernel
theorem d_R_partMany_58 : decode b_R_partMany 58 = .ok (.aload_n 0, 1) := by decide +kernel
theorem d_R_partMany_59 : decode b_R_partMany 59 = .ok (.getfield 257, 3) := by decide +kernel
theorem d_R_partMany_62 : decode b_R_partMany 62 = .ok (.if_icmp .ge 76, 3) := by decide +kernel
theorem d_R_partMany_65 : decode b_R_partMany 65 = .ok (.iload_n 1, 1) := by decide +kernel
theorem d_R_partMany_66 : decode b_R_partMany 66 = .ok (.ifCond .ne 72, 3) := by decide +kernel
theorem d_R_partMany_69 : decode b_R_partMany 69 = .ok (.aload_n 0, 1) := by decide +kernel
theorem d_R_partMany_70 : decode b_R_partMany 70 = .ok (.aload_n 0, 1) := by decide +kernel
theorem d_R_partMany_71 : decode b_R_partMany 71 = .ok (.getfield 55, 3) := by decide +kernel
theorem d_R_partMany_74 : decode b_R_partMany 74 = .ok (.iload_n 2, 1) := by decide +kernel
theorem d_R_partMany_75 : decode b_R_partMany 75 = .ok (.iaload, 1) := by decide +kernel
theorem d_R_partMany_76 : decode b_R_partMany 76 = .ok (.aload_n 0, 1) := by decide +kernel
theorem d_R_partMany_77 : decode b_R_partMany 77 = .ok (.getfield 55, 3) := by decide +kernel
theorem d_R_partMany_80 : decode b_R_partMany 80 = .ok (.iload_n 3, 1) := by decide +kernel
theorem d_R_partMany_81 : decode b_R_partMany 81 = .ok (.iaload, 1) := by decide +kernel
theorem d_R_partMany_82 : decode b_R_partMany 82 = .ok (.invokevirtual 235, 3) := by decide +kernel
theorem d_R_partMany_85 : decode b_R_partMany 85 = .ok (.istore_n 1, 1) := by decide +kernel
theorem d_R_partMany_86 : decode b_R_partMany 86 = .ok (.iload_n 1, 1) := by decide +kernel
theorem d_R_partMany_87 : decode b_R_partMany 87 = .ok (.ifCond .eq 45, 3) := by decide +kernel
theorem d_R_partMany_90 : decode b_R_partMany 90 = .ok (.aload_n 0, 1) := by decide +kernel
theorem d_R_partMany_91 : decode b_R_partMany 91 = .ok (.getfield 55, 3) := by decide +kernel
theorem d_R_partMany_94 : decode b_R_partMany 94 = .ok (.iload_n 2, 1) := by decide +kernel
theorem d_R_partMany_95 : decode b_R_partMany 95 = .ok (.dup2, 1) := by decide +kernel
theorem d_R_partMany_96 : decode b_R_partMany 96 = .ok (.iaload, 1) := by decide +kernel
theorem d_R_partMany_97 : decode b_R_partMany 97 = .ok (.aload_n 0, 1) := by decide +kernel
theorem d_R_partMany_98 : decode b_R_partMany 98 = .ok (.getfield 55, 3) := by decide +kernel
theorem d_R_partMany_101 : decode b_R_partMany 101 = .ok (.iload_n 3, 1) := by decide +kernel
theorem d_R_partMany_102 : decode b_R_partMany 102 = .ok (.iaload, 1) := by decide +kernel
theorem d_R_partMany_103 : decode b_R_partMany 103 = .ok (.ior, 1) := by decide +kernel
theorem d_R_partMany_104 : decode b_R_partMany 104 = .ok (.iastore, 1) := by decide +kernel
theorem d_R_partMany_105 : decode b_R_partMany 105 = .ok (.aload_n 0, 1) := by decide +kernel
theorem d_R_partMany_106 : decode b_R_partMany 106 = .ok (.getfield 55, 3) := by decide +kernel
theorem d_R_partMany_109 : decode b_R_partMany 109 = .ok (.iload_n 3, 1) := by decide +kernel
theorem d_R_partMany_110 : decode b_R_partMany 110 = .ok (.aload_n 0, 1) := by decide +kernel
theorem d_R_partMany_111 : decode b_R_partMany 111 = .ok (.getfield 55, 3) := by decide +kernel
theorem d_R_partMany_114 : decode b_R_partMany 114 = .ok (.aload_n 0, 1) := by decide +kernel
theorem d_R_partMany_115 : decode b_R_partMany 115 = .ok (.getfield 257, 3) := by decide +kernel
theorem d_R_partMany_118 : decode b_R_partMany 118 = .ok (.iconst 1, 1) := by decide +kernel
theorem d_R_partMany_119 : decode b_R_partMany 119 = .ok (.isub, 1) := by decide +kernel
theorem d_R_partMany_120 : decode b_R_partMany 120 = .ok (.iaload, 1) := by decide +kernel
theorem d_R_partMany_121 : decode b_R_partMany 121 = .ok (.iastore, 1) := by decide +kernel
theorem d_R_partMany_122 : decode b_R_partMany 122 = .ok (.aload_n 0, 1) := by decide +kernel
theorem d_R_partMany_123 : decode b_R_partMany 123 = .ok (.dup, 1) := by decide +kernel
theorem d_R_partMany_124 : decode b_R_partMany 124 = .ok (.getfield 257, 3) := by decide +kernel
theorem d_R_partMany_127 : decode b_R_partMany 127 = .ok (.iconst 1, 1) := by decide +kernel
theorem d_R_partMany_128 : decode b_R_partMany 128 = .ok (.isub, 1) := by decide +kernel
theorem d_R_partMany_129 : decode b_R_partMany 129 = .ok (.putfield 257, 3) := by decide +kernel
theorem d_R_partMany_132 : decode b_R_partMany 132 = .ok (.iinc 3 1, 3) := by decide +kernel
theorem d_R_partMany_135 : decode b_R_partMany 135 = .ok (.goto (-78), 3) := by decide +kernel
theorem d_R_partMany_138 : decode b_R_partMany 138 = .ok (.iinc 2 1, 3) := by decide +kernel
theorem d_R_partMany_141 : decode b_R_partMany 141 = .ok (.goto (-96), 3) := by decide +kernel
theorem d_R_partMany_144 : decode b_R_partMany 144 = .ok (.goto (-107), 3) := by decide +kernel
theorem d_R_partMany_147 : decode b_R_partMany 147 = .ok (.aload_n 0, 1) := by decide +kernel
theorem d_R_partMany_148 : decode b_R_partMany 148 = .ok (.getfield 257, 3) := by decide +kernel
theorem d_R_partMany_151 : decode b_R_partMany 151 = .ok (.ireturn, 1) := by decide +kernel
theorem d_R_joinMany_0 : decode b_R_joinMany 0 = .ok (.iconst 0, 1) := by decide +kernel
theorem d_R_joinMany_1 : decode b_R_joinMany 1 = .ok (.istore_n 1, 1) := by decide +kernel
theorem d_R_joinMany_2 : decode b_R_joinMany 2 = .ok (.iconst 0, 1) := by decide +kernel
theorem d_R_joinMany_3 : decode b_R_joinMany 3 = .ok (.istore_n 2, 1) := by decide +kernel
theorem d_R_joinMany_4 : decode b_R_joinMany 4 = .ok (.iload_n 2, 1) := by decide +kernel
theorem d_R_joinMany_5 : decode b_R_joinMany 5 = .ok (.sipush 256, 3) := by decide +kernel
theorem d_R_joinMany_8 : decode b_R_joinMany 8 = .ok (.if_icmp .ge 26, 3) := by decide +kernel
theorem d_R_joinMany_11 : decode b_R_joinMany 11 = .ok (.iload_n 1, 1) := by decide +kernel
theorem d_R_joinMany_12 : decode b_R_joinMany 12 = .ok (.aload_n 0, 1) := by decide +kernel
theorem d_R_joinMany_13 : decode b_R_joinMany 13 = .ok (.getfield 52, 3) := by decide +kernel
theorem d_R_joinMany_16 : decode b_R_joinMany 16 = .ok (.iload_n 2, 1) := by decide +kernel
theorem d_R_joinMany_17 : decode b_R_joinMany 17 = .ok (.iaload, 1) := by decide +kernel
theorem d_R_joinMany_18 : decode b_R_joinMany 18 = .ok (.ifCond .le 7, 3) := by decide +kernel
theorem d_R_joinMany_21 : decode b_R_joinMany 21 = .ok (.iconst 1, 1) := by decide +kernel
theorem d_R_joinMany_22 : decode b_R_joinMany 22 = .ok (.goto 4, 3) := by decide +kernel
theorem d_R_joinMany_25 : decode b_R_joinMany 25 = .ok (.iconst 0, 1) := by decide +kernel
theorem d_R_joinMany_26 : decode b_R_joinMany 26 = .ok (.iadd, 1) := by decide +kernel
theorem d_R_joinMany_27 : decode b_R_joinMany 27 = .ok (.istore_n 1, 1) := by decide +kernel
theorem d_R_joinMany_28 : decode b_R_joinMany 28 = .ok (.iinc 2 1, 3) := by decide +kernel
theorem d_R_joinMany_31 : decode b_R_joinMany 31 = .ok (.goto (-27), 3) := by decide +kernel
theorem d_R_joinMany_34 : decode b_R_joinMany 34 = .ok (.iload_n 1, 1) := by decide +kernel
theorem d_R_joinMany_35 : decode b_R_joinMany 35 = .ok (.ireturn, 1) := by decide +kernel
theorem d_R_count_0 : decode b_R_count 0 = .ok (.aload_n 0, 1) := by decide +kernel
theorem d_R_count_1 : decode b_R_count 1 = .ok (.iconst 0, 1) := by decide +kernel
theorem d_R_count_2 : decode b_R_count 2 = .ok (.putfield 67, 3) := by decide +kernel
theorem d_R_count_5 : decode b_R_count 5 = .ok (.aload_n 0, 1) := by decide +kernel
theorem d_R_count_6 : decode b_R_count 6 = .ok (.invokevirtual 328, 3) := by decide +kernel
theorem d_R_count_9 : decode b_R_count 9 = .ok (.aload_n 0, 1) := by decide +kernel
theorem d_R_count_10 : decode b_R_count 10 = .ok (.invokevirtual 343, 3) := by decide +kernel
theorem d_R_count_13 : decode b_R_count 13 = .ok (.aload_n 0, 1) := by decide +kernel
theorem d_R_count_14 : decode b_R_count 14 = .ok (.getfield 7, 3) := by decide +kernel
theorem d_R_count_17 : decode b_R_count 17 = .ok (.bipush 59, 2) := by decide +kernel
theorem d_R_count_19 : decode b_R_count 19 = .ok (.iaload, 1) := by decide +kernel
theorem d_R_count_20 : decode b_R_count 20 = .ok (.ifCond .le 7, 3) := by decide +kernel
theorem d_R_count_23 : decode b_R_count 23 = .ok (.iconst 1, 1) := by decide +kernel
theorem d_R_count_24 : decode b_R_count 24 = .ok (.goto 4, 3) := by decide +kernel
theorem d_R_count_27 : decode b_R_count 27 = .ok (.iconst 0, 1) := by decide +kernel
theorem d_R_count_28 : decode b_R_count 28 = .ok (.istore_n 2, 1) := by decide +kernel
theorem d_R_count_29 : decode b_R_count 29 = .ok (.iload_n 1, 1) := by decide +kernel
theorem d_R_count_30 : decode b_R_count 30 = .ok (.tableswitch 177 0 11 #[62, 69, 77, 85, 100, 85, 105, 132, 145, 158, 163, 172], 62) := by decide +kernel
theorem d_R_count_92 : decode b_R_count 92 = .ok (.aload_n 0, 1) := by decide +kernel
theorem d_R_count_93 : decode b_R_count 93 = .ok (.getfield 7, 3) := by decide +kernel
theorem d_R_count_96 : decode b_R_count 96 = .ok (.iconst 0, 1) := by decide +kernel
theorem d_R_count_97 : decode b_R_count 97 = .ok (.iaload, 1) := by decide +kernel
theorem d_R_count_98 : decode b_R_count 98 = .ok (.ireturn, 1) := by decide +kernel
theorem d_R_count_99 : decode b_R_count 99 = .ok (.aload_n 0, 1) := by decide +kernel
theorem d_R_count_100 : decode b_R_count 100 = .ok (.getfield 7, 3) := by decide +kernel
theorem d_R_count_103 : decode b_R_count 103 = .ok (.bipush 9, 2) := by decide +kernel
theorem d_R_count_105 : decode b_R_count 105 = .ok (.iaload, 1) := by decide +kernel
theorem d_R_count_106 : decode b_R_count 106 = .ok (.ireturn, 1) := by decide +kernel
theorem d_R_count_107 : decode b_R_count 107 = .ok (.aload_n 0, 1) := by decide +kernel
theorem d_R_count_108 : decode b_R_count 108 = .ok (.getfield 7, 3) := by decide +kernel
theorem d_R_count_111 : decode b_R_count 111 = .ok (.bipush 58, 2) := by decide +kernel
theorem d_R_count_113 : decode b_R_count 113 = .ok (.iaload, 1) := by decide +kernel
theorem d_R_count_114 : decode b_R_count 114 = .ok (.ireturn, 1) := by decide +kernel
theorem d_R_count_115 : decode b_R_count 115 = .ok (.aload_n 0, 1) := by decide +kernel
theorem d_R_count_116 : decode b_R_count 116 = .ok (.iload_n 1, 1) := by decide +kernel
theorem d_R_count_117 : decode b_R_count 117 = .ok (.iconst 5, 1) := by decide +kernel
theorem d_R_count_118 : decode b_R_count 118 = .ok (.if_icmp .ne 7, 3) := by decide +kernel
theorem d_R_count_121 : decode b_R_count 121 = .ok (.iconst 1, 1) := by decide +kernel
theorem d_R_count_122 : decode b_R_count 122 = .ok (.goto 4, 3) := by decide +kernel
theorem d_R_count_125 : decode b_R_count 125 = .ok (.iconst 0, 1) := by decide +kernel
theorem d_R_count_126 : decode b_R_count 126 = .ok (.invokevirtual 349, 3) := by decide +kernel
theorem d_R_count_129 : decode b_R_count 129 = .ok (.ireturn, 1) := by decide +kernel
theorem d_R_count_130 : decode b_R_count 130 = .ok (.aload_n 0, 1) := by decide +kernel
theorem d_R_count_131 : decode b_R_count 131 = .ok (.invokevirtual 331, 3) := by decide +kernel
theorem d_R_count_134 : decode b_R_count 134 = .ok (.ireturn, 1) := by decide +kernel
theorem d_R_count_135 : decode b_R_count 135 = .ok (.aload_n 0, 1) := by decide +kernel
theorem d_R_count_136 : decode b_R_count 136 = .ok (.getfield 7, 3) := by decide +kernel
theorem d_R_count_139 : decode b_R_count 139 = .ok (.iconst 0, 1) := by decide +kernel
theorem d_R_count_140 : decode b_R_count 140 = .ok (.iaload, 1) := by decide +kernel
theorem d_R_count_141 : decode b_R_count 141 = .ok (.ifCond .le 19, 3) := by decide +kernel
theorem d_R_count_144 : decode b_R_count 144 = .ok (.aload_n 0, 1) := by decide +kernel
theorem d_R_count_145 : decode b_R_count 145 = .ok (.getfield 40, 3) := by decide +kernel
theorem d_R_count_148 : decode b_R_count 148 = .ok (.aload_n 0, 1) := by decide +kernel
theorem d_R_count_149 : decode b_R_count 149 = .ok (.invokevirtual 71, 3) := by decide +kernel
theorem d_R_count_152 : decode b_R_count 152 = .ok (.baload, 1) := by decide +kernel
theorem d_R_count_153 : decode b_R_count 153 = .ok (.ifCond .eq 7, 3) := by decide +kernel
theorem d_R_count_156 : decode b_R_count 156 = .ok (.iconst 1, 1) := by decide +kernel
theorem d_R_count_157 : decode b_R_count 157 = .ok (.goto 4, 3) := by decide +kernel
theorem d_R_count_160 : decode b_R_count 160 = .ok (.iconst 0, 1) := by decide +kernel
theorem d_R_count_161 : decode b_R_count 161 = .ok (.ireturn, 1) := by decide +kernel
theorem d_R_count_162 : decode b_R_count 162 = .ok (.iload_n 2, 1) := by decide +kernel
theorem d_R_count_163 : decode b_R_count 163 = .ok (.ifCond .eq 10, 3) := by decide +kernel
theorem d_R_count_166 : decode b_R_count 166 = .ok (.aload_n 0, 1) := by decide +kernel
theorem d_R_count_167 : decode b_R_count 167 = .ok (.invokevirtual 353, 3) := by decide +kernel
theorem d_R_count_170 : decode b_R_count 170 = .ok (.goto 4, 3) := by decide +kernel
theorem d_R_count_173 : decode b_R_count 173 = .ok (.iconst (-1), 1) := by decide +kernel
theorem d_R_count_174 : decode b_R_count 174 = .ok (.ireturn, 1) := by decide +kernel
theorem d_R_count_175 : decode b_R_count 175 = .ok (.iload_n 2, 1) := by decide +kernel
theorem d_R_count_176 : decode b_R_count 176 = .ok (.ifCond .eq 10, 3) := by decide +kernel
theorem d_R_count_179 : decode b_R_count 179 = .ok (.aload_n 0, 1) := by decide +kernel
theorem d_R_count_180 : decode b_R_count 180 = .ok (.invokevirtual 291, 3) := by decide +kernel
theorem d_R_count_183 : decode b_R_count 183 = .ok (.goto 4, 3) := by decide +kernel
theorem d_R_count_186 : decode b_R_count 186 = .ok (.iconst (-1), 1) := by decide +kernel
theorem d_R_count_187 : decode b_R_count 187 = .ok (.ireturn, 1) := by decide +kernel
theorem d_R_count_188 : decode b_R_count 188 = .ok (.aload_n 0, 1) := by decide +kernel
theorem d_R_count_189 : decode b_R_count 189 = .ok (.getfield 180, 3) := by decide +kernel
theorem d_R_count_192 : decode b_R_count 192 = .ok (.ireturn, 1) := by decide +kernel
theorem d_R_count_193 : decode b_R_count 193 = .ok (.aload_n 0, 1) := by decide +kernel
theorem d_R_count_194 : decode b_R_count 194 = .ok (.getfield 7, 3) := by decide +kernel
theorem d_R_count_197 : decode b_R_count 197 = .ok (.sipush 316, 3) := by decide +kernel
theorem d_R_count_200 : decode b_R_count 200 = .ok (.iaload, 1) := by decide +kernel
theorem d_R_count_201 : decode b_R_count 201 = .ok (.ireturn, 1) := by decide +kernel
theorem d_R_count_202 : decode b_R_count 202 = .ok (.aload_n 0, 1) := by decide +kernel
theorem d_R_count_203 : decode b_R_count 203 = .ok (.invokevirtual 356, 3) := by decide +kernel
theorem d_R_count_206 : decode b_R_count 206 = .ok (.ireturn, 1) := by decide +kernel
theorem d_R_count_207 : decode b_R_count 207 = .ok (.iconst (-1), 1) := by decide +kernel
theorem d_R_count_208 : decode b_R_count 208 = .ok (.ireturn, 1) := by decide +kernel
theorem d_R_edge_0 : decode b_R_edge 0 = .ok (.aload_n 0, 1) := by decide +kernel
theorem d_R_edge_1 : decode b_R_edge 1 = .ok (.aload_n 0, 1) := by decide +kernel
theorem d_R_edge_2 : decode b_R_edge 2 = .ok (.iload_n 1, 1) := by decide +kernel
theorem d_R_edge_3 : decode b_R_edge 3 = .ok (.invokevirtual 320, 3) := by decide +kernel
theorem d_R_edge_6 : decode b_R_edge 6 = .ok (.ifCond .eq 19, 3) := by decide +kernel
theorem d_R_edge_9 : decode b_R_edge 9 = .ok (.iload_n 2, 1) := by decide +kernel
theorem d_R_edge_10 : decode b_R_edge 10 = .ok (.i2l, 1) := by decide +kernel
theorem d_R_edge_11 : decode b_R_edge 11 = .ok (.lconst 0, 1) := by decide +kernel
theorem d_R_edge_12 : decode b_R_edge 12 = .ok (.ldc2_w 359, 3) := by decide +kernel
theorem d_R_edge_15 : decode b_R_edge 15 = .ok (.invokestatic 107, 3) := by decide +kernel
theorem d_R_edge_18 : decode b_R_edge 18 = .ok (.ifCond .eq 7, 3) := by decide +kernel
theorem d_R_edge_21 : decode b_R_edge 21 = .ok (.iconst 0, 1) := by decide +kernel
theorem d_R_edge_22 : decode b_R_edge 22 = .ok (.goto 4, 3) := by decide +kernel
theorem d_R_edge_25 : decode b_R_edge 25 = .ok (.iconst 1, 1) := by decide +kernel
theorem d_R_edge_26 : decode b_R_edge 26 = .ok (.putfield 67, 3) := by decide +kernel
theorem d_R_edge_29 : decode b_R_edge 29 = .ok (.aload_n 0, 1) := by decide +kernel
theorem d_R_edge_30 : decode b_R_edge 30 = .ok (.getfield 67, 3) := by decide +kernel
theorem d_R_edge_33 : decode b_R_edge 33 = .ok (.ifCond .le 7, 3) := by decide +kernel
theorem d_R_edge_36 : decode b_R_edge 36 = .ok (.iconst 0, 1) := by decide +kernel
theorem d_R_edge_37 : decode b_R_edge 37 = .ok (.goto 16, 3) := by decide +kernel
theorem d_R_edge_40 : decode b_R_edge 40 = .ok (.aload_n 0, 1) := by decide +kernel
theorem d_R_edge_41 : decode b_R_edge 41 = .ok (.getfield 7, 3) := by decide +kernel
theorem d_R_edge_44 : decode b_R_edge 44 = .ok (.bipush 10, 2) := by decide +kernel
theorem d_R_edge_46 : decode b_R_edge 46 = .ok (.iconst 3, 1) := by decide +kernel
theorem d_R_edge_47 : decode b_R_edge 47 = .ok (.iload_n 1, 1) := by decide +kernel
theorem d_R_edge_48 : decode b_R_edge 48 = .ok (.imul, 1) := by decide +kernel
theorem d_R_edge_49 : decode b_R_edge 49 = .ok (.iadd, 1) := by decide +kernel
theorem d_R_edge_50 : decode b_R_edge 50 = .ok (.iload_n 2, 1) := by decide +kernel
theorem d_R_edge_51 : decode b_R_edge 51 = .ok (.iadd, 1) := by decide +kernel
theorem d_R_edge_52 : decode b_R_edge 52 = .ok (.iaload, 1) := by decide +kernel
theorem d_R_edge_53 : decode b_R_edge 53 = .ok (.ireturn, 1) := by decide +kernel
theorem d_R_size_0 : decode b_R_size 0 = .ok (.aload_n 0, 1) := by decide +kernel
theorem d_R_size_1 : decode b_R_size 1 = .ok (.iconst 0, 1) := by decide +kernel
theorem d_R_size_2 : decode b_R_size 2 = .ok (.putfield 67, 3) := by decide +kernel
theorem d_R_size_5 : decode b_R_size 5 = .ok (.aload_n 0, 1) := by decide +kernel
theorem d_R_size_6 : decode b_R_size 6 = .ok (.iload_n 1, 1) := by decide +kernel
theorem d_R_size_7 : decode b_R_size 7 = .ok (.invokevirtual 315, 3) := by decide +kernel
theorem d_R_size_10 : decode b_R_size 10 = .ok (.ifCond .ne 7, 3) := by decide +kernel
theorem d_R_size_13 : decode b_R_size 13 = .ok (.ldc2_w 361, 3) := by decide +kernel
theorem d_R_size_16 : decode b_R_size 16 = .ok (.lreturn, 1) := by decide +kernel
theorem d_R_size_17 : decode b_R_size 17 = .ok (.aload_n 0, 1) := by decide +kernel
theorem d_R_size_18 : decode b_R_size 18 = .ok (.iload_n 1, 1) := by decide +kernel
theorem d_R_size_19 : decode b_R_size 19 = .ok (.invokevirtual 245, 3) := by decide +kernel
theorem d_R_size_22 : decode b_R_size 22 = .ok (.iload_n 2, 1) := by decide +kernel
theorem d_R_size_23 : decode b_R_size 23 = .ok (.ifCond .eq 20, 3) := by decide +kernel
theorem d_R_size_26 : decode b_R_size 26 = .ok (.aload_n 0, 1) := by decide +kernel
theorem d_R_size_27 : decode b_R_size 27 = .ok (.getfield 37, 3) := by decide +kernel
theorem d_R_size_30 : decode b_R_size 30 = .ok (.iload_n 1, 1) := by decide +kernel
theorem d_R_size_31 : decode b_R_size 31 = .ok (.baload, 1) := by decide +kernel
theorem d_R_size_32 : decode b_R_size 32 = .ok (.ifCond .eq 7, 3) := by decide +kernel
theorem d_R_size_35 : decode b_R_size 35 = .ok (.lconst 1, 1) := by decide +kernel
theorem d_R_size_36 : decode b_R_size 36 = .ok (.goto 13, 3) := by decide +kernel
theorem d_R_size_39 : decode b_R_size 39 = .ok (.lconst 0, 1) := by decide +kernel
theorem d_R_size_40 : decode b_R_size 40 = .ok (.goto 9, 3) := by decide +kernel
theorem d_R_size_43 : decode b_R_size 43 = .ok (.aload_n 0, 1) := by decide +kernel
theorem d_R_size_44 : decode b_R_size 44 = .ok (.getfield 33, 3) := by decide +kernel
theorem d_R_size_47 : decode b_R_size 47 = .ok (.iload_n 1, 1) := by decide +kernel
theorem d_R_size_48 : decode b_R_size 48 = .ok (.laload, 1) := by decide +kernel
theorem d_R_size_49 : decode b_R_size 49 = .ok (.lreturn, 1) := by decide +kernel
theorem d_R_connected_0 : decode b_R_connected 0 = .ok (.aload_n 0, 1) := by decide +kernel
theorem d_R_connected_1 : decode b_R_connected 1 = .ok (.iconst 0, 1) := by decide +kernel
theorem d_R_connected_2 : decode b_R_connected 2 = .ok (.putfield 67, 3) := by decide +kernel
theorem d_R_connected_5 : decode b_R_connected 5 = .ok (.aload_n 0, 1) := by decide +kernel
theorem d_R_connected_6 : decode b_R_connected 6 = .ok (.iload_n 1, 1) := by decide +kernel
theorem d_R_connected_7 : decode b_R_connected 7 = .ok (.invokevirtual 315, 3) := by decide +kernel
theorem d_R_connected_10 : decode b_R_connected 10 = .ok (.ifCond .ne 5, 3) := by decide +kernel
theorem d_R_connected_13 : decode b_R_connected 13 = .ok (.iconst 0, 1) := by decide +kernel
theorem d_R_connected_14 : decode b_R_connected 14 = .ok (.ireturn, 1) := by decide +kernel
theorem d_R_connected_15 : decode b_R_connected 15 = .ok (.aload_n 0, 1) := by decide +kernel
theorem d_R_connected_16 : decode b_R_connected 16 = .ok (.invokevirtual 328, 3) := by decide +kernel
theorem d_R_connected_19 : decode b_R_connected 19 = .ok (.aload_n 0, 1) := by decide +kernel
theorem d_R_connected_20 : decode b_R_connected 20 = .ok (.getfield 40, 3) := by decide +kernel
theorem d_R_connected_23 : decode b_R_connected 23 = .ok (.iload_n 1, 1) := by decide +kernel
theorem d_R_connected_24 : decode b_R_connected 24 = .ok (.baload, 1) := by decide +kernel
theorem d_R_connected_25 : decode b_R_connected 25 = .ok (.ireturn, 1) := by decide +kernel
theorem d_R_joined_0 : decode b_R_joined 0 = .ok (.aload_n 0, 1) := by decide +kernel
theorem d_R_joined_1 : decode b_R_joined 1 = .ok (.iconst 0, 1) := by decide +kernel
theorem d_R_joined_2 : decode b_R_joined 2 = .ok (.putfield 67, 3) := by decide +kernel
theorem d_R_joined_5 : decode b_R_joined 5 = .ok (.aload_n 0, 1) := by decide +kernel
theorem d_R_joined_6 : decode b_R_joined 6 = .ok (.iload_n 1, 1) := by decide +kernel
theorem d_R_joined_7 : decode b_R_joined 7 = .ok (.invokevirtual 315, 3) := by decide +kernel
theorem d_R_joined_10 : decode b_R_joined 10 = .ok (.ifCond .eq 30, 3) := by decide +kernel
theorem d_R_joined_13 : decode b_R_joined 13 = .ok (.aload_n 0, 1) := by decide +kernel
theorem d_R_joined_14 : decode b_R_joined 14 = .ok (.iload_n 2, 1) := by decide +kernel
theorem d_R_joined_15 : decode b_R_joined 15 = .ok (.invokevirtual 315, 3) := by decide +kernel
theorem d_R_joined_18 : decode b_R_joined 18 = .ok (.ifCond .eq 22, 3) := by decide +kernel
theorem d_R_joined_21 : decode b_R_joined 21 = .ok (.iload_n 1, 1) := by decide +kernel
theorem d_R_joined_22 : decode b_R_joined 22 = .ok (.iload_n 2, 1) := by decide +kernel
theorem d_R_joined_23 : decode b_R_joined 23 = .ok (.iand, 1) := by decide +kernel
theorem d_R_joined_24 : decode b_R_joined 24 = .ok (.ifCond .ne 16, 3) := by decide +kernel
theorem d_R_joined_27 : decode b_R_joined 27 = .ok (.aload_n 0, 1) := by decide +kernel
theorem d_R_joined_28 : decode b_R_joined 28 = .ok (.iload_n 1, 1) := by decide +kernel
theorem d_R_joined_29 : decode b_R_joined 29 = .ok (.iload_n 2, 1) := by decide +kernel
theorem d_R_joined_30 : decode b_R_joined 30 = .ok (.invokevirtual 235, 3) := by decide +kernel
theorem d_R_joined_33 : decode b_R_joined 33 = .ok (.ifCond .eq 7, 3) := by decide +kernel
theorem d_R_joined_36 : decode b_R_joined 36 = .ok (.iconst 1, 1) := by decide +kernel
theorem d_R_joined_37 : decode b_R_joined 37 = .ok (.goto 4, 3) := by decide +kernel
theorem d_R_joined_40 : decode b_R_joined 40 = .ok (.iconst 0, 1) := by decide +kernel
theorem d_R_joined_41 : decode b_R_joined 41 = .ok (.ireturn, 1) := by decide +kernel
theorem d_R_pair_0 : decode b_R_pair 0 = .ok (.aload_n 0, 1) := by decide +kernel
theorem d_R_pair_1 : decode b_R_pair 1 = .ok (.iconst 0, 1) := by decide +kernel
theorem d_R_pair_2 : decode b_R_pair 2 = .ok (.putfield 67, 3) := by decide +kernel
theorem d_R_pair_5 : decode b_R_pair 5 = .ok (.aload_n 0, 1) := by decide +kernel
theorem d_R_pair_6 : decode b_R_pair 6 = .ok (.invokevirtual 328, 3) := by decide +kernel
theorem d_R_pair_9 : decode b_R_pair 9 = .ok (.iconst 0, 1) := by decide +kernel
theorem d_R_pair_10 : decode b_R_pair 10 = .ok (.istore_n 3, 1) := by decide +kernel
theorem d_R_pair_11 : decode b_R_pair 11 = .ok (.iconst 1, 1) := by decide +kernel
theorem d_R_pair_12 : decode b_R_pair 12 = .ok (.istore 4, 2) := by decide +kernel
theorem d_R_pair_14 : decode b_R_pair 14 = .ok (.iload 4, 2) := by decide +kernel
theorem d_R_pair_16 : decode b_R_pair 16 = .ok (.aload_n 0, 1) := by decide +kernel
theorem d_R_pair_17 : decode b_R_pair 17 = .ok (.invokevirtual 71, 3) := by decide +kernel
theorem d_R_pair_20 : decode b_R_pair 20 = .ok (.if_icmp .gt 61, 3) := by decide +kernel
theorem d_R_pair_23 : decode b_R_pair 23 = .ok (.iconst 1, 1) := by decide +kernel
theorem d_R_pair_24 : decode b_R_pair 24 = .ok (.istore 5, 2) := by decide +kernel
theorem d_R_pair_26 : decode b_R_pair 26 = .ok (.iload 5, 2) := by decide +kernel
theorem d_R_pair_28 : decode b_R_pair 28 = .ok (.iload 4, 2) := by decide +kernel
theorem d_R_pair_30 : decode b_R_pair 30 = .ok (.if_icmp .ge 45, 3) := by decide +kernel
theorem d_R_pair_33 : decode b_R_pair 33 = .ok (.aload_n 0, 1) := by decide +kernel
theorem d_R_pair_34 : decode b_R_pair 34 = .ok (.iload 5, 2) := by decide +kernel
theorem d_R_pair_36 : decode b_R_pair 36 = .ok (.iload 4, 2) := by decide +kernel
theorem d_R_pair_38 : decode b_R_pair 38 = .ok (.invokevirtual 242, 3) := by decide +kernel
theorem d_R_pair_41 : decode b_R_pair 41 = .ok (.ifCond .eq 28, 3) := by decide +kernel
theorem d_R_pair_44 : decode b_R_pair 44 = .ok (.iload_n 3, 1) := by decide +kernel
theorem d_R_pair_45 : decode b_R_pair 45 = .ok (.iload_n 1, 1) := by decide +kernel
theorem d_R_pair_46 : decode b_R_pair 46 = .ok (.if_icmp .ne 20, 3) := by decide +kernel
theorem d_R_pair_49 : decode b_R_pair 49 = .ok (.iload_n 2, 1) := by decide +kernel
theorem d_R_pair_50 : decode b_R_pair 50 = .ok (.ifCond .eq 13, 3) := by decide +kernel
theorem d_R_pair_53 : decode b_R_pair 53 = .ok (.iload 4, 2) := by decide +kernel
theorem d_R_pair_55 : decode b_R_pair 55 = .ok (.iload 5, 2) := by decide +kernel
theorem d_R_pair_57 : decode b_R_pair 57 = .ok (.iconst (-1), 1) := by decide +kernel
theorem d_R_pair_58 : decode b_R_pair 58 = .ok (.ixor, 1) := by decide +kernel
theorem d_R_pair_59 : decode b_R_pair 59 = .ok (.iand, 1) := by decide +kernel
theorem d_R_pair_60 : decode b_R_pair 60 = .ok (.goto 5, 3) := by decide +kernel
theorem d_R_pair_63 : decode b_R_pair 63 = .ok (.iload 5, 2) := by decide +kernel
theorem d_R_pair_65 : decode b_R_pair 65 = .ok (.ireturn, 1) := by decide +kernel
theorem d_R_pair_66 : decode b_R_pair 66 = .ok (.iinc 3 1, 3) := by decide +kernel
theorem d_R_pair_69 : decode b_R_pair 69 = .ok (.iinc 5 1, 3) := by decide +kernel
theorem d_R_pair_72 : decode b_R_pair 72 = .ok (.goto (-46), 3) := by decide +kernel
theorem d_R_pair_75 : decode b_R_pair 75 = .ok (.iinc 4 1, 3) := by decide +kernel
theorem d_R_pair_78 : decode b_R_pair 78 = .ok (.goto (-64), 3) := by decide +kernel
theorem d_R_pair_81 : decode b_R_pair 81 = .ok (.iconst (-1), 1) := by decide +kernel
theorem d_R_pair_82 : decode b_R_pair 82 = .ok (.ireturn, 1) := by decide +kernel
theorem d_R_best_0 : decode b_R_best 0 = .ok (.aload_n 0, 1) := by decide +kernel
theorem d_R_best_1 : decode b_R_best 1 = .ok (.iconst 0, 1) := by decide +kernel
theorem d_R_best_2 : decode b_R_best 2 = .ok (.putfield 67, 3) := by decide +kernel
theorem d_R_best_5 : decode b_R_best 5 = .ok (.aload_n 0, 1) := by decide +kernel
theorem d_R_best_6 : decode b_R_best 6 = .ok (.iload_n 1, 1) := by decide +kernel
theorem d_R_best_7 : decode b_R_best 7 = .ok (.invokevirtual 315, 3) := by decide +kernel
theorem d_R_best_10 : decode b_R_best 10 = .ok (.ifCond .eq 15, 3) := by decide +kernel
theorem d_R_best_13 : decode b_R_best 13 = .ok (.iload_n 3, 1) := by decide +kernel
theorem d_R_best_14 : decode b_R_best 14 = .ok (.i2l, 1) := by decide +kernel
theorem d_R_best_15 : decode b_R_best 15 = .ok (.lconst 0, 1) := by decide +kernel
theorem d_R_best_16 : decode b_R_best 16 = .ok (.ldc2_w 359, 3) := by decide +kernel
theorem d_R_best_19 : decode b_R_best 19 = .ok (.invokestatic 107, 3) := by decide +kernel
theorem d_R_best_22 : decode b_R_best 22 = .ok (.ifCond .ne 7, 3) := by decide +kernel
theorem d_R_best_25 : decode b_R_best 25 = .ok (.ldc2_w 361, 3) := by decide +kernel
theorem d_R_best_28 : decode b_R_best 28 = .ok (.lreturn, 1) := by decide +kernel
theorem d_R_best_29 : decode b_R_best 29 = .ok (.aload_n 0, 1) := by decide +kernel
theorem d_R_best_30 : decode b_R_best 30 = .ok (.invokevirtual 328, 3) := by decide +kernel
theorem d_R_best_33 : decode b_R_best 33 = .ok (.iload_n 1, 1) := by decide +kernel
theorem d_R_best_34 : decode b_R_best 34 = .ok (.iload_n 2, 1) := by decide +kernel
theorem d_R_best_35 : decode b_R_best 35 = .ok (.ifCond .eq 9, 3) := by decide +kernel
theorem d_R_best_38 : decode b_R_best 38 = .ok (.sipush 256, 3) := by decide +kernel
theorem d_R_best_41 : decode b_R_best 41 = .ok (.goto 4, 3) := by decide +kernel
theorem d_R_best_44 : decode b_R_best 44 = .ok (.iconst 0, 1) := by decide +kernel
theorem d_R_best_45 : decode b_R_best 45 = .ok (.iadd, 1) := by decide +kernel
theorem d_R_best_46 : decode b_R_best 46 = .ok (.istore 4, 2) := by decide +kernel
theorem d_R_best_48 : decode b_R_best 48 = .ok (.iload_n 3, 1) := by decide +kernel
theorem d_R_best_49 : decode b_R_best 49 = .ok (.ifCond .ne 13, 3) := by decide +kernel
theorem d_R_best_52 : decode b_R_best 52 = .ok (.aload_n 0, 1) := by decide +kernel
theorem d_R_best_53 : decode b_R_best 53 = .ok (.getfield 43, 3) := by decide +kernel
theorem d_R_best_56 : decode b_R_best 56 = .ok (.iload 4, 2) := by decide +kernel
theorem d_R_best_58 : decode b_R_best 58 = .ok (.laload, 1) := by decide +kernel
theorem d_R_best_59 : decode b_R_best 59 = .ok (.goto 27, 3) := by decide +kernel
theorem d_R_best_62 : decode b_R_best 62 = .ok (.iload_n 3, 1) := by decide +kernel
theorem d_R_best_63 : decode b_R_best 63 = .ok (.iconst 1, 1) := by decide +kernel
theorem d_R_best_64 : decode b_R_best 64 = .ok (.if_icmp .ne 14, 3) := by decide +kernel
theorem d_R_best_67 : decode b_R_best 67 = .ok (.aload_n 0, 1) := by decide +kernel
theorem d_R_best_68 : decode b_R_best 68 = .ok (.getfield 46, 3) := by decide +kernel
theorem d_R_best_71 : decode b_R_best 71 = .ok (.iload 4, 2) := by decide +kernel
theorem d_R_best_73 : decode b_R_best 73 = .ok (.iaload, 1) := by decide +kernel
theorem d_R_best_74 : decode b_R_best 74 = .ok (.i2l, 1) := by decide +kernel
theorem d_R_best_75 : decode b_R_best 75 = .ok (.goto 11, 3) := by decide +kernel
theorem d_R_best_78 : decode b_R_best 78 = .ok (.aload_n 0, 1) := by decide +kernel
theorem d_R_best_79 : decode b_R_best 79 = .ok (.getfield 49, 3) := by decide +kernel
theorem d_R_best_82 : decode b_R_best 82 = .ok (.iload 4, 2) := by decide +kernel
theorem d_R_best_84 : decode b_R_best 84 = .ok (.iaload, 1) := by decide +kernel
theorem d_R_best_85 : decode b_R_best 85 = .ok (.i2l, 1) := by decide +kernel
theorem d_R_best_86 : decode b_R_best 86 = .ok (.lreturn, 1) := by decide +kernel
theorem d_R_greedy_0 : decode b_R_greedy 0 = .ok (.aload_n 0, 1) := by decide +kernel
theorem d_R_greedy_1 : decode b_R_greedy 1 = .ok (.iconst 0, 1) := by decide +kernel
theorem d_R_greedy_2 : decode b_R_greedy 2 = .ok (.putfield 67, 3) := by decide +kernel
theorem d_R_greedy_5 : decode b_R_greedy 5 = .ok (.aload_n 0, 1) := by decide +kernel
theorem d_R_greedy_6 : decode b_R_greedy 6 = .ok (.getfield 7, 3) := by decide +kernel
theorem d_R_greedy_9 : decode b_R_greedy 9 = .ok (.iconst 0, 1) := by decide +kernel
theorem d_R_greedy_10 : decode b_R_greedy 10 = .ok (.iaload, 1) := by decide +kernel
theorem d_R_greedy_11 : decode b_R_greedy 11 = .ok (.ifCond .eq 15, 3) := by decide +kernel
theorem d_R_greedy_14 : decode b_R_greedy 14 = .ok (.iload_n 1, 1) := by decide +kernel
theorem d_R_greedy_15 : decode b_R_greedy 15 = .ok (.i2l, 1) := by decide +kernel
theorem d_R_greedy_16 : decode b_R_greedy 16 = .ok (.lconst 0, 1) := by decide +kernel
theorem d_R_greedy_17 : decode b_R_greedy 17 = .ok (.ldc2_w 359, 3) := by decide +kernel
theorem d_R_greedy_20 : decode b_R_greedy 20 = .ok (.invokestatic 107, 3) := by decide +kernel
theorem d_R_greedy_23 : decode b_R_greedy 23 = .ok (.ifCond .ne 7, 3) := by decide +kernel
theorem d_R_greedy_26 : decode b_R_greedy 26 = .ok (.ldc2_w 361, 3) := by decide +kernel
theorem d_R_greedy_29 : decode b_R_greedy 29 = .ok (.lreturn, 1) := by decide +kernel
theorem d_R_greedy_30 : decode b_R_greedy 30 = .ok (.aload_n 0, 1) := by decide +kernel
theorem d_R_greedy_31 : decode b_R_greedy 31 = .ok (.invokevirtual 328, 3) := by decide +kernel
theorem d_R_greedy_34 : decode b_R_greedy 34 = .ok (.aload_n 0, 1) := by decide +kernel
theorem d_R_greedy_35 : decode b_R_greedy 35 = .ok (.invokevirtual 334, 3) := by decide +kernel
theorem d_R_greedy_38 : decode b_R_greedy 38 = .ok (.iload_n 1, 1) := by decide +kernel
theorem d_R_greedy_39 : decode b_R_greedy 39 = .ok (.ifCond .ne 14, 3) := by decide +kernel
theorem d_R_greedy_42 : decode b_R_greedy 42 = .ok (.aload_n 0, 1) := by decide +kernel
theorem d_R_greedy_43 : decode b_R_greedy 43 = .ok (.aload_n 0, 1) := by decide +kernel
theorem d_R_greedy_44 : decode b_R_greedy 44 = .ok (.invokevirtual 71, 3) := by decide +kernel
theorem d_R_greedy_47 : decode b_R_greedy 47 = .ok (.invokevirtual 294, 3) := by decide +kernel
theorem d_R_greedy_50 : decode b_R_greedy 50 = .ok (.goto 26, 3) := by decide +kernel
theorem d_R_greedy_53 : decode b_R_greedy 53 = .ok (.iload_n 1, 1) := by decide +kernel
theorem d_R_greedy_54 : decode b_R_greedy 54 = .ok (.iconst 1, 1) := by decide +kernel
theorem d_R_greedy_55 : decode b_R_greedy 55 = .ok (.if_icmp .ne 11, 3) := by decide +kernel
theorem d_R_greedy_58 : decode b_R_greedy 58 = .ok (.aload_n 0, 1) := by decide +kernel
theorem d_R_greedy_59 : decode b_R_greedy 59 = .ok (.invokevirtual 291, 3) := by decide +kernel
theorem d_R_greedy_62 : decode b_R_greedy 62 = .ok (.i2l, 1) := by decide +kernel
theorem d_R_greedy_63 : decode b_R_greedy 63 = .ok (.goto 13, 3) := by decide +kernel
theorem d_R_greedy_66 : decode b_R_greedy 66 = .ok (.aload_n 0, 1) := by decide +kernel
theorem d_R_greedy_67 : decode b_R_greedy 67 = .ok (.getfield 52, 3) := by decide +kernel
theorem d_R_greedy_70 : decode b_R_greedy 70 = .ok (.aload_n 0, 1) := by decide +kernel
theorem d_R_greedy_71 : decode b_R_greedy 71 = .ok (.invokevirtual 71, 3) := by decide +kernel
theorem d_R_greedy_74 : decode b_R_greedy 74 = .ok (.iaload, 1) := by decide +kernel
theorem d_R_greedy_75 : decode b_R_greedy 75 = .ok (.i2l, 1) := by decide +kernel
theorem d_R_greedy_76 : decode b_R_greedy 76 = .ok (.lreturn, 1) := by decide +kernel
theorem d_R_node_0 : decode b_R_node 0 = .ok (.aload_n 0, 1) := by decide +kernel
theorem d_R_node_1 : decode b_R_node 1 = .ok (.invokevirtual 328, 3) := by decide +kernel
theorem d_R_node_4 : decode b_R_node 4 = .ok (.aload_n 0, 1) := by decide +kernel
theorem d_R_node_5 : decode b_R_node 5 = .ok (.invokevirtual 343, 3) := by decide +kernel
theorem d_R_node_8 : decode b_R_node 8 = .ok (.aload_n 0, 1) := by decide +kernel
theorem d_R_node_9 : decode b_R_node 9 = .ok (.aload_n 0, 1) := by decide +kernel
theorem d_R_node_10 : decode b_R_node 10 = .ok (.getfield 7, 3) := by decide +kernel
theorem d_R_node_13 : decode b_R_node 13 = .ok (.bipush 59, 2) := by decide +kernel
theorem d_R_node_15 : decode b_R_node 15 = .ok (.iaload, 1) := by decide +kernel
theorem d_R_node_16 : decode b_R_node 16 = .ok (.invokevirtual 288, 3) := by decide +kernel
theorem d_R_node_19 : decode b_R_node 19 = .ok (.aload_n 0, 1) := by decide +kernel
theorem d_R_node_20 : decode b_R_node 20 = .ok (.iload_n 1, 1) := by decide +kernel
theorem d_R_node_21 : decode b_R_node 21 = .ok (.i2l, 1) := by decide +kernel
theorem d_R_node_22 : decode b_R_node 22 = .ok (.lconst 0, 1) := by decide +kernel
theorem d_R_node_23 : decode b_R_node 23 = .ok (.aload_n 0, 1) := by decide +kernel
theorem d_R_node_24 : decode b_R_node 24 = .ok (.getfield 267, 3) := by decide +kernel
theorem d_R_node_27 : decode b_R_node 27 = .ok (.iconst 1, 1) := by decide +kernel
theorem d_R_node_28 : decode b_R_node 28 = .ok (.isub, 1) := by decide +kernel
theorem d_R_node_29 : decode b_R_node 29 = .ok (.i2l, 1) := by decide +kernel
theorem d_R_node_30 : decode b_R_node 30 = .ok (.invokestatic 107, 3) := by decide +kernel
theorem d_R_node_33 : decode b_R_node 33 = .ok (.ifCond .eq 19, 3) := by decide +kernel
theorem d_R_node_36 : decode b_R_node 36 = .ok (.iload_n 2, 1) := by decide +kernel
theorem d_R_node_37 : decode b_R_node 37 = .ok (.i2l, 1) := by decide +kernel
theorem d_R_node_38 : decode b_R_node 38 = .ok (.lconst 0, 1) := by decide +kernel
theorem d_R_node_39 : decode b_R_node 39 = .ok (.ldc2_w 363, 3) := by decide +kernel
theorem d_R_node_42 : decode b_R_node 42 = .ok (.invokestatic 107, 3) := by decide +kernel
theorem d_R_node_45 : decode b_R_node 45 = .ok (.ifCond .eq 7, 3) := by decide +kernel
theorem d_R_node_48 : decode b_R_node 48 = .ok (.iconst 0, 1) := by decide +kernel
theorem d_R_node_49 : decode b_R_node 49 = .ok (.goto 4, 3) := by decide +kernel
theorem d_R_node_52 : decode b_R_node 52 = .ok (.iconst 1, 1) := by decide +kernel
theorem d_R_node_53 : decode b_R_node 53 = .ok (.putfield 67, 3) := by decide +kernel
theorem d_R_node_56 : decode b_R_node 56 = .ok (.aload_n 0, 1) := by decide +kernel
theorem d_R_node_57 : decode b_R_node 57 = .ok (.getfield 67, 3) := by decide +kernel
theorem d_R_node_60 : decode b_R_node 60 = .ok (.ifCond .le 5, 3) := by decide +kernel
theorem d_R_node_63 : decode b_R_node 63 = .ok (.lconst 0, 1) := by decide +kernel
theorem d_R_node_64 : decode b_R_node 64 = .ok (.lreturn, 1) := by decide +kernel
theorem d_R_node_65 : decode b_R_node 65 = .ok (.aload_n 0, 1) := by decide +kernel
theorem d_R_node_66 : decode b_R_node 66 = .ok (.getfield 58, 3) := by decide +kernel
theorem d_R_node_69 : decode b_R_node 69 = .ok (.iload_n 1, 1) := by decide +kernel
theorem d_R_node_70 : decode b_R_node 70 = .ok (.iaload, 1) := by decide +kernel
theorem d_R_node_71 : decode b_R_node 71 = .ok (.istore_n 3, 1) := by decide +kernel
theorem d_R_node_72 : decode b_R_node 72 = .ok (.iload_n 2, 1) := by decide +kernel
theorem d_R_node_73 : decode b_R_node 73 = .ok (.tableswitch 55 0 3 #[31, 34, 42, 49], 31) := by decide +kernel
theorem d_R_node_104 : decode b_R_node 104 = .ok (.iload_n 3, 1) := by decide +kernel
theorem d_R_node_105 : decode b_R_node 105 = .ok (.i2l, 1) := by decide +kernel
theorem d_R_node_106 : decode b_R_node 106 = .ok (.lreturn, 1) := by decide +kernel
theorem d_R_node_107 : decode b_R_node 107 = .ok (.aload_n 0, 1) := by decide +kernel
theorem d_R_node_108 : decode b_R_node 108 = .ok (.getfield 52, 3) := by decide +kernel
theorem d_R_node_111 : decode b_R_node 111 = .ok (.iload_n 3, 1) := by decide +kernel
theorem d_R_node_112 : decode b_R_node 112 = .ok (.iaload, 1) := by decide +kernel
theorem d_R_node_113 : decode b_R_node 113 = .ok (.i2l, 1) := by decide +kernel
theorem d_R_node_114 : decode b_R_node 114 = .ok (.lreturn, 1) := by decide +kernel
theorem d_R_node_115 : decode b_R_node 115 = .ok (.aload_n 0, 1) := by decide +kernel
theorem d_R_node_116 : decode b_R_node 116 = .ok (.getfield 33, 3) := by decide +kernel
theorem d_R_node_119 : decode b_R_node 119 = .ok (.iload_n 3, 1) := by decide +kernel
theorem d_R_node_120 : decode b_R_node 120 = .ok (.laload, 1) := by decide +kernel
theorem d_R_node_121 : decode b_R_node 121 = .ok (.lreturn, 1) := by decide +kernel
theorem d_R_node_122 : decode b_R_node 122 = .ok (.aload_n 0, 1) := by decide +kernel
theorem d_R_node_123 : decode b_R_node 123 = .ok (.iload_n 3, 1) := by decide +kernel
theorem d_R_node_124 : decode b_R_node 124 = .ok (.invokevirtual 294, 3) := by decide +kernel
theorem d_R_node_127 : decode b_R_node 127 = .ok (.lreturn, 1) := by decide +kernel
theorem d_R_node_128 : decode b_R_node 128 = .ok (.aload_n 0, 1) := by decide +kernel
theorem d_R_node_129 : decode b_R_node 129 = .ok (.aload_n 0, 1) := by decide +kernel
theorem d_R_node_130 : decode b_R_node 130 = .ok (.getfield 52, 3) := by decide +kernel
theorem d_R_node_133 : decode b_R_node 133 = .ok (.iload_n 3, 1) := by decide +kernel
theorem d_R_node_134 : decode b_R_node 134 = .ok (.iaload, 1) := by decide +kernel
theorem d_R_node_135 : decode b_R_node 135 = .ok (.iload_n 3, 1) := by decide +kernel
theorem d_R_node_136 : decode b_R_node 136 = .ok (.aload_n 0, 1) := by decide +kernel
theorem d_R_node_137 : decode b_R_node 137 = .ok (.getfield 52, 3) := by decide +kernel
theorem d_R_node_140 : decode b_R_node 140 = .ok (.iload_n 3, 1) := by decide +kernel
theorem d_R_node_141 : decode b_R_node 141 = .ok (.iaload, 1) := by decide +kernel
theorem d_R_node_142 : decode b_R_node 142 = .ok (.iconst (-1), 1) := by decide +kernel
theorem d_R_node_143 : decode b_R_node 143 = .ok (.ixor, 1) := by decide +kernel
theorem d_R_node_144 : decode b_R_node 144 = .ok (.iand, 1) := by decide +kernel
theorem d_R_node_145 : decode b_R_node 145 = .ok (.invokevirtual 235, 3) := by decide +kernel
theorem d_R_node_148 : decode b_R_node 148 = .ok (.ifCond .eq 7, 3) := by decide +kernel
theorem d_R_node_151 : decode b_R_node 151 = .ok (.lconst 0, 1) := by decide +kernel
theorem d_R_node_152 : decode b_R_node 152 = .ok (.goto 4, 3) := by decide +kernel
theorem d_R_node_155 : decode b_R_node 155 = .ok (.lconst 1, 1) := by decide +kernel
theorem d_R_node_156 : decode b_R_node 156 = .ok (.lreturn, 1) := by decide +kernel
theorem d_R_cost_0 : decode b_R_cost 0 = .ok (.aload_n 0, 1) := by decide +kernel
theorem d_R_cost_1 : decode b_R_cost 1 = .ok (.iconst 0, 1) := by decide +kernel
theorem d_R_cost_2 : decode b_R_cost 2 = .ok (.putfield 67, 3) := by decide +kernel
theorem d_R_cost_5 : decode b_R_cost 5 = .ok (.aload_n 0, 1) := by decide +kernel
theorem d_R_cost_6 : decode b_R_cost 6 = .ok (.getfield 7, 3) := by decide +kernel
theorem d_R_cost_9 : decode b_R_cost 9 = .ok (.bipush 59, 2) := by decide +kernel
theorem d_R_cost_11 : decode b_R_cost 11 = .ok (.iaload, 1) := by decide +kernel
theorem d_R_cost_12 : decode b_R_cost 12 = .ok (.ifCond .ne 7, 3) := by decide +kernel
theorem d_R_cost_15 : decode b_R_cost 15 = .ok (.ldc2_w 361, 3) := by decide +kernel
theorem d_R_cost_18 : decode b_R_cost 18 = .ok (.lreturn, 1) := by decide +kernel
theorem d_R_cost_19 : decode b_R_cost 19 = .ok (.aload_n 0, 1) := by decide +kernel
theorem d_R_cost_20 : decode b_R_cost 20 = .ok (.invokevirtual 328, 3) := by decide +kernel
theorem d_R_cost_23 : decode b_R_cost 23 = .ok (.aload_n 0, 1) := by decide +kernel
theorem d_R_cost_24 : decode b_R_cost 24 = .ok (.invokevirtual 343, 3) := by decide +kernel
theorem d_R_cost_27 : decode b_R_cost 27 = .ok (.aload_n 0, 1) := by decide +kernel
theorem d_R_cost_28 : decode b_R_cost 28 = .ok (.aload_n 0, 1) := by decide +kernel
theorem d_R_cost_29 : decode b_R_cost 29 = .ok (.getfield 7, 3) := by decide +kernel
theorem d_R_cost_32 : decode b_R_cost 32 = .ok (.bipush 59, 2) := by decide +kernel
theorem d_R_cost_34 : decode b_R_cost 34 = .ok (.iaload, 1) := by decide +kernel
theorem d_R_cost_35 : decode b_R_cost 35 = .ok (.invokevirtual 294, 3) := by decide +kernel
theorem d_R_cost_38 : decode b_R_cost 38 = .ok (.lreturn, 1) := by decide +kernel
theorem d_R_says_0 : decode b_R_says 0 = .ok (.aload_n 0, 1) := by decide +kernel
theorem d_R_says_1 : decode b_R_says 1 = .ok (.getfield 61, 3) := by decide +kernel
theorem d_R_says_4 : decode b_R_says 4 = .ok (.aload_n 0, 1) := by decide +kernel
theorem d_R_says_5 : decode b_R_says 5 = .ok (.getfield 365, 3) := by decide +kernel
theorem d_R_says_8 : decode b_R_says 8 = .ok (.iload_n 1, 1) := by decide +kernel
theorem d_R_says_9 : decode b_R_says 9 = .ok (.i2b, 1) := by decide +kernel
theorem d_R_says_10 : decode b_R_says 10 = .ok (.bastore, 1) := by decide +kernel
theorem d_R_says_11 : decode b_R_says 11 = .ok (.aload_n 0, 1) := by decide +kernel
theorem d_R_says_12 : decode b_R_says 12 = .ok (.dup, 1) := by decide +kernel
theorem d_R_says_13 : decode b_R_says 13 = .ok (.getfield 365, 3) := by decide +kernel
theorem d_R_says_16 : decode b_R_says 16 = .ok (.iconst 1, 1) := by decide +kernel
theorem d_R_says_17 : decode b_R_says 17 = .ok (.iadd, 1) := by decide +kernel
theorem d_R_says_18 : decode b_R_says 18 = .ok (.putfield 365, 3) := by decide +kernel
theorem d_R_says_21 : decode b_R_says 21 = .ok (.return_, 1) := by decide +kernel
theorem d_R_numberOf_0 : decode b_R_numberOf 0 = .ok (.iconst 0, 1) := by decide +kernel
theorem d_R_numberOf_1 : decode b_R_numberOf 1 = .ok (.istore_n 1, 1) := by decide +kernel
theorem d_R_numberOf_2 : decode b_R_numberOf 2 = .ok (.iload_n 0, 1) := by decide +kernel
theorem d_R_numberOf_3 : decode b_R_numberOf 3 = .ok (.iload_n 1, 1) := by decide +kernel
theorem d_R_numberOf_4 : decode b_R_numberOf 4 = .ok (.ishr, 1) := by decide +kernel
theorem d_R_numberOf_5 : decode b_R_numberOf 5 = .ok (.iconst 1, 1) := by decide +kernel
theorem d_R_numberOf_6 : decode b_R_numberOf 6 = .ok (.if_icmp .le 9, 3) := by decide +kernel
theorem d_R_numberOf_9 : decode b_R_numberOf 9 = .ok (.iinc 1 1, 3) := by decide +kernel
theorem d_R_numberOf_12 : decode b_R_numberOf 12 = .ok (.goto (-10), 3) := by decide +kernel
theorem d_R_numberOf_15 : decode b_R_numberOf 15 = .ok (.iload_n 1, 1) := by decide +kernel
theorem d_R_numberOf_16 : decode b_R_numberOf 16 = .ok (.ireturn, 1) := by decide +kernel
theorem d_R_tells_0 : decode b_R_tells 0 = .ok (.aload_n 0, 1) := by decide +kernel
theorem d_R_tells_1 : decode b_R_tells 1 = .ok (.iconst 0, 1) := by decide +kernel
theorem d_R_tells_2 : decode b_R_tells 2 = .ok (.putfield 365, 3) := by decide +kernel
theorem d_R_tells_5 : decode b_R_tells 5 = .ok (.aload_n 0, 1) := by decide +kernel
theorem d_R_tells_6 : decode b_R_tells 6 = .ok (.iconst 1, 1) := by decide +kernel
theorem d_R_tells_7 : decode b_R_tells 7 = .ok (.putfield 203, 3) := by decide +kernel
theorem d_R_tells_10 : decode b_R_tells 10 = .ok (.aload_n 0, 1) := by decide +kernel
theorem d_R_tells_11 : decode b_R_tells 11 = .ok (.getfield 30, 3) := by decide +kernel
theorem d_R_tells_14 : decode b_R_tells 14 = .ok (.iconst 0, 1) := by decide +kernel
theorem d_R_tells_15 : decode b_R_tells 15 = .ok (.iload_n 1, 1) := by decide +kernel
theorem d_R_tells_16 : decode b_R_tells 16 = .ok (.iastore, 1) := by decide +kernel
theorem d_R_tells_17 : decode b_R_tells 17 = .ok (.aload_n 0, 1) := by decide +kernel
theorem d_R_tells_18 : decode b_R_tells 18 = .ok (.getfield 203, 3) := by decide +kernel
theorem d_R_tells_21 : decode b_R_tells 21 = .ok (.ifCond .le 140, 3) := by decide +kernel
theorem d_R_tells_24 : decode b_R_tells 24 = .ok (.aload_n 0, 1) := by decide +kernel
theorem d_R_tells_25 : decode b_R_tells 25 = .ok (.dup, 1) := by decide +kernel
theorem d_R_tells_26 : decode b_R_tells 26 = .ok (.getfield 203, 3) := by decide +kernel
theorem d_R_tells_29 : decode b_R_tells 29 = .ok (.iconst 1, 1) := by decide +kernel
theorem d_R_tells_30 : decode b_R_tells 30 = .ok (.isub, 1) := by decide +kernel
theorem d_R_tells_31 : decode b_R_tells 31 = .ok (.putfield 203, 3) := by decide +kernel
theorem d_R_tells_34 : decode b_R_tells 34 = .ok (.aload_n 0, 1) := by decide +kernel
theorem d_R_tells_35 : decode b_R_tells 35 = .ok (.getfield 30, 3) := by decide +kernel
theorem d_R_tells_38 : decode b_R_tells 38 = .ok (.aload_n 0, 1) := by decide +kernel
theorem d_R_tells_39 : decode b_R_tells 39 = .ok (.getfield 203, 3) := by decide +kernel
theorem d_R_tells_42 : decode b_R_tells 42 = .ok (.iaload, 1) := by decide +kernel
theorem d_R_tells_43 : decode b_R_tells 43 = .ok (.istore_n 2, 1) := by decide +kernel
theorem d_R_tells_44 : decode b_R_tells 44 = .ok (.iload_n 2, 1) := by decide +kernel
theorem d_R_tells_45 : decode b_R_tells 45 = .ok (.ifCond .ge 12, 3) := by decide +kernel
theorem d_R_tells_48 : decode b_R_tells 48 = .ok (.aload_n 0, 1) := by decide +kernel
theorem d_R_tells_49 : decode b_R_tells 49 = .ok (.iload_n 2, 1) := by decide +kernel
theorem d_R_tells_50 : decode b_R_tells 50 = .ok (.ineg, 1) := by decide +kernel
theorem d_R_tells_51 : decode b_R_tells 51 = .ok (.invokevirtual 368, 3) := by decide +kernel
theorem d_R_tells_54 : decode b_R_tells 54 = .ok (.goto 104, 3) := by decide +kernel
theorem d_R_tells_57 : decode b_R_tells 57 = .ok (.aload_n 0, 1) := by decide +kernel
theorem d_R_tells_58 : decode b_R_tells 58 = .ok (.getfield 52, 3) := by decide +kernel
theorem d_R_tells_61 : decode b_R_tells 61 = .ok (.iload_n 2, 1) := by decide +kernel
theorem d_R_tells_62 : decode b_R_tells 62 = .ok (.iaload, 1) := by decide +kernel
theorem d_R_tells_63 : decode b_R_tells 63 = .ok (.ifCond .ne 17, 3) := by decide +kernel
theorem d_R_tells_66 : decode b_R_tells 66 = .ok (.aload_n 0, 1) := by decide +kernel
theorem d_R_tells_67 : decode b_R_tells 67 = .ok (.bipush 48, 2) := by decide +kernel
theorem d_R_tells_69 : decode b_R_tells 69 = .ok (.iload_n 2, 1) := by decide +kernel
theorem d_R_tells_70 : decode b_R_tells 70 = .ok (.invokestatic 371, 3) := by decide +kernel
theorem d_R_tells_73 : decode b_R_tells 73 = .ok (.iadd, 1) := by decide +kernel
theorem d_R_tells_74 : decode b_R_tells 74 = .ok (.invokevirtual 368, 3) := by decide +kernel
theorem d_R_tells_77 : decode b_R_tells 77 = .ok (.goto 81, 3) := by decide +kernel
theorem d_R_tells_80 : decode b_R_tells 80 = .ok (.aload_n 0, 1) := by decide +kernel
theorem d_R_tells_81 : decode b_R_tells 81 = .ok (.bipush 40, 2) := by decide +kernel
theorem d_R_tells_83 : decode b_R_tells 83 = .ok (.invokevirtual 368, 3) := by decide +kernel
theorem d_R_tells_86 : decode b_R_tells 86 = .ok (.aload_n 0, 1) := by decide +kernel
theorem d_R_tells_87 : decode b_R_tells 87 = .ok (.getfield 30, 3) := by decide +kernel
theorem d_R_tells_90 : decode b_R_tells 90 = .ok (.aload_n 0, 1) := by decide +kernel
theorem d_R_tells_91 : decode b_R_tells 91 = .ok (.getfield 203, 3) := by decide +kernel
theorem d_R_tells_94 : decode b_R_tells 94 = .ok (.bipush (-41), 2) := by decide +kernel
theorem d_R_tells_96 : decode b_R_tells 96 = .ok (.iastore, 1) := by decide +kernel
theorem d_R_tells_97 : decode b_R_tells 97 = .ok (.aload_n 0, 1) := by decide +kernel
theorem d_R_tells_98 : decode b_R_tells 98 = .ok (.getfield 30, 3) := by decide +kernel
theorem d_R_tells_101 : decode b_R_tells 101 = .ok (.aload_n 0, 1) := by decide +kernel
theorem d_R_tells_102 : decode b_R_tells 102 = .ok (.getfield 203, 3) := by decide +kernel
theorem d_R_tells_105 : decode b_R_tells 105 = .ok (.iconst 1, 1) := by decide +kernel
theorem d_R_tells_106 : decode b_R_tells 106 = .ok (.iadd, 1) := by decide +kernel
theorem d_R_tells_107 : decode b_R_tells 107 = .ok (.iload_n 2, 1) := by decide +kernel
theorem d_R_tells_108 : decode b_R_tells 108 = .ok (.aload_n 0, 1) := by decide +kernel
theorem d_R_tells_109 : decode b_R_tells 109 = .ok (.getfield 52, 3) := by decide +kernel
theorem d_R_tells_112 : decode b_R_tells 112 = .ok (.iload_n 2, 1) := by decide +kernel
theorem d_R_tells_113 : decode b_R_tells 113 = .ok (.iaload, 1) := by decide +kernel
theorem d_R_tells_114 : decode b_R_tells 114 = .ok (.iconst (-1), 1) := by decide +kernel
theorem d_R_tells_115 : decode b_R_tells 115 = .ok (.ixor, 1) := by decide +kernel
theorem d_R_tells_116 : decode b_R_tells 116 = .ok (.iand, 1) := by decide +kernel
theorem d_R_tells_117 : decode b_R_tells 117 = .ok (.iastore, 1) := by decide +kernel
theorem d_R_tells_118 : decode b_R_tells 118 = .ok (.aload_n 0, 1) := by decide +kernel
theorem d_R_tells_119 : decode b_R_tells 119 = .ok (.getfield 30, 3) := by decide +kernel
theorem d_R_tells_122 : decode b_R_tells 122 = .ok (.aload_n 0, 1) := by decide +kernel
theorem d_R_tells_123 : decode b_R_tells 123 = .ok (.getfield 203, 3) := by decide +kernel
theorem d_R_tells_126 : decode b_R_tells 126 = .ok (.iconst 2, 1) := by decide +kernel
theorem d_R_tells_127 : decode b_R_tells 127 = .ok (.iadd, 1) := by decide +kernel
theorem d_R_tells_128 : decode b_R_tells 128 = .ok (.bipush (-32), 2) := by decide +kernel
theorem d_R_tells_130 : decode b_R_tells 130 = .ok (.iastore, 1) := by decide +kernel
theorem d_R_tells_131 : decode b_R_tells 131 = .ok (.aload_n 0, 1) := by decide +kernel
theorem d_R_tells_132 : decode b_R_tells 132 = .ok (.getfield 30, 3) := by decide +kernel
theorem d_R_tells_135 : decode b_R_tells 135 = .ok (.aload_n 0, 1) := by decide +kernel
theorem d_R_tells_136 : decode b_R_tells 136 = .ok (.getfield 203, 3) := by decide +kernel
theorem d_R_tells_139 : decode b_R_tells 139 = .ok (.iconst 3, 1) := by decide +kernel
theorem d_R_tells_140 : decode b_R_tells 140 = .ok (.iadd, 1) := by decide +kernel
theorem d_R_tells_141 : decode b_R_tells 141 = .ok (.aload_n 0, 1) := by decide +kernel
theorem d_R_tells_142 : decode b_R_tells 142 = .ok (.getfield 52, 3) := by decide +kernel
theorem d_R_tells_145 : decode b_R_tells 145 = .ok (.iload_n 2, 1) := by decide +kernel
theorem d_R_tells_146 : decode b_R_tells 146 = .ok (.iaload, 1) := by decide +kernel
theorem d_R_tells_147 : decode b_R_tells 147 = .ok (.iastore, 1) := by decide +kernel
theorem d_R_tells_148 : decode b_R_tells 148 = .ok (.aload_n 0, 1) := by decide +kernel
theorem d_R_tells_149 : decode b_R_tells 149 = .ok (.dup, 1) := by decide +kernel
theorem d_R_tells_150 : decode b_R_tells 150 = .ok (.getfield 203, 3) := by decide +kernel
theorem d_R_tells_153 : decode b_R_tells 153 = .ok (.iconst 4, 1) := by decide +kernel
theorem d_R_tells_154 : decode b_R_tells 154 = .ok (.iadd, 1) := by decide +kernel
theorem d_R_tells_155 : decode b_R_tells 155 = .ok (.putfield 203, 3) := by decide +kernel
theorem d_R_tells_158 : decode b_R_tells 158 = .ok (.goto (-141), 3) := by decide +kernel
theorem d_R_tells_161 : decode b_R_tells 161 = .ok (.return_, 1) := by decide +kernel
theorem d_R_told_0 : decode b_R_told 0 = .ok (.aload_n 0, 1) := by decide +kernel
theorem d_R_told_1 : decode b_R_told 1 = .ok (.iconst 0, 1) := by decide +kernel
theorem d_R_told_2 : decode b_R_told 2 = .ok (.putfield 67, 3) := by decide +kernel
theorem d_R_told_5 : decode b_R_told 5 = .ok (.aload_n 0, 1) := by decide +kernel
theorem d_R_told_6 : decode b_R_told 6 = .ok (.getfield 7, 3) := by decide +kernel
theorem d_R_told_9 : decode b_R_told 9 = .ok (.bipush 59, 2) := by decide +kernel
theorem d_R_told_11 : decode b_R_told 11 = .ok (.iaload, 1) := by decide +kernel
theorem d_R_told_12 : decode b_R_told 12 = .ok (.ifCond .ne 5, 3) := by decide +kernel
theorem d_R_told_15 : decode b_R_told 15 = .ok (.iconst (-1), 1) := by decide +kernel
theorem d_R_told_16 : decode b_R_told 16 = .ok (.ireturn, 1) := by decide +kernel
theorem d_R_told_17 : decode b_R_told 17 = .ok (.aload_n 0, 1) := by decide +kernel
theorem d_R_told_18 : decode b_R_told 18 = .ok (.invokevirtual 343, 3) := by decide +kernel
theorem d_R_told_21 : decode b_R_told 21 = .ok (.aload_n 0, 1) := by decide +kernel
theorem d_R_told_22 : decode b_R_told 22 = .ok (.aload_n 0, 1) := by decide +kernel
theorem d_R_told_23 : decode b_R_told 23 = .ok (.getfield 7, 3) := by decide +kernel
theorem d_R_told_26 : decode b_R_told 26 = .ok (.bipush 59, 2) := by decide +kernel
theorem d_R_told_28 : decode b_R_told 28 = .ok (.iaload, 1) := by decide +kernel
theorem d_R_told_29 : decode b_R_told 29 = .ok (.invokevirtual 374, 3) := by decide +kernel
theorem d_R_told_32 : decode b_R_told 32 = .ok (.iload_n 1, 1) := by decide +kernel
theorem d_R_told_33 : decode b_R_told 33 = .ok (.iconst (-1), 1) := by decide +kernel
theorem d_R_told_34 : decode b_R_told 34 = .ok (.if_icmp .ne 10, 3) := by decide +kernel
theorem d_R_told_37 : decode b_R_told 37 = .ok (.aload_n 0, 1) := by decide +kernel
theorem d_R_told_38 : decode b_R_told 38 = .ok (.getfield 365, 3) := by decide +kernel
theorem d_R_told_41 : decode b_R_told 41 = .ok (.goto 29, 3) := by decide +kernel
theorem d_R_told_44 : decode b_R_told 44 = .ok (.iload_n 1, 1) := by decide +kernel
theorem d_R_told_45 : decode b_R_told 45 = .ok (.i2l, 1) := by decide +kernel
theorem d_R_told_46 : decode b_R_told 46 = .ok (.lconst 0, 1) := by decide +kernel
theorem d_R_told_47 : decode b_R_told 47 = .ok (.aload_n 0, 1) := by decide +kernel
theorem d_R_told_48 : decode b_R_told 48 = .ok (.getfield 365, 3) := by decide +kernel
theorem d_R_told_51 : decode b_R_told 51 = .ok (.iconst 1, 1) := by decide +kernel
theorem d_R_told_52 : decode b_R_told 52 = .ok (.isub, 1) := by decide +kernel
theorem d_R_told_53 : decode b_R_told 53 = .ok (.i2l, 1) := by decide +kernel
theorem d_R_told_54 : decode b_R_told 54 = .ok (.invokestatic 107, 3) := by decide +kernel
theorem d_R_told_57 : decode b_R_told 57 = .ok (.ifCond .eq 12, 3) := by decide +kernel
theorem d_R_told_60 : decode b_R_told 60 = .ok (.aload_n 0, 1) := by decide +kernel
theorem d_R_told_61 : decode b_R_told 61 = .ok (.getfield 61, 3) := by decide +kernel
theorem d_R_told_64 : decode b_R_told 64 = .ok (.iload_n 1, 1) := by decide +kernel
theorem d_R_told_65 : decode b_R_told 65 = .ok (.baload, 1) := by decide +kernel
theorem d_R_told_66 : decode b_R_told 66 = .ok (.goto 4, 3) := by decide +kernel
theorem d_R_told_69 : decode b_R_told 69 = .ok (.iconst (-1), 1) := by decide +kernel
theorem d_R_told_70 : decode b_R_told 70 = .ok (.ireturn, 1) := by decide +kernel
theorem d_R_move_0 : decode b_R_move 0 = .ok (.aload_n 0, 1) := by decide +kernel
theorem d_R_move_1 : decode b_R_move 1 = .ok (.iconst 0, 1) := by decide +kernel
theorem d_R_move_2 : decode b_R_move 2 = .ok (.putfield 67, 3) := by decide +kernel
theorem d_R_move_5 : decode b_R_move 5 = .ok (.aload_n 0, 1) := by decide +kernel
theorem d_R_move_6 : decode b_R_move 6 = .ok (.getfield 7, 3) := by decide +kernel
theorem d_R_move_9 : decode b_R_move 9 = .ok (.bipush 59, 2) := by decide +kernel
theorem d_R_move_11 : decode b_R_move 11 = .ok (.iaload, 1) := by decide +kernel
theorem d_R_move_12 : decode b_R_move 12 = .ok (.istore_n 2, 1) := by decide +kernel
theorem d_R_move_13 : decode b_R_move 13 = .ok (.iload_n 2, 1) := by decide +kernel
theorem d_R_move_14 : decode b_R_move 14 = .ok (.ifCond .eq 8, 3) := by decide +kernel
theorem d_R_move_17 : decode b_R_move 17 = .ok (.iload_n 1, 1) := by decide +kernel
theorem d_R_move_18 : decode b_R_move 18 = .ok (.iconst (-1), 1) := by decide +kernel
theorem d_R_move_19 : decode b_R_move 19 = .ok (.if_icmp .ge 7, 3) := by decide +kernel
theorem d_R_move_22 : decode b_R_move 22 = .ok (.ldc2_w 361, 3) := by decide +kernel
theorem d_R_move_25 : decode b_R_move 25 = .ok (.lreturn, 1) := by decide +kernel
theorem d_R_move_26 : decode b_R_move 26 = .ok (.aload_n 0, 1) := by decide +kernel
theorem d_R_move_27 : decode b_R_move 27 = .ok (.invokevirtual 328, 3) := by decide +kernel
theorem d_R_move_30 : decode b_R_move 30 = .ok (.aload_n 0, 1) := by decide +kernel
theorem d_R_move_31 : decode b_R_move 31 = .ok (.invokevirtual 343, 3) := by decide +kernel
theorem d_R_move_34 : decode b_R_move 34 = .ok (.aload_n 0, 1) := by decide +kernel
theorem d_R_move_35 : decode b_R_move 35 = .ok (.iload_n 2, 1) := by decide +kernel
theorem d_R_move_36 : decode b_R_move 36 = .ok (.invokevirtual 288, 3) := by decide +kernel
theorem d_R_move_39 : decode b_R_move 39 = .ok (.iload_n 1, 1) := by decide +kernel
theorem d_R_move_40 : decode b_R_move 40 = .ok (.iconst (-1), 1) := by decide +kernel
theorem d_R_move_41 : decode b_R_move 41 = .ok (.if_icmp .ne 9, 3) := by decide +kernel
theorem d_R_move_44 : decode b_R_move 44 = .ok (.aload_n 0, 1) := by decide +kernel
theorem d_R_move_45 : decode b_R_move 45 = .ok (.invokevirtual 298, 3) := by decide +kernel
theorem d_R_move_48 : decode b_R_move 48 = .ok (.i2l, 1) := by decide +kernel
theorem d_R_move_49 : decode b_R_move 49 = .ok (.lreturn, 1) := by decide +kernel
theorem d_R_move_50 : decode b_R_move 50 = .ok (.aload_n 0, 1) := by decide +kernel
theorem d_R_move_51 : decode b_R_move 51 = .ok (.iload_n 1, 1) := by decide +kernel
theorem d_R_move_52 : decode b_R_move 52 = .ok (.invokevirtual 285, 3) := by decide +kernel
theorem d_R_move_55 : decode b_R_move 55 = .ok (.ifCond .ne 7, 3) := by decide +kernel
theorem d_R_move_58 : decode b_R_move 58 = .ok (.ldc2_w 361, 3) := by decide +kernel
theorem d_R_move_61 : decode b_R_move 61 = .ok (.lreturn, 1) := by decide +kernel
theorem d_R_move_62 : decode b_R_move 62 = .ok (.aload_n 0, 1) := by decide +kernel
theorem d_R_move_63 : decode b_R_move 63 = .ok (.invokevirtual 301, 3) := by decide +kernel
theorem d_R_move_66 : decode b_R_move 66 = .ok (.aload_n 0, 1) := by decide +kernel
theorem d_R_move_67 : decode b_R_move 67 = .ok (.iload_n 2, 1) := by decide +kernel
theorem d_R_move_68 : decode b_R_move 68 = .ok (.invokevirtual 294, 3) := by decide +kernel
theorem d_R_move_71 : decode b_R_move 71 = .ok (.lreturn, 1) := by decide +kernel
theorem d_R_steps_0 : decode b_R_steps 0 = .ok (.aload_n 0, 1) := by decide +kernel
theorem d_R_steps_1 : decode b_R_steps 1 = .ok (.iconst 0, 1) := by decide +kernel
theorem d_R_steps_2 : decode b_R_steps 2 = .ok (.putfield 67, 3) := by decide +kernel
theorem d_R_steps_5 : decode b_R_steps 5 = .ok (.aload_n 0, 1) := by decide +kernel
theorem d_R_steps_6 : decode b_R_steps 6 = .ok (.getfield 7, 3) := by decide +kernel
theorem d_R_steps_9 : decode b_R_steps 9 = .ok (.bipush 59, 2) := by decide +kernel
theorem d_R_steps_11 : decode b_R_steps 11 = .ok (.iaload, 1) := by decide +kernel
theorem d_R_steps_12 : decode b_R_steps 12 = .ok (.istore_n 1, 1) := by decide +kernel
theorem d_R_steps_13 : decode b_R_steps 13 = .ok (.iload_n 1, 1) := by decide +kernel
theorem d_R_steps_14 : decode b_R_steps 14 = .ok (.ifCond .ne 5, 3) := by decide +kernel
theorem d_R_steps_17 : decode b_R_steps 17 = .ok (.iconst (-1), 1) := by decide +kernel
theorem d_R_steps_18 : decode b_R_steps 18 = .ok (.ireturn, 1) := by decide +kernel
theorem d_R_steps_19 : decode b_R_steps 19 = .ok (.aload_n 0, 1) := by decide +kernel
theorem d_R_steps_20 : decode b_R_steps 20 = .ok (.invokevirtual 328, 3) := by decide +kernel
theorem d_R_steps_23 : decode b_R_steps 23 = .ok (.aload_n 0, 1) := by decide +kernel
theorem d_R_steps_24 : decode b_R_steps 24 = .ok (.invokevirtual 343, 3) := by decide +kernel
theorem d_R_steps_27 : decode b_R_steps 27 = .ok (.iconst 0, 1) := by decide +kernel
theorem d_R_steps_28 : decode b_R_steps 28 = .ok (.istore_n 2, 1) := by decide +kernel
theorem d_R_steps_29 : decode b_R_steps 29 = .ok (.aload_n 0, 1) := by decide +kernel
theorem d_R_steps_30 : decode b_R_steps 30 = .ok (.iload_n 1, 1) := by decide +kernel
theorem d_R_steps_31 : decode b_R_steps 31 = .ok (.invokevirtual 346, 3) := by decide +kernel
theorem d_R_steps_34 : decode b_R_steps 34 = .ok (.istore_n 3, 1) := by decide +kernel
theorem d_R_steps_35 : decode b_R_steps 35 = .ok (.iload_n 3, 1) := by decide +kernel
theorem d_R_steps_36 : decode b_R_steps 36 = .ok (.iconst (-1), 1) := by decide +kernel
theorem d_R_steps_37 : decode b_R_steps 37 = .ok (.if_icmp .eq 26, 3) := by decide +kernel
theorem d_R_steps_40 : decode b_R_steps 40 = .ok (.aload_n 0, 1) := by decide +kernel
theorem d_R_steps_41 : decode b_R_steps 41 = .ok (.iload_n 3, 1) := by decide +kernel
theorem d_R_steps_42 : decode b_R_steps 42 = .ok (.invokevirtual 285, 3) := by decide +kernel
theorem d_R_steps_45 : decode b_R_steps 45 = .ok (.istore 4, 2) := by decide +kernel
theorem d_R_steps_47 : decode b_R_steps 47 = .ok (.aload_n 0, 1) := by decide +kernel
theorem d_R_steps_48 : decode b_R_steps 48 = .ok (.invokevirtual 301, 3) := by decide +kernel
theorem d_R_steps_51 : decode b_R_steps 51 = .ok (.iinc 2 1, 3) := by decide +kernel
theorem d_R_steps_54 : decode b_R_steps 54 = .ok (.aload_n 0, 1) := by decide +kernel
theorem d_R_steps_55 : decode b_R_steps 55 = .ok (.iload_n 1, 1) := by decide +kernel
theorem d_R_steps_56 : decode b_R_steps 56 = .ok (.invokevirtual 346, 3) := by decide +kernel
theorem d_R_steps_59 : decode b_R_steps 59 = .ok (.istore_n 3, 1) := by decide +kernel
theorem d_R_steps_60 : decode b_R_steps 60 = .ok (.goto (-25), 3) := by decide +kernel
theorem d_R_steps_63 : decode b_R_steps 63 = .ok (.iload_n 2, 1) := by decide +kernel
theorem d_R_steps_64 : decode b_R_steps 64 = .ok (.ireturn, 1) := by decide +kernel
theorem d_R_copies_0 : decode b_R_copies 0 = .ok (.iconst 0, 1) := by decide +kernel
theorem d_R_copies_1 : decode b_R_copies 1 = .ok (.istore_n 3, 1) := by decide +kernel
theorem d_R_copies_2 : decode b_R_copies 2 = .ok (.iload_n 3, 1) := by decide +kernel
theorem d_R_copies_3 : decode b_R_copies 3 = .ok (.sipush 319, 3) := by decide +kernel
theorem d_R_copies_6 : decode b_R_copies 6 = .ok (.if_icmp .ge 33, 3) := by decide +kernel
theorem d_R_copies_9 : decode b_R_copies 9 = .ok (.aload_n 0, 1) := by decide +kernel
theorem d_R_copies_10 : decode b_R_copies 10 = .ok (.getfield 7, 3) := by decide +kernel
theorem d_R_copies_13 : decode b_R_copies 13 = .ok (.sipush 319, 3) := by decide +kernel
theorem d_R_copies_16 : decode b_R_copies 16 = .ok (.iload_n 2, 1) := by decide +kernel
theorem d_R_copies_17 : decode b_R_copies 17 = .ok (.imul, 1) := by decide +kernel
theorem d_R_copies_18 : decode b_R_copies 18 = .ok (.iload_n 3, 1) := by decide +kernel
theorem d_R_copies_19 : decode b_R_copies 19 = .ok (.iadd, 1) := by decide +kernel
theorem d_R_copies_20 : decode b_R_copies 20 = .ok (.aload_n 0, 1) := by decide +kernel
theorem d_R_copies_21 : decode b_R_copies 21 = .ok (.getfield 7, 3) := by decide +kernel
theorem d_R_copies_24 : decode b_R_copies 24 = .ok (.sipush 319, 3) := by decide +kernel
theorem d_R_copies_27 : decode b_R_copies 27 = .ok (.iload_n 1, 1) := by decide +kernel
theorem d_R_copies_28 : decode b_R_copies 28 = .ok (.imul, 1) := by decide +kernel
theorem d_R_copies_29 : decode b_R_copies 29 = .ok (.iload_n 3, 1) := by decide +kernel
theorem d_R_copies_30 : decode b_R_copies 30 = .ok (.iadd, 1) := by decide +kernel
theorem d_R_copies_31 : decode b_R_copies 31 = .ok (.iaload, 1) := by decide +kernel
theorem d_R_copies_32 : decode b_R_copies 32 = .ok (.iastore, 1) := by decide +kernel
theorem d_R_copies_33 : decode b_R_copies 33 = .ok (.iinc 3 1, 3) := by decide +kernel
theorem d_R_copies_36 : decode b_R_copies 36 = .ok (.goto (-34), 3) := by decide +kernel
theorem d_R_copies_39 : decode b_R_copies 39 = .ok (.return_, 1) := by decide +kernel
theorem d_R_bestOfAll_0 : decode b_R_bestOfAll 0 = .ok (.aload_n 0, 1) := by decide +kernel
theorem d_R_bestOfAll_1 : decode b_R_bestOfAll 1 = .ok (.invokevirtual 328, 3) := by decide +kernel
theorem d_R_bestOfAll_4 : decode b_R_bestOfAll 4 = .ok (.aload_n 0, 1) := by decide +kernel
theorem d_R_bestOfAll_5 : decode b_R_bestOfAll 5 = .ok (.getfield 43, 3) := by decide +kernel
theorem d_R_bestOfAll_8 : decode b_R_bestOfAll 8 = .ok (.aload_n 0, 1) := by decide +kernel
theorem d_R_bestOfAll_9 : decode b_R_bestOfAll 9 = .ok (.invokevirtual 71, 3) := by decide +kernel
theorem d_R_bestOfAll_12 : decode b_R_bestOfAll 12 = .ok (.laload, 1) := by decide +kernel
theorem d_R_bestOfAll_13 : decode b_R_bestOfAll 13 = .ok (.lreturn, 1) := by decide +kernel
theorem d_R_would_0 : decode b_R_would 0 = .ok (.aload_n 0, 1) := by decide +kernel
theorem d_R_would_1 : decode b_R_would 1 = .ok (.iconst 0, 1) := by decide +kernel
theorem d_R_would_2 : decode b_R_would 2 = .ok (.putfield 67, 3) := by decide +kernel
theorem d_R_would_5 : decode b_R_would 5 = .ok (.iload_n 1, 1) := by decide +kernel
theorem d_R_would_6 : decode b_R_would 6 = .ok (.ifCond .eq 26, 3) := by decide +kernel
theorem d_R_would_9 : decode b_R_would 9 = .ok (.aload_n 0, 1) := by decide +kernel
theorem d_R_would_10 : decode b_R_would 10 = .ok (.iload_n 2, 1) := by decide +kernel
theorem d_R_would_11 : decode b_R_would 11 = .ok (.invokevirtual 320, 3) := by decide +kernel
theorem d_R_would_14 : decode b_R_would 14 = .ok (.ifCond .eq 38, 3) := by decide +kernel
theorem d_R_would_17 : decode b_R_would 17 = .ok (.iload_n 3, 1) := by decide +kernel
theorem d_R_would_18 : decode b_R_would 18 = .ok (.i2l, 1) := by decide +kernel
theorem d_R_would_19 : decode b_R_would 19 = .ok (.lconst 1, 1) := by decide +kernel
theorem d_R_would_20 : decode b_R_would 20 = .ok (.ldc2_w 318, 3) := by decide +kernel
theorem d_R_would_23 : decode b_R_would 23 = .ok (.invokestatic 107, 3) := by decide +kernel
theorem d_R_would_26 : decode b_R_would 26 = .ok (.ifCond .ne 30, 3) := by decide +kernel
theorem d_R_would_29 : decode b_R_would 29 = .ok (.goto 23, 3) := by decide +kernel
theorem d_R_would_32 : decode b_R_would 32 = .ok (.aload_n 0, 1) := by decide +kernel
theorem d_R_would_33 : decode b_R_would 33 = .ok (.iload_n 2, 1) := by decide +kernel
theorem d_R_would_34 : decode b_R_would 34 = .ok (.invokevirtual 312, 3) := by decide +kernel
theorem d_R_would_37 : decode b_R_would 37 = .ok (.ifCond .eq 15, 3) := by decide +kernel
theorem d_R_would_40 : decode b_R_would 40 = .ok (.iload_n 3, 1) := by decide +kernel
theorem d_R_would_41 : decode b_R_would 41 = .ok (.i2l, 1) := by decide +kernel
theorem d_R_would_42 : decode b_R_would 42 = .ok (.lconst 1, 1) := by decide +kernel
theorem d_R_would_43 : decode b_R_would 43 = .ok (.ldc2_w 307, 3) := by decide +kernel
theorem d_R_would_46 : decode b_R_would 46 = .ok (.invokestatic 107, 3) := by decide +kernel
theorem d_R_would_49 : decode b_R_would 49 = .ok (.ifCond .ne 7, 3) := by decide +kernel
theorem d_R_would_52 : decode b_R_would 52 = .ok (.ldc2_w 361, 3) := by decide +kernel
theorem d_R_would_55 : decode b_R_would 55 = .ok (.lreturn, 1) := by decide +kernel
theorem d_R_would_56 : decode b_R_would 56 = .ok (.iload_n 1, 1) := by decide +kernel
theorem d_R_would_57 : decode b_R_would 57 = .ok (.ifCond .eq 14, 3) := by decide +kernel
theorem d_R_would_60 : decode b_R_would 60 = .ok (.bipush 10, 2) := by decide +kernel
theorem d_R_would_62 : decode b_R_would 62 = .ok (.iconst 3, 1) := by decide +kernel
theorem d_R_would_63 : decode b_R_would 63 = .ok (.iload_n 2, 1) := by decide +kernel
theorem d_R_would_64 : decode b_R_would 64 = .ok (.imul, 1) := by decide +kernel
theorem d_R_would_65 : decode b_R_would 65 = .ok (.iadd, 1) := by decide +kernel
theorem d_R_would_66 : decode b_R_would 66 = .ok (.iconst 2, 1) := by decide +kernel
theorem d_R_would_67 : decode b_R_would 67 = .ok (.iadd, 1) := by decide +kernel
theorem d_R_would_68 : decode b_R_would 68 = .ok (.goto 6, 3) := by decide +kernel
theorem d_R_would_71 : decode b_R_would 71 = .ok (.iconst 1, 1) := by decide +kernel
theorem d_R_would_72 : decode b_R_would 72 = .ok (.iload_n 2, 1) := by decide +kernel
theorem d_R_would_73 : decode b_R_would 73 = .ok (.iadd, 1) := by decide +kernel
theorem d_R_would_74 : decode b_R_would 74 = .ok (.istore 4, 2) := by decide +kernel
theorem d_R_would_76 : decode b_R_would 76 = .ok (.aload_n 0, 1) := by decide +kernel
theorem d_R_would_77 : decode b_R_would 77 = .ok (.getfield 7, 3) := by decide +kernel
theorem d_R_would_80 : decode b_R_would 80 = .ok (.iload 4, 2) := by decide +kernel
theorem d_R_would_82 : decode b_R_would 82 = .ok (.iaload, 1) := by decide +kernel
theorem d_R_would_83 : decode b_R_would 83 = .ok (.istore 5, 2) := by decide +kernel
theorem d_R_would_85 : decode b_R_would 85 = .ok (.aload_n 0, 1) := by decide +kernel
theorem d_R_would_86 : decode b_R_would 86 = .ok (.getfield 7, 3) := by decide +kernel
theorem d_R_would_89 : decode b_R_would 89 = .ok (.iload 4, 2) := by decide +kernel
theorem d_R_would_91 : decode b_R_would 91 = .ok (.iload_n 3, 1) := by decide +kernel
theorem d_R_would_92 : decode b_R_would 92 = .ok (.iastore, 1) := by decide +kernel
theorem d_R_would_93 : decode b_R_would 93 = .ok (.aload_n 0, 1) := by decide +kernel
theorem d_R_would_94 : decode b_R_would 94 = .ok (.invokevirtual 377, 3) := by decide +kernel
theorem d_R_would_97 : decode b_R_would 97 = .ok (.lstore 6, 2) := by decide +kernel
theorem d_R_would_99 : decode b_R_would 99 = .ok (.aload_n 0, 1) := by decide +kernel
theorem d_R_would_100 : decode b_R_would 100 = .ok (.getfield 7, 3) := by decide +kernel
theorem d_R_would_103 : decode b_R_would 103 = .ok (.iload 4, 2) := by decide +kernel
theorem d_R_would_105 : decode b_R_would 105 = .ok (.iload 5, 2) := by decide +kernel
theorem d_R_would_107 : decode b_R_would 107 = .ok (.iastore, 1) := by decide +kernel
theorem d_R_would_108 : decode b_R_would 108 = .ok (.lload 6, 2) := by decide +kernel
theorem d_R_would_110 : decode b_R_would 110 = .ok (.lreturn, 1) := by decide +kernel
theorem d_R_needed_0 : decode b_R_needed 0 = .ok (.aload_n 0, 1) := by decide +kernel
theorem d_R_needed_1 : decode b_R_needed 1 = .ok (.iconst 0, 1) := by decide +kernel
theorem d_R_needed_2 : decode b_R_needed 2 = .ok (.putfield 67, 3) := by decide +kernel
theorem d_R_needed_5 : decode b_R_needed 5 = .ok (.aload_n 0, 1) := by decide +kernel
theorem d_R_needed_6 : decode b_R_needed 6 = .ok (.getfield 7, 3) := by decide +kernel
theorem d_R_needed_9 : decode b_R_needed 9 = .ok (.bipush 9, 2) := by decide +kernel
theorem d_R_needed_11 : decode b_R_needed 11 = .ok (.iaload, 1) := by decide +kernel
theorem d_R_needed_12 : decode b_R_needed 12 = .ok (.ifCond .ne 7, 3) := by decide +kernel
theorem d_R_needed_15 : decode b_R_needed 15 = .ok (.ldc2_w 361, 3) := by decide +kernel
theorem d_R_needed_18 : decode b_R_needed 18 = .ok (.lreturn, 1) := by decide +kernel
theorem d_R_needed_19 : decode b_R_needed 19 = .ok (.bipush 9, 2) := by decide +kernel
theorem d_R_needed_21 : decode b_R_needed 21 = .ok (.istore_n 2, 1) := by decide +kernel
theorem d_R_needed_22 : decode b_R_needed 22 = .ok (.iload_n 2, 1) := by decide +kernel
theorem d_R_needed_23 : decode b_R_needed 23 = .ok (.bipush 58, 2) := by decide +kernel
theorem d_R_needed_25 : decode b_R_needed 25 = .ok (.if_icmp .ge 21, 3) := by decide +kernel
theorem d_R_needed_28 : decode b_R_needed 28 = .ok (.aload_n 0, 1) := by decide +kernel
theorem d_R_needed_29 : decode b_R_needed 29 = .ok (.getfield 64, 3) := by decide +kernel
theorem d_R_needed_32 : decode b_R_needed 32 = .ok (.iload_n 2, 1) := by decide +kernel
theorem d_R_needed_33 : decode b_R_needed 33 = .ok (.aload_n 0, 1) := by decide +kernel
theorem d_R_needed_34 : decode b_R_needed 34 = .ok (.getfield 7, 3) := by decide +kernel
theorem d_R_needed_37 : decode b_R_needed 37 = .ok (.iload_n 2, 1) := by decide +kernel
theorem d_R_needed_38 : decode b_R_needed 38 = .ok (.iaload, 1) := by decide +kernel
theorem d_R_needed_39 : decode b_R_needed 39 = .ok (.iastore, 1) := by decide +kernel
theorem d_R_needed_40 : decode b_R_needed 40 = .ok (.iinc 2 1, 3) := by decide +kernel
theorem d_R_needed_43 : decode b_R_needed 43 = .ok (.goto (-21), 3) := by decide +kernel
theorem d_R_needed_46 : decode b_R_needed 46 = .ok (.iconst (-1), 1) := by decide +kernel
theorem d_R_needed_47 : decode b_R_needed 47 = .ok (.istore_n 2, 1) := by decide +kernel
theorem d_R_needed_48 : decode b_R_needed 48 = .ok (.lconst 0, 1) := by decide +kernel
theorem d_R_needed_49 : decode b_R_needed 49 = .ok (.lstore_n 3, 1) := by decide +kernel
theorem d_R_needed_50 : decode b_R_needed 50 = .ok (.aload_n 0, 1) := by decide +kernel
theorem d_R_needed_51 : decode b_R_needed 51 = .ok (.getfield 7, 3) := by decide +kernel
theorem d_R_needed_54 : decode b_R_needed 54 = .ok (.bipush 9, 2) := by decide +kernel
theorem d_R_needed_56 : decode b_R_needed 56 = .ok (.iaload, 1) := by decide +kernel
theorem d_R_needed_57 : decode b_R_needed 57 = .ok (.istore 5, 2) := by decide +kernel
theorem d_R_needed_59 : decode b_R_needed 59 = .ok (.iconst 0, 1) := by decide +kernel
theorem d_R_needed_60 : decode b_R_needed 60 = .ok (.istore 6, 2) := by decide +kernel
theorem d_R_needed_62 : decode b_R_needed 62 = .ok (.iload 6, 2) := by decide +kernel
theorem d_R_needed_64 : decode b_R_needed 64 = .ok (.iload 5, 2) := by decide +kernel
theorem d_R_needed_66 : decode b_R_needed 66 = .ok (.if_icmp .ge 70, 3) := by decide +kernel
theorem d_R_needed_69 : decode b_R_needed 69 = .ok (.aload_n 0, 1) := by decide +kernel
theorem d_R_needed_70 : decode b_R_needed 70 = .ok (.iload 6, 2) := by decide +kernel
theorem d_R_needed_72 : decode b_R_needed 72 = .ok (.invokevirtual 323, 3) := by decide +kernel
theorem d_R_needed_75 : decode b_R_needed 75 = .ok (.aload_n 0, 1) := by decide +kernel
theorem d_R_needed_76 : decode b_R_needed 76 = .ok (.invokevirtual 377, 3) := by decide +kernel
theorem d_R_needed_79 : decode b_R_needed 79 = .ok (.lstore 7, 2) := by decide +kernel
theorem d_R_needed_81 : decode b_R_needed 81 = .ok (.iload_n 2, 1) := by decide +kernel
theorem d_R_needed_82 : decode b_R_needed 82 = .ok (.iconst (-1), 1) := by decide +kernel
theorem d_R_needed_83 : decode b_R_needed 83 = .ok (.if_icmp .eq 10, 3) := by decide +kernel
theorem d_R_needed_86 : decode b_R_needed 86 = .ok (.lload 7, 2) := by decide +kernel
theorem d_R_needed_88 : decode b_R_needed 88 = .ok (.lload_n 3, 1) := by decide +kernel
theorem d_R_needed_89 : decode b_R_needed 89 = .ok (.lcmp, 1) := by decide +kernel
theorem d_R_needed_90 : decode b_R_needed 90 = .ok (.ifCond .le 9, 3) := by decide +kernel
theorem d_R_needed_93 : decode b_R_needed 93 = .ok (.iload 6, 2) := by decide +kernel
theorem d_R_needed_95 : decode b_R_needed 95 = .ok (.istore_n 2, 1) := by decide +kernel
theorem d_R_needed_96 : decode b_R_needed 96 = .ok (.lload 7, 2) := by decide +kernel
theorem d_R_needed_98 : decode b_R_needed 98 = .ok (.lstore_n 3, 1) := by decide +kernel
theorem d_R_needed_99 : decode b_R_needed 99 = .ok (.bipush 9, 2) := by decide +kernel
theorem d_R_needed_101 : decode b_R_needed 101 = .ok (.istore 9, 2) := by decide +kernel
theorem d_R_needed_103 : decode b_R_needed 103 = .ok (.iload 9, 2) := by decide +kernel
theorem d_R_needed_105 : decode b_R_needed 105 = .ok (.bipush 58, 2) := by decide +kernel
theorem d_R_needed_107 : decode b_R_needed 107 = .ok (.if_icmp .ge 23, 3) := by decide +kernel
theorem d_R_needed_110 : decode b_R_needed 110 = .ok (.aload_n 0, 1) := by decide +kernel
theorem d_R_needed_111 : decode b_R_needed 111 = .ok (.getfield 7, 3) := by decide +kernel
theorem d_R_needed_114 : decode b_R_needed 114 = .ok (.iload 9, 2) := by decide +kernel
theorem d_R_needed_116 : decode b_R_needed 116 = .ok (.aload_n 0, 1) := by decide +kernel
theorem d_R_needed_117 : decode b_R_needed 117 = .ok (.getfield 64, 3) := by decide +kernel
theorem d_R_needed_120 : decode b_R_needed 120 = .ok (.iload 9, 2) := by decide +kernel
theorem d_R_needed_122 : decode b_R_needed 122 = .ok (.iaload, 1) := by decide +kernel
theorem d_R_needed_123 : decode b_R_needed 123 = .ok (.iastore, 1) := by decide +kernel
theorem d_R_needed_124 : decode b_R_needed 124 = .ok (.iinc 9 1, 3) := by decide +kernel
theorem d_R_needed_127 : decode b_R_needed 127 = .ok (.goto (-24), 3) := by decide +kernel
theorem d_R_needed_130 : decode b_R_needed 130 = .ok (.iinc 6 1, 3) := by decide +kernel
theorem d_R_needed_133 : decode b_R_needed 133 = .ok (.goto (-71), 3) := by decide +kernel
theorem d_R_needed_136 : decode b_R_needed 136 = .ok (.iload_n 1, 1) := by decide +kernel
theorem d_R_needed_137 : decode b_R_needed 137 = .ok (.ifCond .eq 7, 3) := by decide +kernel
theorem d_R_needed_140 : decode b_R_needed 140 = .ok (.lload_n 3, 1) := by decide +kernel
theorem d_R_needed_141 : decode b_R_needed 141 = .ok (.goto 5, 3) := by decide +kernel
theorem d_R_needed_144 : decode b_R_needed 144 = .ok (.iload_n 2, 1) := by decide +kernel
theorem d_R_needed_145 : decode b_R_needed 145 = .ok (.i2l, 1) := by decide +kernel
theorem d_R_needed_146 : decode b_R_needed 146 = .ok (.lreturn, 1) := by decide +kernel
theorem d_R_copiesText_0 : decode b_R_copiesText 0 = .ok (.aload_n 0, 1) := by decide +kernel
theorem d_R_copiesText_1 : decode b_R_copiesText 1 = .ok (.iload_n 1, 1) := by decide +kernel
theorem d_R_copiesText_2 : decode b_R_copiesText 2 = .ok (.iload_n 2, 1) := by decide +kernel
theorem d_R_copiesText_3 : decode b_R_copiesText 3 = .ok (.invokevirtual 381, 3) := by decide +kernel
theorem d_R_copiesText_6 : decode b_R_copiesText 6 = .ok (.iconst 0, 1) := by decide +kernel
theorem d_R_copiesText_7 : decode b_R_copiesText 7 = .ok (.istore_n 3, 1) := by decide +kernel
theorem d_R_copiesText_8 : decode b_R_copiesText 8 = .ok (.iload_n 3, 1) := by decide +kernel
theorem d_R_copiesText_9 : decode b_R_copiesText 9 = .ok (.sipush 500, 3) := by decide +kernel
theorem d_R_copiesText_12 : decode b_R_copiesText 12 = .ok (.if_icmp .ge 33, 3) := by decide +kernel
theorem d_R_copiesText_15 : decode b_R_copiesText 15 = .ok (.aload_n 0, 1) := by decide +kernel
theorem d_R_copiesText_16 : decode b_R_copiesText 16 = .ok (.getfield 13, 3) := by decide +kernel
theorem d_R_copiesText_19 : decode b_R_copiesText 19 = .ok (.sipush 500, 3) := by decide +kernel
theorem d_R_copiesText_22 : decode b_R_copiesText 22 = .ok (.iload_n 2, 1) := by decide +kernel
theorem d_R_copiesText_23 : decode b_R_copiesText 23 = .ok (.imul, 1) := by decide +kernel
theorem d_R_copiesText_24 : decode b_R_copiesText 24 = .ok (.iload_n 3, 1) := by decide +kernel
theorem d_R_copiesText_25 : decode b_R_copiesText 25 = .ok (.iadd, 1) := by decide +kernel
theorem d_R_copiesText_26 : decode b_R_copiesText 26 = .ok (.aload_n 0, 1) := by decide +kernel
theorem d_R_copiesText_27 : decode b_R_copiesText 27 = .ok (.getfield 13, 3) := by decide +kernel
theorem d_R_copiesText_30 : decode b_R_copiesText 30 = .ok (.sipush 500, 3) := by decide +kernel
theorem d_R_copiesText_33 : decode b_R_copiesText 33 = .ok (.iload_n 1, 1) := by decide +kernel
theorem d_R_copiesText_34 : decode b_R_copiesText 34 = .ok (.imul, 1) := by decide +kernel
theorem d_R_copiesText_35 : decode b_R_copiesText 35 = .ok (.iload_n 3, 1) := by decide +kernel
theorem d_R_copiesText_36 : decode b_R_copiesText 36 = .ok (.iadd, 1) := by decide +kernel
theorem d_R_copiesText_37 : decode b_R_copiesText 37 = .ok (.baload, 1) := by decide +kernel
theorem d_R_copiesText_38 : decode b_R_copiesText 38 = .ok (.bastore, 1) := by decide +kernel
theorem d_R_copiesText_39 : decode b_R_copiesText 39 = .ok (.iinc 3 1, 3) := by decide +kernel
theorem d_R_copiesText_42 : decode b_R_copiesText 42 = .ok (.goto (-34), 3) := by decide +kernel
theorem d_R_copiesText_45 : decode b_R_copiesText 45 = .ok (.return_, 1) := by decide +kernel
theorem d_R_image_0 : decode b_R_image 0 = .ok (.aload_n 0, 1) := by decide +kernel
theorem d_R_image_1 : decode b_R_image 1 = .ok (.iconst 0, 1) := by decide +kernel
theorem d_R_image_2 : decode b_R_image 2 = .ok (.putfield 67, 3) := by decide +kernel
theorem d_R_image_5 : decode b_R_image 5 = .ok (.iload_n 1, 1) := by decide +kernel
theorem d_R_image_6 : decode b_R_image 6 = .ok (.i2l, 1) := by decide +kernel
theorem d_R_image_7 : decode b_R_image 7 = .ok (.lconst 0, 1) := by decide +kernel
theorem d_R_image_8 : decode b_R_image 8 = .ok (.ldc2_w 359, 3) := by decide +kernel
theorem d_R_image_11 : decode b_R_image 11 = .ok (.invokestatic 107, 3) := by decide +kernel
theorem d_R_image_14 : decode b_R_image 14 = .ok (.ifCond .ne 5, 3) := by decide +kernel
theorem d_R_image_17 : decode b_R_image 17 = .ok (.iconst 0, 1) := by decide +kernel
theorem d_R_image_18 : decode b_R_image 18 = .ok (.ireturn, 1) := by decide +kernel
theorem d_R_image_19 : decode b_R_image 19 = .ok (.aload_n 0, 1) := by decide +kernel
theorem d_R_image_20 : decode b_R_image 20 = .ok (.iconst 0, 1) := by decide +kernel
theorem d_R_image_21 : decode b_R_image 21 = .ok (.iload_n 1, 1) := by decide +kernel
theorem d_R_image_22 : decode b_R_image 22 = .ok (.iconst 1, 1) := by decide +kernel
theorem d_R_image_23 : decode b_R_image 23 = .ok (.iadd, 1) := by decide +kernel
theorem d_R_image_24 : decode b_R_image 24 = .ok (.invokevirtual 384, 3) := by decide +kernel
theorem d_R_image_27 : decode b_R_image 27 = .ok (.aload_n 0, 1) := by decide +kernel
theorem d_R_image_28 : decode b_R_image 28 = .ok (.getfield 17, 3) := by decide +kernel
theorem d_R_image_31 : decode b_R_image 31 = .ok (.iload_n 1, 1) := by decide +kernel
theorem d_R_image_32 : decode b_R_image 32 = .ok (.iconst 1, 1) := by decide +kernel
theorem d_R_image_33 : decode b_R_image 33 = .ok (.bastore, 1) := by decide +kernel
theorem d_R_image_34 : decode b_R_image 34 = .ok (.iconst 1, 1) := by decide +kernel
theorem d_R_image_35 : decode b_R_image 35 = .ok (.ireturn, 1) := by decide +kernel
theorem d_R_again_0 : decode b_R_again 0 = .ok (.aload_n 0, 1) := by decide +kernel
theorem d_R_again_1 : decode b_R_again 1 = .ok (.iconst 0, 1) := by decide +kernel
theorem d_R_again_2 : decode b_R_again 2 = .ok (.putfield 67, 3) := by decide +kernel
theorem d_R_again_5 : decode b_R_again 5 = .ok (.iload_n 1, 1) := by decide +kernel
theorem d_R_again_6 : decode b_R_again 6 = .ok (.i2l, 1) := by decide +kernel
theorem d_R_again_7 : decode b_R_again 7 = .ok (.lconst 0, 1) := by decide +kernel
theorem d_R_again_8 : decode b_R_again 8 = .ok (.ldc2_w 359, 3) := by decide +kernel
theorem d_R_again_11 : decode b_R_again 11 = .ok (.invokestatic 107, 3) := by decide +kernel
theorem d_R_again_14 : decode b_R_again 14 = .ok (.ifCond .eq 12, 3) := by decide +kernel
theorem d_R_again_17 : decode b_R_again 17 = .ok (.aload_n 0, 1) := by decide +kernel
theorem d_R_again_18 : decode b_R_again 18 = .ok (.getfield 17, 3) := by decide +kernel
theorem d_R_again_21 : decode b_R_again 21 = .ok (.iload_n 1, 1) := by decide +kernel
theorem d_R_again_22 : decode b_R_again 22 = .ok (.baload, 1) := by decide +kernel
theorem d_R_again_23 : decode b_R_again 23 = .ok (.ifCond .ne 5, 3) := by decide +kernel
theorem d_R_again_26 : decode b_R_again 26 = .ok (.iconst 0, 1) := by decide +kernel
theorem d_R_again_27 : decode b_R_again 27 = .ok (.ireturn, 1) := by decide +kernel
theorem d_R_again_28 : decode b_R_again 28 = .ok (.aload_n 0, 1) := by decide +kernel
theorem d_R_again_29 : decode b_R_again 29 = .ok (.iload_n 1, 1) := by decide +kernel
theorem d_R_again_30 : decode b_R_again 30 = .ok (.iconst 1, 1) := by decide +kernel
theorem d_R_again_31 : decode b_R_again 31 = .ok (.iadd, 1) := by decide +kernel
theorem d_R_again_32 : decode b_R_again 32 = .ok (.iconst 0, 1) := by decide +kernel
theorem d_R_again_33 : decode b_R_again 33 = .ok (.invokevirtual 384, 3) := by decide +kernel
theorem d_R_again_36 : decode b_R_again 36 = .ok (.aload_n 0, 1) := by decide +kernel
theorem d_R_again_37 : decode b_R_again 37 = .ok (.iconst 0, 1) := by decide +kernel
theorem d_R_again_38 : decode b_R_again 38 = .ok (.putfield 180, 3) := by decide +kernel
theorem d_R_again_41 : decode b_R_again 41 = .ok (.iconst 1, 1) := by decide +kernel
theorem d_R_again_42 : decode b_R_again 42 = .ok (.ireturn, 1) := by decide +kernel
