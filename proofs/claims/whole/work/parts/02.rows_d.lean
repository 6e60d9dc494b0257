theorem dX10_faults_2 : decode cX10_faults 2 = .ok (.iconst 1, 1) := by decide +kernel
theorem dX10_faults_3 : decode cX10_faults 3 = .ok (.istore_n 3, 1) := by decide +kernel
theorem dX10_faults_4 : decode cX10_faults 4 = .ok (.iload_n 3, 1) := by decide +kernel
theorem dX10_faults_5 : decode cX10_faults 5 = .ok (.bipush 40, 2) := by decide +kernel
theorem dX10_faults_7 : decode cX10_faults 7 = .ok (.if_icmp .ge 35, 3) := by decide +kernel
theorem dX10_faults_10 : decode cX10_faults 10 = .ok (.lload_n 1, 1) := by decide +kernel
theorem dX10_faults_11 : decode cX10_faults 11 = .ok (.aload_n 0, 1) := by decide +kernel
theorem dX10_faults_12 : decode cX10_faults 12 = .ok (.iload_n 3, 1) := by decide +kernel
theorem dX10_faults_13 : decode cX10_faults 13 = .ok (.invokevirtual 122, 3) := by decide +kernel
theorem dX10_faults_16 : decode cX10_faults 16 = .ok (.ifCond .eq 17, 3) := by decide +kernel
theorem dX10_faults_19 : decode cX10_faults 19 = .ok (.aload_n 0, 1) := by decide +kernel
theorem dX10_faults_20 : decode cX10_faults 20 = .ok (.iload_n 3, 1) := by decide +kernel
theorem dX10_faults_21 : decode cX10_faults 21 = .ok (.invokevirtual 116, 3) := by decide +kernel
theorem dX10_faults_24 : decode cX10_faults 24 = .ok (.ifCond .ne 9, 3) := by decide +kernel
theorem dX10_faults_27 : decode cX10_faults 27 = .ok (.lconst 1, 1) := by decide +kernel
theorem dX10_faults_28 : decode cX10_faults 28 = .ok (.iload_n 3, 1) := by decide +kernel
theorem dX10_faults_29 : decode cX10_faults 29 = .ok (.lshl, 1) := by decide +kernel
theorem dX10_faults_30 : decode cX10_faults 30 = .ok (.goto 4, 3) := by decide +kernel
theorem dX10_faults_33 : decode cX10_faults 33 = .ok (.lconst 0, 1) := by decide +kernel
theorem dX10_faults_34 : decode cX10_faults 34 = .ok (.lor, 1) := by decide +kernel
theorem dX10_faults_35 : decode cX10_faults 35 = .ok (.lstore_n 1, 1) := by decide +kernel
theorem dX10_faults_36 : decode cX10_faults 36 = .ok (.iinc 3 1, 3) := by decide +kernel
theorem dX10_faults_39 : decode cX10_faults 39 = .ok (.goto (-35), 3) := by decide +kernel
theorem dX10_faults_42 : decode cX10_faults 42 = .ok (.lload_n 1, 1) := by decide +kernel
theorem dX10_faults_43 : decode cX10_faults 43 = .ok (.lreturn, 1) := by decide +kernel
theorem dX10_serves_0 : decode cX10_serves 0 = .ok (.aload_n 0, 1) := by decide +kernel
theorem dX10_serves_1 : decode cX10_serves 1 = .ok (.iload_n 1, 1) := by decide +kernel
theorem dX10_serves_2 : decode cX10_serves 2 = .ok (.iconst 1, 1) := by decide +kernel
theorem dX10_serves_3 : decode cX10_serves 3 = .ok (.invokevirtual 51, 3) := by decide +kernel
theorem dX10_serves_6 : decode cX10_serves 6 = .ok (.ifCond .eq 12, 3) := by decide +kernel
theorem dX10_serves_9 : decode cX10_serves 9 = .ok (.aload_n 0, 1) := by decide +kernel
theorem dX10_serves_10 : decode cX10_serves 10 = .ok (.invokevirtual 55, 3) := by decide +kernel
theorem dX10_serves_13 : decode cX10_serves 13 = .ok (.bipush 40, 2) := by decide +kernel
theorem dX10_serves_15 : decode cX10_serves 15 = .ok (.if_icmp .ne 4, 3) := by decide +kernel
theorem dX10_serves_18 : decode cX10_serves 18 = .ok (.return_, 1) := by decide +kernel
theorem dX10_serves_19 : decode cX10_serves 19 = .ok (.aload_n 0, 1) := by decide +kernel
theorem dX10_serves_20 : decode cX10_serves 20 = .ok (.aload_n 0, 1) := by decide +kernel
theorem dX10_serves_21 : decode cX10_serves 21 = .ok (.iload_n 1, 1) := by decide +kernel
theorem dX10_serves_22 : decode cX10_serves 22 = .ok (.iconst 2, 1) := by decide +kernel
theorem dX10_serves_23 : decode cX10_serves 23 = .ok (.invokevirtual 51, 3) := by decide +kernel
theorem dX10_serves_26 : decode cX10_serves 26 = .ok (.invokevirtual 78, 3) := by decide +kernel
theorem dX10_serves_29 : decode cX10_serves 29 = .ok (.ifCond .eq 30, 3) := by decide +kernel
theorem dX10_serves_32 : decode cX10_serves 32 = .ok (.aload_n 0, 1) := by decide +kernel
theorem dX10_serves_33 : decode cX10_serves 33 = .ok (.iload_n 1, 1) := by decide +kernel
theorem dX10_serves_34 : decode cX10_serves 34 = .ok (.iconst 2, 1) := by decide +kernel
theorem dX10_serves_35 : decode cX10_serves 35 = .ok (.aload_n 0, 1) := by decide +kernel
theorem dX10_serves_36 : decode cX10_serves 36 = .ok (.iload_n 1, 1) := by decide +kernel
theorem dX10_serves_37 : decode cX10_serves 37 = .ok (.iconst 2, 1) := by decide +kernel
theorem dX10_serves_38 : decode cX10_serves 38 = .ok (.invokevirtual 51, 3) := by decide +kernel
theorem dX10_serves_41 : decode cX10_serves 41 = .ok (.iconst 1, 1) := by decide +kernel
theorem dX10_serves_42 : decode cX10_serves 42 = .ok (.iadd, 1) := by decide +kernel
theorem dX10_serves_43 : decode cX10_serves 43 = .ok (.bipush 40, 2) := by decide +kernel
theorem dX10_serves_45 : decode cX10_serves 45 = .ok (.irem, 1) := by decide +kernel
theorem dX10_serves_46 : decode cX10_serves 46 = .ok (.invokevirtual 66, 3) := by decide +kernel
theorem dX10_serves_49 : decode cX10_serves 49 = .ok (.aload_n 0, 1) := by decide +kernel
theorem dX10_serves_50 : decode cX10_serves 50 = .ok (.iload_n 1, 1) := by decide +kernel
theorem dX10_serves_51 : decode cX10_serves 51 = .ok (.iconst 4, 1) := by decide +kernel
theorem dX10_serves_52 : decode cX10_serves 52 = .ok (.iconst 0, 1) := by decide +kernel
theorem dX10_serves_53 : decode cX10_serves 53 = .ok (.invokevirtual 66, 3) := by decide +kernel
theorem dX10_serves_56 : decode cX10_serves 56 = .ok (.goto (-37), 3) := by decide +kernel
theorem dX10_serves_59 : decode cX10_serves 59 = .ok (.aload_n 0, 1) := by decide +kernel
theorem dX10_serves_60 : decode cX10_serves 60 = .ok (.iload_n 1, 1) := by decide +kernel
theorem dX10_serves_61 : decode cX10_serves 61 = .ok (.iconst 2, 1) := by decide +kernel
theorem dX10_serves_62 : decode cX10_serves 62 = .ok (.invokevirtual 51, 3) := by decide +kernel
theorem dX10_serves_65 : decode cX10_serves 65 = .ok (.istore_n 2, 1) := by decide +kernel
theorem dX10_serves_66 : decode cX10_serves 66 = .ok (.aload_n 0, 1) := by decide +kernel
theorem dX10_serves_67 : decode cX10_serves 67 = .ok (.iload_n 1, 1) := by decide +kernel
theorem dX10_serves_68 : decode cX10_serves 68 = .ok (.iconst 4, 1) := by decide +kernel
theorem dX10_serves_69 : decode cX10_serves 69 = .ok (.invokevirtual 51, 3) := by decide +kernel
theorem dX10_serves_72 : decode cX10_serves 72 = .ok (.aload_n 0, 1) := by decide +kernel
theorem dX10_serves_73 : decode cX10_serves 73 = .ok (.iload_n 1, 1) := by decide +kernel
theorem dX10_serves_74 : decode cX10_serves 74 = .ok (.invokevirtual 84, 3) := by decide +kernel
theorem dX10_serves_77 : decode cX10_serves 77 = .ok (.iadd, 1) := by decide +kernel
theorem dX10_serves_78 : decode cX10_serves 78 = .ok (.istore_n 3, 1) := by decide +kernel
theorem dX10_serves_79 : decode cX10_serves 79 = .ok (.aload_n 0, 1) := by decide +kernel
theorem dX10_serves_80 : decode cX10_serves 80 = .ok (.iload_n 1, 1) := by decide +kernel
theorem dX10_serves_81 : decode cX10_serves 81 = .ok (.iconst 4, 1) := by decide +kernel
theorem dX10_serves_82 : decode cX10_serves 82 = .ok (.iload_n 3, 1) := by decide +kernel
theorem dX10_serves_83 : decode cX10_serves 83 = .ok (.invokevirtual 66, 3) := by decide +kernel
theorem dX10_serves_86 : decode cX10_serves 86 = .ok (.iload_n 3, 1) := by decide +kernel
theorem dX10_serves_87 : decode cX10_serves 87 = .ok (.aload_n 0, 1) := by decide +kernel
theorem dX10_serves_88 : decode cX10_serves 88 = .ok (.iconst 5, 1) := by decide +kernel
theorem dX10_serves_89 : decode cX10_serves 89 = .ok (.iload_n 2, 1) := by decide +kernel
theorem dX10_serves_90 : decode cX10_serves 90 = .ok (.iadd, 1) := by decide +kernel
theorem dX10_serves_91 : decode cX10_serves 91 = .ok (.invokevirtual 43, 3) := by decide +kernel
theorem dX10_serves_94 : decode cX10_serves 94 = .ok (.if_icmp .lt 63, 3) := by decide +kernel
theorem dX10_serves_97 : decode cX10_serves 97 = .ok (.aload_n 0, 1) := by decide +kernel
theorem dX10_serves_98 : decode cX10_serves 98 = .ok (.iload_n 2, 1) := by decide +kernel
theorem dX10_serves_99 : decode cX10_serves 99 = .ok (.aload_n 0, 1) := by decide +kernel
theorem dX10_serves_100 : decode cX10_serves 100 = .ok (.iload_n 1, 1) := by decide +kernel
theorem dX10_serves_101 : decode cX10_serves 101 = .ok (.iload_n 2, 1) := by decide +kernel
theorem dX10_serves_102 : decode cX10_serves 102 = .ok (.invokevirtual 87, 3) := by decide +kernel
theorem dX10_serves_105 : decode cX10_serves 105 = .ok (.iload_n 1, 1) := by decide +kernel
theorem dX10_serves_106 : decode cX10_serves 106 = .ok (.invokevirtual 106, 3) := by decide +kernel
theorem dX10_serves_109 : decode cX10_serves 109 = .ok (.aload_n 0, 1) := by decide +kernel
theorem dX10_serves_110 : decode cX10_serves 110 = .ok (.iload_n 1, 1) := by decide +kernel
theorem dX10_serves_111 : decode cX10_serves 111 = .ok (.iconst 1, 1) := by decide +kernel
theorem dX10_serves_112 : decode cX10_serves 112 = .ok (.invokevirtual 51, 3) := by decide +kernel
theorem dX10_serves_115 : decode cX10_serves 115 = .ok (.aload_n 0, 1) := by decide +kernel
theorem dX10_serves_116 : decode cX10_serves 116 = .ok (.iload_n 1, 1) := by decide +kernel
theorem dX10_serves_117 : decode cX10_serves 117 = .ok (.iconst 0, 1) := by decide +kernel
theorem dX10_serves_118 : decode cX10_serves 118 = .ok (.invokevirtual 51, 3) := by decide +kernel
theorem dX10_serves_121 : decode cX10_serves 121 = .ok (.iconst 4, 1) := by decide +kernel
theorem dX10_serves_122 : decode cX10_serves 122 = .ok (.if_icmp .ne 7, 3) := by decide +kernel
theorem dX10_serves_125 : decode cX10_serves 125 = .ok (.iconst 2, 1) := by decide +kernel
theorem dX10_serves_126 : decode cX10_serves 126 = .ok (.goto 4, 3) := by decide +kernel
theorem dX10_serves_129 : decode cX10_serves 129 = .ok (.iconst 1, 1) := by decide +kernel
theorem dX10_serves_130 : decode cX10_serves 130 = .ok (.isub, 1) := by decide +kernel
theorem dX10_serves_131 : decode cX10_serves 131 = .ok (.istore 4, 2) := by decide +kernel
theorem dX10_serves_133 : decode cX10_serves 133 = .ok (.aload_n 0, 1) := by decide +kernel
theorem dX10_serves_134 : decode cX10_serves 134 = .ok (.iload_n 1, 1) := by decide +kernel
theorem dX10_serves_135 : decode cX10_serves 135 = .ok (.iconst 1, 1) := by decide +kernel
theorem dX10_serves_136 : decode cX10_serves 136 = .ok (.iload 4, 2) := by decide +kernel
theorem dX10_serves_138 : decode cX10_serves 138 = .ok (.ifCond .ge 7, 3) := by decide +kernel
theorem dX10_serves_141 : decode cX10_serves 141 = .ok (.iconst 0, 1) := by decide +kernel
theorem dX10_serves_142 : decode cX10_serves 142 = .ok (.goto 5, 3) := by decide +kernel
theorem dX10_serves_145 : decode cX10_serves 145 = .ok (.iload 4, 2) := by decide +kernel
theorem dX10_serves_147 : decode cX10_serves 147 = .ok (.invokevirtual 66, 3) := by decide +kernel
theorem dX10_serves_150 : decode cX10_serves 150 = .ok (.aload_n 0, 1) := by decide +kernel
theorem dX10_serves_151 : decode cX10_serves 151 = .ok (.iload_n 1, 1) := by decide +kernel
theorem dX10_serves_152 : decode cX10_serves 152 = .ok (.iconst 4, 1) := by decide +kernel
theorem dX10_serves_153 : decode cX10_serves 153 = .ok (.iconst 0, 1) := by decide +kernel
theorem dX10_serves_154 : decode cX10_serves 154 = .ok (.invokevirtual 66, 3) := by decide +kernel
theorem dX10_serves_157 : decode cX10_serves 157 = .ok (.return_, 1) := by decide +kernel
theorem dX10_freezes_0 : decode cX10_freezes 0 = .ok (.iconst 0, 1) := by decide +kernel
theorem dX10_freezes_1 : decode cX10_freezes 1 = .ok (.istore_n 1, 1) := by decide +kernel
theorem dX10_freezes_2 : decode cX10_freezes 2 = .ok (.iload_n 1, 1) := by decide +kernel
theorem dX10_freezes_3 : decode cX10_freezes 3 = .ok (.bipush 40, 2) := by decide +kernel
theorem dX10_freezes_5 : decode cX10_freezes 5 = .ok (.if_icmp .ge 62, 3) := by decide +kernel
theorem dX10_freezes_8 : decode cX10_freezes 8 = .ok (.aload_n 0, 1) := by decide +kernel
theorem dX10_freezes_9 : decode cX10_freezes 9 = .ok (.iload_n 1, 1) := by decide +kernel
theorem dX10_freezes_10 : decode cX10_freezes 10 = .ok (.invokevirtual 78, 3) := by decide +kernel
theorem dX10_freezes_13 : decode cX10_freezes 13 = .ok (.ifCond .eq 48, 3) := by decide +kernel
theorem dX10_freezes_16 : decode cX10_freezes 16 = .ok (.aload_n 0, 1) := by decide +kernel
theorem dX10_freezes_17 : decode cX10_freezes 17 = .ok (.iconst 3, 1) := by decide +kernel
theorem dX10_freezes_18 : decode cX10_freezes 18 = .ok (.invokevirtual 43, 3) := by decide +kernel
theorem dX10_freezes_21 : decode cX10_freezes 21 = .ok (.ldc 125, 2) := by decide +kernel
theorem dX10_freezes_23 : decode cX10_freezes 23 = .ok (.imul, 1) := by decide +kernel
theorem dX10_freezes_24 : decode cX10_freezes 24 = .ok (.sipush 12345, 3) := by decide +kernel
theorem dX10_freezes_27 : decode cX10_freezes 27 = .ok (.iadd, 1) := by decide +kernel
theorem dX10_freezes_28 : decode cX10_freezes 28 = .ok (.istore_n 2, 1) := by decide +kernel
theorem dX10_freezes_29 : decode cX10_freezes 29 = .ok (.aload_n 0, 1) := by decide +kernel
theorem dX10_freezes_30 : decode cX10_freezes 30 = .ok (.getfield 7, 3) := by decide +kernel
theorem dX10_freezes_33 : decode cX10_freezes 33 = .ok (.aload_n 0, 1) := by decide +kernel
theorem dX10_freezes_34 : decode cX10_freezes 34 = .ok (.getfield 39, 3) := by decide +kernel
theorem dX10_freezes_37 : decode cX10_freezes 37 = .ok (.iconst 3, 1) := by decide +kernel
theorem dX10_freezes_38 : decode cX10_freezes 38 = .ok (.iadd, 1) := by decide +kernel
theorem dX10_freezes_39 : decode cX10_freezes 39 = .ok (.iload_n 2, 1) := by decide +kernel
theorem dX10_freezes_40 : decode cX10_freezes 40 = .ok (.iastore, 1) := by decide +kernel
theorem dX10_freezes_41 : decode cX10_freezes 41 = .ok (.iload_n 2, 1) := by decide +kernel
theorem dX10_freezes_42 : decode cX10_freezes 42 = .ok (.bipush 8, 2) := by decide +kernel
theorem dX10_freezes_44 : decode cX10_freezes 44 = .ok (.iushr, 1) := by decide +kernel
theorem dX10_freezes_45 : decode cX10_freezes 45 = .ok (.bipush 10, 2) := by decide +kernel
theorem dX10_freezes_47 : decode cX10_freezes 47 = .ok (.irem, 1) := by decide +kernel
theorem dX10_freezes_48 : decode cX10_freezes 48 = .ok (.aload_n 0, 1) := by decide +kernel
theorem dX10_freezes_49 : decode cX10_freezes 49 = .ok (.iconst 1, 1) := by decide +kernel
theorem dX10_freezes_50 : decode cX10_freezes 50 = .ok (.invokevirtual 43, 3) := by decide +kernel
theorem dX10_freezes_53 : decode cX10_freezes 53 = .ok (.if_icmp .ge 8, 3) := by decide +kernel
theorem dX10_freezes_56 : decode cX10_freezes 56 = .ok (.aload_n 0, 1) := by decide +kernel
theorem dX10_freezes_57 : decode cX10_freezes 57 = .ok (.iload_n 1, 1) := by decide +kernel
theorem dX10_freezes_58 : decode cX10_freezes 58 = .ok (.invokevirtual 109, 3) := by decide +kernel
theorem dX10_freezes_61 : decode cX10_freezes 61 = .ok (.iinc 1 1, 3) := by decide +kernel
theorem dX10_freezes_64 : decode cX10_freezes 64 = .ok (.goto (-62), 3) := by decide +kernel
theorem dX10_freezes_67 : decode cX10_freezes 67 = .ok (.return_, 1) := by decide +kernel
theorem dX10_yearGoes_0 : decode cX10_yearGoes 0 = .ok (.iconst 0, 1) := by decide +kernel
theorem dX10_yearGoes_1 : decode cX10_yearGoes 1 = .ok (.istore_n 1, 1) := by decide +kernel
theorem dX10_yearGoes_2 : decode cX10_yearGoes 2 = .ok (.iload_n 1, 1) := by decide +kernel
theorem dX10_yearGoes_3 : decode cX10_yearGoes 3 = .ok (.aload_n 0, 1) := by decide +kernel
theorem dX10_yearGoes_4 : decode cX10_yearGoes 4 = .ok (.iconst 4, 1) := by decide +kernel
theorem dX10_yearGoes_5 : decode cX10_yearGoes 5 = .ok (.invokevirtual 43, 3) := by decide +kernel
theorem dX10_yearGoes_8 : decode cX10_yearGoes 8 = .ok (.if_icmp .ge 14, 3) := by decide +kernel
theorem dX10_yearGoes_11 : decode cX10_yearGoes 11 = .ok (.aload_n 0, 1) := by decide +kernel
theorem dX10_yearGoes_12 : decode cX10_yearGoes 12 = .ok (.iload_n 1, 1) := by decide +kernel
theorem dX10_yearGoes_13 : decode cX10_yearGoes 13 = .ok (.invokevirtual 126, 3) := by decide +kernel
theorem dX10_yearGoes_16 : decode cX10_yearGoes 16 = .ok (.iinc 1 1, 3) := by decide +kernel
theorem dX10_yearGoes_19 : decode cX10_yearGoes 19 = .ok (.goto (-17), 3) := by decide +kernel
theorem dX10_yearGoes_22 : decode cX10_yearGoes 22 = .ok (.aload_n 0, 1) := by decide +kernel
theorem dX10_yearGoes_23 : decode cX10_yearGoes 23 = .ok (.iconst 1, 1) := by decide +kernel
theorem dX10_yearGoes_24 : decode cX10_yearGoes 24 = .ok (.invokevirtual 43, 3) := by decide +kernel
theorem dX10_yearGoes_27 : decode cX10_yearGoes 27 = .ok (.ifCond .le 7, 3) := by decide +kernel
theorem dX10_yearGoes_30 : decode cX10_yearGoes 30 = .ok (.aload_n 0, 1) := by decide +kernel
theorem dX10_yearGoes_31 : decode cX10_yearGoes 31 = .ok (.invokevirtual 129, 3) := by decide +kernel
theorem dX10_yearGoes_34 : decode cX10_yearGoes 34 = .ok (.aload_n 0, 1) := by decide +kernel
theorem dX10_yearGoes_35 : decode cX10_yearGoes 35 = .ok (.getfield 7, 3) := by decide +kernel
theorem dX10_yearGoes_38 : decode cX10_yearGoes 38 = .ok (.aload_n 0, 1) := by decide +kernel
theorem dX10_yearGoes_39 : decode cX10_yearGoes 39 = .ok (.getfield 39, 3) := by decide +kernel
theorem dX10_yearGoes_42 : decode cX10_yearGoes 42 = .ok (.iconst 0, 1) := by decide +kernel
theorem dX10_yearGoes_43 : decode cX10_yearGoes 43 = .ok (.iadd, 1) := by decide +kernel
theorem dX10_yearGoes_44 : decode cX10_yearGoes 44 = .ok (.dup2, 1) := by decide +kernel
theorem dX10_yearGoes_45 : decode cX10_yearGoes 45 = .ok (.iaload, 1) := by decide +kernel
theorem dX10_yearGoes_46 : decode cX10_yearGoes 46 = .ok (.iconst 1, 1) := by decide +kernel
theorem dX10_yearGoes_47 : decode cX10_yearGoes 47 = .ok (.iadd, 1) := by decide +kernel
theorem dX10_yearGoes_48 : decode cX10_yearGoes 48 = .ok (.iastore, 1) := by decide +kernel
theorem dX10_yearGoes_49 : decode cX10_yearGoes 49 = .ok (.return_, 1) := by decide +kernel
theorem dX10_go_0 : decode cX10_go 0 = .ok (.iconst 0, 1) := by decide +kernel
theorem dX10_go_1 : decode cX10_go 1 = .ok (.istore_n 2, 1) := by decide +kernel
theorem dX10_go_2 : decode cX10_go 2 = .ok (.iload_n 2, 1) := by decide +kernel
theorem dX10_go_3 : decode cX10_go 3 = .ok (.iload_n 1, 1) := by decide +kernel
theorem dX10_go_4 : decode cX10_go 4 = .ok (.if_icmp .ge 13, 3) := by decide +kernel
theorem dX10_go_7 : decode cX10_go 7 = .ok (.aload_n 0, 1) := by decide +kernel
theorem dX10_go_8 : decode cX10_go 8 = .ok (.invokevirtual 132, 3) := by decide +kernel
theorem dX10_go_11 : decode cX10_go 11 = .ok (.iinc 2 1, 3) := by decide +kernel
theorem dX10_go_14 : decode cX10_go 14 = .ok (.goto (-12), 3) := by decide +kernel
theorem dX10_go_17 : decode cX10_go 17 = .ok (.return_, 1) := by decide +kernel
theorem dX10_isLate_0 : decode cX10_isLate 0 = .ok (.aload_n 0, 1) := by decide +kernel
theorem dX10_isLate_1 : decode cX10_isLate 1 = .ok (.getfield 7, 3) := by decide +kernel
theorem dX10_isLate_4 : decode cX10_isLate 4 = .ok (.iconst 0, 1) := by decide +kernel
theorem dX10_isLate_5 : decode cX10_isLate 5 = .ok (.iaload, 1) := by decide +kernel
theorem dX10_isLate_6 : decode cX10_isLate 6 = .ok (.iload_n 1, 1) := by decide +kernel
theorem dX10_isLate_7 : decode cX10_isLate 7 = .ok (.iadd, 1) := by decide +kernel
theorem dX10_isLate_8 : decode cX10_isLate 8 = .ok (.sipush 9999, 3) := by decide +kernel
theorem dX10_isLate_11 : decode cX10_isLate 11 = .ok (.if_icmp .le 7, 3) := by decide +kernel
theorem dX10_isLate_14 : decode cX10_isLate 14 = .ok (.iconst 1, 1) := by decide +kernel
theorem dX10_isLate_15 : decode cX10_isLate 15 = .ok (.goto 4, 3) := by decide +kernel
theorem dX10_isLate_18 : decode cX10_isLate 18 = .ok (.iconst 0, 1) := by decide +kernel
theorem dX10_isLate_19 : decode cX10_isLate 19 = .ok (.ireturn, 1) := by decide +kernel
theorem dX10_years_0 : decode cX10_years 0 = .ok (.iload_n 1, 1) := by decide +kernel
theorem dX10_years_1 : decode cX10_years 1 = .ok (.iconst 1, 1) := by decide +kernel
theorem dX10_years_2 : decode cX10_years 2 = .ok (.sipush 200, 3) := by decide +kernel
theorem dX10_years_5 : decode cX10_years 5 = .ok (.invokestatic 47, 3) := by decide +kernel
theorem dX10_years_8 : decode cX10_years 8 = .ok (.ifCond .ne 10, 3) := by decide +kernel
theorem dX10_years_11 : decode cX10_years 11 = .ok (.aload_n 0, 1) := by decide +kernel
theorem dX10_years_12 : decode cX10_years 12 = .ok (.ldc 38, 2) := by decide +kernel
theorem dX10_years_14 : decode cX10_years 14 = .ok (.invokevirtual 63, 3) := by decide +kernel
theorem dX10_years_17 : decode cX10_years 17 = .ok (.ireturn, 1) := by decide +kernel
theorem dX10_years_18 : decode cX10_years 18 = .ok (.aload_n 0, 1) := by decide +kernel
theorem dX10_years_19 : decode cX10_years 19 = .ok (.iload_n 1, 1) := by decide +kernel
theorem dX10_years_20 : decode cX10_years 20 = .ok (.invokevirtual 135, 3) := by decide +kernel
theorem dX10_years_23 : decode cX10_years 23 = .ok (.ifCond .eq 10, 3) := by decide +kernel
theorem dX10_years_26 : decode cX10_years 26 = .ok (.aload_n 0, 1) := by decide +kernel
theorem dX10_years_27 : decode cX10_years 27 = .ok (.ldc 101, 2) := by decide +kernel
theorem dX10_years_29 : decode cX10_years 29 = .ok (.invokevirtual 63, 3) := by decide +kernel
theorem dX10_years_32 : decode cX10_years 32 = .ok (.ireturn, 1) := by decide +kernel
theorem dX10_years_33 : decode cX10_years 33 = .ok (.aload_n 0, 1) := by decide +kernel
theorem dX10_years_34 : decode cX10_years 34 = .ok (.iload_n 1, 1) := by decide +kernel
theorem dX10_years_35 : decode cX10_years 35 = .ok (.invokevirtual 138, 3) := by decide +kernel
theorem dX10_years_38 : decode cX10_years 38 = .ok (.aload_n 0, 1) := by decide +kernel
theorem dX10_years_39 : decode cX10_years 39 = .ok (.invokevirtual 55, 3) := by decide +kernel
theorem dX10_years_42 : decode cX10_years 42 = .ok (.ireturn, 1) := by decide +kernel
theorem dX10_seed_0 : decode cX10_seed 0 = .ok (.aload_n 0, 1) := by decide +kernel
theorem dX10_seed_1 : decode cX10_seed 1 = .ok (.getfield 7, 3) := by decide +kernel
theorem dX10_seed_4 : decode cX10_seed 4 = .ok (.iconst 3, 1) := by decide +kernel
theorem dX10_seed_5 : decode cX10_seed 5 = .ok (.iaload, 1) := by decide +kernel
theorem dX10_seed_6 : decode cX10_seed 6 = .ok (.istore_n 2, 1) := by decide +kernel
theorem dX10_seed_7 : decode cX10_seed 7 = .ok (.aload_n 0, 1) := by decide +kernel
theorem dX10_seed_8 : decode cX10_seed 8 = .ok (.getfield 7, 3) := by decide +kernel
theorem dX10_seed_11 : decode cX10_seed 11 = .ok (.iconst 3, 1) := by decide +kernel
theorem dX10_seed_12 : decode cX10_seed 12 = .ok (.iload_n 1, 1) := by decide +kernel
theorem dX10_seed_13 : decode cX10_seed 13 = .ok (.iastore, 1) := by decide +kernel
theorem dX10_seed_14 : decode cX10_seed 14 = .ok (.iload_n 2, 1) := by decide +kernel
theorem dX10_seed_15 : decode cX10_seed 15 = .ok (.ireturn, 1) := by decide +kernel
theorem dX10_now_0 : decode cX10_now 0 = .ok (.iconst 0, 1) := by decide +kernel
theorem dX10_now_1 : decode cX10_now 1 = .ok (.istore_n 2, 1) := by decide +kernel
theorem dX10_now_2 : decode cX10_now 2 = .ok (.iload_n 1, 1) := by decide +kernel
theorem dX10_now_3 : decode cX10_now 3 = .ok (.tableswitch 74 0 4 #[33, 33, 33, 40, 45], 33) := by decide +kernel
theorem dX10_now_36 : decode cX10_now 36 = .ok (.aload_n 0, 1) := by decide +kernel
theorem dX10_now_37 : decode cX10_now 37 = .ok (.getfield 7, 3) := by decide +kernel
theorem dX10_now_40 : decode cX10_now 40 = .ok (.iload_n 1, 1) := by decide +kernel
theorem dX10_now_41 : decode cX10_now 41 = .ok (.iaload, 1) := by decide +kernel
theorem dX10_now_42 : decode cX10_now 42 = .ok (.ireturn, 1) := by decide +kernel
theorem dX10_now_43 : decode cX10_now 43 = .ok (.aload_n 0, 1) := by decide +kernel
theorem dX10_now_44 : decode cX10_now 44 = .ok (.invokevirtual 55, 3) := by decide +kernel
theorem dX10_now_47 : decode cX10_now 47 = .ok (.ireturn, 1) := by decide +kernel
theorem dX10_now_48 : decode cX10_now 48 = .ok (.iconst 0, 1) := by decide +kernel
theorem dX10_now_49 : decode cX10_now 49 = .ok (.istore_n 3, 1) := by decide +kernel
theorem dX10_now_50 : decode cX10_now 50 = .ok (.iload_n 3, 1) := by decide +kernel
theorem dX10_now_51 : decode cX10_now 51 = .ok (.aload_n 0, 1) := by decide +kernel
theorem dX10_now_52 : decode cX10_now 52 = .ok (.getfield 7, 3) := by decide +kernel
theorem dX10_now_55 : decode cX10_now 55 = .ok (.iconst 4, 1) := by decide +kernel
theorem dX10_now_56 : decode cX10_now 56 = .ok (.iaload, 1) := by decide +kernel
theorem dX10_now_57 : decode cX10_now 57 = .ok (.if_icmp .ge 18, 3) := by decide +kernel
theorem dX10_now_60 : decode cX10_now 60 = .ok (.iload_n 2, 1) := by decide +kernel
theorem dX10_now_61 : decode cX10_now 61 = .ok (.aload_n 0, 1) := by decide +kernel
theorem dX10_now_62 : decode cX10_now 62 = .ok (.iload_n 3, 1) := by decide +kernel
theorem dX10_now_63 : decode cX10_now 63 = .ok (.iconst 1, 1) := by decide +kernel
theorem dX10_now_64 : decode cX10_now 64 = .ok (.invokevirtual 51, 3) := by decide +kernel
theorem dX10_now_67 : decode cX10_now 67 = .ok (.iadd, 1) := by decide +kernel
theorem dX10_now_68 : decode cX10_now 68 = .ok (.istore_n 2, 1) := by decide +kernel
theorem dX10_now_69 : decode cX10_now 69 = .ok (.iinc 3 1, 3) := by decide +kernel
theorem dX10_now_72 : decode cX10_now 72 = .ok (.goto (-22), 3) := by decide +kernel
theorem dX10_now_75 : decode cX10_now 75 = .ok (.iload_n 2, 1) := by decide +kernel
theorem dX10_now_76 : decode cX10_now 76 = .ok (.ireturn, 1) := by decide +kernel
theorem dX10_now_77 : decode cX10_now 77 = .ok (.aload_n 0, 1) := by decide +kernel
theorem dX10_now_78 : decode cX10_now 78 = .ok (.ldc 38, 2) := by decide +kernel
theorem dX10_now_80 : decode cX10_now 80 = .ok (.invokevirtual 63, 3) := by decide +kernel
theorem dX10_now_83 : decode cX10_now 83 = .ok (.ireturn, 1) := by decide +kernel
theorem dX10_lends_0 : decode cX10_lends 0 = .ok (.aload_n 0, 1) := by decide +kernel
theorem dX10_lends_1 : decode cX10_lends 1 = .ok (.iconst 0, 1) := by decide +kernel
theorem dX10_lends_2 : decode cX10_lends 2 = .ok (.putfield 39, 3) := by decide +kernel
theorem dX10_lends_5 : decode cX10_lends 5 = .ok (.iconst 0, 1) := by decide +kernel
theorem dX10_lends_6 : decode cX10_lends 6 = .ok (.istore_n 1, 1) := by decide +kernel
theorem dX10_lends_7 : decode cX10_lends 7 = .ok (.iload_n 1, 1) := by decide +kernel
theorem dX10_lends_8 : decode cX10_lends 8 = .ok (.sipush 255, 3) := by decide +kernel
theorem dX10_lends_11 : decode cX10_lends 11 = .ok (.if_icmp .ge 25, 3) := by decide +kernel
theorem dX10_lends_14 : decode cX10_lends 14 = .ok (.aload_n 0, 1) := by decide +kernel
theorem dX10_lends_15 : decode cX10_lends 15 = .ok (.getfield 7, 3) := by decide +kernel
theorem dX10_lends_18 : decode cX10_lends 18 = .ok (.sipush 255, 3) := by decide +kernel
theorem dX10_lends_21 : decode cX10_lends 21 = .ok (.iload_n 1, 1) := by decide +kernel
theorem dX10_lends_22 : decode cX10_lends 22 = .ok (.iadd, 1) := by decide +kernel
theorem dX10_lends_23 : decode cX10_lends 23 = .ok (.aload_n 0, 1) := by decide +kernel
theorem dX10_lends_24 : decode cX10_lends 24 = .ok (.getfield 7, 3) := by decide +kernel
theorem dX10_lends_27 : decode cX10_lends 27 = .ok (.iload_n 1, 1) := by decide +kernel
theorem dX10_lends_28 : decode cX10_lends 28 = .ok (.iaload, 1) := by decide +kernel
theorem dX10_lends_29 : decode cX10_lends 29 = .ok (.iastore, 1) := by decide +kernel
theorem dX10_lends_30 : decode cX10_lends 30 = .ok (.iinc 1 1, 3) := by decide +kernel
theorem dX10_lends_33 : decode cX10_lends 33 = .ok (.goto (-26), 3) := by decide +kernel
theorem dX10_lends_36 : decode cX10_lends 36 = .ok (.aload_n 0, 1) := by decide +kernel
theorem dX10_lends_37 : decode cX10_lends 37 = .ok (.sipush 255, 3) := by decide +kernel
theorem dX10_lends_40 : decode cX10_lends 40 = .ok (.putfield 39, 3) := by decide +kernel
theorem dX10_lends_43 : decode cX10_lends 43 = .ok (.return_, 1) := by decide +kernel
theorem dX10_isLong_0 : decode cX10_isLong 0 = .ok (.iload_n 0, 1) := by decide +kernel
theorem dX10_isLong_1 : decode cX10_isLong 1 = .ok (.iconst 0, 1) := by decide +kernel
theorem dX10_isLong_2 : decode cX10_isLong 2 = .ok (.sipush 200, 3) := by decide +kernel
theorem dX10_isLong_5 : decode cX10_isLong 5 = .ok (.invokestatic 47, 3) := by decide +kernel
theorem dX10_isLong_8 : decode cX10_isLong 8 = .ok (.ireturn, 1) := by decide +kernel
theorem dX10_on_0 : decode cX10_on 0 = .ok (.iload_n 1, 1) := by decide +kernel
theorem dX10_on_1 : decode cX10_on 1 = .ok (.invokestatic 141, 3) := by decide +kernel
theorem dX10_on_4 : decode cX10_on 4 = .ok (.ifCond .ne 11, 3) := by decide +kernel
theorem dX10_on_7 : decode cX10_on 7 = .ok (.aload_n 0, 1) := by decide +kernel
theorem dX10_on_8 : decode cX10_on 8 = .ok (.ldc 38, 2) := by decide +kernel
theorem dX10_on_10 : decode cX10_on 10 = .ok (.invokevirtual 63, 3) := by decide +kernel
theorem dX10_on_13 : decode cX10_on 13 = .ok (.i2l, 1) := by decide +kernel
theorem dX10_on_14 : decode cX10_on 14 = .ok (.lreturn, 1) := by decide +kernel
theorem dX10_on_15 : decode cX10_on 15 = .ok (.aload_n 0, 1) := by decide +kernel
theorem dX10_on_16 : decode cX10_on 16 = .ok (.iload_n 1, 1) := by decide +kernel
theorem dX10_on_17 : decode cX10_on 17 = .ok (.invokevirtual 135, 3) := by decide +kernel
theorem dX10_on_20 : decode cX10_on 20 = .ok (.ifCond .eq 11, 3) := by decide +kernel
theorem dX10_on_23 : decode cX10_on 23 = .ok (.aload_n 0, 1) := by decide +kernel
theorem dX10_on_24 : decode cX10_on 24 = .ok (.ldc 101, 2) := by decide +kernel
theorem dX10_on_26 : decode cX10_on 26 = .ok (.invokevirtual 63, 3) := by decide +kernel
theorem dX10_on_29 : decode cX10_on 29 = .ok (.i2l, 1) := by decide +kernel
theorem dX10_on_30 : decode cX10_on 30 = .ok (.lreturn, 1) := by decide +kernel
theorem dX10_on_31 : decode cX10_on 31 = .ok (.aload_n 0, 1) := by decide +kernel
theorem dX10_on_32 : decode cX10_on 32 = .ok (.invokevirtual 144, 3) := by decide +kernel
theorem dX10_on_35 : decode cX10_on 35 = .ok (.aload_n 0, 1) := by decide +kernel
theorem dX10_on_36 : decode cX10_on 36 = .ok (.iload_n 1, 1) := by decide +kernel
theorem dX10_on_37 : decode cX10_on 37 = .ok (.invokevirtual 138, 3) := by decide +kernel
theorem dX10_on_40 : decode cX10_on 40 = .ok (.aload_n 0, 1) := by decide +kernel
theorem dX10_on_41 : decode cX10_on 41 = .ok (.invokevirtual 102, 3) := by decide +kernel
theorem dX10_on_44 : decode cX10_on 44 = .ok (.lstore_n 2, 1) := by decide +kernel
theorem dX10_on_45 : decode cX10_on 45 = .ok (.aload_n 0, 1) := by decide +kernel
theorem dX10_on_46 : decode cX10_on 46 = .ok (.iconst 0, 1) := by decide +kernel
theorem dX10_on_47 : decode cX10_on 47 = .ok (.putfield 39, 3) := by decide +kernel
theorem dX10_on_50 : decode cX10_on 50 = .ok (.lload_n 2, 1) := by decide +kernel
theorem dX10_on_51 : decode cX10_on 51 = .ok (.lreturn, 1) := by decide +kernel
theorem dX10_reachOn_0 : decode cX10_reachOn 0 = .ok (.iload_n 1, 1) := by decide +kernel
theorem dX10_reachOn_1 : decode cX10_reachOn 1 = .ok (.invokestatic 141, 3) := by decide +kernel
theorem dX10_reachOn_4 : decode cX10_reachOn 4 = .ok (.ifCond .ne 10, 3) := by decide +kernel
theorem dX10_reachOn_7 : decode cX10_reachOn 7 = .ok (.aload_n 0, 1) := by decide +kernel
theorem dX10_reachOn_8 : decode cX10_reachOn 8 = .ok (.ldc 38, 2) := by decide +kernel
theorem dX10_reachOn_10 : decode cX10_reachOn 10 = .ok (.invokevirtual 63, 3) := by decide +kernel
theorem dX10_reachOn_13 : decode cX10_reachOn 13 = .ok (.ireturn, 1) := by decide +kernel
theorem dX10_reachOn_14 : decode cX10_reachOn 14 = .ok (.aload_n 0, 1) := by decide +kernel
theorem dX10_reachOn_15 : decode cX10_reachOn 15 = .ok (.iload_n 1, 1) := by decide +kernel
theorem dX10_reachOn_16 : decode cX10_reachOn 16 = .ok (.invokevirtual 135, 3) := by decide +kernel
theorem dX10_reachOn_19 : decode cX10_reachOn 19 = .ok (.ifCond .eq 10, 3) := by decide +kernel
theorem dX10_reachOn_22 : decode cX10_reachOn 22 = .ok (.aload_n 0, 1) := by decide +kernel
theorem dX10_reachOn_23 : decode cX10_reachOn 23 = .ok (.ldc 101, 2) := by decide +kernel
theorem dX10_reachOn_25 : decode cX10_reachOn 25 = .ok (.invokevirtual 63, 3) := by decide +kernel
theorem dX10_reachOn_28 : decode cX10_reachOn 28 = .ok (.ireturn, 1) := by decide +kernel
theorem dX10_reachOn_29 : decode cX10_reachOn 29 = .ok (.aload_n 0, 1) := by decide +kernel
theorem dX10_reachOn_30 : decode cX10_reachOn 30 = .ok (.invokevirtual 144, 3) := by decide +kernel
theorem dX10_reachOn_33 : decode cX10_reachOn 33 = .ok (.aload_n 0, 1) := by decide +kernel
theorem dX10_reachOn_34 : decode cX10_reachOn 34 = .ok (.iload_n 1, 1) := by decide +kernel
theorem dX10_reachOn_35 : decode cX10_reachOn 35 = .ok (.invokevirtual 138, 3) := by decide +kernel
theorem dX10_reachOn_38 : decode cX10_reachOn 38 = .ok (.aload_n 0, 1) := by decide +kernel
theorem dX10_reachOn_39 : decode cX10_reachOn 39 = .ok (.invokevirtual 119, 3) := by decide +kernel
theorem dX10_reachOn_42 : decode cX10_reachOn 42 = .ok (.istore_n 2, 1) := by decide +kernel
theorem dX10_reachOn_43 : decode cX10_reachOn 43 = .ok (.aload_n 0, 1) := by decide +kernel
theorem dX10_reachOn_44 : decode cX10_reachOn 44 = .ok (.iconst 0, 1) := by decide +kernel
theorem dX10_reachOn_45 : decode cX10_reachOn 45 = .ok (.putfield 39, 3) := by decide +kernel
theorem dX10_reachOn_48 : decode cX10_reachOn 48 = .ok (.iload_n 2, 1) := by decide +kernel
theorem dX10_reachOn_49 : decode cX10_reachOn 49 = .ok (.ireturn, 1) := by decide +kernel
theorem dX10_pass_0 : decode cX10_pass 0 = .ok (.aload_n 0, 1) := by decide +kernel
theorem dX10_pass_1 : decode cX10_pass 1 = .ok (.sipush 200, 3) := by decide +kernel
theorem dX10_pass_4 : decode cX10_pass 4 = .ok (.invokevirtual 135, 3) := by decide +kernel
theorem dX10_pass_7 : decode cX10_pass 7 = .ok (.ifCond .eq 10, 3) := by decide +kernel
theorem dX10_pass_10 : decode cX10_pass 10 = .ok (.aload_n 0, 1) := by decide +kernel
theorem dX10_pass_11 : decode cX10_pass 11 = .ok (.ldc 101, 2) := by decide +kernel
theorem dX10_pass_13 : decode cX10_pass 13 = .ok (.invokevirtual 63, 3) := by decide +kernel
theorem dX10_pass_16 : decode cX10_pass 16 = .ok (.ireturn, 1) := by decide +kernel
theorem dX10_pass_17 : decode cX10_pass 17 = .ok (.aload_n 0, 1) := by decide +kernel
theorem dX10_pass_18 : decode cX10_pass 18 = .ok (.invokevirtual 144, 3) := by decide +kernel
theorem dX10_pass_21 : decode cX10_pass 21 = .ok (.iconst 0, 1) := by decide +kernel
theorem dX10_pass_22 : decode cX10_pass 22 = .ok (.istore_n 1, 1) := by decide +kernel
theorem dX10_pass_23 : decode cX10_pass 23 = .ok (.iload_n 1, 1) := by decide +kernel
theorem dX10_pass_24 : decode cX10_pass 24 = .ok (.sipush 200, 3) := by decide +kernel
theorem dX10_pass_27 : decode cX10_pass 27 = .ok (.if_icmp .gt 22, 3) := by decide +kernel
theorem dX10_pass_30 : decode cX10_pass 30 = .ok (.aload_n 0, 1) := by decide +kernel
theorem dX10_pass_31 : decode cX10_pass 31 = .ok (.invokevirtual 119, 3) := by decide +kernel
theorem dX10_pass_34 : decode cX10_pass 34 = .ok (.bipush 40, 2) := by decide +kernel
theorem dX10_pass_36 : decode cX10_pass 36 = .ok (.if_icmp .ge 13, 3) := by decide +kernel
theorem dX10_pass_39 : decode cX10_pass 39 = .ok (.aload_n 0, 1) := by decide +kernel
theorem dX10_pass_40 : decode cX10_pass 40 = .ok (.invokevirtual 132, 3) := by decide +kernel
theorem dX10_pass_43 : decode cX10_pass 43 = .ok (.iinc 1 1, 3) := by decide +kernel
theorem dX10_pass_46 : decode cX10_pass 46 = .ok (.goto (-23), 3) := by decide +kernel
theorem dX10_pass_49 : decode cX10_pass 49 = .ok (.aload_n 0, 1) := by decide +kernel
theorem dX10_pass_50 : decode cX10_pass 50 = .ok (.iconst 0, 1) := by decide +kernel
theorem dX10_pass_51 : decode cX10_pass 51 = .ok (.putfield 39, 3) := by decide +kernel
theorem dX10_pass_54 : decode cX10_pass 54 = .ok (.iload_n 1, 1) := by decide +kernel
theorem dX10_pass_55 : decode cX10_pass 55 = .ok (.sipush 200, 3) := by decide +kernel
theorem dX10_pass_58 : decode cX10_pass 58 = .ok (.if_icmp .le 12, 3) := by decide +kernel
theorem dX10_pass_61 : decode cX10_pass 61 = .ok (.aload_n 0, 1) := by decide +kernel
theorem dX10_pass_62 : decode cX10_pass 62 = .ok (.ldc 147, 2) := by decide +kernel
theorem dX10_pass_64 : decode cX10_pass 64 = .ok (.invokevirtual 63, 3) := by decide +kernel
theorem dX10_pass_67 : decode cX10_pass 67 = .ok (.goto 4, 3) := by decide +kernel
theorem dX10_pass_70 : decode cX10_pass 70 = .ok (.iload_n 1, 1) := by decide +kernel
theorem dX10_pass_71 : decode cX10_pass 71 = .ok (.ireturn, 1) := by decide +kernel
theorem dX10_paid_0 : decode cX10_paid 0 = .ok (.aload_n 0, 1) := by decide +kernel
theorem dX10_paid_1 : decode cX10_paid 1 = .ok (.iload_n 1, 1) := by decide +kernel
theorem dX10_paid_2 : decode cX10_paid 2 = .ok (.invokevirtual 81, 3) := by decide +kernel
theorem dX10_paid_5 : decode cX10_paid 5 = .ok (.ifCond .ne 10, 3) := by decide +kernel
theorem dX10_paid_8 : decode cX10_paid 8 = .ok (.aload_n 0, 1) := by decide +kernel
theorem dX10_paid_9 : decode cX10_paid 9 = .ok (.ldc 38, 2) := by decide +kernel
theorem dX10_paid_11 : decode cX10_paid 11 = .ok (.invokevirtual 63, 3) := by decide +kernel
theorem dX10_paid_14 : decode cX10_paid 14 = .ok (.ireturn, 1) := by decide +kernel
theorem dX10_paid_15 : decode cX10_paid 15 = .ok (.aload_n 0, 1) := by decide +kernel
theorem dX10_paid_16 : decode cX10_paid 16 = .ok (.sipush 200, 3) := by decide +kernel
theorem dX10_paid_19 : decode cX10_paid 19 = .ok (.invokevirtual 135, 3) := by decide +kernel
theorem dX10_paid_22 : decode cX10_paid 22 = .ok (.ifCond .eq 10, 3) := by decide +kernel
theorem dX10_paid_25 : decode cX10_paid 25 = .ok (.aload_n 0, 1) := by decide +kernel
theorem dX10_paid_26 : decode cX10_paid 26 = .ok (.ldc 101, 2) := by decide +kernel
theorem dX10_paid_28 : decode cX10_paid 28 = .ok (.invokevirtual 63, 3) := by decide +kernel
theorem dX10_paid_31 : decode cX10_paid 31 = .ok (.ireturn, 1) := by decide +kernel
theorem dX10_paid_32 : decode cX10_paid 32 = .ok (.aload_n 0, 1) := by decide +kernel
theorem dX10_paid_33 : decode cX10_paid 33 = .ok (.invokevirtual 144, 3) := by decide +kernel
theorem dX10_paid_36 : decode cX10_paid 36 = .ok (.iconst 0, 1) := by decide +kernel
theorem dX10_paid_37 : decode cX10_paid 37 = .ok (.istore_n 2, 1) := by decide +kernel
theorem dX10_paid_38 : decode cX10_paid 38 = .ok (.iload_n 2, 1) := by decide +kernel
theorem dX10_paid_39 : decode cX10_paid 39 = .ok (.sipush 200, 3) := by decide +kernel
theorem dX10_paid_42 : decode cX10_paid 42 = .ok (.if_icmp .gt 22, 3) := by decide +kernel
theorem dX10_paid_45 : decode cX10_paid 45 = .ok (.aload_n 0, 1) := by decide +kernel
theorem dX10_paid_46 : decode cX10_paid 46 = .ok (.iload_n 1, 1) := by decide +kernel
theorem dX10_paid_47 : decode cX10_paid 47 = .ok (.iconst 1, 1) := by decide +kernel
theorem dX10_paid_48 : decode cX10_paid 48 = .ok (.invokevirtual 51, 3) := by decide +kernel
theorem dX10_paid_51 : decode cX10_paid 51 = .ok (.ifCond .le 13, 3) := by decide +kernel
theorem dX10_paid_54 : decode cX10_paid 54 = .ok (.aload_n 0, 1) := by decide +kernel
theorem dX10_paid_55 : decode cX10_paid 55 = .ok (.invokevirtual 132, 3) := by decide +kernel
theorem dX10_paid_58 : decode cX10_paid 58 = .ok (.iinc 2 1, 3) := by decide +kernel
theorem dX10_paid_61 : decode cX10_paid 61 = .ok (.goto (-23), 3) := by decide +kernel
theorem dX10_paid_64 : decode cX10_paid 64 = .ok (.aload_n 0, 1) := by decide +kernel
theorem dX10_paid_65 : decode cX10_paid 65 = .ok (.iconst 0, 1) := by decide +kernel
theorem dX10_paid_66 : decode cX10_paid 66 = .ok (.putfield 39, 3) := by decide +kernel
theorem dX10_paid_69 : decode cX10_paid 69 = .ok (.iload_n 2, 1) := by decide +kernel
theorem dX10_paid_70 : decode cX10_paid 70 = .ok (.sipush 200, 3) := by decide +kernel
theorem dX10_paid_73 : decode cX10_paid 73 = .ok (.if_icmp .le 12, 3) := by decide +kernel
theorem dX10_paid_76 : decode cX10_paid 76 = .ok (.aload_n 0, 1) := by decide +kernel
theorem dX10_paid_77 : decode cX10_paid 77 = .ok (.ldc 147, 2) := by decide +kernel
theorem dX10_paid_79 : decode cX10_paid 79 = .ok (.invokevirtual 63, 3) := by decide +kernel
theorem dX10_paid_82 : decode cX10_paid 82 = .ok (.goto 4, 3) := by decide +kernel
theorem dX10_paid_85 : decode cX10_paid 85 = .ok (.iload_n 2, 1) := by decide +kernel
theorem dX10_paid_86 : decode cX10_paid 86 = .ok (.ireturn, 1) := by decide +kernel
theorem dX10_farthest_0 : decode cX10_farthest 0 = .ok (.iload_n 1, 1) := by decide +kernel
theorem dX10_farthest_1 : decode cX10_farthest 1 = .ok (.invokestatic 141, 3) := by decide +kernel
theorem dX10_farthest_4 : decode cX10_farthest 4 = .ok (.ifCond .ne 10, 3) := by decide +kernel
theorem dX10_farthest_7 : decode cX10_farthest 7 = .ok (.aload_n 0, 1) := by decide +kernel
theorem dX10_farthest_8 : decode cX10_farthest 8 = .ok (.ldc 38, 2) := by decide +kernel
theorem dX10_farthest_10 : decode cX10_farthest 10 = .ok (.invokevirtual 63, 3) := by decide +kernel
theorem dX10_farthest_13 : decode cX10_farthest 13 = .ok (.ireturn, 1) := by decide +kernel
theorem dX10_farthest_14 : decode cX10_farthest 14 = .ok (.aload_n 0, 1) := by decide +kernel
theorem dX10_farthest_15 : decode cX10_farthest 15 = .ok (.iload_n 1, 1) := by decide +kernel
theorem dX10_farthest_16 : decode cX10_farthest 16 = .ok (.invokevirtual 135, 3) := by decide +kernel
theorem dX10_farthest_19 : decode cX10_farthest 19 = .ok (.ifCond .eq 10, 3) := by decide +kernel
theorem dX10_farthest_22 : decode cX10_farthest 22 = .ok (.aload_n 0, 1) := by decide +kernel
theorem dX10_farthest_23 : decode cX10_farthest 23 = .ok (.ldc 101, 2) := by decide +kernel
theorem dX10_farthest_25 : decode cX10_farthest 25 = .ok (.invokevirtual 63, 3) := by decide +kernel
theorem dX10_farthest_28 : decode cX10_farthest 28 = .ok (.ireturn, 1) := by decide +kernel
theorem dX10_farthest_29 : decode cX10_farthest 29 = .ok (.aload_n 0, 1) := by decide +kernel
theorem dX10_farthest_30 : decode cX10_farthest 30 = .ok (.invokevirtual 144, 3) := by decide +kernel
theorem dX10_farthest_33 : decode cX10_farthest 33 = .ok (.aload_n 0, 1) := by decide +kernel
theorem dX10_farthest_34 : decode cX10_farthest 34 = .ok (.invokevirtual 119, 3) := by decide +kernel
theorem dX10_farthest_37 : decode cX10_farthest 37 = .ok (.istore_n 2, 1) := by decide +kernel
theorem dX10_farthest_38 : decode cX10_farthest 38 = .ok (.iconst 0, 1) := by decide +kernel
theorem dX10_farthest_39 : decode cX10_farthest 39 = .ok (.istore_n 3, 1) := by decide +kernel
theorem dX10_farthest_40 : decode cX10_farthest 40 = .ok (.iload_n 3, 1) := by decide +kernel
theorem dX10_farthest_41 : decode cX10_farthest 41 = .ok (.iload_n 1, 1) := by decide +kernel
theorem dX10_farthest_42 : decode cX10_farthest 42 = .ok (.if_icmp .ge 32, 3) := by decide +kernel
theorem dX10_farthest_45 : decode cX10_farthest 45 = .ok (.aload_n 0, 1) := by decide +kernel
theorem dX10_farthest_46 : decode cX10_farthest 46 = .ok (.invokevirtual 132, 3) := by decide +kernel
theorem dX10_farthest_49 : decode cX10_farthest 49 = .ok (.aload_n 0, 1) := by decide +kernel
theorem dX10_farthest_50 : decode cX10_farthest 50 = .ok (.invokevirtual 119, 3) := by decide +kernel
theorem dX10_farthest_53 : decode cX10_farthest 53 = .ok (.istore 4, 2) := by decide +kernel
theorem dX10_farthest_55 : decode cX10_farthest 55 = .ok (.iload 4, 2) := by decide +kernel
theorem dX10_farthest_57 : decode cX10_farthest 57 = .ok (.iload_n 2, 1) := by decide +kernel
theorem dX10_farthest_58 : decode cX10_farthest 58 = .ok (.if_icmp .le 8, 3) := by decide +kernel
theorem dX10_farthest_61 : decode cX10_farthest 61 = .ok (.iload 4, 2) := by decide +kernel
theorem dX10_farthest_63 : decode cX10_farthest 63 = .ok (.goto 4, 3) := by decide +kernel
theorem dX10_farthest_66 : decode cX10_farthest 66 = .ok (.iload_n 2, 1) := by decide +kernel
theorem dX10_farthest_67 : decode cX10_farthest 67 = .ok (.istore_n 2, 1) := by decide +kernel
theorem dX10_farthest_68 : decode cX10_farthest 68 = .ok (.iinc 3 1, 3) := by decide +kernel
theorem dX10_farthest_71 : decode cX10_farthest 71 = .ok (.goto (-31), 3) := by decide +kernel
theorem dX10_farthest_74 : decode cX10_farthest 74 = .ok (.aload_n 0, 1) := by decide +kernel
theorem dX10_farthest_75 : decode cX10_farthest 75 = .ok (.iconst 0, 1) := by decide +kernel
theorem dX10_farthest_76 : decode cX10_farthest 76 = .ok (.putfield 39, 3) := by decide +kernel
theorem dX10_farthest_79 : decode cX10_farthest 79 = .ok (.iload_n 2, 1) := by decide +kernel
theorem dX10_farthest_80 : decode cX10_farthest 80 = .ok (.ireturn, 1) := by decide +kernel
theorem dX10_isSoon_0 : decode cX10_isSoon 0 = .ok (.iload_n 0, 1) := by decide +kernel
theorem dX10_isSoon_1 : decode cX10_isSoon 1 = .ok (.iconst 1, 1) := by decide +kernel
theorem dX10_isSoon_2 : decode cX10_isSoon 2 = .ok (.bipush 100, 2) := by decide +kernel
theorem dX10_isSoon_4 : decode cX10_isSoon 4 = .ok (.invokestatic 47, 3) := by decide +kernel
theorem dX10_isSoon_7 : decode cX10_isSoon 7 = .ok (.ireturn, 1) := by decide +kernel
theorem dX10_reachThen_0 : decode cX10_reachThen 0 = .ok (.aload_n 0, 1) := by decide +kernel
theorem dX10_reachThen_1 : decode cX10_reachThen 1 = .ok (.iload_n 1, 1) := by decide +kernel
theorem dX10_reachThen_2 : decode cX10_reachThen 2 = .ok (.invokevirtual 138, 3) := by decide +kernel
theorem dX10_reachThen_5 : decode cX10_reachThen 5 = .ok (.aload_n 0, 1) := by decide +kernel
theorem dX10_reachThen_6 : decode cX10_reachThen 6 = .ok (.invokevirtual 119, 3) := by decide +kernel
theorem dX10_reachThen_9 : decode cX10_reachThen 9 = .ok (.istore_n 2, 1) := by decide +kernel
theorem dX10_reachThen_10 : decode cX10_reachThen 10 = .ok (.aload_n 0, 1) := by decide +kernel
theorem dX10_reachThen_11 : decode cX10_reachThen 11 = .ok (.iconst 0, 1) := by decide +kernel
theorem dX10_reachThen_12 : decode cX10_reachThen 12 = .ok (.putfield 39, 3) := by decide +kernel
theorem dX10_reachThen_15 : decode cX10_reachThen 15 = .ok (.iload_n 2, 1) := by decide +kernel
theorem dX10_reachThen_16 : decode cX10_reachThen 16 = .ok (.ireturn, 1) := by decide +kernel
theorem dX10_best_0 : decode cX10_best 0 = .ok (.aload_n 0, 1) := by decide +kernel
theorem dX10_best_1 : decode cX10_best 1 = .ok (.iload_n 1, 1) := by decide +kernel
theorem dX10_best_2 : decode cX10_best 2 = .ok (.invokevirtual 81, 3) := by decide +kernel
theorem dX10_best_5 : decode cX10_best 5 = .ok (.ifCond .eq 10, 3) := by decide +kernel
theorem dX10_best_8 : decode cX10_best 8 = .ok (.iload_n 2, 1) := by decide +kernel
theorem dX10_best_9 : decode cX10_best 9 = .ok (.invokestatic 148, 3) := by decide +kernel
theorem dX10_best_12 : decode cX10_best 12 = .ok (.ifCond .ne 10, 3) := by decide +kernel
theorem dX10_best_15 : decode cX10_best 15 = .ok (.aload_n 0, 1) := by decide +kernel
theorem dX10_best_16 : decode cX10_best 16 = .ok (.ldc 38, 2) := by decide +kernel
theorem dX10_best_18 : decode cX10_best 18 = .ok (.invokevirtual 63, 3) := by decide +kernel
theorem dX10_best_21 : decode cX10_best 21 = .ok (.ireturn, 1) := by decide +kernel
theorem dX10_best_22 : decode cX10_best 22 = .ok (.aload_n 0, 1) := by decide +kernel
theorem dX10_best_23 : decode cX10_best 23 = .ok (.iload_n 2, 1) := by decide +kernel
theorem dX10_best_24 : decode cX10_best 24 = .ok (.invokevirtual 135, 3) := by decide +kernel
theorem dX10_best_27 : decode cX10_best 27 = .ok (.ifCond .eq 10, 3) := by decide +kernel
theorem dX10_best_30 : decode cX10_best 30 = .ok (.aload_n 0, 1) := by decide +kernel
theorem dX10_best_31 : decode cX10_best 31 = .ok (.ldc 101, 2) := by decide +kernel
theorem dX10_best_33 : decode cX10_best 33 = .ok (.invokevirtual 63, 3) := by decide +kernel
theorem dX10_best_36 : decode cX10_best 36 = .ok (.ireturn, 1) := by decide +kernel
theorem dX10_best_37 : decode cX10_best 37 = .ok (.aload_n 0, 1) := by decide +kernel
theorem dX10_best_38 : decode cX10_best 38 = .ok (.invokevirtual 144, 3) := by decide +kernel
theorem dX10_best_41 : decode cX10_best 41 = .ok (.aload_n 0, 1) := by decide +kernel
theorem dX10_best_42 : decode cX10_best 42 = .ok (.iload_n 1, 1) := by decide +kernel
theorem dX10_best_43 : decode cX10_best 43 = .ok (.iconst 2, 1) := by decide +kernel
theorem dX10_best_44 : decode cX10_best 44 = .ok (.invokevirtual 51, 3) := by decide +kernel
theorem dX10_best_47 : decode cX10_best 47 = .ok (.istore_n 3, 1) := by decide +kernel
theorem dX10_best_48 : decode cX10_best 48 = .ok (.iload_n 3, 1) := by decide +kernel
theorem dX10_best_49 : decode cX10_best 49 = .ok (.istore 4, 2) := by decide +kernel
theorem dX10_best_51 : decode cX10_best 51 = .ok (.aload_n 0, 1) := by decide +kernel
theorem dX10_best_52 : decode cX10_best 52 = .ok (.iload_n 2, 1) := by decide +kernel
theorem dX10_best_53 : decode cX10_best 53 = .ok (.invokevirtual 151, 3) := by decide +kernel
theorem dX10_best_56 : decode cX10_best 56 = .ok (.istore 5, 2) := by decide +kernel
theorem dX10_best_58 : decode cX10_best 58 = .ok (.iconst 0, 1) := by decide +kernel
theorem dX10_best_59 : decode cX10_best 59 = .ok (.istore 6, 2) := by decide +kernel
theorem dX10_best_61 : decode cX10_best 61 = .ok (.iload 6, 2) := by decide +kernel
theorem dX10_best_63 : decode cX10_best 63 = .ok (.bipush 40, 2) := by decide +kernel
theorem dX10_best_65 : decode cX10_best 65 = .ok (.if_icmp .ge 72, 3) := by decide +kernel
theorem dX10_best_68 : decode cX10_best 68 = .ok (.iload 6, 2) := by decide +kernel
theorem dX10_best_70 : decode cX10_best 70 = .ok (.iload 4, 2) := by decide +kernel
theorem dX10_best_72 : decode cX10_best 72 = .ok (.if_icmp .eq 59, 3) := by decide +kernel
theorem dX10_best_75 : decode cX10_best 75 = .ok (.aload_n 0, 1) := by decide +kernel
theorem dX10_best_76 : decode cX10_best 76 = .ok (.invokevirtual 144, 3) := by decide +kernel
theorem dX10_best_79 : decode cX10_best 79 = .ok (.aload_n 0, 1) := by decide +kernel
theorem dX10_best_80 : decode cX10_best 80 = .ok (.iload_n 1, 1) := by decide +kernel
theorem dX10_best_81 : decode cX10_best 81 = .ok (.iconst 2, 1) := by decide +kernel
theorem dX10_best_82 : decode cX10_best 82 = .ok (.iload 6, 2) := by decide +kernel
theorem dX10_best_84 : decode cX10_best 84 = .ok (.invokevirtual 66, 3) := by decide +kernel
theorem dX10_best_87 : decode cX10_best 87 = .ok (.aload_n 0, 1) := by decide +kernel
theorem dX10_best_88 : decode cX10_best 88 = .ok (.iload_n 1, 1) := by decide +kernel
theorem dX10_best_89 : decode cX10_best 89 = .ok (.iconst 4, 1) := by decide +kernel
theorem dX10_best_90 : decode cX10_best 90 = .ok (.iconst 0, 1) := by decide +kernel
theorem dX10_best_91 : decode cX10_best 91 = .ok (.invokevirtual 66, 3) := by decide +kernel
theorem dX10_best_94 : decode cX10_best 94 = .ok (.aload_n 0, 1) := by decide +kernel
theorem dX10_best_95 : decode cX10_best 95 = .ok (.iload_n 2, 1) := by decide +kernel
theorem dX10_best_96 : decode cX10_best 96 = .ok (.invokevirtual 151, 3) := by decide +kernel
theorem dX10_best_99 : decode cX10_best 99 = .ok (.istore 7, 2) := by decide +kernel
theorem dX10_best_101 : decode cX10_best 101 = .ok (.iload 7, 2) := by decide +kernel
theorem dX10_best_103 : decode cX10_best 103 = .ok (.iload 5, 2) := by decide +kernel
theorem dX10_best_105 : decode cX10_best 105 = .ok (.if_icmp .le 8, 3) := by decide +kernel
theorem dX10_best_108 : decode cX10_best 108 = .ok (.iload 6, 2) := by decide +kernel
theorem dX10_best_110 : decode cX10_best 110 = .ok (.goto 4, 3) := by decide +kernel
theorem dX10_best_113 : decode cX10_best 113 = .ok (.iload_n 3, 1) := by decide +kernel
theorem dX10_best_114 : decode cX10_best 114 = .ok (.istore_n 3, 1) := by decide +kernel
theorem dX10_best_115 : decode cX10_best 115 = .ok (.iload 7, 2) := by decide +kernel
theorem dX10_best_117 : decode cX10_best 117 = .ok (.iload 5, 2) := by decide +kernel
theorem dX10_best_119 : decode cX10_best 119 = .ok (.if_icmp .le 8, 3) := by decide +kernel
theorem dX10_best_122 : decode cX10_best 122 = .ok (.iload 7, 2) := by decide +kernel
theorem dX10_best_124 : decode cX10_best 124 = .ok (.goto 5, 3) := by decide +kernel
theorem dX10_best_127 : decode cX10_best 127 = .ok (.iload 5, 2) := by decide +kernel
theorem dX10_best_129 : decode cX10_best 129 = .ok (.istore 5, 2) := by decide +kernel
theorem dX10_best_131 : decode cX10_best 131 = .ok (.iinc 6 1, 3) := by decide +kernel
theorem dX10_best_134 : decode cX10_best 134 = .ok (.goto (-73), 3) := by decide +kernel
theorem dX10_best_137 : decode cX10_best 137 = .ok (.iload_n 3, 1) := by decide +kernel
theorem dX10_best_138 : decode cX10_best 138 = .ok (.ireturn, 1) := by decide +kernel
theorem dX10_kind_0 : decode cX10_kind 0 = .ok (.aload_n 0, 1) := by decide +kernel
theorem dX10_kind_1 : decode cX10_kind 1 = .ok (.iload_n 1, 1) := by decide +kernel
theorem dX10_kind_2 : decode cX10_kind 2 = .ok (.invokevirtual 81, 3) := by decide +kernel
theorem dX10_kind_5 : decode cX10_kind 5 = .ok (.ifCond .eq 10, 3) := by decide +kernel
theorem dX10_kind_8 : decode cX10_kind 8 = .ok (.iload_n 2, 1) := by decide +kernel
theorem dX10_kind_9 : decode cX10_kind 9 = .ok (.invokestatic 148, 3) := by decide +kernel
theorem dX10_kind_12 : decode cX10_kind 12 = .ok (.ifCond .ne 10, 3) := by decide +kernel
theorem dX10_kind_15 : decode cX10_kind 15 = .ok (.aload_n 0, 1) := by decide +kernel
theorem dX10_kind_16 : decode cX10_kind 16 = .ok (.ldc 38, 2) := by decide +kernel
theorem dX10_kind_18 : decode cX10_kind 18 = .ok (.invokevirtual 63, 3) := by decide +kernel
theorem dX10_kind_21 : decode cX10_kind 21 = .ok (.ireturn, 1) := by decide +kernel
theorem dX10_kind_22 : decode cX10_kind 22 = .ok (.aload_n 0, 1) := by decide +kernel
theorem dX10_kind_23 : decode cX10_kind 23 = .ok (.iload_n 2, 1) := by decide +kernel
theorem dX10_kind_24 : decode cX10_kind 24 = .ok (.invokevirtual 135, 3) := by decide +kernel
theorem dX10_kind_27 : decode cX10_kind 27 = .ok (.ifCond .eq 10, 3) := by decide +kernel
theorem dX10_kind_30 : decode cX10_kind 30 = .ok (.aload_n 0, 1) := by decide +kernel
theorem dX10_kind_31 : decode cX10_kind 31 = .ok (.ldc 101, 2) := by decide +kernel
theorem dX10_kind_33 : decode cX10_kind 33 = .ok (.invokevirtual 63, 3) := by decide +kernel
theorem dX10_kind_36 : decode cX10_kind 36 = .ok (.ireturn, 1) := by decide +kernel
theorem dX10_kind_37 : decode cX10_kind 37 = .ok (.iconst 0, 1) := by decide +kernel
theorem dX10_kind_38 : decode cX10_kind 38 = .ok (.istore_n 3, 1) := by decide +kernel
theorem dX10_kind_39 : decode cX10_kind 39 = .ok (.iconst (-1), 1) := by decide +kernel
theorem dX10_kind_40 : decode cX10_kind 40 = .ok (.istore 4, 2) := by decide +kernel
theorem dX10_kind_42 : decode cX10_kind 42 = .ok (.iconst 0, 1) := by decide +kernel
theorem dX10_kind_43 : decode cX10_kind 43 = .ok (.istore 5, 2) := by decide +kernel
theorem dX10_kind_45 : decode cX10_kind 45 = .ok (.iload 5, 2) := by decide +kernel
theorem dX10_kind_47 : decode cX10_kind 47 = .ok (.iconst 5, 1) := by decide +kernel
theorem dX10_kind_48 : decode cX10_kind 48 = .ok (.if_icmp .gt 58, 3) := by decide +kernel
theorem dX10_kind_51 : decode cX10_kind 51 = .ok (.aload_n 0, 1) := by decide +kernel
theorem dX10_kind_52 : decode cX10_kind 52 = .ok (.invokevirtual 144, 3) := by decide +kernel
theorem dX10_kind_55 : decode cX10_kind 55 = .ok (.aload_n 0, 1) := by decide +kernel
theorem dX10_kind_56 : decode cX10_kind 56 = .ok (.iload_n 1, 1) := by decide +kernel
theorem dX10_kind_57 : decode cX10_kind 57 = .ok (.iconst 0, 1) := by decide +kernel
theorem dX10_kind_58 : decode cX10_kind 58 = .ok (.iload 5, 2) := by decide +kernel
theorem dX10_kind_60 : decode cX10_kind 60 = .ok (.invokevirtual 66, 3) := by decide +kernel
theorem dX10_kind_63 : decode cX10_kind 63 = .ok (.aload_n 0, 1) := by decide +kernel
theorem dX10_kind_64 : decode cX10_kind 64 = .ok (.iload_n 2, 1) := by decide +kernel
theorem dX10_kind_65 : decode cX10_kind 65 = .ok (.invokevirtual 151, 3) := by decide +kernel
theorem dX10_kind_68 : decode cX10_kind 68 = .ok (.istore 6, 2) := by decide +kernel
theorem dX10_kind_70 : decode cX10_kind 70 = .ok (.iload 6, 2) := by decide +kernel
theorem dX10_kind_72 : decode cX10_kind 72 = .ok (.iload 4, 2) := by decide +kernel
theorem dX10_kind_74 : decode cX10_kind 74 = .ok (.if_icmp .le 8, 3) := by decide +kernel
theorem dX10_kind_77 : decode cX10_kind 77 = .ok (.iload 5, 2) := by decide +kernel
theorem dX10_kind_79 : decode cX10_kind 79 = .ok (.goto 4, 3) := by decide +kernel
theorem dX10_kind_82 : decode cX10_kind 82 = .ok (.iload_n 3, 1) := by decide +kernel
theorem dX10_kind_83 : decode cX10_kind 83 = .ok (.istore_n 3, 1) := by decide +kernel
theorem dX10_kind_84 : decode cX10_kind 84 = .ok (.iload 6, 2) := by decide +kernel
theorem dX10_kind_86 : decode cX10_kind 86 = .ok (.iload 4, 2) := by decide +kernel
theorem dX10_kind_88 : decode cX10_kind 88 = .ok (.if_icmp .le 8, 3) := by decide +kernel
theorem dX10_kind_91 : decode cX10_kind 91 = .ok (.iload 6, 2) := by decide +kernel
theorem dX10_kind_93 : decode cX10_kind 93 = .ok (.goto 5, 3) := by decide +kernel
theorem dX10_kind_96 : decode cX10_kind 96 = .ok (.iload 4, 2) := by decide +kernel
theorem dX10_kind_98 : decode cX10_kind 98 = .ok (.istore 4, 2) := by decide +kernel
theorem dX10_kind_100 : decode cX10_kind 100 = .ok (.iinc 5 1, 3) := by decide +kernel
theorem dX10_kind_103 : decode cX10_kind 103 = .ok (.goto (-58), 3) := by decide +kernel
theorem dX10_kind_106 : decode cX10_kind 106 = .ok (.iload_n 3, 1) := by decide +kernel
theorem dX10_kind_107 : decode cX10_kind 107 = .ok (.ireturn, 1) := by decide +kernel
theorem dX10_mend_0 : decode cX10_mend 0 = .ok (.aload_n 0, 1) := by decide +kernel
theorem dX10_mend_1 : decode cX10_mend 1 = .ok (.invokevirtual 119, 3) := by decide +kernel
theorem dX10_mend_4 : decode cX10_mend 4 = .ok (.istore_n 1, 1) := by decide +kernel
theorem dX10_mend_5 : decode cX10_mend 5 = .ok (.iconst (-1), 1) := by decide +kernel
theorem dX10_mend_6 : decode cX10_mend 6 = .ok (.istore_n 2, 1) := by decide +kernel
theorem dX10_mend_7 : decode cX10_mend 7 = .ok (.iconst 0, 1) := by decide +kernel
theorem dX10_mend_8 : decode cX10_mend 8 = .ok (.istore_n 3, 1) := by decide +kernel
theorem dX10_mend_9 : decode cX10_mend 9 = .ok (.iload_n 3, 1) := by decide +kernel
theorem dX10_mend_10 : decode cX10_mend 10 = .ok (.bipush 40, 2) := by decide +kernel
theorem dX10_mend_12 : decode cX10_mend 12 = .ok (.if_icmp .ge 70, 3) := by decide +kernel
theorem dX10_mend_15 : decode cX10_mend 15 = .ok (.aload_n 0, 1) := by decide +kernel
theorem dX10_mend_16 : decode cX10_mend 16 = .ok (.getfield 7, 3) := by decide +kernel
theorem dX10_mend_19 : decode cX10_mend 19 = .ok (.iconst 4, 1) := by decide +kernel
theorem dX10_mend_20 : decode cX10_mend 20 = .ok (.iaload, 1) := by decide +kernel
theorem dX10_mend_21 : decode cX10_mend 21 = .ok (.ifCond .le 61, 3) := by decide +kernel
theorem dX10_mend_24 : decode cX10_mend 24 = .ok (.aload_n 0, 1) := by decide +kernel
theorem dX10_mend_25 : decode cX10_mend 25 = .ok (.iload_n 3, 1) := by decide +kernel
theorem dX10_mend_26 : decode cX10_mend 26 = .ok (.invokevirtual 78, 3) := by decide +kernel
theorem dX10_mend_29 : decode cX10_mend 29 = .ok (.ifCond .ne 47, 3) := by decide +kernel
theorem dX10_mend_32 : decode cX10_mend 32 = .ok (.aload_n 0, 1) := by decide +kernel
theorem dX10_mend_33 : decode cX10_mend 33 = .ok (.invokevirtual 144, 3) := by decide +kernel
theorem dX10_mend_36 : decode cX10_mend 36 = .ok (.aload_n 0, 1) := by decide +kernel
theorem dX10_mend_37 : decode cX10_mend 37 = .ok (.iload_n 3, 1) := by decide +kernel
theorem dX10_mend_38 : decode cX10_mend 38 = .ok (.bipush 10, 2) := by decide +kernel
theorem dX10_mend_40 : decode cX10_mend 40 = .ok (.iconst 0, 1) := by decide +kernel
theorem dX10_mend_41 : decode cX10_mend 41 = .ok (.invokevirtual 106, 3) := by decide +kernel
theorem dX10_mend_44 : decode cX10_mend 44 = .ok (.aload_n 0, 1) := by decide +kernel
theorem dX10_mend_45 : decode cX10_mend 45 = .ok (.iconst 0, 1) := by decide +kernel
theorem dX10_mend_46 : decode cX10_mend 46 = .ok (.invokevirtual 151, 3) := by decide +kernel
theorem dX10_mend_49 : decode cX10_mend 49 = .ok (.istore 4, 2) := by decide +kernel
theorem dX10_mend_51 : decode cX10_mend 51 = .ok (.iload 4, 2) := by decide +kernel
theorem dX10_mend_53 : decode cX10_mend 53 = .ok (.iload_n 1, 1) := by decide +kernel
theorem dX10_mend_54 : decode cX10_mend 54 = .ok (.if_icmp .le 7, 3) := by decide +kernel
theorem dX10_mend_57 : decode cX10_mend 57 = .ok (.iload_n 3, 1) := by decide +kernel
theorem dX10_mend_58 : decode cX10_mend 58 = .ok (.goto 4, 3) := by decide +kernel
theorem dX10_mend_61 : decode cX10_mend 61 = .ok (.iload_n 2, 1) := by decide +kernel
theorem dX10_mend_62 : decode cX10_mend 62 = .ok (.istore_n 2, 1) := by decide +kernel
theorem dX10_mend_63 : decode cX10_mend 63 = .ok (.iload 4, 2) := by decide +kernel
theorem dX10_mend_65 : decode cX10_mend 65 = .ok (.iload_n 1, 1) := by decide +kernel
theorem dX10_mend_66 : decode cX10_mend 66 = .ok (.if_icmp .le 8, 3) := by decide +kernel
theorem dX10_mend_69 : decode cX10_mend 69 = .ok (.iload 4, 2) := by decide +kernel
theorem dX10_mend_71 : decode cX10_mend 71 = .ok (.goto 4, 3) := by decide +kernel
theorem dX10_mend_74 : decode cX10_mend 74 = .ok (.iload_n 1, 1) := by decide +kernel
theorem dX10_mend_75 : decode cX10_mend 75 = .ok (.istore_n 1, 1) := by decide +kernel
theorem dX10_mend_76 : decode cX10_mend 76 = .ok (.iinc 3 1, 3) := by decide +kernel
theorem dX10_mend_79 : decode cX10_mend 79 = .ok (.goto (-70), 3) := by decide +kernel
theorem dX10_mend_82 : decode cX10_mend 82 = .ok (.iload_n 2, 1) := by decide +kernel
theorem dX10_mend_83 : decode cX10_mend 83 = .ok (.ifCond .ge 12, 3) := by decide +kernel
theorem dX10_mend_86 : decode cX10_mend 86 = .ok (.aload_n 0, 1) := by decide +kernel
theorem dX10_mend_87 : decode cX10_mend 87 = .ok (.ldc 147, 2) := by decide +kernel
theorem dX10_mend_89 : decode cX10_mend 89 = .ok (.invokevirtual 63, 3) := by decide +kernel
theorem dX10_mend_92 : decode cX10_mend 92 = .ok (.goto 4, 3) := by decide +kernel
theorem dX10_mend_95 : decode cX10_mend 95 = .ok (.iload_n 2, 1) := by decide +kernel
theorem dX10_mend_96 : decode cX10_mend 96 = .ok (.ireturn, 1) := by decide +kernel
theorem dX10_needed_0 : decode cX10_needed 0 = .ok (.iload_n 1, 1) := by decide +kernel
theorem dX10_needed_1 : decode cX10_needed 1 = .ok (.invokestatic 148, 3) := by decide +kernel
theorem dX10_needed_4 : decode cX10_needed 4 = .ok (.ifCond .ne 10, 3) := by decide +kernel
theorem dX10_needed_7 : decode cX10_needed 7 = .ok (.aload_n 0, 1) := by decide +kernel
theorem dX10_needed_8 : decode cX10_needed 8 = .ok (.ldc 38, 2) := by decide +kernel
theorem dX10_needed_10 : decode cX10_needed 10 = .ok (.invokevirtual 63, 3) := by decide +kernel
theorem dX10_needed_13 : decode cX10_needed 13 = .ok (.ireturn, 1) := by decide +kernel
theorem dX10_needed_14 : decode cX10_needed 14 = .ok (.aload_n 0, 1) := by decide +kernel
theorem dX10_needed_15 : decode cX10_needed 15 = .ok (.iload_n 1, 1) := by decide +kernel
theorem dX10_needed_16 : decode cX10_needed 16 = .ok (.invokevirtual 135, 3) := by decide +kernel
theorem dX10_needed_19 : decode cX10_needed 19 = .ok (.ifCond .eq 10, 3) := by decide +kernel
theorem dX10_needed_22 : decode cX10_needed 22 = .ok (.aload_n 0, 1) := by decide +kernel
theorem dX10_needed_23 : decode cX10_needed 23 = .ok (.ldc 101, 2) := by decide +kernel
theorem dX10_needed_25 : decode cX10_needed 25 = .ok (.invokevirtual 63, 3) := by decide +kernel
theorem dX10_needed_28 : decode cX10_needed 28 = .ok (.ireturn, 1) := by decide +kernel
theorem dX10_needed_29 : decode cX10_needed 29 = .ok (.aload_n 0, 1) := by decide +kernel
theorem dX10_needed_30 : decode cX10_needed 30 = .ok (.invokevirtual 144, 3) := by decide +kernel
theorem dX10_needed_33 : decode cX10_needed 33 = .ok (.aload_n 0, 1) := by decide +kernel
theorem dX10_needed_34 : decode cX10_needed 34 = .ok (.iload_n 1, 1) := by decide +kernel
theorem dX10_needed_35 : decode cX10_needed 35 = .ok (.invokevirtual 151, 3) := by decide +kernel
theorem dX10_needed_38 : decode cX10_needed 38 = .ok (.istore_n 2, 1) := by decide +kernel
theorem dX10_needed_39 : decode cX10_needed 39 = .ok (.iconst (-1), 1) := by decide +kernel
theorem dX10_needed_40 : decode cX10_needed 40 = .ok (.istore_n 3, 1) := by decide +kernel
theorem dX10_needed_41 : decode cX10_needed 41 = .ok (.iconst 0, 1) := by decide +kernel
theorem dX10_needed_42 : decode cX10_needed 42 = .ok (.istore 4, 2) := by decide +kernel
theorem dX10_needed_44 : decode cX10_needed 44 = .ok (.iload 4, 2) := by decide +kernel
theorem dX10_needed_46 : decode cX10_needed 46 = .ok (.aload_n 0, 1) := by decide +kernel
theorem dX10_needed_47 : decode cX10_needed 47 = .ok (.getfield 7, 3) := by decide +kernel
theorem dX10_needed_50 : decode cX10_needed 50 = .ok (.iconst 4, 1) := by decide +kernel
theorem dX10_needed_51 : decode cX10_needed 51 = .ok (.iaload, 1) := by decide +kernel
theorem dX10_needed_52 : decode cX10_needed 52 = .ok (.if_icmp .ge 54, 3) := by decide +kernel
theorem dX10_needed_55 : decode cX10_needed 55 = .ok (.aload_n 0, 1) := by decide +kernel
theorem dX10_needed_56 : decode cX10_needed 56 = .ok (.invokevirtual 144, 3) := by decide +kernel
theorem dX10_needed_59 : decode cX10_needed 59 = .ok (.aload_n 0, 1) := by decide +kernel
theorem dX10_needed_60 : decode cX10_needed 60 = .ok (.iload 4, 2) := by decide +kernel
theorem dX10_needed_62 : decode cX10_needed 62 = .ok (.iconst 1, 1) := by decide +kernel
theorem dX10_needed_63 : decode cX10_needed 63 = .ok (.iconst 0, 1) := by decide +kernel
theorem dX10_needed_64 : decode cX10_needed 64 = .ok (.invokevirtual 66, 3) := by decide +kernel
theorem dX10_needed_67 : decode cX10_needed 67 = .ok (.aload_n 0, 1) := by decide +kernel
theorem dX10_needed_68 : decode cX10_needed 68 = .ok (.iload_n 1, 1) := by decide +kernel
theorem dX10_needed_69 : decode cX10_needed 69 = .ok (.invokevirtual 151, 3) := by decide +kernel
theorem dX10_needed_72 : decode cX10_needed 72 = .ok (.istore 5, 2) := by decide +kernel
theorem dX10_needed_74 : decode cX10_needed 74 = .ok (.iload 5, 2) := by decide +kernel
theorem dX10_needed_76 : decode cX10_needed 76 = .ok (.iload_n 2, 1) := by decide +kernel
theorem dX10_needed_77 : decode cX10_needed 77 = .ok (.if_icmp .ge 8, 3) := by decide +kernel
theorem dX10_needed_80 : decode cX10_needed 80 = .ok (.iload 4, 2) := by decide +kernel
theorem dX10_needed_82 : decode cX10_needed 82 = .ok (.goto 4, 3) := by decide +kernel
theorem dX10_needed_85 : decode cX10_needed 85 = .ok (.iload_n 3, 1) := by decide +kernel
theorem dX10_needed_86 : decode cX10_needed 86 = .ok (.istore_n 3, 1) := by decide +kernel
theorem dX10_needed_87 : decode cX10_needed 87 = .ok (.iload 5, 2) := by decide +kernel
theorem dX10_needed_89 : decode cX10_needed 89 = .ok (.iload_n 2, 1) := by decide +kernel
theorem dX10_needed_90 : decode cX10_needed 90 = .ok (.if_icmp .ge 8, 3) := by decide +kernel
theorem dX10_needed_93 : decode cX10_needed 93 = .ok (.iload 5, 2) := by decide +kernel
theorem dX10_needed_95 : decode cX10_needed 95 = .ok (.goto 4, 3) := by decide +kernel
theorem dX10_needed_98 : decode cX10_needed 98 = .ok (.iload_n 2, 1) := by decide +kernel
theorem dX10_needed_99 : decode cX10_needed 99 = .ok (.istore_n 2, 1) := by decide +kernel
theorem dX10_needed_100 : decode cX10_needed 100 = .ok (.iinc 4 1, 3) := by decide +kernel
theorem dX10_needed_103 : decode cX10_needed 103 = .ok (.goto (-59), 3) := by decide +kernel
theorem dX10_needed_106 : decode cX10_needed 106 = .ok (.iload_n 3, 1) := by decide +kernel
theorem dX10_needed_107 : decode cX10_needed 107 = .ok (.ifCond .ge 12, 3) := by decide +kernel
theorem dX10_needed_110 : decode cX10_needed 110 = .ok (.aload_n 0, 1) := by decide +kernel
theorem dX10_needed_111 : decode cX10_needed 111 = .ok (.ldc 147, 2) := by decide +kernel
theorem dX10_needed_113 : decode cX10_needed 113 = .ok (.invokevirtual 63, 3) := by decide +kernel
theorem dX10_needed_116 : decode cX10_needed 116 = .ok (.goto 4, 3) := by decide +kernel
theorem dX10_needed_119 : decode cX10_needed 119 = .ok (.iload_n 3, 1) := by decide +kernel
theorem dX10_needed_120 : decode cX10_needed 120 = .ok (.ireturn, 1) := by decide +kernel
theorem dX10_steepest_0 : decode cX10_steepest 0 = .ok (.iconst (-1), 1) := by decide +kernel
theorem dX10_steepest_1 : decode cX10_steepest 1 = .ok (.istore_n 1, 1) := by decide +kernel
theorem dX10_steepest_2 : decode cX10_steepest 2 = .ok (.iconst 1, 1) := by decide +kernel
theorem dX10_steepest_3 : decode cX10_steepest 3 = .ok (.istore_n 2, 1) := by decide +kernel
theorem dX10_steepest_4 : decode cX10_steepest 4 = .ok (.iload_n 2, 1) := by decide +kernel
theorem dX10_steepest_5 : decode cX10_steepest 5 = .ok (.bipush 40, 2) := by decide +kernel
theorem dX10_steepest_7 : decode cX10_steepest 7 = .ok (.if_icmp .ge 48, 3) := by decide +kernel
theorem dX10_steepest_10 : decode cX10_steepest 10 = .ok (.aload_n 0, 1) := by decide +kernel
theorem dX10_steepest_11 : decode cX10_steepest 11 = .ok (.iload_n 2, 1) := by decide +kernel
theorem dX10_steepest_12 : decode cX10_steepest 12 = .ok (.invokevirtual 122, 3) := by decide +kernel
theorem dX10_steepest_15 : decode cX10_steepest 15 = .ok (.ifCond .eq 34, 3) := by decide +kernel
theorem dX10_steepest_18 : decode cX10_steepest 18 = .ok (.iload_n 1, 1) := by decide +kernel
theorem dX10_steepest_19 : decode cX10_steepest 19 = .ok (.ifCond .lt 24, 3) := by decide +kernel
theorem dX10_steepest_22 : decode cX10_steepest 22 = .ok (.aload_n 0, 1) := by decide +kernel
theorem dX10_steepest_23 : decode cX10_steepest 23 = .ok (.iload_n 2, 1) := by decide +kernel
theorem dX10_steepest_24 : decode cX10_steepest 24 = .ok (.invokevirtual 113, 3) := by decide +kernel
theorem dX10_steepest_27 : decode cX10_steepest 27 = .ok (.aload_n 0, 1) := by decide +kernel
theorem dX10_steepest_28 : decode cX10_steepest 28 = .ok (.iload_n 1, 1) := by decide +kernel
theorem dX10_steepest_29 : decode cX10_steepest 29 = .ok (.ifCond .ge 7, 3) := by decide +kernel
theorem dX10_steepest_32 : decode cX10_steepest 32 = .ok (.iconst 1, 1) := by decide +kernel
theorem dX10_steepest_33 : decode cX10_steepest 33 = .ok (.goto 4, 3) := by decide +kernel
theorem dX10_steepest_36 : decode cX10_steepest 36 = .ok (.iload_n 1, 1) := by decide +kernel
theorem dX10_steepest_37 : decode cX10_steepest 37 = .ok (.invokevirtual 113, 3) := by decide +kernel
theorem dX10_steepest_40 : decode cX10_steepest 40 = .ok (.if_icmp .le 7, 3) := by decide +kernel
theorem dX10_steepest_43 : decode cX10_steepest 43 = .ok (.iload_n 2, 1) := by decide +kernel
theorem dX10_steepest_44 : decode cX10_steepest 44 = .ok (.goto 4, 3) := by decide +kernel
theorem dX10_steepest_47 : decode cX10_steepest 47 = .ok (.iload_n 1, 1) := by decide +kernel
theorem dX10_steepest_48 : decode cX10_steepest 48 = .ok (.istore_n 1, 1) := by decide +kernel
theorem dX10_steepest_49 : decode cX10_steepest 49 = .ok (.iinc 2 1, 3) := by decide +kernel
theorem dX10_steepest_52 : decode cX10_steepest 52 = .ok (.goto (-48), 3) := by decide +kernel
theorem dX10_steepest_55 : decode cX10_steepest 55 = .ok (.iload_n 1, 1) := by decide +kernel
theorem dX10_steepest_56 : decode cX10_steepest 56 = .ok (.ifCond .ge 12, 3) := by decide +kernel
theorem dX10_steepest_59 : decode cX10_steepest 59 = .ok (.aload_n 0, 1) := by decide +kernel
theorem dX10_steepest_60 : decode cX10_steepest 60 = .ok (.ldc 147, 2) := by decide +kernel
theorem dX10_steepest_62 : decode cX10_steepest 62 = .ok (.invokevirtual 63, 3) := by decide +kernel
theorem dX10_steepest_65 : decode cX10_steepest 65 = .ok (.goto 4, 3) := by decide +kernel
theorem dX10_steepest_68 : decode cX10_steepest 68 = .ok (.iload_n 1, 1) := by decide +kernel
theorem dX10_steepest_69 : decode cX10_steepest 69 = .ok (.ireturn, 1) := by decide +kernel
theorem dX10_whose_0 : decode cX10_whose 0 = .ok (.iload_n 1, 1) := by decide +kernel
theorem dX10_whose_1 : decode cX10_whose 1 = .ok (.invokestatic 59, 3) := by decide +kernel
theorem dX10_whose_4 : decode cX10_whose 4 = .ok (.ifCond .eq 13, 3) := by decide +kernel
theorem dX10_whose_7 : decode cX10_whose 7 = .ok (.iload_n 2, 1) := by decide +kernel
theorem dX10_whose_8 : decode cX10_whose 8 = .ok (.iconst 0, 1) := by decide +kernel
theorem dX10_whose_9 : decode cX10_whose 9 = .ok (.bipush 40, 2) := by decide +kernel
theorem dX10_whose_11 : decode cX10_whose 11 = .ok (.invokestatic 47, 3) := by decide +kernel
theorem dX10_whose_14 : decode cX10_whose 14 = .ok (.ifCond .ne 10, 3) := by decide +kernel
theorem dX10_whose_17 : decode cX10_whose 17 = .ok (.aload_n 0, 1) := by decide +kernel
theorem dX10_whose_18 : decode cX10_whose 18 = .ok (.ldc 38, 2) := by decide +kernel
theorem dX10_whose_20 : decode cX10_whose 20 = .ok (.invokevirtual 63, 3) := by decide +kernel
theorem dX10_whose_23 : decode cX10_whose 23 = .ok (.ireturn, 1) := by decide +kernel
theorem dX10_whose_24 : decode cX10_whose 24 = .ok (.iconst 0, 1) := by decide +kernel
theorem dX10_whose_25 : decode cX10_whose 25 = .ok (.istore_n 3, 1) := by decide +kernel
theorem dX10_whose_26 : decode cX10_whose 26 = .ok (.iconst 0, 1) := by decide +kernel
theorem dX10_whose_27 : decode cX10_whose 27 = .ok (.istore 4, 2) := by decide +kernel
theorem dX10_whose_29 : decode cX10_whose 29 = .ok (.iload 4, 2) := by decide +kernel
theorem dX10_whose_31 : decode cX10_whose 31 = .ok (.aload_n 0, 1) := by decide +kernel
theorem dX10_whose_32 : decode cX10_whose 32 = .ok (.getfield 7, 3) := by decide +kernel
theorem dX10_whose_35 : decode cX10_whose 35 = .ok (.iconst 4, 1) := by decide +kernel
theorem dX10_whose_36 : decode cX10_whose 36 = .ok (.iaload, 1) := by decide +kernel
theorem dX10_whose_37 : decode cX10_whose 37 = .ok (.if_icmp .ge 31, 3) := by decide +kernel
theorem dX10_whose_40 : decode cX10_whose 40 = .ok (.iload_n 3, 1) := by decide +kernel
theorem dX10_whose_41 : decode cX10_whose 41 = .ok (.aload_n 0, 1) := by decide +kernel
theorem dX10_whose_42 : decode cX10_whose 42 = .ok (.iload 4, 2) := by decide +kernel
theorem dX10_whose_44 : decode cX10_whose 44 = .ok (.iload_n 1, 1) := by decide +kernel
theorem dX10_whose_45 : decode cX10_whose 45 = .ok (.invokevirtual 87, 3) := by decide +kernel
theorem dX10_whose_48 : decode cX10_whose 48 = .ok (.iload_n 2, 1) := by decide +kernel
theorem dX10_whose_49 : decode cX10_whose 49 = .ok (.if_icmp .ne 10, 3) := by decide +kernel
theorem dX10_whose_52 : decode cX10_whose 52 = .ok (.iconst 1, 1) := by decide +kernel
theorem dX10_whose_53 : decode cX10_whose 53 = .ok (.iload 4, 2) := by decide +kernel
theorem dX10_whose_55 : decode cX10_whose 55 = .ok (.ishl, 1) := by decide +kernel
theorem dX10_whose_56 : decode cX10_whose 56 = .ok (.goto 4, 3) := by decide +kernel
theorem dX10_whose_59 : decode cX10_whose 59 = .ok (.iconst 0, 1) := by decide +kernel
theorem dX10_whose_60 : decode cX10_whose 60 = .ok (.ior, 1) := by decide +kernel
theorem dX10_whose_61 : decode cX10_whose 61 = .ok (.istore_n 3, 1) := by decide +kernel
theorem dX10_whose_62 : decode cX10_whose 62 = .ok (.iinc 4 1, 3) := by decide +kernel
theorem dX10_whose_65 : decode cX10_whose 65 = .ok (.goto (-36), 3) := by decide +kernel
theorem dX10_whose_68 : decode cX10_whose 68 = .ok (.iload_n 3, 1) := by decide +kernel
theorem dX10_whose_69 : decode cX10_whose 69 = .ok (.ireturn, 1) := by decide +kernel
theorem dX10_bears_0 : decode cX10_bears 0 = .ok (.iload_n 1, 1) := by decide +kernel
theorem dX10_bears_1 : decode cX10_bears 1 = .ok (.iconst 1, 1) := by decide +kernel
theorem dX10_bears_2 : decode cX10_bears 2 = .ok (.sipush 200, 3) := by decide +kernel
theorem dX10_bears_5 : decode cX10_bears 5 = .ok (.invokestatic 47, 3) := by decide +kernel
theorem dX10_bears_8 : decode cX10_bears 8 = .ok (.ifCond .ne 10, 3) := by decide +kernel
theorem dX10_bears_11 : decode cX10_bears 11 = .ok (.aload_n 0, 1) := by decide +kernel
theorem dX10_bears_12 : decode cX10_bears 12 = .ok (.ldc 38, 2) := by decide +kernel
theorem dX10_bears_14 : decode cX10_bears 14 = .ok (.invokevirtual 63, 3) := by decide +kernel
theorem dX10_bears_17 : decode cX10_bears 17 = .ok (.ireturn, 1) := by decide +kernel
theorem dX10_bears_18 : decode cX10_bears 18 = .ok (.aload_n 0, 1) := by decide +kernel
theorem dX10_bears_19 : decode cX10_bears 19 = .ok (.iload_n 1, 1) := by decide +kernel
theorem dX10_bears_20 : decode cX10_bears 20 = .ok (.invokevirtual 135, 3) := by decide +kernel
theorem dX10_bears_23 : decode cX10_bears 23 = .ok (.ifCond .eq 10, 3) := by decide +kernel
theorem dX10_bears_26 : decode cX10_bears 26 = .ok (.aload_n 0, 1) := by decide +kernel
theorem dX10_bears_27 : decode cX10_bears 27 = .ok (.ldc 101, 2) := by decide +kernel
theorem dX10_bears_29 : decode cX10_bears 29 = .ok (.invokevirtual 63, 3) := by decide +kernel
theorem dX10_bears_32 : decode cX10_bears 32 = .ok (.ireturn, 1) := by decide +kernel
theorem dX10_bears_33 : decode cX10_bears 33 = .ok (.iconst (-1), 1) := by decide +kernel
theorem dX10_bears_34 : decode cX10_bears 34 = .ok (.istore_n 2, 1) := by decide +kernel
theorem dX10_bears_35 : decode cX10_bears 35 = .ok (.iconst 0, 1) := by decide +kernel
theorem dX10_bears_36 : decode cX10_bears 36 = .ok (.istore_n 3, 1) := by decide +kernel
theorem dX10_bears_37 : decode cX10_bears 37 = .ok (.iload_n 3, 1) := by decide +kernel
theorem dX10_bears_38 : decode cX10_bears 38 = .ok (.bipush 10, 2) := by decide +kernel
theorem dX10_bears_40 : decode cX10_bears 40 = .ok (.if_icmp .ge 41, 3) := by decide +kernel
theorem dX10_bears_43 : decode cX10_bears 43 = .ok (.aload_n 0, 1) := by decide +kernel
theorem dX10_bears_44 : decode cX10_bears 44 = .ok (.invokevirtual 144, 3) := by decide +kernel
theorem dX10_bears_47 : decode cX10_bears 47 = .ok (.aload_n 0, 1) := by decide +kernel
theorem dX10_bears_48 : decode cX10_bears 48 = .ok (.getfield 7, 3) := by decide +kernel
theorem dX10_bears_51 : decode cX10_bears 51 = .ok (.aload_n 0, 1) := by decide +kernel
theorem dX10_bears_52 : decode cX10_bears 52 = .ok (.getfield 39, 3) := by decide +kernel
theorem dX10_bears_55 : decode cX10_bears 55 = .ok (.iconst 1, 1) := by decide +kernel
theorem dX10_bears_56 : decode cX10_bears 56 = .ok (.iadd, 1) := by decide +kernel
theorem dX10_bears_57 : decode cX10_bears 57 = .ok (.iload_n 3, 1) := by decide +kernel
theorem dX10_bears_58 : decode cX10_bears 58 = .ok (.iastore, 1) := by decide +kernel
theorem dX10_bears_59 : decode cX10_bears 59 = .ok (.aload_n 0, 1) := by decide +kernel
theorem dX10_bears_60 : decode cX10_bears 60 = .ok (.iload_n 1, 1) := by decide +kernel
theorem dX10_bears_61 : decode cX10_bears 61 = .ok (.invokevirtual 151, 3) := by decide +kernel
theorem dX10_bears_64 : decode cX10_bears 64 = .ok (.bipush 40, 2) := by decide +kernel
theorem dX10_bears_66 : decode cX10_bears 66 = .ok (.if_icmp .ne 7, 3) := by decide +kernel
theorem dX10_bears_69 : decode cX10_bears 69 = .ok (.iload_n 3, 1) := by decide +kernel
theorem dX10_bears_70 : decode cX10_bears 70 = .ok (.goto 4, 3) := by decide +kernel
theorem dX10_bears_73 : decode cX10_bears 73 = .ok (.iload_n 2, 1) := by decide +kernel
theorem dX10_bears_74 : decode cX10_bears 74 = .ok (.istore_n 2, 1) := by decide +kernel
theorem dX10_bears_75 : decode cX10_bears 75 = .ok (.iinc 3 1, 3) := by decide +kernel
theorem dX10_bears_78 : decode cX10_bears 78 = .ok (.goto (-41), 3) := by decide +kernel
theorem dX10_bears_81 : decode cX10_bears 81 = .ok (.iload_n 2, 1) := by decide +kernel
theorem dX10_bears_82 : decode cX10_bears 82 = .ok (.ifCond .ge 12, 3) := by decide +kernel
theorem dX10_bears_85 : decode cX10_bears 85 = .ok (.aload_n 0, 1) := by decide +kernel
theorem dX10_bears_86 : decode cX10_bears 86 = .ok (.ldc 147, 2) := by decide +kernel
theorem dX10_bears_88 : decode cX10_bears 88 = .ok (.invokevirtual 63, 3) := by decide +kernel
theorem dX10_bears_91 : decode cX10_bears 91 = .ok (.goto 4, 3) := by decide +kernel
theorem dX10_bears_94 : decode cX10_bears 94 = .ok (.iload_n 2, 1) := by decide +kernel
theorem dX10_bears_95 : decode cX10_bears 95 = .ok (.ireturn, 1) := by decide +kernel
theorem dX10_meetsFor_0 : decode cX10_meetsFor 0 = .ok (.iload_n 1, 1) := by decide +kernel
theorem dX10_meetsFor_1 : decode cX10_meetsFor 1 = .ok (.iconst 0, 1) := by decide +kernel
theorem dX10_meetsFor_2 : decode cX10_meetsFor 2 = .ok (.bipush 40, 2) := by decide +kernel
theorem dX10_meetsFor_4 : decode cX10_meetsFor 4 = .ok (.invokestatic 47, 3) := by decide +kernel
theorem dX10_meetsFor_7 : decode cX10_meetsFor 7 = .ok (.ifCond .ne 10, 3) := by decide +kernel
theorem dX10_meetsFor_10 : decode cX10_meetsFor 10 = .ok (.aload_n 0, 1) := by decide +kernel
theorem dX10_meetsFor_11 : decode cX10_meetsFor 11 = .ok (.ldc 38, 2) := by decide +kernel
theorem dX10_meetsFor_13 : decode cX10_meetsFor 13 = .ok (.invokevirtual 63, 3) := by decide +kernel
theorem dX10_meetsFor_16 : decode cX10_meetsFor 16 = .ok (.ireturn, 1) := by decide +kernel
theorem dX10_meetsFor_17 : decode cX10_meetsFor 17 = .ok (.aload_n 0, 1) := by decide +kernel
theorem dX10_meetsFor_18 : decode cX10_meetsFor 18 = .ok (.getfield 7, 3) := by decide +kernel
theorem dX10_meetsFor_21 : decode cX10_meetsFor 21 = .ok (.iconst 2, 1) := by decide +kernel
theorem dX10_meetsFor_22 : decode cX10_meetsFor 22 = .ok (.iaload, 1) := by decide +kernel
theorem dX10_meetsFor_23 : decode cX10_meetsFor 23 = .ok (.istore_n 2, 1) := by decide +kernel
theorem dX10_meetsFor_24 : decode cX10_meetsFor 24 = .ok (.iconst 0, 1) := by decide +kernel
theorem dX10_meetsFor_25 : decode cX10_meetsFor 25 = .ok (.istore_n 3, 1) := by decide +kernel
theorem dX10_meetsFor_26 : decode cX10_meetsFor 26 = .ok (.iconst 0, 1) := by decide +kernel
theorem dX10_meetsFor_27 : decode cX10_meetsFor 27 = .ok (.istore 4, 2) := by decide +kernel
theorem dX10_meetsFor_29 : decode cX10_meetsFor 29 = .ok (.iload 4, 2) := by decide +kernel
theorem dX10_meetsFor_31 : decode cX10_meetsFor 31 = .ok (.ifCond .ne 47, 3) := by decide +kernel
theorem dX10_meetsFor_34 : decode cX10_meetsFor 34 = .ok (.iload_n 3, 1) := by decide +kernel
theorem dX10_meetsFor_35 : decode cX10_meetsFor 35 = .ok (.bipush 20, 2) := by decide +kernel
theorem dX10_meetsFor_37 : decode cX10_meetsFor 37 = .ok (.if_icmp .gt 41, 3) := by decide +kernel
theorem dX10_meetsFor_40 : decode cX10_meetsFor 40 = .ok (.aload_n 0, 1) := by decide +kernel
theorem dX10_meetsFor_41 : decode cX10_meetsFor 41 = .ok (.getfield 7, 3) := by decide +kernel
theorem dX10_meetsFor_44 : decode cX10_meetsFor 44 = .ok (.iconst 2, 1) := by decide +kernel
theorem dX10_meetsFor_45 : decode cX10_meetsFor 45 = .ok (.iload_n 3, 1) := by decide +kernel
theorem dX10_meetsFor_46 : decode cX10_meetsFor 46 = .ok (.iastore, 1) := by decide +kernel
theorem dX10_meetsFor_47 : decode cX10_meetsFor 47 = .ok (.aload_n 0, 1) := by decide +kernel
theorem dX10_meetsFor_48 : decode cX10_meetsFor 48 = .ok (.invokevirtual 119, 3) := by decide +kernel
theorem dX10_meetsFor_51 : decode cX10_meetsFor 51 = .ok (.iload_n 1, 1) := by decide +kernel
theorem dX10_meetsFor_52 : decode cX10_meetsFor 52 = .ok (.if_icmp .lt 7, 3) := by decide +kernel
theorem dX10_meetsFor_55 : decode cX10_meetsFor 55 = .ok (.iconst 1, 1) := by decide +kernel
theorem dX10_meetsFor_56 : decode cX10_meetsFor 56 = .ok (.goto 4, 3) := by decide +kernel
theorem dX10_meetsFor_59 : decode cX10_meetsFor 59 = .ok (.iconst 0, 1) := by decide +kernel
theorem dX10_meetsFor_60 : decode cX10_meetsFor 60 = .ok (.istore 4, 2) := by decide +kernel
theorem dX10_meetsFor_62 : decode cX10_meetsFor 62 = .ok (.iload 4, 2) := by decide +kernel
theorem dX10_meetsFor_64 : decode cX10_meetsFor 64 = .ok (.ifCond .eq 7, 3) := by decide +kernel
theorem dX10_meetsFor_67 : decode cX10_meetsFor 67 = .ok (.iload_n 3, 1) := by decide +kernel
theorem dX10_meetsFor_68 : decode cX10_meetsFor 68 = .ok (.goto 6, 3) := by decide +kernel
theorem dX10_meetsFor_71 : decode cX10_meetsFor 71 = .ok (.iload_n 3, 1) := by decide +kernel
theorem dX10_meetsFor_72 : decode cX10_meetsFor 72 = .ok (.iconst 1, 1) := by decide +kernel
theorem dX10_meetsFor_73 : decode cX10_meetsFor 73 = .ok (.iadd, 1) := by decide +kernel
theorem dX10_meetsFor_74 : decode cX10_meetsFor 74 = .ok (.istore_n 3, 1) := by decide +kernel
theorem dX10_meetsFor_75 : decode cX10_meetsFor 75 = .ok (.goto (-46), 3) := by decide +kernel
theorem dX10_meetsFor_78 : decode cX10_meetsFor 78 = .ok (.aload_n 0, 1) := by decide +kernel
theorem dX10_meetsFor_79 : decode cX10_meetsFor 79 = .ok (.getfield 7, 3) := by decide +kernel
theorem dX10_meetsFor_82 : decode cX10_meetsFor 82 = .ok (.iconst 2, 1) := by decide +kernel
theorem dX10_meetsFor_83 : decode cX10_meetsFor 83 = .ok (.iload_n 2, 1) := by decide +kernel
theorem dX10_meetsFor_84 : decode cX10_meetsFor 84 = .ok (.iastore, 1) := by decide +kernel
theorem dX10_meetsFor_85 : decode cX10_meetsFor 85 = .ok (.iload 4, 2) := by decide +kernel
theorem dX10_meetsFor_87 : decode cX10_meetsFor 87 = .ok (.ifCond .eq 7, 3) := by decide +kernel
theorem dX10_meetsFor_90 : decode cX10_meetsFor 90 = .ok (.iload_n 3, 1) := by decide +kernel
theorem dX10_meetsFor_91 : decode cX10_meetsFor 91 = .ok (.goto 9, 3) := by decide +kernel
theorem dX10_meetsFor_94 : decode cX10_meetsFor 94 = .ok (.aload_n 0, 1) := by decide +kernel
theorem dX10_meetsFor_95 : decode cX10_meetsFor 95 = .ok (.ldc 147, 2) := by decide +kernel
theorem dX10_meetsFor_97 : decode cX10_meetsFor 97 = .ok (.invokevirtual 63, 3) := by decide +kernel
theorem dX10_meetsFor_100 : decode cX10_meetsFor 100 = .ok (.ireturn, 1) := by decide +kernel
theorem dX10_alone_0 : decode cX10_alone 0 = .ok (.aload_n 0, 1) := by decide +kernel
theorem dX10_alone_1 : decode cX10_alone 1 = .ok (.iload_n 1, 1) := by decide +kernel
theorem dX10_alone_2 : decode cX10_alone 2 = .ok (.invokevirtual 81, 3) := by decide +kernel
theorem dX10_alone_5 : decode cX10_alone 5 = .ok (.ifCond .ne 10, 3) := by decide +kernel
theorem dX10_alone_8 : decode cX10_alone 8 = .ok (.aload_n 0, 1) := by decide +kernel
theorem dX10_alone_9 : decode cX10_alone 9 = .ok (.ldc 38, 2) := by decide +kernel
theorem dX10_alone_11 : decode cX10_alone 11 = .ok (.invokevirtual 63, 3) := by decide +kernel
theorem dX10_alone_14 : decode cX10_alone 14 = .ok (.ireturn, 1) := by decide +kernel
theorem dX10_alone_15 : decode cX10_alone 15 = .ok (.aload_n 0, 1) := by decide +kernel
theorem dX10_alone_16 : decode cX10_alone 16 = .ok (.iload_n 1, 1) := by decide +kernel
theorem dX10_alone_17 : decode cX10_alone 17 = .ok (.invokevirtual 84, 3) := by decide +kernel
theorem dX10_alone_20 : decode cX10_alone 20 = .ok (.istore_n 2, 1) := by decide +kernel
theorem dX10_alone_21 : decode cX10_alone 21 = .ok (.iconst 0, 1) := by decide +kernel
theorem dX10_alone_22 : decode cX10_alone 22 = .ok (.istore_n 3, 1) := by decide +kernel
theorem dX10_alone_23 : decode cX10_alone 23 = .ok (.iconst 0, 1) := by decide +kernel
theorem dX10_alone_24 : decode cX10_alone 24 = .ok (.istore 4, 2) := by decide +kernel
theorem dX10_alone_26 : decode cX10_alone 26 = .ok (.iload 4, 2) := by decide +kernel
theorem dX10_alone_28 : decode cX10_alone 28 = .ok (.bipush 40, 2) := by decide +kernel
theorem dX10_alone_30 : decode cX10_alone 30 = .ok (.if_icmp .ge 40, 3) := by decide +kernel
theorem dX10_alone_33 : decode cX10_alone 33 = .ok (.iload_n 3, 1) := by decide +kernel
theorem dX10_alone_34 : decode cX10_alone 34 = .ok (.aload_n 0, 1) := by decide +kernel
theorem dX10_alone_35 : decode cX10_alone 35 = .ok (.iload 4, 2) := by decide +kernel
theorem dX10_alone_37 : decode cX10_alone 37 = .ok (.invokevirtual 78, 3) := by decide +kernel
theorem dX10_alone_40 : decode cX10_alone 40 = .ok (.ifCond .eq 7, 3) := by decide +kernel
theorem dX10_alone_43 : decode cX10_alone 43 = .ok (.iconst 0, 1) := by decide +kernel
theorem dX10_alone_44 : decode cX10_alone 44 = .ok (.goto 18, 3) := by decide +kernel
theorem dX10_alone_47 : decode cX10_alone 47 = .ok (.aload_n 0, 1) := by decide +kernel
theorem dX10_alone_48 : decode cX10_alone 48 = .ok (.getfield 7, 3) := by decide +kernel
theorem dX10_alone_51 : decode cX10_alone 51 = .ok (.iconst 5, 1) := by decide +kernel
theorem dX10_alone_52 : decode cX10_alone 52 = .ok (.iload 4, 2) := by decide +kernel
theorem dX10_alone_54 : decode cX10_alone 54 = .ok (.iadd, 1) := by decide +kernel
theorem dX10_alone_55 : decode cX10_alone 55 = .ok (.iaload, 1) := by decide +kernel
theorem dX10_alone_56 : decode cX10_alone 56 = .ok (.iload_n 2, 1) := by decide +kernel
theorem dX10_alone_57 : decode cX10_alone 57 = .ok (.iadd, 1) := by decide +kernel
theorem dX10_alone_58 : decode cX10_alone 58 = .ok (.iconst 1, 1) := by decide +kernel
theorem dX10_alone_59 : decode cX10_alone 59 = .ok (.isub, 1) := by decide +kernel
theorem dX10_alone_60 : decode cX10_alone 60 = .ok (.iload_n 2, 1) := by decide +kernel
theorem dX10_alone_61 : decode cX10_alone 61 = .ok (.idiv, 1) := by decide +kernel
theorem dX10_alone_62 : decode cX10_alone 62 = .ok (.iadd, 1) := by decide +kernel
theorem dX10_alone_63 : decode cX10_alone 63 = .ok (.istore_n 3, 1) := by decide +kernel
theorem dX10_alone_64 : decode cX10_alone 64 = .ok (.iinc 4 1, 3) := by decide +kernel
theorem dX10_alone_67 : decode cX10_alone 67 = .ok (.goto (-41), 3) := by decide +kernel
theorem dX10_alone_70 : decode cX10_alone 70 = .ok (.iload_n 3, 1) := by decide +kernel
theorem dX10_alone_71 : decode cX10_alone 71 = .ok (.ireturn, 1) := by decide +kernel
theorem dX10_feed_0 : decode cX10_feed 0 = .ok (.iload_n 2, 1) := by decide +kernel
theorem dX10_feed_1 : decode cX10_feed 1 = .ok (.iconst 1, 1) := by decide +kernel
theorem dX10_feed_2 : decode cX10_feed 2 = .ok (.iconst 4, 1) := by decide +kernel
theorem dX10_feed_3 : decode cX10_feed 3 = .ok (.invokestatic 47, 3) := by decide +kernel
theorem dX10_feed_6 : decode cX10_feed 6 = .ok (.ifCond .ne 10, 3) := by decide +kernel
theorem dX10_feed_9 : decode cX10_feed 9 = .ok (.aload_n 0, 1) := by decide +kernel
theorem dX10_feed_10 : decode cX10_feed 10 = .ok (.ldc 38, 2) := by decide +kernel
theorem dX10_feed_12 : decode cX10_feed 12 = .ok (.invokevirtual 63, 3) := by decide +kernel
theorem dX10_feed_15 : decode cX10_feed 15 = .ok (.ireturn, 1) := by decide +kernel
theorem dX10_feed_16 : decode cX10_feed 16 = .ok (.aload_n 0, 1) := by decide +kernel
theorem dX10_feed_17 : decode cX10_feed 17 = .ok (.getfield 154, 3) := by decide +kernel
theorem dX10_feed_20 : decode cX10_feed 20 = .ok (.iload_n 2, 1) := by decide +kernel
theorem dX10_feed_21 : decode cX10_feed 21 = .ok (.iadd, 1) := by decide +kernel
theorem dX10_feed_22 : decode cX10_feed 22 = .ok (.bipush 120, 2) := by decide +kernel
theorem dX10_feed_24 : decode cX10_feed 24 = .ok (.if_icmp .le 10, 3) := by decide +kernel
theorem dX10_feed_27 : decode cX10_feed 27 = .ok (.aload_n 0, 1) := by decide +kernel
theorem dX10_feed_28 : decode cX10_feed 28 = .ok (.ldc 73, 2) := by decide +kernel
theorem dX10_feed_30 : decode cX10_feed 30 = .ok (.invokevirtual 63, 3) := by decide +kernel
theorem dX10_feed_33 : decode cX10_feed 33 = .ok (.ireturn, 1) := by decide +kernel
theorem dX10_feed_34 : decode cX10_feed 34 = .ok (.iload_n 2, 1) := by decide +kernel
theorem dX10_feed_35 : decode cX10_feed 35 = .ok (.iconst 1, 1) := by decide +kernel
theorem dX10_feed_36 : decode cX10_feed 36 = .ok (.isub, 1) := by decide +kernel
theorem dX10_feed_37 : decode cX10_feed 37 = .ok (.istore_n 3, 1) := by decide +kernel
theorem dX10_feed_38 : decode cX10_feed 38 = .ok (.iload_n 3, 1) := by decide +kernel
theorem dX10_feed_39 : decode cX10_feed 39 = .ok (.ifCond .lt 38, 3) := by decide +kernel
theorem dX10_feed_42 : decode cX10_feed 42 = .ok (.aload_n 0, 1) := by decide +kernel
theorem dX10_feed_43 : decode cX10_feed 43 = .ok (.getfield 16, 3) := by decide +kernel
theorem dX10_feed_46 : decode cX10_feed 46 = .ok (.aload_n 0, 1) := by decide +kernel
theorem dX10_feed_47 : decode cX10_feed 47 = .ok (.getfield 154, 3) := by decide +kernel
theorem dX10_feed_50 : decode cX10_feed 50 = .ok (.iload_n 1, 1) := by decide +kernel
theorem dX10_feed_51 : decode cX10_feed 51 = .ok (.bipush 8, 2) := by decide +kernel
theorem dX10_feed_53 : decode cX10_feed 53 = .ok (.iload_n 3, 1) := by decide +kernel
theorem dX10_feed_54 : decode cX10_feed 54 = .ok (.imul, 1) := by decide +kernel
theorem dX10_feed_55 : decode cX10_feed 55 = .ok (.ishr, 1) := by decide +kernel
theorem dX10_feed_56 : decode cX10_feed 56 = .ok (.sipush 255, 3) := by decide +kernel
theorem dX10_feed_59 : decode cX10_feed 59 = .ok (.iand, 1) := by decide +kernel
theorem dX10_feed_60 : decode cX10_feed 60 = .ok (.iastore, 1) := by decide +kernel
theorem dX10_feed_61 : decode cX10_feed 61 = .ok (.aload_n 0, 1) := by decide +kernel
theorem dX10_feed_62 : decode cX10_feed 62 = .ok (.dup, 1) := by decide +kernel
theorem dX10_feed_63 : decode cX10_feed 63 = .ok (.getfield 154, 3) := by decide +kernel
theorem dX10_feed_66 : decode cX10_feed 66 = .ok (.iconst 1, 1) := by decide +kernel
theorem dX10_feed_67 : decode cX10_feed 67 = .ok (.iadd, 1) := by decide +kernel
theorem dX10_feed_68 : decode cX10_feed 68 = .ok (.putfield 154, 3) := by decide +kernel
theorem dX10_feed_71 : decode cX10_feed 71 = .ok (.iinc 3 (-1), 3) := by decide +kernel
theorem dX10_feed_74 : decode cX10_feed 74 = .ok (.goto (-36), 3) := by decide +kernel
theorem dX10_feed_77 : decode cX10_feed 77 = .ok (.aload_n 0, 1) := by decide +kernel
theorem dX10_feed_78 : decode cX10_feed 78 = .ok (.getfield 154, 3) := by decide +kernel
theorem dX10_feed_81 : decode cX10_feed 81 = .ok (.ireturn, 1) := by decide +kernel
theorem dX10_wipe_0 : decode cX10_wipe 0 = .ok (.aload_n 0, 1) := by decide +kernel
theorem dX10_wipe_1 : decode cX10_wipe 1 = .ok (.getfield 154, 3) := by decide +kernel
theorem dX10_wipe_4 : decode cX10_wipe 4 = .ok (.istore_n 1, 1) := by decide +kernel
theorem dX10_wipe_5 : decode cX10_wipe 5 = .ok (.aload_n 0, 1) := by decide +kernel
theorem dX10_wipe_6 : decode cX10_wipe 6 = .ok (.iconst 0, 1) := by decide +kernel
theorem dX10_wipe_7 : decode cX10_wipe 7 = .ok (.putfield 154, 3) := by decide +kernel
theorem dX10_wipe_10 : decode cX10_wipe 10 = .ok (.iload_n 1, 1) := by decide +kernel
theorem dX10_wipe_11 : decode cX10_wipe 11 = .ok (.ireturn, 1) := by decide +kernel
theorem dX10_byteAt_0 : decode cX10_byteAt 0 = .ok (.iload_n 1, 1) := by decide +kernel
theorem dX10_byteAt_1 : decode cX10_byteAt 1 = .ok (.aload_n 0, 1) := by decide +kernel
theorem dX10_byteAt_2 : decode cX10_byteAt 2 = .ok (.getfield 154, 3) := by decide +kernel
theorem dX10_byteAt_5 : decode cX10_byteAt 5 = .ok (.if_icmp .ge 12, 3) := by decide +kernel
theorem dX10_byteAt_8 : decode cX10_byteAt 8 = .ok (.aload_n 0, 1) := by decide +kernel
theorem dX10_byteAt_9 : decode cX10_byteAt 9 = .ok (.getfield 16, 3) := by decide +kernel
theorem dX10_byteAt_12 : decode cX10_byteAt 12 = .ok (.iload_n 1, 1) := by decide +kernel
theorem dX10_byteAt_13 : decode cX10_byteAt 13 = .ok (.iaload, 1) := by decide +kernel
theorem dX10_byteAt_14 : decode cX10_byteAt 14 = .ok (.goto 4, 3) := by decide +kernel
theorem dX10_byteAt_17 : decode cX10_byteAt 17 = .ok (.iconst (-1), 1) := by decide +kernel
theorem dX10_byteAt_18 : decode cX10_byteAt 18 = .ok (.ireturn, 1) := by decide +kernel
theorem dX10_isLetter_0 : decode cX10_isLetter 0 = .ok (.iload_n 0, 1) := by decide +kernel
theorem dX10_isLetter_1 : decode cX10_isLetter 1 = .ok (.bipush 97, 2) := by decide +kernel
theorem dX10_isLetter_3 : decode cX10_isLetter 3 = .ok (.bipush 122, 2) := by decide +kernel
theorem dX10_isLetter_5 : decode cX10_isLetter 5 = .ok (.invokestatic 47, 3) := by decide +kernel
theorem dX10_isLetter_8 : decode cX10_isLetter 8 = .ok (.ireturn, 1) := by decide +kernel
theorem dX10_isDigit_0 : decode cX10_isDigit 0 = .ok (.iload_n 0, 1) := by decide +kernel
theorem dX10_isDigit_1 : decode cX10_isDigit 1 = .ok (.bipush 48, 2) := by decide +kernel
theorem dX10_isDigit_3 : decode cX10_isDigit 3 = .ok (.bipush 57, 2) := by decide +kernel
theorem dX10_isDigit_5 : decode cX10_isDigit 5 = .ok (.invokestatic 47, 3) := by decide +kernel
theorem dX10_isDigit_8 : decode cX10_isDigit 8 = .ok (.ireturn, 1) := by decide +kernel
theorem dX10_advance_0 : decode cX10_advance 0 = .ok (.aload_n 0, 1) := by decide +kernel
theorem dX10_advance_1 : decode cX10_advance 1 = .ok (.aload_n 0, 1) := by decide +kernel
theorem dX10_advance_2 : decode cX10_advance 2 = .ok (.getfield 157, 3) := by decide +kernel
theorem dX10_advance_5 : decode cX10_advance 5 = .ok (.putfield 160, 3) := by decide +kernel
theorem dX10_advance_8 : decode cX10_advance 8 = .ok (.aload_n 0, 1) := by decide +kernel
theorem dX10_advance_9 : decode cX10_advance 9 = .ok (.aload_n 0, 1) := by decide +kernel
theorem dX10_advance_10 : decode cX10_advance 10 = .ok (.getfield 160, 3) := by decide +kernel
theorem dX10_advance_13 : decode cX10_advance 13 = .ok (.invokevirtual 163, 3) := by decide +kernel
theorem dX10_advance_16 : decode cX10_advance 16 = .ok (.bipush 32, 2) := by decide +kernel
theorem dX10_advance_18 : decode cX10_advance 18 = .ok (.if_icmp .ne 16, 3) := by decide +kernel
theorem dX10_advance_21 : decode cX10_advance 21 = .ok (.aload_n 0, 1) := by decide +kernel
theorem dX10_advance_22 : decode cX10_advance 22 = .ok (.dup, 1) := by decide +kernel
theorem dX10_advance_23 : decode cX10_advance 23 = .ok (.getfield 160, 3) := by decide +kernel
theorem dX10_advance_26 : decode cX10_advance 26 = .ok (.iconst 1, 1) := by decide +kernel
theorem dX10_advance_27 : decode cX10_advance 27 = .ok (.iadd, 1) := by decide +kernel
theorem dX10_advance_28 : decode cX10_advance 28 = .ok (.putfield 160, 3) := by decide +kernel
theorem dX10_advance_31 : decode cX10_advance 31 = .ok (.goto (-23), 3) := by decide +kernel
theorem dX10_advance_34 : decode cX10_advance 34 = .ok (.aload_n 0, 1) := by decide +kernel
theorem dX10_advance_35 : decode cX10_advance 35 = .ok (.aload_n 0, 1) := by decide +kernel
theorem dX10_advance_36 : decode cX10_advance 36 = .ok (.getfield 160, 3) := by decide +kernel
theorem dX10_advance_39 : decode cX10_advance 39 = .ok (.putfield 157, 3) := by decide +kernel
theorem dX10_advance_42 : decode cX10_advance 42 = .ok (.aload_n 0, 1) := by decide +kernel
theorem dX10_advance_43 : decode cX10_advance 43 = .ok (.aload_n 0, 1) := by decide +kernel
theorem dX10_advance_44 : decode cX10_advance 44 = .ok (.getfield 160, 3) := by decide +kernel
theorem dX10_advance_47 : decode cX10_advance 47 = .ok (.invokevirtual 163, 3) := by decide +kernel
theorem dX10_advance_50 : decode cX10_advance 50 = .ok (.istore_n 1, 1) := by decide +kernel
theorem dX10_advance_51 : decode cX10_advance 51 = .ok (.aload_n 0, 1) := by decide +kernel
theorem dX10_advance_52 : decode cX10_advance 52 = .ok (.iload_n 1, 1) := by decide +kernel
theorem dX10_advance_53 : decode cX10_advance 53 = .ok (.ifCond .ge 7, 3) := by decide +kernel
theorem dX10_advance_56 : decode cX10_advance 56 = .ok (.iconst 0, 1) := by decide +kernel
theorem dX10_advance_57 : decode cX10_advance 57 = .ok (.goto 26, 3) := by decide +kernel
theorem dX10_advance_60 : decode cX10_advance 60 = .ok (.iload_n 1, 1) := by decide +kernel
theorem dX10_advance_61 : decode cX10_advance 61 = .ok (.invokestatic 166, 3) := by decide +kernel
theorem dX10_advance_64 : decode cX10_advance 64 = .ok (.ifCond .eq 7, 3) := by decide +kernel
theorem dX10_advance_67 : decode cX10_advance 67 = .ok (.iconst 1, 1) := by decide +kernel
theorem dX10_advance_68 : decode cX10_advance 68 = .ok (.goto 15, 3) := by decide +kernel
theorem dX10_advance_71 : decode cX10_advance 71 = .ok (.iload_n 1, 1) := by decide +kernel
theorem dX10_advance_72 : decode cX10_advance 72 = .ok (.invokestatic 169, 3) := by decide +kernel
theorem dX10_advance_75 : decode cX10_advance 75 = .ok (.ifCond .eq 7, 3) := by decide +kernel
theorem dX10_advance_78 : decode cX10_advance 78 = .ok (.iconst 2, 1) := by decide +kernel
theorem dX10_advance_79 : decode cX10_advance 79 = .ok (.goto 4, 3) := by decide +kernel
theorem dX10_advance_82 : decode cX10_advance 82 = .ok (.iconst 3, 1) := by decide +kernel
theorem dX10_advance_83 : decode cX10_advance 83 = .ok (.putfield 172, 3) := by decide +kernel
theorem dX10_advance_86 : decode cX10_advance 86 = .ok (.aload_n 0, 1) := by decide +kernel
theorem dX10_advance_87 : decode cX10_advance 87 = .ok (.lconst 0, 1) := by decide +kernel
theorem dX10_advance_88 : decode cX10_advance 88 = .ok (.putfield 175, 3) := by decide +kernel
theorem dX10_advance_91 : decode cX10_advance 91 = .ok (.aload_n 0, 1) := by decide +kernel
theorem dX10_advance_92 : decode cX10_advance 92 = .ok (.aload_n 0, 1) := by decide +kernel
theorem dX10_advance_93 : decode cX10_advance 93 = .ok (.getfield 172, 3) := by decide +kernel
theorem dX10_advance_96 : decode cX10_advance 96 = .ok (.iconst 2, 1) := by decide +kernel
theorem dX10_advance_97 : decode cX10_advance 97 = .ok (.if_icmp .ne 7, 3) := by decide +kernel
theorem dX10_advance_100 : decode cX10_advance 100 = .ok (.iconst 0, 1) := by decide +kernel
theorem dX10_advance_101 : decode cX10_advance 101 = .ok (.goto 4, 3) := by decide +kernel
theorem dX10_advance_104 : decode cX10_advance 104 = .ok (.iload_n 1, 1) := by decide +kernel
theorem dX10_advance_105 : decode cX10_advance 105 = .ok (.putfield 179, 3) := by decide +kernel
theorem dX10_advance_108 : decode cX10_advance 108 = .ok (.aload_n 0, 1) := by decide +kernel
theorem dX10_advance_109 : decode cX10_advance 109 = .ok (.getfield 172, 3) := by decide +kernel
theorem dX10_advance_112 : decode cX10_advance 112 = .ok (.iconst 3, 1) := by decide +kernel
theorem dX10_advance_113 : decode cX10_advance 113 = .ok (.if_icmp .ne 13, 3) := by decide +kernel
theorem dX10_advance_116 : decode cX10_advance 116 = .ok (.aload_n 0, 1) := by decide +kernel
theorem dX10_advance_117 : decode cX10_advance 117 = .ok (.dup, 1) := by decide +kernel
theorem dX10_advance_118 : decode cX10_advance 118 = .ok (.getfield 157, 3) := by decide +kernel
theorem dX10_advance_121 : decode cX10_advance 121 = .ok (.iconst 1, 1) := by decide +kernel
theorem dX10_advance_122 : decode cX10_advance 122 = .ok (.iadd, 1) := by decide +kernel
theorem dX10_advance_123 : decode cX10_advance 123 = .ok (.putfield 157, 3) := by decide +kernel
theorem dX10_advance_126 : decode cX10_advance 126 = .ok (.aload_n 0, 1) := by decide +kernel
theorem dX10_advance_127 : decode cX10_advance 127 = .ok (.getfield 172, 3) := by decide +kernel
theorem dX10_advance_130 : decode cX10_advance 130 = .ok (.iconst 1, 1) := by decide +kernel
theorem dX10_advance_131 : decode cX10_advance 131 = .ok (.if_icmp .ne 76, 3) := by decide +kernel
theorem dX10_advance_134 : decode cX10_advance 134 = .ok (.aload_n 0, 1) := by decide +kernel
theorem dX10_advance_135 : decode cX10_advance 135 = .ok (.aload_n 0, 1) := by decide +kernel
theorem dX10_advance_136 : decode cX10_advance 136 = .ok (.getfield 157, 3) := by decide +kernel
theorem dX10_advance_139 : decode cX10_advance 139 = .ok (.invokevirtual 163, 3) := by decide +kernel
theorem dX10_advance_142 : decode cX10_advance 142 = .ok (.invokestatic 166, 3) := by decide +kernel
theorem dX10_advance_145 : decode cX10_advance 145 = .ok (.ifCond .eq 62, 3) := by decide +kernel
theorem dX10_advance_148 : decode cX10_advance 148 = .ok (.aload_n 0, 1) := by decide +kernel
theorem dX10_advance_149 : decode cX10_advance 149 = .ok (.aload_n 0, 1) := by decide +kernel
theorem dX10_advance_150 : decode cX10_advance 150 = .ok (.getfield 157, 3) := by decide +kernel
theorem dX10_advance_153 : decode cX10_advance 153 = .ok (.aload_n 0, 1) := by decide +kernel
theorem dX10_advance_154 : decode cX10_advance 154 = .ok (.getfield 160, 3) := by decide +kernel
theorem dX10_advance_157 : decode cX10_advance 157 = .ok (.isub, 1) := by decide +kernel
theorem dX10_advance_158 : decode cX10_advance 158 = .ok (.bipush 12, 2) := by decide +kernel
theorem dX10_advance_160 : decode cX10_advance 160 = .ok (.if_icmp .ge 28, 3) := by decide +kernel
theorem dX10_advance_163 : decode cX10_advance 163 = .ok (.ldc2_w 182, 3) := by decide +kernel
theorem dX10_advance_166 : decode cX10_advance 166 = .ok (.aload_n 0, 1) := by decide +kernel
theorem dX10_advance_167 : decode cX10_advance 167 = .ok (.getfield 175, 3) := by decide +kernel
theorem dX10_advance_170 : decode cX10_advance 170 = .ok (.lmul, 1) := by decide +kernel
theorem dX10_advance_171 : decode cX10_advance 171 = .ok (.aload_n 0, 1) := by decide +kernel
theorem dX10_advance_172 : decode cX10_advance 172 = .ok (.aload_n 0, 1) := by decide +kernel
theorem dX10_advance_173 : decode cX10_advance 173 = .ok (.getfield 157, 3) := by decide +kernel
theorem dX10_advance_176 : decode cX10_advance 176 = .ok (.invokevirtual 163, 3) := by decide +kernel
theorem dX10_advance_179 : decode cX10_advance 179 = .ok (.i2l, 1) := by decide +kernel
theorem dX10_advance_180 : decode cX10_advance 180 = .ok (.ladd, 1) := by decide +kernel
theorem dX10_advance_181 : decode cX10_advance 181 = .ok (.ldc2_w 184, 3) := by decide +kernel
theorem dX10_advance_184 : decode cX10_advance 184 = .ok (.lsub, 1) := by decide +kernel
theorem dX10_advance_185 : decode cX10_advance 185 = .ok (.goto 6, 3) := by decide +kernel
theorem dX10_advance_188 : decode cX10_advance 188 = .ok (.ldc2_w 186, 3) := by decide +kernel
theorem dX10_advance_191 : decode cX10_advance 191 = .ok (.putfield 175, 3) := by decide +kernel
theorem dX10_advance_194 : decode cX10_advance 194 = .ok (.aload_n 0, 1) := by decide +kernel
theorem dX10_advance_195 : decode cX10_advance 195 = .ok (.dup, 1) := by decide +kernel
theorem dX10_advance_196 : decode cX10_advance 196 = .ok (.getfield 157, 3) := by decide +kernel
theorem dX10_advance_199 : decode cX10_advance 199 = .ok (.iconst 1, 1) := by decide +kernel
theorem dX10_advance_200 : decode cX10_advance 200 = .ok (.iadd, 1) := by decide +kernel
theorem dX10_advance_201 : decode cX10_advance 201 = .ok (.putfield 157, 3) := by decide +kernel
theorem dX10_advance_204 : decode cX10_advance 204 = .ok (.goto (-78), 3) := by decide +kernel
theorem dX10_advance_207 : decode cX10_advance 207 = .ok (.aload_n 0, 1) := by decide +kernel
theorem dX10_advance_208 : decode cX10_advance 208 = .ok (.getfield 172, 3) := by decide +kernel
theorem dX10_advance_211 : decode cX10_advance 211 = .ok (.iconst 2, 1) := by decide +kernel
theorem dX10_advance_212 : decode cX10_advance 212 = .ok (.if_icmp .ne 69, 3) := by decide +kernel
theorem dX10_advance_215 : decode cX10_advance 215 = .ok (.aload_n 0, 1) := by decide +kernel
theorem dX10_advance_216 : decode cX10_advance 216 = .ok (.aload_n 0, 1) := by decide +kernel
theorem dX10_advance_217 : decode cX10_advance 217 = .ok (.getfield 157, 3) := by decide +kernel
theorem dX10_advance_220 : decode cX10_advance 220 = .ok (.invokevirtual 163, 3) := by decide +kernel
theorem dX10_advance_223 : decode cX10_advance 223 = .ok (.invokestatic 169, 3) := by decide +kernel
theorem dX10_advance_226 : decode cX10_advance 226 = .ok (.ifCond .eq 55, 3) := by decide +kernel
theorem dX10_advance_229 : decode cX10_advance 229 = .ok (.aload_n 0, 1) := by decide +kernel
theorem dX10_advance_230 : decode cX10_advance 230 = .ok (.aload_n 0, 1) := by decide +kernel
theorem dX10_advance_231 : decode cX10_advance 231 = .ok (.getfield 179, 3) := by decide +kernel
theorem dX10_advance_234 : decode cX10_advance 234 = .ok (.sipush 999, 3) := by decide +kernel
theorem dX10_advance_237 : decode cX10_advance 237 = .ok (.if_icmp .le 9, 3) := by decide +kernel
theorem dX10_advance_240 : decode cX10_advance 240 = .ok (.sipush 10000, 3) := by decide +kernel
theorem dX10_advance_243 : decode cX10_advance 243 = .ok (.goto 22, 3) := by decide +kernel
theorem dX10_advance_246 : decode cX10_advance 246 = .ok (.bipush 10, 2) := by decide +kernel
theorem dX10_advance_248 : decode cX10_advance 248 = .ok (.aload_n 0, 1) := by decide +kernel
theorem dX10_advance_249 : decode cX10_advance 249 = .ok (.getfield 179, 3) := by decide +kernel
theorem dX10_advance_252 : decode cX10_advance 252 = .ok (.imul, 1) := by decide +kernel
theorem dX10_advance_253 : decode cX10_advance 253 = .ok (.aload_n 0, 1) := by decide +kernel
theorem dX10_advance_254 : decode cX10_advance 254 = .ok (.aload_n 0, 1) := by decide +kernel
theorem dX10_advance_255 : decode cX10_advance 255 = .ok (.getfield 157, 3) := by decide +kernel
theorem dX10_advance_258 : decode cX10_advance 258 = .ok (.invokevirtual 163, 3) := by decide +kernel
theorem dX10_advance_261 : decode cX10_advance 261 = .ok (.iadd, 1) := by decide +kernel
theorem dX10_advance_262 : decode cX10_advance 262 = .ok (.bipush 48, 2) := by decide +kernel
theorem dX10_advance_264 : decode cX10_advance 264 = .ok (.isub, 1) := by decide +kernel
theorem dX10_advance_265 : decode cX10_advance 265 = .ok (.putfield 179, 3) := by decide +kernel
theorem dX10_advance_268 : decode cX10_advance 268 = .ok (.aload_n 0, 1) := by decide +kernel
theorem dX10_advance_269 : decode cX10_advance 269 = .ok (.dup, 1) := by decide +kernel
theorem dX10_advance_270 : decode cX10_advance 270 = .ok (.getfield 157, 3) := by decide +kernel
theorem dX10_advance_273 : decode cX10_advance 273 = .ok (.iconst 1, 1) := by decide +kernel
theorem dX10_advance_274 : decode cX10_advance 274 = .ok (.iadd, 1) := by decide +kernel
theorem dX10_advance_275 : decode cX10_advance 275 = .ok (.putfield 157, 3) := by decide +kernel
theorem dX10_advance_278 : decode cX10_advance 278 = .ok (.goto (-71), 3) := by decide +kernel
theorem dX10_advance_281 : decode cX10_advance 281 = .ok (.return_, 1) := by decide +kernel
theorem dX10_isWord_0 : decode cX10_isWord 0 = .ok (.aload_n 0, 1) := by decide +kernel
theorem dX10_isWord_1 : decode cX10_isWord 1 = .ok (.getfield 172, 3) := by decide +kernel
theorem dX10_isWord_4 : decode cX10_isWord 4 = .ok (.iconst 1, 1) := by decide +kernel
theorem dX10_isWord_5 : decode cX10_isWord 5 = .ok (.if_icmp .ne 16, 3) := by decide +kernel
theorem dX10_isWord_8 : decode cX10_isWord 8 = .ok (.aload_n 0, 1) := by decide +kernel
theorem dX10_isWord_9 : decode cX10_isWord 9 = .ok (.getfield 175, 3) := by decide +kernel
theorem dX10_isWord_12 : decode cX10_isWord 12 = .ok (.lload_n 1, 1) := by decide +kernel
theorem dX10_isWord_13 : decode cX10_isWord 13 = .ok (.lcmp, 1) := by decide +kernel
theorem dX10_isWord_14 : decode cX10_isWord 14 = .ok (.ifCond .ne 7, 3) := by decide +kernel
theorem dX10_isWord_17 : decode cX10_isWord 17 = .ok (.iconst 1, 1) := by decide +kernel
theorem dX10_isWord_18 : decode cX10_isWord 18 = .ok (.goto 4, 3) := by decide +kernel
theorem dX10_isWord_21 : decode cX10_isWord 21 = .ok (.iconst 0, 1) := by decide +kernel
theorem dX10_isWord_22 : decode cX10_isWord 22 = .ok (.ireturn, 1) := by decide +kernel
theorem dX10_kindHere_0 : decode cX10_kindHere 0 = .ok (.aload_n 0, 1) := by decide +kernel
theorem dX10_kindHere_1 : decode cX10_kindHere 1 = .ok (.ldc2_w 188, 3) := by decide +kernel
theorem dX10_kindHere_4 : decode cX10_kindHere 4 = .ok (.invokevirtual 190, 3) := by decide +kernel
theorem dX10_kindHere_7 : decode cX10_kindHere 7 = .ok (.ifCond .eq 7, 3) := by decide +kernel
theorem dX10_kindHere_10 : decode cX10_kindHere 10 = .ok (.iconst 0, 1) := by decide +kernel
theorem dX10_kindHere_11 : decode cX10_kindHere 11 = .ok (.goto 74, 3) := by decide +kernel
theorem dX10_kindHere_14 : decode cX10_kindHere 14 = .ok (.aload_n 0, 1) := by decide +kernel
theorem dX10_kindHere_15 : decode cX10_kindHere 15 = .ok (.ldc2_w 194, 3) := by decide +kernel
theorem dX10_kindHere_18 : decode cX10_kindHere 18 = .ok (.invokevirtual 190, 3) := by decide +kernel
theorem dX10_kindHere_21 : decode cX10_kindHere 21 = .ok (.ifCond .eq 7, 3) := by decide +kernel
theorem dX10_kindHere_24 : decode cX10_kindHere 24 = .ok (.iconst 1, 1) := by decide +kernel
theorem dX10_kindHere_25 : decode cX10_kindHere 25 = .ok (.goto 60, 3) := by decide +kernel
theorem dX10_kindHere_28 : decode cX10_kindHere 28 = .ok (.aload_n 0, 1) := by decide +kernel
theorem dX10_kindHere_29 : decode cX10_kindHere 29 = .ok (.ldc2_w 196, 3) := by decide +kernel
theorem dX10_kindHere_32 : decode cX10_kindHere 32 = .ok (.invokevirtual 190, 3) := by decide +kernel
theorem dX10_kindHere_35 : decode cX10_kindHere 35 = .ok (.ifCond .eq 7, 3) := by decide +kernel
theorem dX10_kindHere_38 : decode cX10_kindHere 38 = .ok (.iconst 2, 1) := by decide +kernel
theorem dX10_kindHere_39 : decode cX10_kindHere 39 = .ok (.goto 46, 3) := by decide +kernel
theorem dX10_kindHere_42 : decode cX10_kindHere 42 = .ok (.aload_n 0, 1) := by decide +kernel
theorem dX10_kindHere_43 : decode cX10_kindHere 43 = .ok (.ldc2_w 198, 3) := by decide +kernel
theorem dX10_kindHere_46 : decode cX10_kindHere 46 = .ok (.invokevirtual 190, 3) := by decide +kernel
theorem dX10_kindHere_49 : decode cX10_kindHere 49 = .ok (.ifCond .eq 7, 3) := by decide +kernel
theorem dX10_kindHere_52 : decode cX10_kindHere 52 = .ok (.iconst 3, 1) := by decide +kernel
theorem dX10_kindHere_53 : decode cX10_kindHere 53 = .ok (.goto 32, 3) := by decide +kernel
theorem dX10_kindHere_56 : decode cX10_kindHere 56 = .ok (.aload_n 0, 1) := by decide +kernel
theorem dX10_kindHere_57 : decode cX10_kindHere 57 = .ok (.ldc2_w 200, 3) := by decide +kernel
theorem dX10_kindHere_60 : decode cX10_kindHere 60 = .ok (.invokevirtual 190, 3) := by decide +kernel
theorem dX10_kindHere_63 : decode cX10_kindHere 63 = .ok (.ifCond .eq 7, 3) := by decide +kernel
theorem dX10_kindHere_66 : decode cX10_kindHere 66 = .ok (.iconst 4, 1) := by decide +kernel
theorem dX10_kindHere_67 : decode cX10_kindHere 67 = .ok (.goto 18, 3) := by decide +kernel
theorem dX10_kindHere_70 : decode cX10_kindHere 70 = .ok (.aload_n 0, 1) := by decide +kernel
theorem dX10_kindHere_71 : decode cX10_kindHere 71 = .ok (.ldc2_w 202, 3) := by decide +kernel
theorem dX10_kindHere_74 : decode cX10_kindHere 74 = .ok (.invokevirtual 190, 3) := by decide +kernel
theorem dX10_kindHere_77 : decode cX10_kindHere 77 = .ok (.ifCond .eq 7, 3) := by decide +kernel
theorem dX10_kindHere_80 : decode cX10_kindHere 80 = .ok (.iconst 5, 1) := by decide +kernel
theorem dX10_kindHere_81 : decode cX10_kindHere 81 = .ok (.goto 4, 3) := by decide +kernel
theorem dX10_kindHere_84 : decode cX10_kindHere 84 = .ok (.iconst (-1), 1) := by decide +kernel
theorem dX10_kindHere_85 : decode cX10_kindHere 85 = .ok (.ireturn, 1) := by decide +kernel
theorem dX10_wantNumber_0 : decode cX10_wantNumber 0 = .ok (.aload_n 0, 1) := by decide +kernel
theorem dX10_wantNumber_1 : decode cX10_wantNumber 1 = .ok (.getfield 179, 3) := by decide +kernel
theorem dX10_wantNumber_4 : decode cX10_wantNumber 4 = .ok (.istore_n 3, 1) := by decide +kernel
theorem dX10_wantNumber_5 : decode cX10_wantNumber 5 = .ok (.aload_n 0, 1) := by decide +kernel
theorem dX10_wantNumber_6 : decode cX10_wantNumber 6 = .ok (.aload_n 0, 1) := by decide +kernel
theorem dX10_wantNumber_7 : decode cX10_wantNumber 7 = .ok (.getfield 204, 3) := by decide +kernel
theorem dX10_wantNumber_10 : decode cX10_wantNumber 10 = .ok (.ifCond .eq 24, 3) := by decide +kernel
theorem dX10_wantNumber_13 : decode cX10_wantNumber 13 = .ok (.aload_n 0, 1) := by decide +kernel
theorem dX10_wantNumber_14 : decode cX10_wantNumber 14 = .ok (.getfield 172, 3) := by decide +kernel
theorem dX10_wantNumber_17 : decode cX10_wantNumber 17 = .ok (.iconst 2, 1) := by decide +kernel
theorem dX10_wantNumber_18 : decode cX10_wantNumber 18 = .ok (.if_icmp .ne 16, 3) := by decide +kernel
theorem dX10_wantNumber_21 : decode cX10_wantNumber 21 = .ok (.iload_n 3, 1) := by decide +kernel
theorem dX10_wantNumber_22 : decode cX10_wantNumber 22 = .ok (.iload_n 1, 1) := by decide +kernel
theorem dX10_wantNumber_23 : decode cX10_wantNumber 23 = .ok (.iload_n 2, 1) := by decide +kernel
theorem dX10_wantNumber_24 : decode cX10_wantNumber 24 = .ok (.invokestatic 47, 3) := by decide +kernel
theorem dX10_wantNumber_27 : decode cX10_wantNumber 27 = .ok (.ifCond .eq 7, 3) := by decide +kernel
theorem dX10_wantNumber_30 : decode cX10_wantNumber 30 = .ok (.iconst 1, 1) := by decide +kernel
theorem dX10_wantNumber_31 : decode cX10_wantNumber 31 = .ok (.goto 4, 3) := by decide +kernel
theorem dX10_wantNumber_34 : decode cX10_wantNumber 34 = .ok (.iconst 0, 1) := by decide +kernel
theorem dX10_wantNumber_35 : decode cX10_wantNumber 35 = .ok (.putfield 204, 3) := by decide +kernel
theorem dX10_wantNumber_38 : decode cX10_wantNumber 38 = .ok (.aload_n 0, 1) := by decide +kernel
theorem dX10_wantNumber_39 : decode cX10_wantNumber 39 = .ok (.getfield 204, 3) := by decide +kernel
theorem dX10_wantNumber_42 : decode cX10_wantNumber 42 = .ok (.ifCond .eq 7, 3) := by decide +kernel
theorem dX10_wantNumber_45 : decode cX10_wantNumber 45 = .ok (.aload_n 0, 1) := by decide +kernel
theorem dX10_wantNumber_46 : decode cX10_wantNumber 46 = .ok (.invokevirtual 208, 3) := by decide +kernel
theorem dX10_wantNumber_49 : decode cX10_wantNumber 49 = .ok (.iload_n 3, 1) := by decide +kernel
theorem dX10_wantNumber_50 : decode cX10_wantNumber 50 = .ok (.ireturn, 1) := by decide +kernel
theorem dX10_mayWant_0 : decode cX10_mayWant 0 = .ok (.aload_n 0, 1) := by decide +kernel
theorem dX10_mayWant_1 : decode cX10_mayWant 1 = .ok (.getfield 204, 3) := by decide +kernel
theorem dX10_mayWant_4 : decode cX10_mayWant 4 = .ok (.ifCond .eq 11, 3) := by decide +kernel
theorem dX10_mayWant_7 : decode cX10_mayWant 7 = .ok (.aload_n 0, 1) := by decide +kernel
theorem dX10_mayWant_8 : decode cX10_mayWant 8 = .ok (.lload_n 1, 1) := by decide +kernel
theorem dX10_mayWant_9 : decode cX10_mayWant 9 = .ok (.invokevirtual 190, 3) := by decide +kernel
theorem dX10_mayWant_12 : decode cX10_mayWant 12 = .ok (.ifCond .ne 6, 3) := by decide +kernel
