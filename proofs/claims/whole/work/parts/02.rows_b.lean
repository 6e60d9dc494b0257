theorem dX8_isDigit_3 : decode cX8_isDigit 3 = .ok (.if_icmp .lt 13, 3) := by decide +kernel
theorem dX8_isDigit_6 : decode cX8_isDigit 6 = .ok (.iload_n 0, 1) := by decide +kernel
theorem dX8_isDigit_7 : decode cX8_isDigit 7 = .ok (.bipush 57, 2) := by decide +kernel
theorem dX8_isDigit_9 : decode cX8_isDigit 9 = .ok (.if_icmp .gt 7, 3) := by decide +kernel
theorem dX8_isDigit_12 : decode cX8_isDigit 12 = .ok (.iconst 1, 1) := by decide +kernel
theorem dX8_isDigit_13 : decode cX8_isDigit 13 = .ok (.goto 4, 3) := by decide +kernel
theorem dX8_isDigit_16 : decode cX8_isDigit 16 = .ok (.iconst 0, 1) := by decide +kernel
theorem dX8_isDigit_17 : decode cX8_isDigit 17 = .ok (.ireturn, 1) := by decide +kernel
theorem dX9_init_0 : decode cX9_init 0 = .ok (.aload_n 0, 1) := by decide +kernel
theorem dX9_init_1 : decode cX9_init 1 = .ok (.invokespecial 3, 3) := by decide +kernel
theorem dX9_init_4 : decode cX9_init 4 = .ok (.bipush 6, 2) := by decide +kernel
theorem dX9_init_6 : decode cX9_init 6 = .ok (.anewarray 9, 3) := by decide +kernel
theorem dX9_init_9 : decode cX9_init 9 = .ok (.dup, 1) := by decide +kernel
theorem dX9_init_10 : decode cX9_init 10 = .ok (.iconst 0, 1) := by decide +kernel
theorem dX9_init_11 : decode cX9_init 11 = .ok (.new 9, 3) := by decide +kernel
theorem dX9_init_14 : decode cX9_init 14 = .ok (.dup, 1) := by decide +kernel
theorem dX9_init_15 : decode cX9_init 15 = .ok (.invokespecial 11, 3) := by decide +kernel
theorem dX9_init_18 : decode cX9_init 18 = .ok (.aastore, 1) := by decide +kernel
theorem dX9_init_19 : decode cX9_init 19 = .ok (.dup, 1) := by decide +kernel
theorem dX9_init_20 : decode cX9_init 20 = .ok (.iconst 1, 1) := by decide +kernel
theorem dX9_init_21 : decode cX9_init 21 = .ok (.new 12, 3) := by decide +kernel
theorem dX9_init_24 : decode cX9_init 24 = .ok (.dup, 1) := by decide +kernel
theorem dX9_init_25 : decode cX9_init 25 = .ok (.invokespecial 14, 3) := by decide +kernel
theorem dX9_init_28 : decode cX9_init 28 = .ok (.aastore, 1) := by decide +kernel
theorem dX9_init_29 : decode cX9_init 29 = .ok (.dup, 1) := by decide +kernel
theorem dX9_init_30 : decode cX9_init 30 = .ok (.iconst 2, 1) := by decide +kernel
theorem dX9_init_31 : decode cX9_init 31 = .ok (.new 15, 3) := by decide +kernel
theorem dX9_init_34 : decode cX9_init 34 = .ok (.dup, 1) := by decide +kernel
theorem dX9_init_35 : decode cX9_init 35 = .ok (.invokespecial 17, 3) := by decide +kernel
theorem dX9_init_38 : decode cX9_init 38 = .ok (.aastore, 1) := by decide +kernel
theorem dX9_init_39 : decode cX9_init 39 = .ok (.dup, 1) := by decide +kernel
theorem dX9_init_40 : decode cX9_init 40 = .ok (.iconst 3, 1) := by decide +kernel
theorem dX9_init_41 : decode cX9_init 41 = .ok (.new 18, 3) := by decide +kernel
theorem dX9_init_44 : decode cX9_init 44 = .ok (.dup, 1) := by decide +kernel
theorem dX9_init_45 : decode cX9_init 45 = .ok (.invokespecial 20, 3) := by decide +kernel
theorem dX9_init_48 : decode cX9_init 48 = .ok (.aastore, 1) := by decide +kernel
theorem dX9_init_49 : decode cX9_init 49 = .ok (.dup, 1) := by decide +kernel
theorem dX9_init_50 : decode cX9_init 50 = .ok (.iconst 4, 1) := by decide +kernel
theorem dX9_init_51 : decode cX9_init 51 = .ok (.new 21, 3) := by decide +kernel
theorem dX9_init_54 : decode cX9_init 54 = .ok (.dup, 1) := by decide +kernel
theorem dX9_init_55 : decode cX9_init 55 = .ok (.invokespecial 23, 3) := by decide +kernel
theorem dX9_init_58 : decode cX9_init 58 = .ok (.aastore, 1) := by decide +kernel
theorem dX9_init_59 : decode cX9_init 59 = .ok (.dup, 1) := by decide +kernel
theorem dX9_init_60 : decode cX9_init 60 = .ok (.iconst 5, 1) := by decide +kernel
theorem dX9_init_61 : decode cX9_init 61 = .ok (.new 24, 3) := by decide +kernel
theorem dX9_init_64 : decode cX9_init 64 = .ok (.dup, 1) := by decide +kernel
theorem dX9_init_65 : decode cX9_init 65 = .ok (.invokespecial 26, 3) := by decide +kernel
theorem dX9_init_68 : decode cX9_init 68 = .ok (.aastore, 1) := by decide +kernel
theorem dX9_init_69 : decode cX9_init 69 = .ok (.astore_n 1, 1) := by decide +kernel
theorem dX9_init_70 : decode cX9_init 70 = .ok (.aload_n 0, 1) := by decide +kernel
theorem dX9_init_71 : decode cX9_init 71 = .ok (.new 27, 3) := by decide +kernel
theorem dX9_init_74 : decode cX9_init 74 = .ok (.dup, 1) := by decide +kernel
theorem dX9_init_75 : decode cX9_init 75 = .ok (.aload_n 1, 1) := by decide +kernel
theorem dX9_init_76 : decode cX9_init 76 = .ok (.invokespecial 29, 3) := by decide +kernel
theorem dX9_init_79 : decode cX9_init 79 = .ok (.putfield 32, 3) := by decide +kernel
theorem dX9_init_82 : decode cX9_init 82 = .ok (.aload_n 0, 1) := by decide +kernel
theorem dX9_init_83 : decode cX9_init 83 = .ok (.new 27, 3) := by decide +kernel
theorem dX9_init_86 : decode cX9_init 86 = .ok (.dup, 1) := by decide +kernel
theorem dX9_init_87 : decode cX9_init 87 = .ok (.aload_n 1, 1) := by decide +kernel
theorem dX9_init_88 : decode cX9_init 88 = .ok (.invokespecial 29, 3) := by decide +kernel
theorem dX9_init_91 : decode cX9_init 91 = .ok (.putfield 36, 3) := by decide +kernel
theorem dX9_init_94 : decode cX9_init 94 = .ok (.aload_n 0, 1) := by decide +kernel
theorem dX9_init_95 : decode cX9_init 95 = .ok (.new 27, 3) := by decide +kernel
theorem dX9_init_98 : decode cX9_init 98 = .ok (.dup, 1) := by decide +kernel
theorem dX9_init_99 : decode cX9_init 99 = .ok (.aload_n 1, 1) := by decide +kernel
theorem dX9_init_100 : decode cX9_init 100 = .ok (.invokespecial 29, 3) := by decide +kernel
theorem dX9_init_103 : decode cX9_init 103 = .ok (.putfield 39, 3) := by decide +kernel
theorem dX9_init_106 : decode cX9_init 106 = .ok (.aload_n 0, 1) := by decide +kernel
theorem dX9_init_107 : decode cX9_init 107 = .ok (.new 42, 3) := by decide +kernel
theorem dX9_init_110 : decode cX9_init 110 = .ok (.dup, 1) := by decide +kernel
theorem dX9_init_111 : decode cX9_init 111 = .ok (.aload_n 1, 1) := by decide +kernel
theorem dX9_init_112 : decode cX9_init 112 = .ok (.invokespecial 44, 3) := by decide +kernel
theorem dX9_init_115 : decode cX9_init 115 = .ok (.putfield 45, 3) := by decide +kernel
theorem dX9_init_118 : decode cX9_init 118 = .ok (.aload_n 0, 1) := by decide +kernel
theorem dX9_init_119 : decode cX9_init 119 = .ok (.iconst 4, 1) := by decide +kernel
theorem dX9_init_120 : decode cX9_init 120 = .ok (.anewarray 49, 3) := by decide +kernel
theorem dX9_init_123 : decode cX9_init 123 = .ok (.dup, 1) := by decide +kernel
theorem dX9_init_124 : decode cX9_init 124 = .ok (.iconst 0, 1) := by decide +kernel
theorem dX9_init_125 : decode cX9_init 125 = .ok (.new 49, 3) := by decide +kernel
theorem dX9_init_128 : decode cX9_init 128 = .ok (.dup, 1) := by decide +kernel
theorem dX9_init_129 : decode cX9_init 129 = .ok (.invokespecial 51, 3) := by decide +kernel
theorem dX9_init_132 : decode cX9_init 132 = .ok (.aastore, 1) := by decide +kernel
theorem dX9_init_133 : decode cX9_init 133 = .ok (.dup, 1) := by decide +kernel
theorem dX9_init_134 : decode cX9_init 134 = .ok (.iconst 1, 1) := by decide +kernel
theorem dX9_init_135 : decode cX9_init 135 = .ok (.new 49, 3) := by decide +kernel
theorem dX9_init_138 : decode cX9_init 138 = .ok (.dup, 1) := by decide +kernel
theorem dX9_init_139 : decode cX9_init 139 = .ok (.invokespecial 51, 3) := by decide +kernel
theorem dX9_init_142 : decode cX9_init 142 = .ok (.aastore, 1) := by decide +kernel
theorem dX9_init_143 : decode cX9_init 143 = .ok (.dup, 1) := by decide +kernel
theorem dX9_init_144 : decode cX9_init 144 = .ok (.iconst 2, 1) := by decide +kernel
theorem dX9_init_145 : decode cX9_init 145 = .ok (.new 49, 3) := by decide +kernel
theorem dX9_init_148 : decode cX9_init 148 = .ok (.dup, 1) := by decide +kernel
theorem dX9_init_149 : decode cX9_init 149 = .ok (.invokespecial 51, 3) := by decide +kernel
theorem dX9_init_152 : decode cX9_init 152 = .ok (.aastore, 1) := by decide +kernel
theorem dX9_init_153 : decode cX9_init 153 = .ok (.dup, 1) := by decide +kernel
theorem dX9_init_154 : decode cX9_init 154 = .ok (.iconst 3, 1) := by decide +kernel
theorem dX9_init_155 : decode cX9_init 155 = .ok (.new 49, 3) := by decide +kernel
theorem dX9_init_158 : decode cX9_init 158 = .ok (.dup, 1) := by decide +kernel
theorem dX9_init_159 : decode cX9_init 159 = .ok (.invokespecial 51, 3) := by decide +kernel
theorem dX9_init_162 : decode cX9_init 162 = .ok (.aastore, 1) := by decide +kernel
theorem dX9_init_163 : decode cX9_init 163 = .ok (.putfield 52, 3) := by decide +kernel
theorem dX9_init_166 : decode cX9_init 166 = .ok (.aload_n 0, 1) := by decide +kernel
theorem dX9_init_167 : decode cX9_init 167 = .ok (.bipush 7, 2) := by decide +kernel
theorem dX9_init_169 : decode cX9_init 169 = .ok (.newarray .int, 2) := by decide +kernel
theorem dX9_init_171 : decode cX9_init 171 = .ok (.putfield 56, 3) := by decide +kernel
theorem dX9_init_174 : decode cX9_init 174 = .ok (.return_, 1) := by decide +kernel
theorem dX9_rock_0 : decode cX9_rock 0 = .ok (.iload_n 1, 1) := by decide +kernel
theorem dX9_rock_1 : decode cX9_rock 1 = .ok (.invokestatic 60, 3) := by decide +kernel
theorem dX9_rock_4 : decode cX9_rock 4 = .ok (.ifCond .eq 13, 3) := by decide +kernel
theorem dX9_rock_7 : decode cX9_rock 7 = .ok (.iload_n 2, 1) := by decide +kernel
theorem dX9_rock_8 : decode cX9_rock 8 = .ok (.iconst 1, 1) := by decide +kernel
theorem dX9_rock_9 : decode cX9_rock 9 = .ok (.bipush 9, 2) := by decide +kernel
theorem dX9_rock_11 : decode cX9_rock 11 = .ok (.invokestatic 64, 3) := by decide +kernel
theorem dX9_rock_14 : decode cX9_rock 14 = .ok (.ifCond .ne 9, 3) := by decide +kernel
theorem dX9_rock_17 : decode cX9_rock 17 = .ok (.aload_n 0, 1) := by decide +kernel
theorem dX9_rock_18 : decode cX9_rock 18 = .ok (.iconst 0, 1) := by decide +kernel
theorem dX9_rock_19 : decode cX9_rock 19 = .ok (.invokevirtual 68, 3) := by decide +kernel
theorem dX9_rock_22 : decode cX9_rock 22 = .ok (.ireturn, 1) := by decide +kernel
theorem dX9_rock_23 : decode cX9_rock 23 = .ok (.aload_n 0, 1) := by decide +kernel
theorem dX9_rock_24 : decode cX9_rock 24 = .ok (.getfield 32, 3) := by decide +kernel
theorem dX9_rock_27 : decode cX9_rock 27 = .ok (.getfield 72, 3) := by decide +kernel
theorem dX9_rock_30 : decode cX9_rock 30 = .ok (.iload_n 1, 1) := by decide +kernel
theorem dX9_rock_31 : decode cX9_rock 31 = .ok (.iaload, 1) := by decide +kernel
theorem dX9_rock_32 : decode cX9_rock 32 = .ok (.istore_n 3, 1) := by decide +kernel
theorem dX9_rock_33 : decode cX9_rock 33 = .ok (.aload_n 0, 1) := by decide +kernel
theorem dX9_rock_34 : decode cX9_rock 34 = .ok (.getfield 32, 3) := by decide +kernel
theorem dX9_rock_37 : decode cX9_rock 37 = .ok (.getfield 72, 3) := by decide +kernel
theorem dX9_rock_40 : decode cX9_rock 40 = .ok (.iload_n 1, 1) := by decide +kernel
theorem dX9_rock_41 : decode cX9_rock 41 = .ok (.iload_n 2, 1) := by decide +kernel
theorem dX9_rock_42 : decode cX9_rock 42 = .ok (.iastore, 1) := by decide +kernel
theorem dX9_rock_43 : decode cX9_rock 43 = .ok (.iload_n 3, 1) := by decide +kernel
theorem dX9_rock_44 : decode cX9_rock 44 = .ok (.ireturn, 1) := by decide +kernel
theorem dX9_let_0 : decode cX9_let 0 = .ok (.iload_n 1, 1) := by decide +kernel
theorem dX9_let_1 : decode cX9_let 1 = .ok (.ifCond .ne 31, 3) := by decide +kernel
theorem dX9_let_4 : decode cX9_let 4 = .ok (.iload_n 2, 1) := by decide +kernel
theorem dX9_let_5 : decode cX9_let 5 = .ok (.iconst 0, 1) := by decide +kernel
theorem dX9_let_6 : decode cX9_let 6 = .ok (.bipush 9, 2) := by decide +kernel
theorem dX9_let_8 : decode cX9_let 8 = .ok (.invokestatic 64, 3) := by decide +kernel
theorem dX9_let_11 : decode cX9_let 11 = .ok (.ifCond .eq 21, 3) := by decide +kernel
theorem dX9_let_14 : decode cX9_let 14 = .ok (.aload_n 0, 1) := by decide +kernel
theorem dX9_let_15 : decode cX9_let 15 = .ok (.getfield 32, 3) := by decide +kernel
theorem dX9_let_18 : decode cX9_let 18 = .ok (.getfield 75, 3) := by decide +kernel
theorem dX9_let_21 : decode cX9_let 21 = .ok (.istore_n 3, 1) := by decide +kernel
theorem dX9_let_22 : decode cX9_let 22 = .ok (.aload_n 0, 1) := by decide +kernel
theorem dX9_let_23 : decode cX9_let 23 = .ok (.getfield 32, 3) := by decide +kernel
theorem dX9_let_26 : decode cX9_let 26 = .ok (.iload_n 2, 1) := by decide +kernel
theorem dX9_let_27 : decode cX9_let 27 = .ok (.putfield 75, 3) := by decide +kernel
theorem dX9_let_30 : decode cX9_let 30 = .ok (.iload_n 3, 1) := by decide +kernel
theorem dX9_let_31 : decode cX9_let 31 = .ok (.ireturn, 1) := by decide +kernel
theorem dX9_let_32 : decode cX9_let 32 = .ok (.iload_n 1, 1) := by decide +kernel
theorem dX9_let_33 : decode cX9_let 33 = .ok (.iconst 1, 1) := by decide +kernel
theorem dX9_let_34 : decode cX9_let 34 = .ok (.if_icmp .ne 31, 3) := by decide +kernel
theorem dX9_let_37 : decode cX9_let 37 = .ok (.iload_n 2, 1) := by decide +kernel
theorem dX9_let_38 : decode cX9_let 38 = .ok (.iconst 0, 1) := by decide +kernel
theorem dX9_let_39 : decode cX9_let 39 = .ok (.bipush 20, 2) := by decide +kernel
theorem dX9_let_41 : decode cX9_let 41 = .ok (.invokestatic 64, 3) := by decide +kernel
theorem dX9_let_44 : decode cX9_let 44 = .ok (.ifCond .eq 21, 3) := by decide +kernel
theorem dX9_let_47 : decode cX9_let 47 = .ok (.aload_n 0, 1) := by decide +kernel
theorem dX9_let_48 : decode cX9_let 48 = .ok (.getfield 32, 3) := by decide +kernel
theorem dX9_let_51 : decode cX9_let 51 = .ok (.getfield 79, 3) := by decide +kernel
theorem dX9_let_54 : decode cX9_let 54 = .ok (.istore_n 3, 1) := by decide +kernel
theorem dX9_let_55 : decode cX9_let 55 = .ok (.aload_n 0, 1) := by decide +kernel
theorem dX9_let_56 : decode cX9_let 56 = .ok (.getfield 32, 3) := by decide +kernel
theorem dX9_let_59 : decode cX9_let 59 = .ok (.iload_n 2, 1) := by decide +kernel
theorem dX9_let_60 : decode cX9_let 60 = .ok (.putfield 79, 3) := by decide +kernel
theorem dX9_let_63 : decode cX9_let 63 = .ok (.iload_n 3, 1) := by decide +kernel
theorem dX9_let_64 : decode cX9_let 64 = .ok (.ireturn, 1) := by decide +kernel
theorem dX9_let_65 : decode cX9_let 65 = .ok (.aload_n 0, 1) := by decide +kernel
theorem dX9_let_66 : decode cX9_let 66 = .ok (.iconst 0, 1) := by decide +kernel
theorem dX9_let_67 : decode cX9_let 67 = .ok (.invokevirtual 68, 3) := by decide +kernel
theorem dX9_let_70 : decode cX9_let 70 = .ok (.ireturn, 1) := by decide +kernel
theorem dX9_fine_0 : decode cX9_fine 0 = .ok (.iload_n 1, 1) := by decide +kernel
theorem dX9_fine_1 : decode cX9_fine 1 = .ok (.invokestatic 82, 3) := by decide +kernel
theorem dX9_fine_4 : decode cX9_fine 4 = .ok (.ifCond .eq 20, 3) := by decide +kernel
theorem dX9_fine_7 : decode cX9_fine 7 = .ok (.iload_n 2, 1) := by decide +kernel
theorem dX9_fine_8 : decode cX9_fine 8 = .ok (.iconst 1, 1) := by decide +kernel
theorem dX9_fine_9 : decode cX9_fine 9 = .ok (.bipush 40, 2) := by decide +kernel
theorem dX9_fine_11 : decode cX9_fine 11 = .ok (.invokestatic 64, 3) := by decide +kernel
theorem dX9_fine_14 : decode cX9_fine 14 = .ok (.ifCond .eq 10, 3) := by decide +kernel
theorem dX9_fine_17 : decode cX9_fine 17 = .ok (.iload_n 3, 1) := by decide +kernel
theorem dX9_fine_18 : decode cX9_fine 18 = .ok (.invokestatic 60, 3) := by decide +kernel
theorem dX9_fine_21 : decode cX9_fine 21 = .ok (.ifCond .ne 9, 3) := by decide +kernel
theorem dX9_fine_24 : decode cX9_fine 24 = .ok (.aload_n 0, 1) := by decide +kernel
theorem dX9_fine_25 : decode cX9_fine 25 = .ok (.iconst 0, 1) := by decide +kernel
theorem dX9_fine_26 : decode cX9_fine 26 = .ok (.invokevirtual 68, 3) := by decide +kernel
theorem dX9_fine_29 : decode cX9_fine 29 = .ok (.ireturn, 1) := by decide +kernel
theorem dX9_fine_30 : decode cX9_fine 30 = .ok (.aload_n 0, 1) := by decide +kernel
theorem dX9_fine_31 : decode cX9_fine 31 = .ok (.getfield 32, 3) := by decide +kernel
theorem dX9_fine_34 : decode cX9_fine 34 = .ok (.invokevirtual 85, 3) := by decide +kernel
theorem dX9_fine_37 : decode cX9_fine 37 = .ok (.ifCond .eq 9, 3) := by decide +kernel
theorem dX9_fine_40 : decode cX9_fine 40 = .ok (.aload_n 0, 1) := by decide +kernel
theorem dX9_fine_41 : decode cX9_fine 41 = .ok (.iconst 1, 1) := by decide +kernel
theorem dX9_fine_42 : decode cX9_fine 42 = .ok (.invokevirtual 68, 3) := by decide +kernel
theorem dX9_fine_45 : decode cX9_fine 45 = .ok (.ireturn, 1) := by decide +kernel
theorem dX9_fine_46 : decode cX9_fine 46 = .ok (.aload_n 0, 1) := by decide +kernel
theorem dX9_fine_47 : decode cX9_fine 47 = .ok (.getfield 32, 3) := by decide +kernel
theorem dX9_fine_50 : decode cX9_fine 50 = .ok (.iload_n 1, 1) := by decide +kernel
theorem dX9_fine_51 : decode cX9_fine 51 = .ok (.iload_n 2, 1) := by decide +kernel
theorem dX9_fine_52 : decode cX9_fine 52 = .ok (.iload_n 3, 1) := by decide +kernel
theorem dX9_fine_53 : decode cX9_fine 53 = .ok (.iconst 3, 1) := by decide +kernel
theorem dX9_fine_54 : decode cX9_fine 54 = .ok (.invokevirtual 89, 3) := by decide +kernel
theorem dX9_fine_57 : decode cX9_fine 57 = .ok (.aload_n 0, 1) := by decide +kernel
theorem dX9_fine_58 : decode cX9_fine 58 = .ok (.getfield 32, 3) := by decide +kernel
theorem dX9_fine_61 : decode cX9_fine 61 = .ok (.getfield 93, 3) := by decide +kernel
theorem dX9_fine_64 : decode cX9_fine 64 = .ok (.iconst 1, 1) := by decide +kernel
theorem dX9_fine_65 : decode cX9_fine 65 = .ok (.isub, 1) := by decide +kernel
theorem dX9_fine_66 : decode cX9_fine 66 = .ok (.ireturn, 1) := by decide +kernel
theorem dX9_of_0 : decode cX9_of 0 = .ok (.aload_n 0, 1) := by decide +kernel
theorem dX9_of_1 : decode cX9_of 1 = .ok (.getfield 32, 3) := by decide +kernel
theorem dX9_of_4 : decode cX9_of 4 = .ok (.iload_n 1, 1) := by decide +kernel
theorem dX9_of_5 : decode cX9_of 5 = .ok (.invokevirtual 96, 3) := by decide +kernel
theorem dX9_of_8 : decode cX9_of 8 = .ok (.ifCond .ne 9, 3) := by decide +kernel
theorem dX9_of_11 : decode cX9_of 11 = .ok (.aload_n 0, 1) := by decide +kernel
theorem dX9_of_12 : decode cX9_of 12 = .ok (.iconst 0, 1) := by decide +kernel
theorem dX9_of_13 : decode cX9_of 13 = .ok (.invokevirtual 68, 3) := by decide +kernel
theorem dX9_of_16 : decode cX9_of 16 = .ok (.ireturn, 1) := by decide +kernel
theorem dX9_of_17 : decode cX9_of 17 = .ok (.iload_n 2, 1) := by decide +kernel
theorem dX9_of_18 : decode cX9_of 18 = .ok (.tableswitch 132 0 7 #[46, 56, 66, 76, 86, 96, 105, 123], 46) := by decide +kernel
theorem dX9_of_64 : decode cX9_of 64 = .ok (.aload_n 0, 1) := by decide +kernel
theorem dX9_of_65 : decode cX9_of 65 = .ok (.getfield 32, 3) := by decide +kernel
theorem dX9_of_68 : decode cX9_of 68 = .ok (.getfield 99, 3) := by decide +kernel
theorem dX9_of_71 : decode cX9_of 71 = .ok (.iload_n 1, 1) := by decide +kernel
theorem dX9_of_72 : decode cX9_of 72 = .ok (.iaload, 1) := by decide +kernel
theorem dX9_of_73 : decode cX9_of 73 = .ok (.ireturn, 1) := by decide +kernel
theorem dX9_of_74 : decode cX9_of 74 = .ok (.aload_n 0, 1) := by decide +kernel
theorem dX9_of_75 : decode cX9_of 75 = .ok (.getfield 32, 3) := by decide +kernel
theorem dX9_of_78 : decode cX9_of 78 = .ok (.getfield 102, 3) := by decide +kernel
theorem dX9_of_81 : decode cX9_of 81 = .ok (.iload_n 1, 1) := by decide +kernel
theorem dX9_of_82 : decode cX9_of 82 = .ok (.iaload, 1) := by decide +kernel
theorem dX9_of_83 : decode cX9_of 83 = .ok (.ireturn, 1) := by decide +kernel
theorem dX9_of_84 : decode cX9_of 84 = .ok (.aload_n 0, 1) := by decide +kernel
theorem dX9_of_85 : decode cX9_of 85 = .ok (.getfield 32, 3) := by decide +kernel
theorem dX9_of_88 : decode cX9_of 88 = .ok (.getfield 105, 3) := by decide +kernel
theorem dX9_of_91 : decode cX9_of 91 = .ok (.iload_n 1, 1) := by decide +kernel
theorem dX9_of_92 : decode cX9_of 92 = .ok (.iaload, 1) := by decide +kernel
theorem dX9_of_93 : decode cX9_of 93 = .ok (.ireturn, 1) := by decide +kernel
theorem dX9_of_94 : decode cX9_of 94 = .ok (.aload_n 0, 1) := by decide +kernel
theorem dX9_of_95 : decode cX9_of 95 = .ok (.getfield 32, 3) := by decide +kernel
theorem dX9_of_98 : decode cX9_of 98 = .ok (.getfield 108, 3) := by decide +kernel
theorem dX9_of_101 : decode cX9_of 101 = .ok (.iload_n 1, 1) := by decide +kernel
theorem dX9_of_102 : decode cX9_of 102 = .ok (.iaload, 1) := by decide +kernel
theorem dX9_of_103 : decode cX9_of 103 = .ok (.ireturn, 1) := by decide +kernel
theorem dX9_of_104 : decode cX9_of 104 = .ok (.aload_n 0, 1) := by decide +kernel
theorem dX9_of_105 : decode cX9_of 105 = .ok (.getfield 32, 3) := by decide +kernel
theorem dX9_of_108 : decode cX9_of 108 = .ok (.getfield 111, 3) := by decide +kernel
theorem dX9_of_111 : decode cX9_of 111 = .ok (.iload_n 1, 1) := by decide +kernel
theorem dX9_of_112 : decode cX9_of 112 = .ok (.iaload, 1) := by decide +kernel
theorem dX9_of_113 : decode cX9_of 113 = .ok (.ireturn, 1) := by decide +kernel
theorem dX9_of_114 : decode cX9_of 114 = .ok (.aload_n 0, 1) := by decide +kernel
theorem dX9_of_115 : decode cX9_of 115 = .ok (.getfield 32, 3) := by decide +kernel
theorem dX9_of_118 : decode cX9_of 118 = .ok (.iload_n 1, 1) := by decide +kernel
theorem dX9_of_119 : decode cX9_of 119 = .ok (.invokevirtual 114, 3) := by decide +kernel
theorem dX9_of_122 : decode cX9_of 122 = .ok (.ireturn, 1) := by decide +kernel
theorem dX9_of_123 : decode cX9_of 123 = .ok (.aload_n 0, 1) := by decide +kernel
theorem dX9_of_124 : decode cX9_of 124 = .ok (.getfield 32, 3) := by decide +kernel
theorem dX9_of_127 : decode cX9_of 127 = .ok (.iload_n 1, 1) := by decide +kernel
theorem dX9_of_128 : decode cX9_of 128 = .ok (.aload_n 0, 1) := by decide +kernel
theorem dX9_of_129 : decode cX9_of 129 = .ok (.getfield 32, 3) := by decide +kernel
theorem dX9_of_132 : decode cX9_of 132 = .ok (.getfield 105, 3) := by decide +kernel
theorem dX9_of_135 : decode cX9_of 135 = .ok (.iload_n 1, 1) := by decide +kernel
theorem dX9_of_136 : decode cX9_of 136 = .ok (.iaload, 1) := by decide +kernel
theorem dX9_of_137 : decode cX9_of 137 = .ok (.invokevirtual 117, 3) := by decide +kernel
theorem dX9_of_140 : decode cX9_of 140 = .ok (.ireturn, 1) := by decide +kernel
theorem dX9_of_141 : decode cX9_of 141 = .ok (.aload_n 0, 1) := by decide +kernel
theorem dX9_of_142 : decode cX9_of 142 = .ok (.getfield 32, 3) := by decide +kernel
theorem dX9_of_145 : decode cX9_of 145 = .ok (.iload_n 1, 1) := by decide +kernel
theorem dX9_of_146 : decode cX9_of 146 = .ok (.invokevirtual 121, 3) := by decide +kernel
theorem dX9_of_149 : decode cX9_of 149 = .ok (.ireturn, 1) := by decide +kernel
theorem dX9_of_150 : decode cX9_of 150 = .ok (.aload_n 0, 1) := by decide +kernel
theorem dX9_of_151 : decode cX9_of 151 = .ok (.iconst 0, 1) := by decide +kernel
theorem dX9_of_152 : decode cX9_of 152 = .ok (.invokevirtual 68, 3) := by decide +kernel
theorem dX9_of_155 : decode cX9_of 155 = .ok (.ireturn, 1) := by decide +kernel
theorem dX9_set_0 : decode cX9_set 0 = .ok (.aload_n 0, 1) := by decide +kernel
theorem dX9_set_1 : decode cX9_set 1 = .ok (.getfield 32, 3) := by decide +kernel
theorem dX9_set_4 : decode cX9_set 4 = .ok (.iload_n 1, 1) := by decide +kernel
theorem dX9_set_5 : decode cX9_set 5 = .ok (.invokevirtual 96, 3) := by decide +kernel
theorem dX9_set_8 : decode cX9_set 8 = .ok (.ifCond .ne 9, 3) := by decide +kernel
theorem dX9_set_11 : decode cX9_set 11 = .ok (.aload_n 0, 1) := by decide +kernel
theorem dX9_set_12 : decode cX9_set 12 = .ok (.iconst 0, 1) := by decide +kernel
theorem dX9_set_13 : decode cX9_set 13 = .ok (.invokevirtual 68, 3) := by decide +kernel
theorem dX9_set_16 : decode cX9_set 16 = .ok (.ireturn, 1) := by decide +kernel
theorem dX9_set_17 : decode cX9_set 17 = .ok (.iload_n 2, 1) := by decide +kernel
theorem dX9_set_18 : decode cX9_set 18 = .ok (.iconst 1, 1) := by decide +kernel
theorem dX9_set_19 : decode cX9_set 19 = .ok (.if_icmp .ne 37, 3) := by decide +kernel
theorem dX9_set_22 : decode cX9_set 22 = .ok (.iload_n 3, 1) := by decide +kernel
theorem dX9_set_23 : decode cX9_set 23 = .ok (.iconst 0, 1) := by decide +kernel
theorem dX9_set_24 : decode cX9_set 24 = .ok (.bipush 40, 2) := by decide +kernel
theorem dX9_set_26 : decode cX9_set 26 = .ok (.invokestatic 64, 3) := by decide +kernel
theorem dX9_set_29 : decode cX9_set 29 = .ok (.ifCond .eq 27, 3) := by decide +kernel
theorem dX9_set_32 : decode cX9_set 32 = .ok (.aload_n 0, 1) := by decide +kernel
theorem dX9_set_33 : decode cX9_set 33 = .ok (.getfield 32, 3) := by decide +kernel
theorem dX9_set_36 : decode cX9_set 36 = .ok (.getfield 102, 3) := by decide +kernel
theorem dX9_set_39 : decode cX9_set 39 = .ok (.iload_n 1, 1) := by decide +kernel
theorem dX9_set_40 : decode cX9_set 40 = .ok (.iaload, 1) := by decide +kernel
theorem dX9_set_41 : decode cX9_set 41 = .ok (.istore 4, 2) := by decide +kernel
theorem dX9_set_43 : decode cX9_set 43 = .ok (.aload_n 0, 1) := by decide +kernel
theorem dX9_set_44 : decode cX9_set 44 = .ok (.getfield 32, 3) := by decide +kernel
theorem dX9_set_47 : decode cX9_set 47 = .ok (.getfield 102, 3) := by decide +kernel
theorem dX9_set_50 : decode cX9_set 50 = .ok (.iload_n 1, 1) := by decide +kernel
theorem dX9_set_51 : decode cX9_set 51 = .ok (.iload_n 3, 1) := by decide +kernel
theorem dX9_set_52 : decode cX9_set 52 = .ok (.iastore, 1) := by decide +kernel
theorem dX9_set_53 : decode cX9_set 53 = .ok (.iload 4, 2) := by decide +kernel
theorem dX9_set_55 : decode cX9_set 55 = .ok (.ireturn, 1) := by decide +kernel
theorem dX9_set_56 : decode cX9_set 56 = .ok (.iload_n 2, 1) := by decide +kernel
theorem dX9_set_57 : decode cX9_set 57 = .ok (.iconst 2, 1) := by decide +kernel
theorem dX9_set_58 : decode cX9_set 58 = .ok (.if_icmp .ne 33, 3) := by decide +kernel
theorem dX9_set_61 : decode cX9_set 61 = .ok (.iload_n 3, 1) := by decide +kernel
theorem dX9_set_62 : decode cX9_set 62 = .ok (.invokestatic 60, 3) := by decide +kernel
theorem dX9_set_65 : decode cX9_set 65 = .ok (.ifCond .eq 26, 3) := by decide +kernel
theorem dX9_set_68 : decode cX9_set 68 = .ok (.aload_n 0, 1) := by decide +kernel
theorem dX9_set_69 : decode cX9_set 69 = .ok (.getfield 32, 3) := by decide +kernel
theorem dX9_set_72 : decode cX9_set 72 = .ok (.getfield 105, 3) := by decide +kernel
theorem dX9_set_75 : decode cX9_set 75 = .ok (.iload_n 1, 1) := by decide +kernel
theorem dX9_set_76 : decode cX9_set 76 = .ok (.iaload, 1) := by decide +kernel
theorem dX9_set_77 : decode cX9_set 77 = .ok (.istore 4, 2) := by decide +kernel
theorem dX9_set_79 : decode cX9_set 79 = .ok (.aload_n 0, 1) := by decide +kernel
theorem dX9_set_80 : decode cX9_set 80 = .ok (.getfield 32, 3) := by decide +kernel
theorem dX9_set_83 : decode cX9_set 83 = .ok (.iload_n 1, 1) := by decide +kernel
theorem dX9_set_84 : decode cX9_set 84 = .ok (.iload_n 3, 1) := by decide +kernel
theorem dX9_set_85 : decode cX9_set 85 = .ok (.invokevirtual 124, 3) := by decide +kernel
theorem dX9_set_88 : decode cX9_set 88 = .ok (.iload 4, 2) := by decide +kernel
theorem dX9_set_90 : decode cX9_set 90 = .ok (.ireturn, 1) := by decide +kernel
theorem dX9_set_91 : decode cX9_set 91 = .ok (.iload_n 2, 1) := by decide +kernel
theorem dX9_set_92 : decode cX9_set 92 = .ok (.iconst 3, 1) := by decide +kernel
theorem dX9_set_93 : decode cX9_set 93 = .ok (.if_icmp .ne 37, 3) := by decide +kernel
theorem dX9_set_96 : decode cX9_set 96 = .ok (.iload_n 3, 1) := by decide +kernel
theorem dX9_set_97 : decode cX9_set 97 = .ok (.iconst 1, 1) := by decide +kernel
theorem dX9_set_98 : decode cX9_set 98 = .ok (.bipush 9, 2) := by decide +kernel
theorem dX9_set_100 : decode cX9_set 100 = .ok (.invokestatic 64, 3) := by decide +kernel
theorem dX9_set_103 : decode cX9_set 103 = .ok (.ifCond .eq 27, 3) := by decide +kernel
theorem dX9_set_106 : decode cX9_set 106 = .ok (.aload_n 0, 1) := by decide +kernel
theorem dX9_set_107 : decode cX9_set 107 = .ok (.getfield 32, 3) := by decide +kernel
theorem dX9_set_110 : decode cX9_set 110 = .ok (.getfield 108, 3) := by decide +kernel
theorem dX9_set_113 : decode cX9_set 113 = .ok (.iload_n 1, 1) := by decide +kernel
theorem dX9_set_114 : decode cX9_set 114 = .ok (.iaload, 1) := by decide +kernel
theorem dX9_set_115 : decode cX9_set 115 = .ok (.istore 4, 2) := by decide +kernel
theorem dX9_set_117 : decode cX9_set 117 = .ok (.aload_n 0, 1) := by decide +kernel
theorem dX9_set_118 : decode cX9_set 118 = .ok (.getfield 32, 3) := by decide +kernel
theorem dX9_set_121 : decode cX9_set 121 = .ok (.getfield 108, 3) := by decide +kernel
theorem dX9_set_124 : decode cX9_set 124 = .ok (.iload_n 1, 1) := by decide +kernel
theorem dX9_set_125 : decode cX9_set 125 = .ok (.iload_n 3, 1) := by decide +kernel
theorem dX9_set_126 : decode cX9_set 126 = .ok (.iastore, 1) := by decide +kernel
theorem dX9_set_127 : decode cX9_set 127 = .ok (.iload 4, 2) := by decide +kernel
theorem dX9_set_129 : decode cX9_set 129 = .ok (.ireturn, 1) := by decide +kernel
theorem dX9_set_130 : decode cX9_set 130 = .ok (.aload_n 0, 1) := by decide +kernel
theorem dX9_set_131 : decode cX9_set 131 = .ok (.iconst 0, 1) := by decide +kernel
theorem dX9_set_132 : decode cX9_set 132 = .ok (.invokevirtual 68, 3) := by decide +kernel
theorem dX9_set_135 : decode cX9_set 135 = .ok (.ireturn, 1) := by decide +kernel
theorem dX9_turn_0 : decode cX9_turn 0 = .ok (.aload_n 0, 1) := by decide +kernel
theorem dX9_turn_1 : decode cX9_turn 1 = .ok (.getfield 32, 3) := by decide +kernel
theorem dX9_turn_4 : decode cX9_turn 4 = .ok (.iload_n 1, 1) := by decide +kernel
theorem dX9_turn_5 : decode cX9_turn 5 = .ok (.invokevirtual 96, 3) := by decide +kernel
theorem dX9_turn_8 : decode cX9_turn 8 = .ok (.ifCond .eq 10, 3) := by decide +kernel
theorem dX9_turn_11 : decode cX9_turn 11 = .ok (.iload_n 2, 1) := by decide +kernel
theorem dX9_turn_12 : decode cX9_turn 12 = .ok (.invokestatic 82, 3) := by decide +kernel
theorem dX9_turn_15 : decode cX9_turn 15 = .ok (.ifCond .ne 9, 3) := by decide +kernel
theorem dX9_turn_18 : decode cX9_turn 18 = .ok (.aload_n 0, 1) := by decide +kernel
theorem dX9_turn_19 : decode cX9_turn 19 = .ok (.iconst 0, 1) := by decide +kernel
theorem dX9_turn_20 : decode cX9_turn 20 = .ok (.invokevirtual 68, 3) := by decide +kernel
theorem dX9_turn_23 : decode cX9_turn 23 = .ok (.ireturn, 1) := by decide +kernel
theorem dX9_turn_24 : decode cX9_turn 24 = .ok (.aload_n 0, 1) := by decide +kernel
theorem dX9_turn_25 : decode cX9_turn 25 = .ok (.getfield 32, 3) := by decide +kernel
theorem dX9_turn_28 : decode cX9_turn 28 = .ok (.getfield 99, 3) := by decide +kernel
theorem dX9_turn_31 : decode cX9_turn 31 = .ok (.iload_n 1, 1) := by decide +kernel
theorem dX9_turn_32 : decode cX9_turn 32 = .ok (.iaload, 1) := by decide +kernel
theorem dX9_turn_33 : decode cX9_turn 33 = .ok (.istore_n 3, 1) := by decide +kernel
theorem dX9_turn_34 : decode cX9_turn 34 = .ok (.aload_n 0, 1) := by decide +kernel
theorem dX9_turn_35 : decode cX9_turn 35 = .ok (.getfield 32, 3) := by decide +kernel
theorem dX9_turn_38 : decode cX9_turn 38 = .ok (.getfield 99, 3) := by decide +kernel
theorem dX9_turn_41 : decode cX9_turn 41 = .ok (.iload_n 1, 1) := by decide +kernel
theorem dX9_turn_42 : decode cX9_turn 42 = .ok (.iload_n 2, 1) := by decide +kernel
theorem dX9_turn_43 : decode cX9_turn 43 = .ok (.iastore, 1) := by decide +kernel
theorem dX9_turn_44 : decode cX9_turn 44 = .ok (.iload_n 3, 1) := by decide +kernel
theorem dX9_turn_45 : decode cX9_turn 45 = .ok (.ireturn, 1) := by decide +kernel
theorem dX9_as_0 : decode cX9_as 0 = .ok (.aload_n 0, 1) := by decide +kernel
theorem dX9_as_1 : decode cX9_as 1 = .ok (.getfield 32, 3) := by decide +kernel
theorem dX9_as_4 : decode cX9_as 4 = .ok (.iload_n 1, 1) := by decide +kernel
theorem dX9_as_5 : decode cX9_as 5 = .ok (.invokevirtual 96, 3) := by decide +kernel
theorem dX9_as_8 : decode cX9_as 8 = .ok (.ifCond .eq 10, 3) := by decide +kernel
theorem dX9_as_11 : decode cX9_as 11 = .ok (.iload_n 2, 1) := by decide +kernel
theorem dX9_as_12 : decode cX9_as 12 = .ok (.invokestatic 82, 3) := by decide +kernel
theorem dX9_as_15 : decode cX9_as 15 = .ok (.ifCond .ne 9, 3) := by decide +kernel
theorem dX9_as_18 : decode cX9_as 18 = .ok (.aload_n 0, 1) := by decide +kernel
theorem dX9_as_19 : decode cX9_as 19 = .ok (.iconst 0, 1) := by decide +kernel
theorem dX9_as_20 : decode cX9_as 20 = .ok (.invokevirtual 68, 3) := by decide +kernel
theorem dX9_as_23 : decode cX9_as 23 = .ok (.ireturn, 1) := by decide +kernel
theorem dX9_as_24 : decode cX9_as 24 = .ok (.aload_n 0, 1) := by decide +kernel
theorem dX9_as_25 : decode cX9_as 25 = .ok (.getfield 32, 3) := by decide +kernel
theorem dX9_as_28 : decode cX9_as 28 = .ok (.iload_n 1, 1) := by decide +kernel
theorem dX9_as_29 : decode cX9_as 29 = .ok (.invokevirtual 128, 3) := by decide +kernel
theorem dX9_as_32 : decode cX9_as 32 = .ok (.iload_n 2, 1) := by decide +kernel
theorem dX9_as_33 : decode cX9_as 33 = .ok (.invokestatic 132, 3) := by decide +kernel
theorem dX9_as_36 : decode cX9_as 36 = .ok (.ifCond .ne 9, 3) := by decide +kernel
theorem dX9_as_39 : decode cX9_as 39 = .ok (.aload_n 0, 1) := by decide +kernel
theorem dX9_as_40 : decode cX9_as 40 = .ok (.iconst 2, 1) := by decide +kernel
theorem dX9_as_41 : decode cX9_as 41 = .ok (.invokevirtual 68, 3) := by decide +kernel
theorem dX9_as_44 : decode cX9_as 44 = .ok (.ireturn, 1) := by decide +kernel
theorem dX9_as_45 : decode cX9_as 45 = .ok (.aload_n 0, 1) := by decide +kernel
theorem dX9_as_46 : decode cX9_as 46 = .ok (.getfield 32, 3) := by decide +kernel
theorem dX9_as_49 : decode cX9_as 49 = .ok (.getfield 102, 3) := by decide +kernel
theorem dX9_as_52 : decode cX9_as 52 = .ok (.iload_n 1, 1) := by decide +kernel
theorem dX9_as_53 : decode cX9_as 53 = .ok (.iaload, 1) := by decide +kernel
theorem dX9_as_54 : decode cX9_as 54 = .ok (.ireturn, 1) := by decide +kernel
theorem dX9_placeOf_0 : decode cX9_placeOf 0 = .ok (.iload_n 1, 1) := by decide +kernel
theorem dX9_placeOf_1 : decode cX9_placeOf 1 = .ok (.invokestatic 60, 3) := by decide +kernel
theorem dX9_placeOf_4 : decode cX9_placeOf 4 = .ok (.ifCond .eq 12, 3) := by decide +kernel
theorem dX9_placeOf_7 : decode cX9_placeOf 7 = .ok (.iload_n 2, 1) := by decide +kernel
theorem dX9_placeOf_8 : decode cX9_placeOf 8 = .ok (.iconst 0, 1) := by decide +kernel
theorem dX9_placeOf_9 : decode cX9_placeOf 9 = .ok (.iconst 4, 1) := by decide +kernel
theorem dX9_placeOf_10 : decode cX9_placeOf 10 = .ok (.invokestatic 64, 3) := by decide +kernel
theorem dX9_placeOf_13 : decode cX9_placeOf 13 = .ok (.ifCond .ne 9, 3) := by decide +kernel
theorem dX9_placeOf_16 : decode cX9_placeOf 16 = .ok (.aload_n 0, 1) := by decide +kernel
theorem dX9_placeOf_17 : decode cX9_placeOf 17 = .ok (.iconst 0, 1) := by decide +kernel
theorem dX9_placeOf_18 : decode cX9_placeOf 18 = .ok (.invokevirtual 68, 3) := by decide +kernel
theorem dX9_placeOf_21 : decode cX9_placeOf 21 = .ok (.ireturn, 1) := by decide +kernel
theorem dX9_placeOf_22 : decode cX9_placeOf 22 = .ok (.iload_n 2, 1) := by decide +kernel
theorem dX9_placeOf_23 : decode cX9_placeOf 23 = .ok (.ifCond .ne 13, 3) := by decide +kernel
theorem dX9_placeOf_26 : decode cX9_placeOf 26 = .ok (.aload_n 0, 1) := by decide +kernel
theorem dX9_placeOf_27 : decode cX9_placeOf 27 = .ok (.getfield 32, 3) := by decide +kernel
theorem dX9_placeOf_30 : decode cX9_placeOf 30 = .ok (.getfield 72, 3) := by decide +kernel
theorem dX9_placeOf_33 : decode cX9_placeOf 33 = .ok (.iload_n 1, 1) := by decide +kernel
theorem dX9_placeOf_34 : decode cX9_placeOf 34 = .ok (.iaload, 1) := by decide +kernel
theorem dX9_placeOf_35 : decode cX9_placeOf 35 = .ok (.ireturn, 1) := by decide +kernel
theorem dX9_placeOf_36 : decode cX9_placeOf 36 = .ok (.iload_n 2, 1) := by decide +kernel
theorem dX9_placeOf_37 : decode cX9_placeOf 37 = .ok (.iconst 1, 1) := by decide +kernel
theorem dX9_placeOf_38 : decode cX9_placeOf 38 = .ok (.if_icmp .ne 20, 3) := by decide +kernel
theorem dX9_placeOf_41 : decode cX9_placeOf 41 = .ok (.aload_n 0, 1) := by decide +kernel
theorem dX9_placeOf_42 : decode cX9_placeOf 42 = .ok (.getfield 32, 3) := by decide +kernel
theorem dX9_placeOf_45 : decode cX9_placeOf 45 = .ok (.iload_n 1, 1) := by decide +kernel
theorem dX9_placeOf_46 : decode cX9_placeOf 46 = .ok (.invokevirtual 136, 3) := by decide +kernel
theorem dX9_placeOf_49 : decode cX9_placeOf 49 = .ok (.ifCond .eq 7, 3) := by decide +kernel
theorem dX9_placeOf_52 : decode cX9_placeOf 52 = .ok (.iconst 1, 1) := by decide +kernel
theorem dX9_placeOf_53 : decode cX9_placeOf 53 = .ok (.goto 4, 3) := by decide +kernel
theorem dX9_placeOf_56 : decode cX9_placeOf 56 = .ok (.iconst 0, 1) := by decide +kernel
theorem dX9_placeOf_57 : decode cX9_placeOf 57 = .ok (.ireturn, 1) := by decide +kernel
theorem dX9_placeOf_58 : decode cX9_placeOf 58 = .ok (.aload_n 0, 1) := by decide +kernel
theorem dX9_placeOf_59 : decode cX9_placeOf 59 = .ok (.getfield 32, 3) := by decide +kernel
theorem dX9_placeOf_62 : decode cX9_placeOf 62 = .ok (.iload_n 1, 1) := by decide +kernel
theorem dX9_placeOf_63 : decode cX9_placeOf 63 = .ok (.invokevirtual 136, 3) := by decide +kernel
theorem dX9_placeOf_66 : decode cX9_placeOf 66 = .ok (.ifCond .ne 9, 3) := by decide +kernel
theorem dX9_placeOf_69 : decode cX9_placeOf 69 = .ok (.aload_n 0, 1) := by decide +kernel
theorem dX9_placeOf_70 : decode cX9_placeOf 70 = .ok (.iconst 4, 1) := by decide +kernel
theorem dX9_placeOf_71 : decode cX9_placeOf 71 = .ok (.invokevirtual 68, 3) := by decide +kernel
theorem dX9_placeOf_74 : decode cX9_placeOf 74 = .ok (.ireturn, 1) := by decide +kernel
theorem dX9_placeOf_75 : decode cX9_placeOf 75 = .ok (.iload_n 2, 1) := by decide +kernel
theorem dX9_placeOf_76 : decode cX9_placeOf 76 = .ok (.iconst 2, 1) := by decide +kernel
theorem dX9_placeOf_77 : decode cX9_placeOf 77 = .ok (.if_icmp .ne 13, 3) := by decide +kernel
theorem dX9_placeOf_80 : decode cX9_placeOf 80 = .ok (.aload_n 0, 1) := by decide +kernel
theorem dX9_placeOf_81 : decode cX9_placeOf 81 = .ok (.getfield 32, 3) := by decide +kernel
theorem dX9_placeOf_84 : decode cX9_placeOf 84 = .ok (.getfield 139, 3) := by decide +kernel
theorem dX9_placeOf_87 : decode cX9_placeOf 87 = .ok (.iload_n 1, 1) := by decide +kernel
theorem dX9_placeOf_88 : decode cX9_placeOf 88 = .ok (.iaload, 1) := by decide +kernel
theorem dX9_placeOf_89 : decode cX9_placeOf 89 = .ok (.ireturn, 1) := by decide +kernel
theorem dX9_placeOf_90 : decode cX9_placeOf 90 = .ok (.iload_n 2, 1) := by decide +kernel
theorem dX9_placeOf_91 : decode cX9_placeOf 91 = .ok (.iconst 3, 1) := by decide +kernel
theorem dX9_placeOf_92 : decode cX9_placeOf 92 = .ok (.if_icmp .ne 15, 3) := by decide +kernel
theorem dX9_placeOf_95 : decode cX9_placeOf 95 = .ok (.aload_n 0, 1) := by decide +kernel
theorem dX9_placeOf_96 : decode cX9_placeOf 96 = .ok (.getfield 32, 3) := by decide +kernel
theorem dX9_placeOf_99 : decode cX9_placeOf 99 = .ok (.getfield 142, 3) := by decide +kernel
theorem dX9_placeOf_102 : decode cX9_placeOf 102 = .ok (.iload_n 1, 1) := by decide +kernel
theorem dX9_placeOf_103 : decode cX9_placeOf 103 = .ok (.iaload, 1) := by decide +kernel
theorem dX9_placeOf_104 : decode cX9_placeOf 104 = .ok (.goto 12, 3) := by decide +kernel
theorem dX9_placeOf_107 : decode cX9_placeOf 107 = .ok (.aload_n 0, 1) := by decide +kernel
theorem dX9_placeOf_108 : decode cX9_placeOf 108 = .ok (.getfield 32, 3) := by decide +kernel
theorem dX9_placeOf_111 : decode cX9_placeOf 111 = .ok (.getfield 145, 3) := by decide +kernel
theorem dX9_placeOf_114 : decode cX9_placeOf 114 = .ok (.iload_n 1, 1) := by decide +kernel
theorem dX9_placeOf_115 : decode cX9_placeOf 115 = .ok (.iaload, 1) := by decide +kernel
theorem dX9_placeOf_116 : decode cX9_placeOf 116 = .ok (.ireturn, 1) := by decide +kernel
theorem dX9_whole_0 : decode cX9_whole 0 = .ok (.aload_n 0, 1) := by decide +kernel
theorem dX9_whole_1 : decode cX9_whole 1 = .ok (.getfield 32, 3) := by decide +kernel
theorem dX9_whole_4 : decode cX9_whole 4 = .ok (.getfield 148, 3) := by decide +kernel
theorem dX9_whole_7 : decode cX9_whole 7 = .ok (.lreturn, 1) := by decide +kernel
theorem dX9_make_0 : decode cX9_make 0 = .ok (.iload_n 1, 1) := by decide +kernel
theorem dX9_make_1 : decode cX9_make 1 = .ok (.invokestatic 60, 3) := by decide +kernel
theorem dX9_make_4 : decode cX9_make 4 = .ok (.ifCond .eq 14, 3) := by decide +kernel
theorem dX9_make_7 : decode cX9_make 7 = .ok (.aload_n 0, 1) := by decide +kernel
theorem dX9_make_8 : decode cX9_make 8 = .ok (.getfield 32, 3) := by decide +kernel
theorem dX9_make_11 : decode cX9_make 11 = .ok (.iload_n 3, 1) := by decide +kernel
theorem dX9_make_12 : decode cX9_make 12 = .ok (.invokevirtual 96, 3) := by decide +kernel
theorem dX9_make_15 : decode cX9_make 15 = .ok (.ifCond .ne 9, 3) := by decide +kernel
theorem dX9_make_18 : decode cX9_make 18 = .ok (.aload_n 0, 1) := by decide +kernel
theorem dX9_make_19 : decode cX9_make 19 = .ok (.iconst 0, 1) := by decide +kernel
theorem dX9_make_20 : decode cX9_make 20 = .ok (.invokevirtual 68, 3) := by decide +kernel
theorem dX9_make_23 : decode cX9_make 23 = .ok (.ireturn, 1) := by decide +kernel
theorem dX9_make_24 : decode cX9_make 24 = .ok (.aload_n 0, 1) := by decide +kernel
theorem dX9_make_25 : decode cX9_make 25 = .ok (.getfield 32, 3) := by decide +kernel
theorem dX9_make_28 : decode cX9_make 28 = .ok (.iload_n 1, 1) := by decide +kernel
theorem dX9_make_29 : decode cX9_make 29 = .ok (.invokevirtual 136, 3) := by decide +kernel
theorem dX9_make_32 : decode cX9_make 32 = .ok (.iload_n 2, 1) := by decide +kernel
theorem dX9_make_33 : decode cX9_make 33 = .ok (.if_icmp .ne 5, 3) := by decide +kernel
theorem dX9_make_36 : decode cX9_make 36 = .ok (.iconst 0, 1) := by decide +kernel
theorem dX9_make_37 : decode cX9_make 37 = .ok (.ireturn, 1) := by decide +kernel
theorem dX9_make_38 : decode cX9_make 38 = .ok (.iload_n 2, 1) := by decide +kernel
theorem dX9_make_39 : decode cX9_make 39 = .ok (.ifCond .eq 17, 3) := by decide +kernel
theorem dX9_make_42 : decode cX9_make 42 = .ok (.aload_n 0, 1) := by decide +kernel
theorem dX9_make_43 : decode cX9_make 43 = .ok (.getfield 32, 3) := by decide +kernel
theorem dX9_make_46 : decode cX9_make 46 = .ok (.iload_n 1, 1) := by decide +kernel
theorem dX9_make_47 : decode cX9_make 47 = .ok (.bipush 10, 2) := by decide +kernel
theorem dX9_make_49 : decode cX9_make 49 = .ok (.iload_n 3, 1) := by decide +kernel
theorem dX9_make_50 : decode cX9_make 50 = .ok (.invokevirtual 152, 3) := by decide +kernel
theorem dX9_make_53 : decode cX9_make 53 = .ok (.goto 11, 3) := by decide +kernel
theorem dX9_make_56 : decode cX9_make 56 = .ok (.aload_n 0, 1) := by decide +kernel
theorem dX9_make_57 : decode cX9_make 57 = .ok (.getfield 32, 3) := by decide +kernel
theorem dX9_make_60 : decode cX9_make 60 = .ok (.iload_n 1, 1) := by decide +kernel
theorem dX9_make_61 : decode cX9_make 61 = .ok (.invokevirtual 156, 3) := by decide +kernel
theorem dX9_make_64 : decode cX9_make 64 = .ok (.iconst 1, 1) := by decide +kernel
theorem dX9_make_65 : decode cX9_make 65 = .ok (.ireturn, 1) := by decide +kernel
theorem dX9_reach_0 : decode cX9_reach 0 = .ok (.aload_n 0, 1) := by decide +kernel
theorem dX9_reach_1 : decode cX9_reach 1 = .ok (.getfield 32, 3) := by decide +kernel
theorem dX9_reach_4 : decode cX9_reach 4 = .ok (.invokevirtual 160, 3) := by decide +kernel
theorem dX9_reach_7 : decode cX9_reach 7 = .ok (.ireturn, 1) := by decide +kernel
theorem dX9_faults_0 : decode cX9_faults 0 = .ok (.lconst 0, 1) := by decide +kernel
theorem dX9_faults_1 : decode cX9_faults 1 = .ok (.lstore_n 1, 1) := by decide +kernel
theorem dX9_faults_2 : decode cX9_faults 2 = .ok (.iconst 1, 1) := by decide +kernel
theorem dX9_faults_3 : decode cX9_faults 3 = .ok (.istore_n 3, 1) := by decide +kernel
theorem dX9_faults_4 : decode cX9_faults 4 = .ok (.iload_n 3, 1) := by decide +kernel
theorem dX9_faults_5 : decode cX9_faults 5 = .ok (.bipush 40, 2) := by decide +kernel
theorem dX9_faults_7 : decode cX9_faults 7 = .ok (.if_icmp .ge 44, 3) := by decide +kernel
theorem dX9_faults_10 : decode cX9_faults 10 = .ok (.aload_n 0, 1) := by decide +kernel
theorem dX9_faults_11 : decode cX9_faults 11 = .ok (.getfield 32, 3) := by decide +kernel
theorem dX9_faults_14 : decode cX9_faults 14 = .ok (.iload_n 3, 1) := by decide +kernel
theorem dX9_faults_15 : decode cX9_faults 15 = .ok (.invokevirtual 164, 3) := by decide +kernel
theorem dX9_faults_18 : decode cX9_faults 18 = .ok (.ifCond .eq 27, 3) := by decide +kernel
theorem dX9_faults_21 : decode cX9_faults 21 = .ok (.aload_n 0, 1) := by decide +kernel
theorem dX9_faults_22 : decode cX9_faults 22 = .ok (.getfield 32, 3) := by decide +kernel
theorem dX9_faults_25 : decode cX9_faults 25 = .ok (.iload_n 3, 1) := by decide +kernel
theorem dX9_faults_26 : decode cX9_faults 26 = .ok (.aload_n 0, 1) := by decide +kernel
theorem dX9_faults_27 : decode cX9_faults 27 = .ok (.getfield 32, 3) := by decide +kernel
theorem dX9_faults_30 : decode cX9_faults 30 = .ok (.getfield 79, 3) := by decide +kernel
theorem dX9_faults_33 : decode cX9_faults 33 = .ok (.invokevirtual 167, 3) := by decide +kernel
theorem dX9_faults_36 : decode cX9_faults 36 = .ok (.ifCond .ne 9, 3) := by decide +kernel
theorem dX9_faults_39 : decode cX9_faults 39 = .ok (.lload_n 1, 1) := by decide +kernel
theorem dX9_faults_40 : decode cX9_faults 40 = .ok (.lconst 1, 1) := by decide +kernel
theorem dX9_faults_41 : decode cX9_faults 41 = .ok (.iload_n 3, 1) := by decide +kernel
theorem dX9_faults_42 : decode cX9_faults 42 = .ok (.lshl, 1) := by decide +kernel
theorem dX9_faults_43 : decode cX9_faults 43 = .ok (.lor, 1) := by decide +kernel
theorem dX9_faults_44 : decode cX9_faults 44 = .ok (.lstore_n 1, 1) := by decide +kernel
theorem dX9_faults_45 : decode cX9_faults 45 = .ok (.iinc 3 1, 3) := by decide +kernel
theorem dX9_faults_48 : decode cX9_faults 48 = .ok (.goto (-44), 3) := by decide +kernel
theorem dX9_faults_51 : decode cX9_faults 51 = .ok (.lload_n 1, 1) := by decide +kernel
theorem dX9_faults_52 : decode cX9_faults 52 = .ok (.lreturn, 1) := by decide +kernel
theorem dX9_years_0 : decode cX9_years 0 = .ok (.aload_n 0, 1) := by decide +kernel
theorem dX9_years_1 : decode cX9_years 1 = .ok (.iload_n 1, 1) := by decide +kernel
theorem dX9_years_2 : decode cX9_years 2 = .ok (.iconst 1, 1) := by decide +kernel
theorem dX9_years_3 : decode cX9_years 3 = .ok (.sipush 200, 3) := by decide +kernel
theorem dX9_years_6 : decode cX9_years 6 = .ok (.invokevirtual 171, 3) := by decide +kernel
theorem dX9_years_9 : decode cX9_years 9 = .ok (.istore_n 2, 1) := by decide +kernel
theorem dX9_years_10 : decode cX9_years 10 = .ok (.iload_n 2, 1) := by decide +kernel
theorem dX9_years_11 : decode cX9_years 11 = .ok (.ifCond .eq 5, 3) := by decide +kernel
theorem dX9_years_14 : decode cX9_years 14 = .ok (.iload_n 2, 1) := by decide +kernel
theorem dX9_years_15 : decode cX9_years 15 = .ok (.ireturn, 1) := by decide +kernel
theorem dX9_years_16 : decode cX9_years 16 = .ok (.aload_n 0, 1) := by decide +kernel
theorem dX9_years_17 : decode cX9_years 17 = .ok (.getfield 32, 3) := by decide +kernel
theorem dX9_years_20 : decode cX9_years 20 = .ok (.iload_n 1, 1) := by decide +kernel
theorem dX9_years_21 : decode cX9_years 21 = .ok (.invokevirtual 175, 3) := by decide +kernel
theorem dX9_years_24 : decode cX9_years 24 = .ok (.aload_n 0, 1) := by decide +kernel
theorem dX9_years_25 : decode cX9_years 25 = .ok (.getfield 32, 3) := by decide +kernel
theorem dX9_years_28 : decode cX9_years 28 = .ok (.invokevirtual 178, 3) := by decide +kernel
theorem dX9_years_31 : decode cX9_years 31 = .ok (.ireturn, 1) := by decide +kernel
theorem dX9_seed_0 : decode cX9_seed 0 = .ok (.aload_n 0, 1) := by decide +kernel
theorem dX9_seed_1 : decode cX9_seed 1 = .ok (.getfield 32, 3) := by decide +kernel
theorem dX9_seed_4 : decode cX9_seed 4 = .ok (.getfield 181, 3) := by decide +kernel
theorem dX9_seed_7 : decode cX9_seed 7 = .ok (.istore_n 2, 1) := by decide +kernel
theorem dX9_seed_8 : decode cX9_seed 8 = .ok (.aload_n 0, 1) := by decide +kernel
theorem dX9_seed_9 : decode cX9_seed 9 = .ok (.getfield 32, 3) := by decide +kernel
theorem dX9_seed_12 : decode cX9_seed 12 = .ok (.iload_n 1, 1) := by decide +kernel
theorem dX9_seed_13 : decode cX9_seed 13 = .ok (.putfield 181, 3) := by decide +kernel
theorem dX9_seed_16 : decode cX9_seed 16 = .ok (.iload_n 2, 1) := by decide +kernel
theorem dX9_seed_17 : decode cX9_seed 17 = .ok (.ireturn, 1) := by decide +kernel
theorem dX9_now_0 : decode cX9_now 0 = .ok (.iload_n 1, 1) := by decide +kernel
theorem dX9_now_1 : decode cX9_now 1 = .ok (.tableswitch 75 0 4 #[35, 43, 51, 59, 67], 35) := by decide +kernel
theorem dX9_now_36 : decode cX9_now 36 = .ok (.aload_n 0, 1) := by decide +kernel
theorem dX9_now_37 : decode cX9_now 37 = .ok (.getfield 32, 3) := by decide +kernel
theorem dX9_now_40 : decode cX9_now 40 = .ok (.getfield 184, 3) := by decide +kernel
theorem dX9_now_43 : decode cX9_now 43 = .ok (.ireturn, 1) := by decide +kernel
theorem dX9_now_44 : decode cX9_now 44 = .ok (.aload_n 0, 1) := by decide +kernel
theorem dX9_now_45 : decode cX9_now 45 = .ok (.getfield 32, 3) := by decide +kernel
theorem dX9_now_48 : decode cX9_now 48 = .ok (.getfield 75, 3) := by decide +kernel
theorem dX9_now_51 : decode cX9_now 51 = .ok (.ireturn, 1) := by decide +kernel
theorem dX9_now_52 : decode cX9_now 52 = .ok (.aload_n 0, 1) := by decide +kernel
theorem dX9_now_53 : decode cX9_now 53 = .ok (.getfield 32, 3) := by decide +kernel
theorem dX9_now_56 : decode cX9_now 56 = .ok (.getfield 79, 3) := by decide +kernel
theorem dX9_now_59 : decode cX9_now 59 = .ok (.ireturn, 1) := by decide +kernel
theorem dX9_now_60 : decode cX9_now 60 = .ok (.aload_n 0, 1) := by decide +kernel
theorem dX9_now_61 : decode cX9_now 61 = .ok (.getfield 32, 3) := by decide +kernel
theorem dX9_now_64 : decode cX9_now 64 = .ok (.invokevirtual 178, 3) := by decide +kernel
theorem dX9_now_67 : decode cX9_now 67 = .ok (.ireturn, 1) := by decide +kernel
theorem dX9_now_68 : decode cX9_now 68 = .ok (.aload_n 0, 1) := by decide +kernel
theorem dX9_now_69 : decode cX9_now 69 = .ok (.getfield 32, 3) := by decide +kernel
theorem dX9_now_72 : decode cX9_now 72 = .ok (.invokevirtual 187, 3) := by decide +kernel
theorem dX9_now_75 : decode cX9_now 75 = .ok (.ireturn, 1) := by decide +kernel
theorem dX9_now_76 : decode cX9_now 76 = .ok (.aload_n 0, 1) := by decide +kernel
theorem dX9_now_77 : decode cX9_now 77 = .ok (.iconst 0, 1) := by decide +kernel
theorem dX9_now_78 : decode cX9_now 78 = .ok (.invokevirtual 68, 3) := by decide +kernel
theorem dX9_now_81 : decode cX9_now 81 = .ok (.ireturn, 1) := by decide +kernel
theorem dX9_on_0 : decode cX9_on 0 = .ok (.aload_n 0, 1) := by decide +kernel
theorem dX9_on_1 : decode cX9_on 1 = .ok (.iload_n 1, 1) := by decide +kernel
theorem dX9_on_2 : decode cX9_on 2 = .ok (.iconst 0, 1) := by decide +kernel
theorem dX9_on_3 : decode cX9_on 3 = .ok (.sipush 200, 3) := by decide +kernel
theorem dX9_on_6 : decode cX9_on 6 = .ok (.invokevirtual 171, 3) := by decide +kernel
theorem dX9_on_9 : decode cX9_on 9 = .ok (.istore_n 2, 1) := by decide +kernel
theorem dX9_on_10 : decode cX9_on 10 = .ok (.iload_n 2, 1) := by decide +kernel
theorem dX9_on_11 : decode cX9_on 11 = .ok (.ifCond .eq 6, 3) := by decide +kernel
theorem dX9_on_14 : decode cX9_on 14 = .ok (.iload_n 2, 1) := by decide +kernel
theorem dX9_on_15 : decode cX9_on 15 = .ok (.i2l, 1) := by decide +kernel
theorem dX9_on_16 : decode cX9_on 16 = .ok (.lreturn, 1) := by decide +kernel
theorem dX9_on_17 : decode cX9_on 17 = .ok (.aload_n 0, 1) := by decide +kernel
theorem dX9_on_18 : decode cX9_on 18 = .ok (.invokevirtual 190, 3) := by decide +kernel
theorem dX9_on_21 : decode cX9_on 21 = .ok (.aload_n 0, 1) := by decide +kernel
theorem dX9_on_22 : decode cX9_on 22 = .ok (.getfield 36, 3) := by decide +kernel
theorem dX9_on_25 : decode cX9_on 25 = .ok (.iload_n 1, 1) := by decide +kernel
theorem dX9_on_26 : decode cX9_on 26 = .ok (.invokevirtual 175, 3) := by decide +kernel
theorem dX9_on_29 : decode cX9_on 29 = .ok (.aload_n 0, 1) := by decide +kernel
theorem dX9_on_30 : decode cX9_on 30 = .ok (.getfield 36, 3) := by decide +kernel
theorem dX9_on_33 : decode cX9_on 33 = .ok (.getfield 148, 3) := by decide +kernel
theorem dX9_on_36 : decode cX9_on 36 = .ok (.lreturn, 1) := by decide +kernel
theorem dX9_reachOn_0 : decode cX9_reachOn 0 = .ok (.aload_n 0, 1) := by decide +kernel
theorem dX9_reachOn_1 : decode cX9_reachOn 1 = .ok (.iload_n 1, 1) := by decide +kernel
theorem dX9_reachOn_2 : decode cX9_reachOn 2 = .ok (.iconst 0, 1) := by decide +kernel
theorem dX9_reachOn_3 : decode cX9_reachOn 3 = .ok (.sipush 200, 3) := by decide +kernel
theorem dX9_reachOn_6 : decode cX9_reachOn 6 = .ok (.invokevirtual 171, 3) := by decide +kernel
theorem dX9_reachOn_9 : decode cX9_reachOn 9 = .ok (.istore_n 2, 1) := by decide +kernel
theorem dX9_reachOn_10 : decode cX9_reachOn 10 = .ok (.iload_n 2, 1) := by decide +kernel
theorem dX9_reachOn_11 : decode cX9_reachOn 11 = .ok (.ifCond .eq 5, 3) := by decide +kernel
theorem dX9_reachOn_14 : decode cX9_reachOn 14 = .ok (.iload_n 2, 1) := by decide +kernel
theorem dX9_reachOn_15 : decode cX9_reachOn 15 = .ok (.ireturn, 1) := by decide +kernel
theorem dX9_reachOn_16 : decode cX9_reachOn 16 = .ok (.aload_n 0, 1) := by decide +kernel
theorem dX9_reachOn_17 : decode cX9_reachOn 17 = .ok (.invokevirtual 190, 3) := by decide +kernel
theorem dX9_reachOn_20 : decode cX9_reachOn 20 = .ok (.aload_n 0, 1) := by decide +kernel
theorem dX9_reachOn_21 : decode cX9_reachOn 21 = .ok (.getfield 36, 3) := by decide +kernel
theorem dX9_reachOn_24 : decode cX9_reachOn 24 = .ok (.iload_n 1, 1) := by decide +kernel
theorem dX9_reachOn_25 : decode cX9_reachOn 25 = .ok (.invokevirtual 175, 3) := by decide +kernel
theorem dX9_reachOn_28 : decode cX9_reachOn 28 = .ok (.aload_n 0, 1) := by decide +kernel
theorem dX9_reachOn_29 : decode cX9_reachOn 29 = .ok (.getfield 36, 3) := by decide +kernel
theorem dX9_reachOn_32 : decode cX9_reachOn 32 = .ok (.invokevirtual 160, 3) := by decide +kernel
theorem dX9_reachOn_35 : decode cX9_reachOn 35 = .ok (.ireturn, 1) := by decide +kernel
theorem dX9_pass_0 : decode cX9_pass 0 = .ok (.aload_n 0, 1) := by decide +kernel
theorem dX9_pass_1 : decode cX9_pass 1 = .ok (.sipush 200, 3) := by decide +kernel
theorem dX9_pass_4 : decode cX9_pass 4 = .ok (.invokevirtual 193, 3) := by decide +kernel
theorem dX9_pass_7 : decode cX9_pass 7 = .ok (.ifCond .eq 9, 3) := by decide +kernel
theorem dX9_pass_10 : decode cX9_pass 10 = .ok (.aload_n 0, 1) := by decide +kernel
theorem dX9_pass_11 : decode cX9_pass 11 = .ok (.iconst 4, 1) := by decide +kernel
theorem dX9_pass_12 : decode cX9_pass 12 = .ok (.invokevirtual 68, 3) := by decide +kernel
theorem dX9_pass_15 : decode cX9_pass 15 = .ok (.ireturn, 1) := by decide +kernel
theorem dX9_pass_16 : decode cX9_pass 16 = .ok (.aload_n 0, 1) := by decide +kernel
theorem dX9_pass_17 : decode cX9_pass 17 = .ok (.invokevirtual 190, 3) := by decide +kernel
theorem dX9_pass_20 : decode cX9_pass 20 = .ok (.iconst 0, 1) := by decide +kernel
theorem dX9_pass_21 : decode cX9_pass 21 = .ok (.istore_n 1, 1) := by decide +kernel
theorem dX9_pass_22 : decode cX9_pass 22 = .ok (.iload_n 1, 1) := by decide +kernel
theorem dX9_pass_23 : decode cX9_pass 23 = .ok (.sipush 200, 3) := by decide +kernel
theorem dX9_pass_26 : decode cX9_pass 26 = .ok (.if_icmp .gt 31, 3) := by decide +kernel
theorem dX9_pass_29 : decode cX9_pass 29 = .ok (.aload_n 0, 1) := by decide +kernel
theorem dX9_pass_30 : decode cX9_pass 30 = .ok (.getfield 36, 3) := by decide +kernel
theorem dX9_pass_33 : decode cX9_pass 33 = .ok (.invokevirtual 160, 3) := by decide +kernel
theorem dX9_pass_36 : decode cX9_pass 36 = .ok (.bipush 40, 2) := by decide +kernel
theorem dX9_pass_38 : decode cX9_pass 38 = .ok (.if_icmp .ne 5, 3) := by decide +kernel
theorem dX9_pass_41 : decode cX9_pass 41 = .ok (.iload_n 1, 1) := by decide +kernel
theorem dX9_pass_42 : decode cX9_pass 42 = .ok (.ireturn, 1) := by decide +kernel
theorem dX9_pass_43 : decode cX9_pass 43 = .ok (.aload_n 0, 1) := by decide +kernel
theorem dX9_pass_44 : decode cX9_pass 44 = .ok (.getfield 36, 3) := by decide +kernel
theorem dX9_pass_47 : decode cX9_pass 47 = .ok (.iconst 1, 1) := by decide +kernel
theorem dX9_pass_48 : decode cX9_pass 48 = .ok (.invokevirtual 175, 3) := by decide +kernel
theorem dX9_pass_51 : decode cX9_pass 51 = .ok (.iinc 1 1, 3) := by decide +kernel
theorem dX9_pass_54 : decode cX9_pass 54 = .ok (.goto (-32), 3) := by decide +kernel
theorem dX9_pass_57 : decode cX9_pass 57 = .ok (.aload_n 0, 1) := by decide +kernel
theorem dX9_pass_58 : decode cX9_pass 58 = .ok (.iconst 3, 1) := by decide +kernel
theorem dX9_pass_59 : decode cX9_pass 59 = .ok (.invokevirtual 68, 3) := by decide +kernel
theorem dX9_pass_62 : decode cX9_pass 62 = .ok (.ireturn, 1) := by decide +kernel
theorem dX9_paid_0 : decode cX9_paid 0 = .ok (.aload_n 0, 1) := by decide +kernel
theorem dX9_paid_1 : decode cX9_paid 1 = .ok (.getfield 32, 3) := by decide +kernel
theorem dX9_paid_4 : decode cX9_paid 4 = .ok (.iload_n 1, 1) := by decide +kernel
theorem dX9_paid_5 : decode cX9_paid 5 = .ok (.invokevirtual 96, 3) := by decide +kernel
theorem dX9_paid_8 : decode cX9_paid 8 = .ok (.ifCond .ne 9, 3) := by decide +kernel
theorem dX9_paid_11 : decode cX9_paid 11 = .ok (.aload_n 0, 1) := by decide +kernel
theorem dX9_paid_12 : decode cX9_paid 12 = .ok (.iconst 0, 1) := by decide +kernel
theorem dX9_paid_13 : decode cX9_paid 13 = .ok (.invokevirtual 68, 3) := by decide +kernel
theorem dX9_paid_16 : decode cX9_paid 16 = .ok (.ireturn, 1) := by decide +kernel
theorem dX9_paid_17 : decode cX9_paid 17 = .ok (.aload_n 0, 1) := by decide +kernel
theorem dX9_paid_18 : decode cX9_paid 18 = .ok (.sipush 200, 3) := by decide +kernel
theorem dX9_paid_21 : decode cX9_paid 21 = .ok (.invokevirtual 193, 3) := by decide +kernel
theorem dX9_paid_24 : decode cX9_paid 24 = .ok (.ifCond .eq 9, 3) := by decide +kernel
theorem dX9_paid_27 : decode cX9_paid 27 = .ok (.aload_n 0, 1) := by decide +kernel
theorem dX9_paid_28 : decode cX9_paid 28 = .ok (.iconst 4, 1) := by decide +kernel
theorem dX9_paid_29 : decode cX9_paid 29 = .ok (.invokevirtual 68, 3) := by decide +kernel
theorem dX9_paid_32 : decode cX9_paid 32 = .ok (.ireturn, 1) := by decide +kernel
theorem dX9_paid_33 : decode cX9_paid 33 = .ok (.aload_n 0, 1) := by decide +kernel
theorem dX9_paid_34 : decode cX9_paid 34 = .ok (.invokevirtual 190, 3) := by decide +kernel
theorem dX9_paid_37 : decode cX9_paid 37 = .ok (.iconst 0, 1) := by decide +kernel
theorem dX9_paid_38 : decode cX9_paid 38 = .ok (.istore_n 2, 1) := by decide +kernel
theorem dX9_paid_39 : decode cX9_paid 39 = .ok (.iload_n 2, 1) := by decide +kernel
theorem dX9_paid_40 : decode cX9_paid 40 = .ok (.sipush 200, 3) := by decide +kernel
theorem dX9_paid_43 : decode cX9_paid 43 = .ok (.if_icmp .gt 31, 3) := by decide +kernel
theorem dX9_paid_46 : decode cX9_paid 46 = .ok (.aload_n 0, 1) := by decide +kernel
theorem dX9_paid_47 : decode cX9_paid 47 = .ok (.getfield 36, 3) := by decide +kernel
theorem dX9_paid_50 : decode cX9_paid 50 = .ok (.getfield 102, 3) := by decide +kernel
theorem dX9_paid_53 : decode cX9_paid 53 = .ok (.iload_n 1, 1) := by decide +kernel
theorem dX9_paid_54 : decode cX9_paid 54 = .ok (.iaload, 1) := by decide +kernel
theorem dX9_paid_55 : decode cX9_paid 55 = .ok (.ifCond .ne 5, 3) := by decide +kernel
theorem dX9_paid_58 : decode cX9_paid 58 = .ok (.iload_n 2, 1) := by decide +kernel
theorem dX9_paid_59 : decode cX9_paid 59 = .ok (.ireturn, 1) := by decide +kernel
theorem dX9_paid_60 : decode cX9_paid 60 = .ok (.aload_n 0, 1) := by decide +kernel
theorem dX9_paid_61 : decode cX9_paid 61 = .ok (.getfield 36, 3) := by decide +kernel
theorem dX9_paid_64 : decode cX9_paid 64 = .ok (.iconst 1, 1) := by decide +kernel
theorem dX9_paid_65 : decode cX9_paid 65 = .ok (.invokevirtual 175, 3) := by decide +kernel
theorem dX9_paid_68 : decode cX9_paid 68 = .ok (.iinc 2 1, 3) := by decide +kernel
theorem dX9_paid_71 : decode cX9_paid 71 = .ok (.goto (-32), 3) := by decide +kernel
theorem dX9_paid_74 : decode cX9_paid 74 = .ok (.aload_n 0, 1) := by decide +kernel
theorem dX9_paid_75 : decode cX9_paid 75 = .ok (.iconst 3, 1) := by decide +kernel
theorem dX9_paid_76 : decode cX9_paid 76 = .ok (.invokevirtual 68, 3) := by decide +kernel
theorem dX9_paid_79 : decode cX9_paid 79 = .ok (.ireturn, 1) := by decide +kernel
theorem dX9_farthest_0 : decode cX9_farthest 0 = .ok (.aload_n 0, 1) := by decide +kernel
theorem dX9_farthest_1 : decode cX9_farthest 1 = .ok (.iload_n 1, 1) := by decide +kernel
theorem dX9_farthest_2 : decode cX9_farthest 2 = .ok (.iconst 0, 1) := by decide +kernel
theorem dX9_farthest_3 : decode cX9_farthest 3 = .ok (.sipush 200, 3) := by decide +kernel
theorem dX9_farthest_6 : decode cX9_farthest 6 = .ok (.invokevirtual 171, 3) := by decide +kernel
theorem dX9_farthest_9 : decode cX9_farthest 9 = .ok (.istore_n 2, 1) := by decide +kernel
theorem dX9_farthest_10 : decode cX9_farthest 10 = .ok (.iload_n 2, 1) := by decide +kernel
theorem dX9_farthest_11 : decode cX9_farthest 11 = .ok (.ifCond .eq 5, 3) := by decide +kernel
theorem dX9_farthest_14 : decode cX9_farthest 14 = .ok (.iload_n 2, 1) := by decide +kernel
theorem dX9_farthest_15 : decode cX9_farthest 15 = .ok (.ireturn, 1) := by decide +kernel
theorem dX9_farthest_16 : decode cX9_farthest 16 = .ok (.aload_n 0, 1) := by decide +kernel
theorem dX9_farthest_17 : decode cX9_farthest 17 = .ok (.invokevirtual 190, 3) := by decide +kernel
theorem dX9_farthest_20 : decode cX9_farthest 20 = .ok (.aload_n 0, 1) := by decide +kernel
theorem dX9_farthest_21 : decode cX9_farthest 21 = .ok (.getfield 36, 3) := by decide +kernel
theorem dX9_farthest_24 : decode cX9_farthest 24 = .ok (.invokevirtual 160, 3) := by decide +kernel
theorem dX9_farthest_27 : decode cX9_farthest 27 = .ok (.istore_n 3, 1) := by decide +kernel
theorem dX9_farthest_28 : decode cX9_farthest 28 = .ok (.iconst 1, 1) := by decide +kernel
theorem dX9_farthest_29 : decode cX9_farthest 29 = .ok (.istore 4, 2) := by decide +kernel
theorem dX9_farthest_31 : decode cX9_farthest 31 = .ok (.iload 4, 2) := by decide +kernel
theorem dX9_farthest_33 : decode cX9_farthest 33 = .ok (.iload_n 1, 1) := by decide +kernel
theorem dX9_farthest_34 : decode cX9_farthest 34 = .ok (.if_icmp .gt 29, 3) := by decide +kernel
theorem dX9_farthest_37 : decode cX9_farthest 37 = .ok (.aload_n 0, 1) := by decide +kernel
theorem dX9_farthest_38 : decode cX9_farthest 38 = .ok (.getfield 36, 3) := by decide +kernel
theorem dX9_farthest_41 : decode cX9_farthest 41 = .ok (.iconst 1, 1) := by decide +kernel
theorem dX9_farthest_42 : decode cX9_farthest 42 = .ok (.invokevirtual 175, 3) := by decide +kernel
theorem dX9_farthest_45 : decode cX9_farthest 45 = .ok (.iload_n 3, 1) := by decide +kernel
theorem dX9_farthest_46 : decode cX9_farthest 46 = .ok (.aload_n 0, 1) := by decide +kernel
theorem dX9_farthest_47 : decode cX9_farthest 47 = .ok (.getfield 36, 3) := by decide +kernel
theorem dX9_farthest_50 : decode cX9_farthest 50 = .ok (.invokevirtual 160, 3) := by decide +kernel
theorem dX9_farthest_53 : decode cX9_farthest 53 = .ok (.invokestatic 196, 3) := by decide +kernel
theorem dX9_farthest_56 : decode cX9_farthest 56 = .ok (.istore_n 3, 1) := by decide +kernel
theorem dX9_farthest_57 : decode cX9_farthest 57 = .ok (.iinc 4 1, 3) := by decide +kernel
theorem dX9_farthest_60 : decode cX9_farthest 60 = .ok (.goto (-29), 3) := by decide +kernel
theorem dX9_farthest_63 : decode cX9_farthest 63 = .ok (.iload_n 3, 1) := by decide +kernel
theorem dX9_farthest_64 : decode cX9_farthest 64 = .ok (.ireturn, 1) := by decide +kernel
theorem dX9_best_0 : decode cX9_best 0 = .ok (.aload_n 0, 1) := by decide +kernel
theorem dX9_best_1 : decode cX9_best 1 = .ok (.getfield 32, 3) := by decide +kernel
theorem dX9_best_4 : decode cX9_best 4 = .ok (.iload_n 1, 1) := by decide +kernel
theorem dX9_best_5 : decode cX9_best 5 = .ok (.invokevirtual 96, 3) := by decide +kernel
theorem dX9_best_8 : decode cX9_best 8 = .ok (.ifCond .ne 9, 3) := by decide +kernel
theorem dX9_best_11 : decode cX9_best 11 = .ok (.aload_n 0, 1) := by decide +kernel
theorem dX9_best_12 : decode cX9_best 12 = .ok (.iconst 0, 1) := by decide +kernel
theorem dX9_best_13 : decode cX9_best 13 = .ok (.invokevirtual 68, 3) := by decide +kernel
theorem dX9_best_16 : decode cX9_best 16 = .ok (.ireturn, 1) := by decide +kernel
theorem dX9_best_17 : decode cX9_best 17 = .ok (.aload_n 0, 1) := by decide +kernel
theorem dX9_best_18 : decode cX9_best 18 = .ok (.iload_n 2, 1) := by decide +kernel
theorem dX9_best_19 : decode cX9_best 19 = .ok (.iconst 1, 1) := by decide +kernel
theorem dX9_best_20 : decode cX9_best 20 = .ok (.bipush 100, 2) := by decide +kernel
theorem dX9_best_22 : decode cX9_best 22 = .ok (.invokevirtual 171, 3) := by decide +kernel
theorem dX9_best_25 : decode cX9_best 25 = .ok (.istore_n 3, 1) := by decide +kernel
theorem dX9_best_26 : decode cX9_best 26 = .ok (.iload_n 3, 1) := by decide +kernel
theorem dX9_best_27 : decode cX9_best 27 = .ok (.ifCond .eq 5, 3) := by decide +kernel
theorem dX9_best_30 : decode cX9_best 30 = .ok (.iload_n 3, 1) := by decide +kernel
theorem dX9_best_31 : decode cX9_best 31 = .ok (.ireturn, 1) := by decide +kernel
theorem dX9_best_32 : decode cX9_best 32 = .ok (.aload_n 0, 1) := by decide +kernel
theorem dX9_best_33 : decode cX9_best 33 = .ok (.getfield 32, 3) := by decide +kernel
theorem dX9_best_36 : decode cX9_best 36 = .ok (.getfield 105, 3) := by decide +kernel
theorem dX9_best_39 : decode cX9_best 39 = .ok (.iload_n 1, 1) := by decide +kernel
theorem dX9_best_40 : decode cX9_best 40 = .ok (.iaload, 1) := by decide +kernel
theorem dX9_best_41 : decode cX9_best 41 = .ok (.istore 4, 2) := by decide +kernel
theorem dX9_best_43 : decode cX9_best 43 = .ok (.iload 4, 2) := by decide +kernel
theorem dX9_best_45 : decode cX9_best 45 = .ok (.istore 5, 2) := by decide +kernel
theorem dX9_best_47 : decode cX9_best 47 = .ok (.aload_n 0, 1) := by decide +kernel
theorem dX9_best_48 : decode cX9_best 48 = .ok (.invokevirtual 190, 3) := by decide +kernel
theorem dX9_best_51 : decode cX9_best 51 = .ok (.aload_n 0, 1) := by decide +kernel
theorem dX9_best_52 : decode cX9_best 52 = .ok (.getfield 36, 3) := by decide +kernel
theorem dX9_best_55 : decode cX9_best 55 = .ok (.iload_n 2, 1) := by decide +kernel
theorem dX9_best_56 : decode cX9_best 56 = .ok (.invokevirtual 175, 3) := by decide +kernel
theorem dX9_best_59 : decode cX9_best 59 = .ok (.aload_n 0, 1) := by decide +kernel
theorem dX9_best_60 : decode cX9_best 60 = .ok (.getfield 36, 3) := by decide +kernel
theorem dX9_best_63 : decode cX9_best 63 = .ok (.invokevirtual 160, 3) := by decide +kernel
theorem dX9_best_66 : decode cX9_best 66 = .ok (.istore 6, 2) := by decide +kernel
theorem dX9_best_68 : decode cX9_best 68 = .ok (.iconst 0, 1) := by decide +kernel
theorem dX9_best_69 : decode cX9_best 69 = .ok (.istore 7, 2) := by decide +kernel
theorem dX9_best_71 : decode cX9_best 71 = .ok (.iload 7, 2) := by decide +kernel
theorem dX9_best_73 : decode cX9_best 73 = .ok (.bipush 40, 2) := by decide +kernel
theorem dX9_best_75 : decode cX9_best 75 = .ok (.if_icmp .ge 65, 3) := by decide +kernel
theorem dX9_best_78 : decode cX9_best 78 = .ok (.iload 7, 2) := by decide +kernel
theorem dX9_best_80 : decode cX9_best 80 = .ok (.iload 4, 2) := by decide +kernel
theorem dX9_best_82 : decode cX9_best 82 = .ok (.if_icmp .ne 6, 3) := by decide +kernel
theorem dX9_best_85 : decode cX9_best 85 = .ok (.goto 49, 3) := by decide +kernel
theorem dX9_best_88 : decode cX9_best 88 = .ok (.aload_n 0, 1) := by decide +kernel
theorem dX9_best_89 : decode cX9_best 89 = .ok (.invokevirtual 190, 3) := by decide +kernel
theorem dX9_best_92 : decode cX9_best 92 = .ok (.aload_n 0, 1) := by decide +kernel
theorem dX9_best_93 : decode cX9_best 93 = .ok (.getfield 36, 3) := by decide +kernel
theorem dX9_best_96 : decode cX9_best 96 = .ok (.iload_n 1, 1) := by decide +kernel
theorem dX9_best_97 : decode cX9_best 97 = .ok (.iload 7, 2) := by decide +kernel
theorem dX9_best_99 : decode cX9_best 99 = .ok (.invokevirtual 124, 3) := by decide +kernel
theorem dX9_best_102 : decode cX9_best 102 = .ok (.aload_n 0, 1) := by decide +kernel
theorem dX9_best_103 : decode cX9_best 103 = .ok (.getfield 36, 3) := by decide +kernel
theorem dX9_best_106 : decode cX9_best 106 = .ok (.iload_n 2, 1) := by decide +kernel
theorem dX9_best_107 : decode cX9_best 107 = .ok (.invokevirtual 175, 3) := by decide +kernel
theorem dX9_best_110 : decode cX9_best 110 = .ok (.aload_n 0, 1) := by decide +kernel
theorem dX9_best_111 : decode cX9_best 111 = .ok (.getfield 36, 3) := by decide +kernel
theorem dX9_best_114 : decode cX9_best 114 = .ok (.invokevirtual 160, 3) := by decide +kernel
theorem dX9_best_117 : decode cX9_best 117 = .ok (.istore 8, 2) := by decide +kernel
theorem dX9_best_119 : decode cX9_best 119 = .ok (.iload 8, 2) := by decide +kernel
theorem dX9_best_121 : decode cX9_best 121 = .ok (.iload 6, 2) := by decide +kernel
theorem dX9_best_123 : decode cX9_best 123 = .ok (.if_icmp .le 11, 3) := by decide +kernel
theorem dX9_best_126 : decode cX9_best 126 = .ok (.iload 8, 2) := by decide +kernel
theorem dX9_best_128 : decode cX9_best 128 = .ok (.istore 6, 2) := by decide +kernel
theorem dX9_best_130 : decode cX9_best 130 = .ok (.iload 7, 2) := by decide +kernel
theorem dX9_best_132 : decode cX9_best 132 = .ok (.istore 5, 2) := by decide +kernel
theorem dX9_best_134 : decode cX9_best 134 = .ok (.iinc 7 1, 3) := by decide +kernel
theorem dX9_best_137 : decode cX9_best 137 = .ok (.goto (-66), 3) := by decide +kernel
theorem dX9_best_140 : decode cX9_best 140 = .ok (.iload 5, 2) := by decide +kernel
theorem dX9_best_142 : decode cX9_best 142 = .ok (.ireturn, 1) := by decide +kernel
theorem dX9_kind_0 : decode cX9_kind 0 = .ok (.aload_n 0, 1) := by decide +kernel
theorem dX9_kind_1 : decode cX9_kind 1 = .ok (.getfield 32, 3) := by decide +kernel
theorem dX9_kind_4 : decode cX9_kind 4 = .ok (.iload_n 1, 1) := by decide +kernel
theorem dX9_kind_5 : decode cX9_kind 5 = .ok (.invokevirtual 96, 3) := by decide +kernel
theorem dX9_kind_8 : decode cX9_kind 8 = .ok (.ifCond .ne 9, 3) := by decide +kernel
theorem dX9_kind_11 : decode cX9_kind 11 = .ok (.aload_n 0, 1) := by decide +kernel
theorem dX9_kind_12 : decode cX9_kind 12 = .ok (.iconst 0, 1) := by decide +kernel
theorem dX9_kind_13 : decode cX9_kind 13 = .ok (.invokevirtual 68, 3) := by decide +kernel
theorem dX9_kind_16 : decode cX9_kind 16 = .ok (.ireturn, 1) := by decide +kernel
theorem dX9_kind_17 : decode cX9_kind 17 = .ok (.aload_n 0, 1) := by decide +kernel
theorem dX9_kind_18 : decode cX9_kind 18 = .ok (.iload_n 2, 1) := by decide +kernel
theorem dX9_kind_19 : decode cX9_kind 19 = .ok (.iconst 1, 1) := by decide +kernel
theorem dX9_kind_20 : decode cX9_kind 20 = .ok (.bipush 100, 2) := by decide +kernel
theorem dX9_kind_22 : decode cX9_kind 22 = .ok (.invokevirtual 171, 3) := by decide +kernel
theorem dX9_kind_25 : decode cX9_kind 25 = .ok (.istore_n 3, 1) := by decide +kernel
theorem dX9_kind_26 : decode cX9_kind 26 = .ok (.iload_n 3, 1) := by decide +kernel
theorem dX9_kind_27 : decode cX9_kind 27 = .ok (.ifCond .eq 5, 3) := by decide +kernel
theorem dX9_kind_30 : decode cX9_kind 30 = .ok (.iload_n 3, 1) := by decide +kernel
theorem dX9_kind_31 : decode cX9_kind 31 = .ok (.ireturn, 1) := by decide +kernel
theorem dX9_kind_32 : decode cX9_kind 32 = .ok (.iconst 0, 1) := by decide +kernel
theorem dX9_kind_33 : decode cX9_kind 33 = .ok (.istore 4, 2) := by decide +kernel
theorem dX9_kind_35 : decode cX9_kind 35 = .ok (.iconst (-1), 1) := by decide +kernel
theorem dX9_kind_36 : decode cX9_kind 36 = .ok (.istore 5, 2) := by decide +kernel
theorem dX9_kind_38 : decode cX9_kind 38 = .ok (.iconst 0, 1) := by decide +kernel
theorem dX9_kind_39 : decode cX9_kind 39 = .ok (.istore 6, 2) := by decide +kernel
theorem dX9_kind_41 : decode cX9_kind 41 = .ok (.iload 6, 2) := by decide +kernel
theorem dX9_kind_43 : decode cX9_kind 43 = .ok (.bipush 6, 2) := by decide +kernel
theorem dX9_kind_45 : decode cX9_kind 45 = .ok (.if_icmp .ge 56, 3) := by decide +kernel
theorem dX9_kind_48 : decode cX9_kind 48 = .ok (.aload_n 0, 1) := by decide +kernel
theorem dX9_kind_49 : decode cX9_kind 49 = .ok (.invokevirtual 190, 3) := by decide +kernel
theorem dX9_kind_52 : decode cX9_kind 52 = .ok (.aload_n 0, 1) := by decide +kernel
theorem dX9_kind_53 : decode cX9_kind 53 = .ok (.getfield 36, 3) := by decide +kernel
theorem dX9_kind_56 : decode cX9_kind 56 = .ok (.getfield 99, 3) := by decide +kernel
theorem dX9_kind_59 : decode cX9_kind 59 = .ok (.iload_n 1, 1) := by decide +kernel
theorem dX9_kind_60 : decode cX9_kind 60 = .ok (.iload 6, 2) := by decide +kernel
theorem dX9_kind_62 : decode cX9_kind 62 = .ok (.iastore, 1) := by decide +kernel
theorem dX9_kind_63 : decode cX9_kind 63 = .ok (.aload_n 0, 1) := by decide +kernel
theorem dX9_kind_64 : decode cX9_kind 64 = .ok (.getfield 36, 3) := by decide +kernel
theorem dX9_kind_67 : decode cX9_kind 67 = .ok (.iload_n 2, 1) := by decide +kernel
theorem dX9_kind_68 : decode cX9_kind 68 = .ok (.invokevirtual 175, 3) := by decide +kernel
theorem dX9_kind_71 : decode cX9_kind 71 = .ok (.aload_n 0, 1) := by decide +kernel
theorem dX9_kind_72 : decode cX9_kind 72 = .ok (.getfield 36, 3) := by decide +kernel
theorem dX9_kind_75 : decode cX9_kind 75 = .ok (.invokevirtual 160, 3) := by decide +kernel
theorem dX9_kind_78 : decode cX9_kind 78 = .ok (.istore 7, 2) := by decide +kernel
theorem dX9_kind_80 : decode cX9_kind 80 = .ok (.iload 7, 2) := by decide +kernel
theorem dX9_kind_82 : decode cX9_kind 82 = .ok (.iload 5, 2) := by decide +kernel
theorem dX9_kind_84 : decode cX9_kind 84 = .ok (.if_icmp .le 11, 3) := by decide +kernel
theorem dX9_kind_87 : decode cX9_kind 87 = .ok (.iload 7, 2) := by decide +kernel
theorem dX9_kind_89 : decode cX9_kind 89 = .ok (.istore 5, 2) := by decide +kernel
theorem dX9_kind_91 : decode cX9_kind 91 = .ok (.iload 6, 2) := by decide +kernel
theorem dX9_kind_93 : decode cX9_kind 93 = .ok (.istore 4, 2) := by decide +kernel
theorem dX9_kind_95 : decode cX9_kind 95 = .ok (.iinc 6 1, 3) := by decide +kernel
theorem dX9_kind_98 : decode cX9_kind 98 = .ok (.goto (-57), 3) := by decide +kernel
theorem dX9_kind_101 : decode cX9_kind 101 = .ok (.iload 4, 2) := by decide +kernel
theorem dX9_kind_103 : decode cX9_kind 103 = .ok (.ireturn, 1) := by decide +kernel
theorem dX9_mend_0 : decode cX9_mend 0 = .ok (.aload_n 0, 1) := by decide +kernel
theorem dX9_mend_1 : decode cX9_mend 1 = .ok (.getfield 32, 3) := by decide +kernel
theorem dX9_mend_4 : decode cX9_mend 4 = .ok (.invokevirtual 160, 3) := by decide +kernel
theorem dX9_mend_7 : decode cX9_mend 7 = .ok (.istore_n 1, 1) := by decide +kernel
theorem dX9_mend_8 : decode cX9_mend 8 = .ok (.aload_n 0, 1) := by decide +kernel
theorem dX9_mend_9 : decode cX9_mend 9 = .ok (.getfield 32, 3) := by decide +kernel
theorem dX9_mend_12 : decode cX9_mend 12 = .ok (.getfield 93, 3) := by decide +kernel
theorem dX9_mend_15 : decode cX9_mend 15 = .ok (.ifCond .eq 21, 3) := by decide +kernel
theorem dX9_mend_18 : decode cX9_mend 18 = .ok (.iload_n 1, 1) := by decide +kernel
theorem dX9_mend_19 : decode cX9_mend 19 = .ok (.invokestatic 60, 3) := by decide +kernel
theorem dX9_mend_22 : decode cX9_mend 22 = .ok (.ifCond .eq 14, 3) := by decide +kernel
theorem dX9_mend_25 : decode cX9_mend 25 = .ok (.aload_n 0, 1) := by decide +kernel
theorem dX9_mend_26 : decode cX9_mend 26 = .ok (.getfield 32, 3) := by decide +kernel
theorem dX9_mend_29 : decode cX9_mend 29 = .ok (.iload_n 1, 1) := by decide +kernel
theorem dX9_mend_30 : decode cX9_mend 30 = .ok (.invokevirtual 136, 3) := by decide +kernel
theorem dX9_mend_33 : decode cX9_mend 33 = .ok (.ifCond .eq 9, 3) := by decide +kernel
theorem dX9_mend_36 : decode cX9_mend 36 = .ok (.aload_n 0, 1) := by decide +kernel
theorem dX9_mend_37 : decode cX9_mend 37 = .ok (.iconst 3, 1) := by decide +kernel
theorem dX9_mend_38 : decode cX9_mend 38 = .ok (.invokevirtual 68, 3) := by decide +kernel
theorem dX9_mend_41 : decode cX9_mend 41 = .ok (.ireturn, 1) := by decide +kernel
theorem dX9_mend_42 : decode cX9_mend 42 = .ok (.aload_n 0, 1) := by decide +kernel
theorem dX9_mend_43 : decode cX9_mend 43 = .ok (.invokevirtual 190, 3) := by decide +kernel
theorem dX9_mend_46 : decode cX9_mend 46 = .ok (.aload_n 0, 1) := by decide +kernel
theorem dX9_mend_47 : decode cX9_mend 47 = .ok (.getfield 36, 3) := by decide +kernel
theorem dX9_mend_50 : decode cX9_mend 50 = .ok (.iload_n 1, 1) := by decide +kernel
theorem dX9_mend_51 : decode cX9_mend 51 = .ok (.bipush 10, 2) := by decide +kernel
theorem dX9_mend_53 : decode cX9_mend 53 = .ok (.iconst 0, 1) := by decide +kernel
theorem dX9_mend_54 : decode cX9_mend 54 = .ok (.invokevirtual 152, 3) := by decide +kernel
theorem dX9_mend_57 : decode cX9_mend 57 = .ok (.aload_n 0, 1) := by decide +kernel
theorem dX9_mend_58 : decode cX9_mend 58 = .ok (.getfield 36, 3) := by decide +kernel
theorem dX9_mend_61 : decode cX9_mend 61 = .ok (.invokevirtual 160, 3) := by decide +kernel
theorem dX9_mend_64 : decode cX9_mend 64 = .ok (.iload_n 1, 1) := by decide +kernel
theorem dX9_mend_65 : decode cX9_mend 65 = .ok (.if_icmp .le 7, 3) := by decide +kernel
theorem dX9_mend_68 : decode cX9_mend 68 = .ok (.iload_n 1, 1) := by decide +kernel
theorem dX9_mend_69 : decode cX9_mend 69 = .ok (.goto 8, 3) := by decide +kernel
theorem dX9_mend_72 : decode cX9_mend 72 = .ok (.aload_n 0, 1) := by decide +kernel
theorem dX9_mend_73 : decode cX9_mend 73 = .ok (.iconst 3, 1) := by decide +kernel
theorem dX9_mend_74 : decode cX9_mend 74 = .ok (.invokevirtual 68, 3) := by decide +kernel
theorem dX9_mend_77 : decode cX9_mend 77 = .ok (.ireturn, 1) := by decide +kernel
theorem dX9_needed_0 : decode cX9_needed 0 = .ok (.aload_n 0, 1) := by decide +kernel
theorem dX9_needed_1 : decode cX9_needed 1 = .ok (.iload_n 1, 1) := by decide +kernel
theorem dX9_needed_2 : decode cX9_needed 2 = .ok (.iconst 1, 1) := by decide +kernel
theorem dX9_needed_3 : decode cX9_needed 3 = .ok (.bipush 100, 2) := by decide +kernel
theorem dX9_needed_5 : decode cX9_needed 5 = .ok (.invokevirtual 171, 3) := by decide +kernel
theorem dX9_needed_8 : decode cX9_needed 8 = .ok (.istore_n 2, 1) := by decide +kernel
theorem dX9_needed_9 : decode cX9_needed 9 = .ok (.iload_n 2, 1) := by decide +kernel
theorem dX9_needed_10 : decode cX9_needed 10 = .ok (.ifCond .eq 5, 3) := by decide +kernel
theorem dX9_needed_13 : decode cX9_needed 13 = .ok (.iload_n 2, 1) := by decide +kernel
theorem dX9_needed_14 : decode cX9_needed 14 = .ok (.ireturn, 1) := by decide +kernel
theorem dX9_needed_15 : decode cX9_needed 15 = .ok (.aload_n 0, 1) := by decide +kernel
theorem dX9_needed_16 : decode cX9_needed 16 = .ok (.invokevirtual 190, 3) := by decide +kernel
theorem dX9_needed_19 : decode cX9_needed 19 = .ok (.aload_n 0, 1) := by decide +kernel
theorem dX9_needed_20 : decode cX9_needed 20 = .ok (.getfield 36, 3) := by decide +kernel
theorem dX9_needed_23 : decode cX9_needed 23 = .ok (.iload_n 1, 1) := by decide +kernel
theorem dX9_needed_24 : decode cX9_needed 24 = .ok (.invokevirtual 175, 3) := by decide +kernel
theorem dX9_needed_27 : decode cX9_needed 27 = .ok (.aload_n 0, 1) := by decide +kernel
theorem dX9_needed_28 : decode cX9_needed 28 = .ok (.getfield 36, 3) := by decide +kernel
theorem dX9_needed_31 : decode cX9_needed 31 = .ok (.invokevirtual 160, 3) := by decide +kernel
theorem dX9_needed_34 : decode cX9_needed 34 = .ok (.istore_n 3, 1) := by decide +kernel
theorem dX9_needed_35 : decode cX9_needed 35 = .ok (.iconst (-1), 1) := by decide +kernel
theorem dX9_needed_36 : decode cX9_needed 36 = .ok (.istore 4, 2) := by decide +kernel
theorem dX9_needed_38 : decode cX9_needed 38 = .ok (.iconst 0, 1) := by decide +kernel
theorem dX9_needed_39 : decode cX9_needed 39 = .ok (.istore 5, 2) := by decide +kernel
theorem dX9_needed_41 : decode cX9_needed 41 = .ok (.iload 5, 2) := by decide +kernel
theorem dX9_needed_43 : decode cX9_needed 43 = .ok (.aload_n 0, 1) := by decide +kernel
theorem dX9_needed_44 : decode cX9_needed 44 = .ok (.getfield 32, 3) := by decide +kernel
theorem dX9_needed_47 : decode cX9_needed 47 = .ok (.getfield 93, 3) := by decide +kernel
theorem dX9_needed_50 : decode cX9_needed 50 = .ok (.if_icmp .ge 54, 3) := by decide +kernel
theorem dX9_needed_53 : decode cX9_needed 53 = .ok (.aload_n 0, 1) := by decide +kernel
theorem dX9_needed_54 : decode cX9_needed 54 = .ok (.invokevirtual 190, 3) := by decide +kernel
theorem dX9_needed_57 : decode cX9_needed 57 = .ok (.aload_n 0, 1) := by decide +kernel
theorem dX9_needed_58 : decode cX9_needed 58 = .ok (.getfield 36, 3) := by decide +kernel
theorem dX9_needed_61 : decode cX9_needed 61 = .ok (.getfield 102, 3) := by decide +kernel
theorem dX9_needed_64 : decode cX9_needed 64 = .ok (.iload 5, 2) := by decide +kernel
theorem dX9_needed_66 : decode cX9_needed 66 = .ok (.iconst 0, 1) := by decide +kernel
theorem dX9_needed_67 : decode cX9_needed 67 = .ok (.iastore, 1) := by decide +kernel
theorem dX9_needed_68 : decode cX9_needed 68 = .ok (.aload_n 0, 1) := by decide +kernel
theorem dX9_needed_69 : decode cX9_needed 69 = .ok (.getfield 36, 3) := by decide +kernel
theorem dX9_needed_72 : decode cX9_needed 72 = .ok (.iload_n 1, 1) := by decide +kernel
theorem dX9_needed_73 : decode cX9_needed 73 = .ok (.invokevirtual 175, 3) := by decide +kernel
theorem dX9_needed_76 : decode cX9_needed 76 = .ok (.aload_n 0, 1) := by decide +kernel
theorem dX9_needed_77 : decode cX9_needed 77 = .ok (.getfield 36, 3) := by decide +kernel
theorem dX9_needed_80 : decode cX9_needed 80 = .ok (.invokevirtual 160, 3) := by decide +kernel
theorem dX9_needed_83 : decode cX9_needed 83 = .ok (.istore 6, 2) := by decide +kernel
theorem dX9_needed_85 : decode cX9_needed 85 = .ok (.iload 6, 2) := by decide +kernel
theorem dX9_needed_87 : decode cX9_needed 87 = .ok (.iload_n 3, 1) := by decide +kernel
theorem dX9_needed_88 : decode cX9_needed 88 = .ok (.if_icmp .ge 10, 3) := by decide +kernel
theorem dX9_needed_91 : decode cX9_needed 91 = .ok (.iload 6, 2) := by decide +kernel
theorem dX9_needed_93 : decode cX9_needed 93 = .ok (.istore_n 3, 1) := by decide +kernel
theorem dX9_needed_94 : decode cX9_needed 94 = .ok (.iload 5, 2) := by decide +kernel
theorem dX9_needed_96 : decode cX9_needed 96 = .ok (.istore 4, 2) := by decide +kernel
theorem dX9_needed_98 : decode cX9_needed 98 = .ok (.iinc 5 1, 3) := by decide +kernel
theorem dX9_needed_101 : decode cX9_needed 101 = .ok (.goto (-60), 3) := by decide +kernel
theorem dX9_needed_104 : decode cX9_needed 104 = .ok (.iload 4, 2) := by decide +kernel
theorem dX9_needed_106 : decode cX9_needed 106 = .ok (.ifCond .ge 11, 3) := by decide +kernel
theorem dX9_needed_109 : decode cX9_needed 109 = .ok (.aload_n 0, 1) := by decide +kernel
theorem dX9_needed_110 : decode cX9_needed 110 = .ok (.iconst 3, 1) := by decide +kernel
theorem dX9_needed_111 : decode cX9_needed 111 = .ok (.invokevirtual 68, 3) := by decide +kernel
theorem dX9_needed_114 : decode cX9_needed 114 = .ok (.goto 5, 3) := by decide +kernel
theorem dX9_needed_117 : decode cX9_needed 117 = .ok (.iload 4, 2) := by decide +kernel
theorem dX9_needed_119 : decode cX9_needed 119 = .ok (.ireturn, 1) := by decide +kernel
theorem dX9_steepest_0 : decode cX9_steepest 0 = .ok (.iconst 0, 1) := by decide +kernel
theorem dX9_steepest_1 : decode cX9_steepest 1 = .ok (.istore_n 1, 1) := by decide +kernel
theorem dX9_steepest_2 : decode cX9_steepest 2 = .ok (.iconst 0, 1) := by decide +kernel
theorem dX9_steepest_3 : decode cX9_steepest 3 = .ok (.istore_n 2, 1) := by decide +kernel
theorem dX9_steepest_4 : decode cX9_steepest 4 = .ok (.iconst 1, 1) := by decide +kernel
theorem dX9_steepest_5 : decode cX9_steepest 5 = .ok (.istore_n 3, 1) := by decide +kernel
theorem dX9_steepest_6 : decode cX9_steepest 6 = .ok (.iload_n 3, 1) := by decide +kernel
theorem dX9_steepest_7 : decode cX9_steepest 7 = .ok (.bipush 40, 2) := by decide +kernel
theorem dX9_steepest_9 : decode cX9_steepest 9 = .ok (.if_icmp .ge 61, 3) := by decide +kernel
theorem dX9_steepest_12 : decode cX9_steepest 12 = .ok (.aload_n 0, 1) := by decide +kernel
theorem dX9_steepest_13 : decode cX9_steepest 13 = .ok (.getfield 32, 3) := by decide +kernel
theorem dX9_steepest_16 : decode cX9_steepest 16 = .ok (.iload_n 3, 1) := by decide +kernel
theorem dX9_steepest_17 : decode cX9_steepest 17 = .ok (.invokevirtual 164, 3) := by decide +kernel
theorem dX9_steepest_20 : decode cX9_steepest 20 = .ok (.ifCond .ne 6, 3) := by decide +kernel
theorem dX9_steepest_23 : decode cX9_steepest 23 = .ok (.goto 41, 3) := by decide +kernel
theorem dX9_steepest_26 : decode cX9_steepest 26 = .ok (.aload_n 0, 1) := by decide +kernel
theorem dX9_steepest_27 : decode cX9_steepest 27 = .ok (.getfield 32, 3) := by decide +kernel
theorem dX9_steepest_30 : decode cX9_steepest 30 = .ok (.getfield 139, 3) := by decide +kernel
theorem dX9_steepest_33 : decode cX9_steepest 33 = .ok (.iload_n 3, 1) := by decide +kernel
theorem dX9_steepest_34 : decode cX9_steepest 34 = .ok (.iaload, 1) := by decide +kernel
theorem dX9_steepest_35 : decode cX9_steepest 35 = .ok (.aload_n 0, 1) := by decide +kernel
theorem dX9_steepest_36 : decode cX9_steepest 36 = .ok (.getfield 32, 3) := by decide +kernel
theorem dX9_steepest_39 : decode cX9_steepest 39 = .ok (.getfield 139, 3) := by decide +kernel
theorem dX9_steepest_42 : decode cX9_steepest 42 = .ok (.iload_n 3, 1) := by decide +kernel
theorem dX9_steepest_43 : decode cX9_steepest 43 = .ok (.iconst 1, 1) := by decide +kernel
theorem dX9_steepest_44 : decode cX9_steepest 44 = .ok (.isub, 1) := by decide +kernel
theorem dX9_steepest_45 : decode cX9_steepest 45 = .ok (.iaload, 1) := by decide +kernel
theorem dX9_steepest_46 : decode cX9_steepest 46 = .ok (.isub, 1) := by decide +kernel
theorem dX9_steepest_47 : decode cX9_steepest 47 = .ok (.istore 4, 2) := by decide +kernel
theorem dX9_steepest_49 : decode cX9_steepest 49 = .ok (.iload_n 1, 1) := by decide +kernel
theorem dX9_steepest_50 : decode cX9_steepest 50 = .ok (.ifCond .eq 9, 3) := by decide +kernel
theorem dX9_steepest_53 : decode cX9_steepest 53 = .ok (.iload 4, 2) := by decide +kernel
theorem dX9_steepest_55 : decode cX9_steepest 55 = .ok (.iload_n 2, 1) := by decide +kernel
theorem dX9_steepest_56 : decode cX9_steepest 56 = .ok (.if_icmp .le 8, 3) := by decide +kernel
theorem dX9_steepest_59 : decode cX9_steepest 59 = .ok (.iload 4, 2) := by decide +kernel
theorem dX9_steepest_61 : decode cX9_steepest 61 = .ok (.istore_n 2, 1) := by decide +kernel
theorem dX9_steepest_62 : decode cX9_steepest 62 = .ok (.iload_n 3, 1) := by decide +kernel
theorem dX9_steepest_63 : decode cX9_steepest 63 = .ok (.istore_n 1, 1) := by decide +kernel
theorem dX9_steepest_64 : decode cX9_steepest 64 = .ok (.iinc 3 1, 3) := by decide +kernel
theorem dX9_steepest_67 : decode cX9_steepest 67 = .ok (.goto (-61), 3) := by decide +kernel
theorem dX9_steepest_70 : decode cX9_steepest 70 = .ok (.iload_n 1, 1) := by decide +kernel
theorem dX9_steepest_71 : decode cX9_steepest 71 = .ok (.ifCond .ne 11, 3) := by decide +kernel
theorem dX9_steepest_74 : decode cX9_steepest 74 = .ok (.aload_n 0, 1) := by decide +kernel
theorem dX9_steepest_75 : decode cX9_steepest 75 = .ok (.iconst 3, 1) := by decide +kernel
theorem dX9_steepest_76 : decode cX9_steepest 76 = .ok (.invokevirtual 68, 3) := by decide +kernel
theorem dX9_steepest_79 : decode cX9_steepest 79 = .ok (.goto 4, 3) := by decide +kernel
theorem dX9_steepest_82 : decode cX9_steepest 82 = .ok (.iload_n 1, 1) := by decide +kernel
theorem dX9_steepest_83 : decode cX9_steepest 83 = .ok (.ireturn, 1) := by decide +kernel
theorem dX9_whose_0 : decode cX9_whose 0 = .ok (.iload_n 1, 1) := by decide +kernel
theorem dX9_whose_1 : decode cX9_whose 1 = .ok (.invokestatic 60, 3) := by decide +kernel
theorem dX9_whose_4 : decode cX9_whose 4 = .ok (.ifCond .eq 13, 3) := by decide +kernel
theorem dX9_whose_7 : decode cX9_whose 7 = .ok (.iload_n 2, 1) := by decide +kernel
theorem dX9_whose_8 : decode cX9_whose 8 = .ok (.iconst 0, 1) := by decide +kernel
theorem dX9_whose_9 : decode cX9_whose 9 = .ok (.bipush 40, 2) := by decide +kernel
theorem dX9_whose_11 : decode cX9_whose 11 = .ok (.invokestatic 64, 3) := by decide +kernel
theorem dX9_whose_14 : decode cX9_whose 14 = .ok (.ifCond .ne 9, 3) := by decide +kernel
theorem dX9_whose_17 : decode cX9_whose 17 = .ok (.aload_n 0, 1) := by decide +kernel
theorem dX9_whose_18 : decode cX9_whose 18 = .ok (.iconst 0, 1) := by decide +kernel
theorem dX9_whose_19 : decode cX9_whose 19 = .ok (.invokevirtual 68, 3) := by decide +kernel
theorem dX9_whose_22 : decode cX9_whose 22 = .ok (.ireturn, 1) := by decide +kernel
theorem dX9_whose_23 : decode cX9_whose 23 = .ok (.iconst 0, 1) := by decide +kernel
theorem dX9_whose_24 : decode cX9_whose 24 = .ok (.istore_n 3, 1) := by decide +kernel
theorem dX9_whose_25 : decode cX9_whose 25 = .ok (.iconst 0, 1) := by decide +kernel
theorem dX9_whose_26 : decode cX9_whose 26 = .ok (.istore 4, 2) := by decide +kernel
theorem dX9_whose_28 : decode cX9_whose 28 = .ok (.iload 4, 2) := by decide +kernel
theorem dX9_whose_30 : decode cX9_whose 30 = .ok (.aload_n 0, 1) := by decide +kernel
theorem dX9_whose_31 : decode cX9_whose 31 = .ok (.getfield 32, 3) := by decide +kernel
theorem dX9_whose_34 : decode cX9_whose 34 = .ok (.getfield 93, 3) := by decide +kernel
theorem dX9_whose_37 : decode cX9_whose 37 = .ok (.if_icmp .ge 30, 3) := by decide +kernel
theorem dX9_whose_40 : decode cX9_whose 40 = .ok (.aload_n 0, 1) := by decide +kernel
theorem dX9_whose_41 : decode cX9_whose 41 = .ok (.getfield 32, 3) := by decide +kernel
theorem dX9_whose_44 : decode cX9_whose 44 = .ok (.iload 4, 2) := by decide +kernel
theorem dX9_whose_46 : decode cX9_whose 46 = .ok (.iload_n 1, 1) := by decide +kernel
theorem dX9_whose_47 : decode cX9_whose 47 = .ok (.invokevirtual 117, 3) := by decide +kernel
theorem dX9_whose_50 : decode cX9_whose 50 = .ok (.iload_n 2, 1) := by decide +kernel
theorem dX9_whose_51 : decode cX9_whose 51 = .ok (.if_icmp .ne 10, 3) := by decide +kernel
theorem dX9_whose_54 : decode cX9_whose 54 = .ok (.iload_n 3, 1) := by decide +kernel
theorem dX9_whose_55 : decode cX9_whose 55 = .ok (.iconst 1, 1) := by decide +kernel
theorem dX9_whose_56 : decode cX9_whose 56 = .ok (.iload 4, 2) := by decide +kernel
theorem dX9_whose_58 : decode cX9_whose 58 = .ok (.ishl, 1) := by decide +kernel
theorem dX9_whose_59 : decode cX9_whose 59 = .ok (.ior, 1) := by decide +kernel
theorem dX9_whose_60 : decode cX9_whose 60 = .ok (.istore_n 3, 1) := by decide +kernel
theorem dX9_whose_61 : decode cX9_whose 61 = .ok (.iinc 4 1, 3) := by decide +kernel
theorem dX9_whose_64 : decode cX9_whose 64 = .ok (.goto (-36), 3) := by decide +kernel
theorem dX9_whose_67 : decode cX9_whose 67 = .ok (.iload_n 3, 1) := by decide +kernel
theorem dX9_whose_68 : decode cX9_whose 68 = .ok (.ireturn, 1) := by decide +kernel
theorem dX9_bears_0 : decode cX9_bears 0 = .ok (.aload_n 0, 1) := by decide +kernel
theorem dX9_bears_1 : decode cX9_bears 1 = .ok (.iload_n 1, 1) := by decide +kernel
theorem dX9_bears_2 : decode cX9_bears 2 = .ok (.iconst 1, 1) := by decide +kernel
theorem dX9_bears_3 : decode cX9_bears 3 = .ok (.sipush 200, 3) := by decide +kernel
theorem dX9_bears_6 : decode cX9_bears 6 = .ok (.invokevirtual 171, 3) := by decide +kernel
theorem dX9_bears_9 : decode cX9_bears 9 = .ok (.istore_n 2, 1) := by decide +kernel
theorem dX9_bears_10 : decode cX9_bears 10 = .ok (.iload_n 2, 1) := by decide +kernel
theorem dX9_bears_11 : decode cX9_bears 11 = .ok (.ifCond .eq 5, 3) := by decide +kernel
theorem dX9_bears_14 : decode cX9_bears 14 = .ok (.iload_n 2, 1) := by decide +kernel
theorem dX9_bears_15 : decode cX9_bears 15 = .ok (.ireturn, 1) := by decide +kernel
theorem dX9_bears_16 : decode cX9_bears 16 = .ok (.bipush 9, 2) := by decide +kernel
theorem dX9_bears_18 : decode cX9_bears 18 = .ok (.istore_n 3, 1) := by decide +kernel
theorem dX9_bears_19 : decode cX9_bears 19 = .ok (.iload_n 3, 1) := by decide +kernel
theorem dX9_bears_20 : decode cX9_bears 20 = .ok (.ifCond .lt 43, 3) := by decide +kernel
theorem dX9_bears_23 : decode cX9_bears 23 = .ok (.aload_n 0, 1) := by decide +kernel
theorem dX9_bears_24 : decode cX9_bears 24 = .ok (.invokevirtual 190, 3) := by decide +kernel
theorem dX9_bears_27 : decode cX9_bears 27 = .ok (.aload_n 0, 1) := by decide +kernel
theorem dX9_bears_28 : decode cX9_bears 28 = .ok (.getfield 36, 3) := by decide +kernel
theorem dX9_bears_31 : decode cX9_bears 31 = .ok (.iload_n 3, 1) := by decide +kernel
theorem dX9_bears_32 : decode cX9_bears 32 = .ok (.putfield 75, 3) := by decide +kernel
theorem dX9_bears_35 : decode cX9_bears 35 = .ok (.aload_n 0, 1) := by decide +kernel
theorem dX9_bears_36 : decode cX9_bears 36 = .ok (.getfield 36, 3) := by decide +kernel
theorem dX9_bears_39 : decode cX9_bears 39 = .ok (.iload_n 1, 1) := by decide +kernel
theorem dX9_bears_40 : decode cX9_bears 40 = .ok (.invokevirtual 175, 3) := by decide +kernel
theorem dX9_bears_43 : decode cX9_bears 43 = .ok (.aload_n 0, 1) := by decide +kernel
theorem dX9_bears_44 : decode cX9_bears 44 = .ok (.getfield 36, 3) := by decide +kernel
theorem dX9_bears_47 : decode cX9_bears 47 = .ok (.invokevirtual 160, 3) := by decide +kernel
theorem dX9_bears_50 : decode cX9_bears 50 = .ok (.bipush 40, 2) := by decide +kernel
theorem dX9_bears_52 : decode cX9_bears 52 = .ok (.if_icmp .ne 5, 3) := by decide +kernel
theorem dX9_bears_55 : decode cX9_bears 55 = .ok (.iload_n 3, 1) := by decide +kernel
theorem dX9_bears_56 : decode cX9_bears 56 = .ok (.ireturn, 1) := by decide +kernel
theorem dX9_bears_57 : decode cX9_bears 57 = .ok (.iinc 3 (-1), 3) := by decide +kernel
theorem dX9_bears_60 : decode cX9_bears 60 = .ok (.goto (-41), 3) := by decide +kernel
theorem dX9_bears_63 : decode cX9_bears 63 = .ok (.aload_n 0, 1) := by decide +kernel
theorem dX9_bears_64 : decode cX9_bears 64 = .ok (.iconst 3, 1) := by decide +kernel
theorem dX9_bears_65 : decode cX9_bears 65 = .ok (.invokevirtual 68, 3) := by decide +kernel
theorem dX9_bears_68 : decode cX9_bears 68 = .ok (.ireturn, 1) := by decide +kernel
theorem dX9_meetsFor_0 : decode cX9_meetsFor 0 = .ok (.iload_n 1, 1) := by decide +kernel
theorem dX9_meetsFor_1 : decode cX9_meetsFor 1 = .ok (.iconst 0, 1) := by decide +kernel
theorem dX9_meetsFor_2 : decode cX9_meetsFor 2 = .ok (.bipush 40, 2) := by decide +kernel
theorem dX9_meetsFor_4 : decode cX9_meetsFor 4 = .ok (.invokestatic 64, 3) := by decide +kernel
theorem dX9_meetsFor_7 : decode cX9_meetsFor 7 = .ok (.ifCond .ne 9, 3) := by decide +kernel
theorem dX9_meetsFor_10 : decode cX9_meetsFor 10 = .ok (.aload_n 0, 1) := by decide +kernel
theorem dX9_meetsFor_11 : decode cX9_meetsFor 11 = .ok (.iconst 0, 1) := by decide +kernel
theorem dX9_meetsFor_12 : decode cX9_meetsFor 12 = .ok (.invokevirtual 68, 3) := by decide +kernel
theorem dX9_meetsFor_15 : decode cX9_meetsFor 15 = .ok (.ireturn, 1) := by decide +kernel
theorem dX9_meetsFor_16 : decode cX9_meetsFor 16 = .ok (.iconst 0, 1) := by decide +kernel
theorem dX9_meetsFor_17 : decode cX9_meetsFor 17 = .ok (.istore_n 2, 1) := by decide +kernel
theorem dX9_meetsFor_18 : decode cX9_meetsFor 18 = .ok (.iload_n 2, 1) := by decide +kernel
theorem dX9_meetsFor_19 : decode cX9_meetsFor 19 = .ok (.bipush 20, 2) := by decide +kernel
theorem dX9_meetsFor_21 : decode cX9_meetsFor 21 = .ok (.if_icmp .gt 23, 3) := by decide +kernel
theorem dX9_meetsFor_24 : decode cX9_meetsFor 24 = .ok (.aload_n 0, 1) := by decide +kernel
theorem dX9_meetsFor_25 : decode cX9_meetsFor 25 = .ok (.getfield 32, 3) := by decide +kernel
theorem dX9_meetsFor_28 : decode cX9_meetsFor 28 = .ok (.iload_n 2, 1) := by decide +kernel
theorem dX9_meetsFor_29 : decode cX9_meetsFor 29 = .ok (.invokevirtual 201, 3) := by decide +kernel
theorem dX9_meetsFor_32 : decode cX9_meetsFor 32 = .ok (.iload_n 1, 1) := by decide +kernel
theorem dX9_meetsFor_33 : decode cX9_meetsFor 33 = .ok (.if_icmp .lt 5, 3) := by decide +kernel
theorem dX9_meetsFor_36 : decode cX9_meetsFor 36 = .ok (.iload_n 2, 1) := by decide +kernel
theorem dX9_meetsFor_37 : decode cX9_meetsFor 37 = .ok (.ireturn, 1) := by decide +kernel
theorem dX9_meetsFor_38 : decode cX9_meetsFor 38 = .ok (.iinc 2 1, 3) := by decide +kernel
theorem dX9_meetsFor_41 : decode cX9_meetsFor 41 = .ok (.goto (-23), 3) := by decide +kernel
theorem dX9_meetsFor_44 : decode cX9_meetsFor 44 = .ok (.aload_n 0, 1) := by decide +kernel
theorem dX9_meetsFor_45 : decode cX9_meetsFor 45 = .ok (.iconst 3, 1) := by decide +kernel
theorem dX9_meetsFor_46 : decode cX9_meetsFor 46 = .ok (.invokevirtual 68, 3) := by decide +kernel
theorem dX9_meetsFor_49 : decode cX9_meetsFor 49 = .ok (.ireturn, 1) := by decide +kernel
theorem dX9_alone_0 : decode cX9_alone 0 = .ok (.aload_n 0, 1) := by decide +kernel
theorem dX9_alone_1 : decode cX9_alone 1 = .ok (.getfield 32, 3) := by decide +kernel
theorem dX9_alone_4 : decode cX9_alone 4 = .ok (.iload_n 1, 1) := by decide +kernel
theorem dX9_alone_5 : decode cX9_alone 5 = .ok (.invokevirtual 96, 3) := by decide +kernel
theorem dX9_alone_8 : decode cX9_alone 8 = .ok (.ifCond .ne 9, 3) := by decide +kernel
theorem dX9_alone_11 : decode cX9_alone 11 = .ok (.aload_n 0, 1) := by decide +kernel
theorem dX9_alone_12 : decode cX9_alone 12 = .ok (.iconst 0, 1) := by decide +kernel
theorem dX9_alone_13 : decode cX9_alone 13 = .ok (.invokevirtual 68, 3) := by decide +kernel
theorem dX9_alone_16 : decode cX9_alone 16 = .ok (.ireturn, 1) := by decide +kernel
theorem dX9_alone_17 : decode cX9_alone 17 = .ok (.iconst 1, 1) := by decide +kernel
theorem dX9_alone_18 : decode cX9_alone 18 = .ok (.aload_n 0, 1) := by decide +kernel
theorem dX9_alone_19 : decode cX9_alone 19 = .ok (.getfield 32, 3) := by decide +kernel
theorem dX9_alone_22 : decode cX9_alone 22 = .ok (.iload_n 1, 1) := by decide +kernel
theorem dX9_alone_23 : decode cX9_alone 23 = .ok (.invokevirtual 114, 3) := by decide +kernel
theorem dX9_alone_26 : decode cX9_alone 26 = .ok (.invokestatic 196, 3) := by decide +kernel
theorem dX9_alone_29 : decode cX9_alone 29 = .ok (.istore_n 2, 1) := by decide +kernel
theorem dX9_alone_30 : decode cX9_alone 30 = .ok (.iconst 0, 1) := by decide +kernel
theorem dX9_alone_31 : decode cX9_alone 31 = .ok (.istore_n 3, 1) := by decide +kernel
theorem dX9_alone_32 : decode cX9_alone 32 = .ok (.iconst 0, 1) := by decide +kernel
theorem dX9_alone_33 : decode cX9_alone 33 = .ok (.istore 4, 2) := by decide +kernel
theorem dX9_alone_35 : decode cX9_alone 35 = .ok (.iload 4, 2) := by decide +kernel
theorem dX9_alone_37 : decode cX9_alone 37 = .ok (.bipush 40, 2) := by decide +kernel
theorem dX9_alone_39 : decode cX9_alone 39 = .ok (.if_icmp .ge 40, 3) := by decide +kernel
theorem dX9_alone_42 : decode cX9_alone 42 = .ok (.aload_n 0, 1) := by decide +kernel
theorem dX9_alone_43 : decode cX9_alone 43 = .ok (.getfield 32, 3) := by decide +kernel
theorem dX9_alone_46 : decode cX9_alone 46 = .ok (.iload 4, 2) := by decide +kernel
theorem dX9_alone_48 : decode cX9_alone 48 = .ok (.invokevirtual 136, 3) := by decide +kernel
theorem dX9_alone_51 : decode cX9_alone 51 = .ok (.ifCond .ne 22, 3) := by decide +kernel
theorem dX9_alone_54 : decode cX9_alone 54 = .ok (.iload_n 3, 1) := by decide +kernel
theorem dX9_alone_55 : decode cX9_alone 55 = .ok (.aload_n 0, 1) := by decide +kernel
theorem dX9_alone_56 : decode cX9_alone 56 = .ok (.getfield 32, 3) := by decide +kernel
theorem dX9_alone_59 : decode cX9_alone 59 = .ok (.getfield 72, 3) := by decide +kernel
theorem dX9_alone_62 : decode cX9_alone 62 = .ok (.iload 4, 2) := by decide +kernel
theorem dX9_alone_64 : decode cX9_alone 64 = .ok (.iaload, 1) := by decide +kernel
theorem dX9_alone_65 : decode cX9_alone 65 = .ok (.iload_n 2, 1) := by decide +kernel
theorem dX9_alone_66 : decode cX9_alone 66 = .ok (.iadd, 1) := by decide +kernel
theorem dX9_alone_67 : decode cX9_alone 67 = .ok (.iconst 1, 1) := by decide +kernel
theorem dX9_alone_68 : decode cX9_alone 68 = .ok (.isub, 1) := by decide +kernel
theorem dX9_alone_69 : decode cX9_alone 69 = .ok (.iload_n 2, 1) := by decide +kernel
theorem dX9_alone_70 : decode cX9_alone 70 = .ok (.idiv, 1) := by decide +kernel
theorem dX9_alone_71 : decode cX9_alone 71 = .ok (.iadd, 1) := by decide +kernel
theorem dX9_alone_72 : decode cX9_alone 72 = .ok (.istore_n 3, 1) := by decide +kernel
theorem dX9_alone_73 : decode cX9_alone 73 = .ok (.iinc 4 1, 3) := by decide +kernel
theorem dX9_alone_76 : decode cX9_alone 76 = .ok (.goto (-41), 3) := by decide +kernel
theorem dX9_alone_79 : decode cX9_alone 79 = .ok (.iload_n 3, 1) := by decide +kernel
theorem dX9_alone_80 : decode cX9_alone 80 = .ok (.ireturn, 1) := by decide +kernel
theorem dX9_feed_0 : decode cX9_feed 0 = .ok (.iload_n 2, 1) := by decide +kernel
theorem dX9_feed_1 : decode cX9_feed 1 = .ok (.iconst 1, 1) := by decide +kernel
theorem dX9_feed_2 : decode cX9_feed 2 = .ok (.iconst 4, 1) := by decide +kernel
theorem dX9_feed_3 : decode cX9_feed 3 = .ok (.invokestatic 64, 3) := by decide +kernel
theorem dX9_feed_6 : decode cX9_feed 6 = .ok (.ifCond .ne 9, 3) := by decide +kernel
theorem dX9_feed_9 : decode cX9_feed 9 = .ok (.aload_n 0, 1) := by decide +kernel
theorem dX9_feed_10 : decode cX9_feed 10 = .ok (.iconst 0, 1) := by decide +kernel
theorem dX9_feed_11 : decode cX9_feed 11 = .ok (.invokevirtual 68, 3) := by decide +kernel
theorem dX9_feed_14 : decode cX9_feed 14 = .ok (.ireturn, 1) := by decide +kernel
theorem dX9_feed_15 : decode cX9_feed 15 = .ok (.aload_n 0, 1) := by decide +kernel
theorem dX9_feed_16 : decode cX9_feed 16 = .ok (.getfield 45, 3) := by decide +kernel
theorem dX9_feed_19 : decode cX9_feed 19 = .ok (.getfield 204, 3) := by decide +kernel
theorem dX9_feed_22 : decode cX9_feed 22 = .ok (.iload_n 2, 1) := by decide +kernel
theorem dX9_feed_23 : decode cX9_feed 23 = .ok (.iadd, 1) := by decide +kernel
theorem dX9_feed_24 : decode cX9_feed 24 = .ok (.bipush 120, 2) := by decide +kernel
theorem dX9_feed_26 : decode cX9_feed 26 = .ok (.if_icmp .le 9, 3) := by decide +kernel
theorem dX9_feed_29 : decode cX9_feed 29 = .ok (.aload_n 0, 1) := by decide +kernel
theorem dX9_feed_30 : decode cX9_feed 30 = .ok (.iconst 1, 1) := by decide +kernel
theorem dX9_feed_31 : decode cX9_feed 31 = .ok (.invokevirtual 68, 3) := by decide +kernel
theorem dX9_feed_34 : decode cX9_feed 34 = .ok (.ireturn, 1) := by decide +kernel
theorem dX9_feed_35 : decode cX9_feed 35 = .ok (.iload_n 2, 1) := by decide +kernel
theorem dX9_feed_36 : decode cX9_feed 36 = .ok (.iconst 1, 1) := by decide +kernel
theorem dX9_feed_37 : decode cX9_feed 37 = .ok (.isub, 1) := by decide +kernel
theorem dX9_feed_38 : decode cX9_feed 38 = .ok (.istore_n 3, 1) := by decide +kernel
theorem dX9_feed_39 : decode cX9_feed 39 = .ok (.iload_n 3, 1) := by decide +kernel
theorem dX9_feed_40 : decode cX9_feed 40 = .ok (.ifCond .lt 26, 3) := by decide +kernel
theorem dX9_feed_43 : decode cX9_feed 43 = .ok (.aload_n 0, 1) := by decide +kernel
theorem dX9_feed_44 : decode cX9_feed 44 = .ok (.getfield 45, 3) := by decide +kernel
theorem dX9_feed_47 : decode cX9_feed 47 = .ok (.iload_n 1, 1) := by decide +kernel
theorem dX9_feed_48 : decode cX9_feed 48 = .ok (.bipush 8, 2) := by decide +kernel
theorem dX9_feed_50 : decode cX9_feed 50 = .ok (.iload_n 3, 1) := by decide +kernel
theorem dX9_feed_51 : decode cX9_feed 51 = .ok (.imul, 1) := by decide +kernel
theorem dX9_feed_52 : decode cX9_feed 52 = .ok (.iushr, 1) := by decide +kernel
theorem dX9_feed_53 : decode cX9_feed 53 = .ok (.sipush 255, 3) := by decide +kernel
theorem dX9_feed_56 : decode cX9_feed 56 = .ok (.iand, 1) := by decide +kernel
theorem dX9_feed_57 : decode cX9_feed 57 = .ok (.invokevirtual 207, 3) := by decide +kernel
theorem dX9_feed_60 : decode cX9_feed 60 = .ok (.iinc 3 (-1), 3) := by decide +kernel
theorem dX9_feed_63 : decode cX9_feed 63 = .ok (.goto (-24), 3) := by decide +kernel
theorem dX9_feed_66 : decode cX9_feed 66 = .ok (.aload_n 0, 1) := by decide +kernel
theorem dX9_feed_67 : decode cX9_feed 67 = .ok (.getfield 45, 3) := by decide +kernel
theorem dX9_feed_70 : decode cX9_feed 70 = .ok (.getfield 204, 3) := by decide +kernel
theorem dX9_feed_73 : decode cX9_feed 73 = .ok (.ireturn, 1) := by decide +kernel
theorem dX9_wipe_0 : decode cX9_wipe 0 = .ok (.aload_n 0, 1) := by decide +kernel
theorem dX9_wipe_1 : decode cX9_wipe 1 = .ok (.getfield 45, 3) := by decide +kernel
theorem dX9_wipe_4 : decode cX9_wipe 4 = .ok (.getfield 204, 3) := by decide +kernel
theorem dX9_wipe_7 : decode cX9_wipe 7 = .ok (.istore_n 1, 1) := by decide +kernel
theorem dX9_wipe_8 : decode cX9_wipe 8 = .ok (.aload_n 0, 1) := by decide +kernel
theorem dX9_wipe_9 : decode cX9_wipe 9 = .ok (.getfield 45, 3) := by decide +kernel
theorem dX9_wipe_12 : decode cX9_wipe 12 = .ok (.iconst 0, 1) := by decide +kernel
theorem dX9_wipe_13 : decode cX9_wipe 13 = .ok (.putfield 204, 3) := by decide +kernel
theorem dX9_wipe_16 : decode cX9_wipe 16 = .ok (.iload_n 1, 1) := by decide +kernel
theorem dX9_wipe_17 : decode cX9_wipe 17 = .ok (.ireturn, 1) := by decide +kernel
theorem dX9_court_0 : decode cX9_court 0 = .ok (.aload_n 0, 1) := by decide +kernel
theorem dX9_court_1 : decode cX9_court 1 = .ok (.invokevirtual 190, 3) := by decide +kernel
theorem dX9_court_4 : decode cX9_court 4 = .ok (.aload_n 0, 1) := by decide +kernel
theorem dX9_court_5 : decode cX9_court 5 = .ok (.getfield 45, 3) := by decide +kernel
theorem dX9_court_8 : decode cX9_court 8 = .ok (.aload_n 0, 1) := by decide +kernel
theorem dX9_court_9 : decode cX9_court 9 = .ok (.getfield 36, 3) := by decide +kernel
theorem dX9_court_12 : decode cX9_court 12 = .ok (.invokevirtual 210, 3) := by decide +kernel
theorem dX9_court_15 : decode cX9_court 15 = .ok (.istore_n 1, 1) := by decide +kernel
theorem dX9_court_16 : decode cX9_court 16 = .ok (.iload_n 1, 1) := by decide +kernel
theorem dX9_court_17 : decode cX9_court 17 = .ok (.ifCond .lt 14, 3) := by decide +kernel
theorem dX9_court_20 : decode cX9_court 20 = .ok (.aload_n 0, 1) := by decide +kernel
theorem dX9_court_21 : decode cX9_court 21 = .ok (.getfield 32, 3) := by decide +kernel
theorem dX9_court_24 : decode cX9_court 24 = .ok (.aload_n 0, 1) := by decide +kernel
theorem dX9_court_25 : decode cX9_court 25 = .ok (.getfield 36, 3) := by decide +kernel
theorem dX9_court_28 : decode cX9_court 28 = .ok (.invokevirtual 214, 3) := by decide +kernel
theorem dX9_court_31 : decode cX9_court 31 = .ok (.aload_n 0, 1) := by decide +kernel
theorem dX9_court_32 : decode cX9_court 32 = .ok (.getfield 45, 3) := by decide +kernel
theorem dX9_court_35 : decode cX9_court 35 = .ok (.iconst 0, 1) := by decide +kernel
theorem dX9_court_36 : decode cX9_court 36 = .ok (.putfield 204, 3) := by decide +kernel
theorem dX9_court_39 : decode cX9_court 39 = .ok (.iload_n 1, 1) := by decide +kernel
theorem dX9_court_40 : decode cX9_court 40 = .ok (.ireturn, 1) := by decide +kernel
theorem dX9_sheet_0 : decode cX9_sheet 0 = .ok (.iload_n 1, 1) := by decide +kernel
theorem dX9_sheet_1 : decode cX9_sheet 1 = .ok (.invokestatic 218, 3) := by decide +kernel
theorem dX9_sheet_4 : decode cX9_sheet 4 = .ok (.ifCond .eq 25, 3) := by decide +kernel
theorem dX9_sheet_7 : decode cX9_sheet 7 = .ok (.iload_n 2, 1) := by decide +kernel
theorem dX9_sheet_8 : decode cX9_sheet 8 = .ok (.ifCond .eq 27, 3) := by decide +kernel
theorem dX9_sheet_11 : decode cX9_sheet 11 = .ok (.iload_n 2, 1) := by decide +kernel
theorem dX9_sheet_12 : decode cX9_sheet 12 = .ok (.bipush 8, 2) := by decide +kernel
theorem dX9_sheet_14 : decode cX9_sheet 14 = .ok (.if_icmp .eq 21, 3) := by decide +kernel
theorem dX9_sheet_17 : decode cX9_sheet 17 = .ok (.iload_n 2, 1) := by decide +kernel
theorem dX9_sheet_18 : decode cX9_sheet 18 = .ok (.bipush 16, 2) := by decide +kernel
theorem dX9_sheet_20 : decode cX9_sheet 20 = .ok (.if_icmp .eq 15, 3) := by decide +kernel
theorem dX9_sheet_23 : decode cX9_sheet 23 = .ok (.iload_n 2, 1) := by decide +kernel
theorem dX9_sheet_24 : decode cX9_sheet 24 = .ok (.bipush 64, 2) := by decide +kernel
theorem dX9_sheet_26 : decode cX9_sheet 26 = .ok (.if_icmp .eq 9, 3) := by decide +kernel
theorem dX9_sheet_29 : decode cX9_sheet 29 = .ok (.aload_n 0, 1) := by decide +kernel
theorem dX9_sheet_30 : decode cX9_sheet 30 = .ok (.iconst 0, 1) := by decide +kernel
theorem dX9_sheet_31 : decode cX9_sheet 31 = .ok (.invokevirtual 68, 3) := by decide +kernel
theorem dX9_sheet_34 : decode cX9_sheet 34 = .ok (.ireturn, 1) := by decide +kernel
theorem dX9_sheet_35 : decode cX9_sheet 35 = .ok (.iload_n 3, 1) := by decide +kernel
theorem dX9_sheet_36 : decode cX9_sheet 36 = .ok (.ifCond .ge 10, 3) := by decide +kernel
theorem dX9_sheet_39 : decode cX9_sheet 39 = .ok (.aload_n 0, 1) := by decide +kernel
theorem dX9_sheet_40 : decode cX9_sheet 40 = .ok (.bipush 6, 2) := by decide +kernel
theorem dX9_sheet_42 : decode cX9_sheet 42 = .ok (.invokevirtual 68, 3) := by decide +kernel
theorem dX9_sheet_45 : decode cX9_sheet 45 = .ok (.ireturn, 1) := by decide +kernel
theorem dX9_sheet_46 : decode cX9_sheet 46 = .ok (.iload_n 3, 1) := by decide +kernel
theorem dX9_sheet_47 : decode cX9_sheet 47 = .ok (.bipush 40, 2) := by decide +kernel
theorem dX9_sheet_49 : decode cX9_sheet 49 = .ok (.if_icmp .le 9, 3) := by decide +kernel
theorem dX9_sheet_52 : decode cX9_sheet 52 = .ok (.aload_n 0, 1) := by decide +kernel
theorem dX9_sheet_53 : decode cX9_sheet 53 = .ok (.iconst 0, 1) := by decide +kernel
theorem dX9_sheet_54 : decode cX9_sheet 54 = .ok (.invokevirtual 68, 3) := by decide +kernel
theorem dX9_sheet_57 : decode cX9_sheet 57 = .ok (.ireturn, 1) := by decide +kernel
theorem dX9_sheet_58 : decode cX9_sheet 58 = .ok (.aload_n 0, 1) := by decide +kernel
theorem dX9_sheet_59 : decode cX9_sheet 59 = .ok (.getfield 52, 3) := by decide +kernel
theorem dX9_sheet_62 : decode cX9_sheet 62 = .ok (.iload_n 1, 1) := by decide +kernel
theorem dX9_sheet_63 : decode cX9_sheet 63 = .ok (.aaload, 1) := by decide +kernel
theorem dX9_sheet_64 : decode cX9_sheet 64 = .ok (.iload_n 2, 1) := by decide +kernel
theorem dX9_sheet_65 : decode cX9_sheet 65 = .ok (.iload_n 3, 1) := by decide +kernel
theorem dX9_sheet_66 : decode cX9_sheet 66 = .ok (.invokevirtual 221, 3) := by decide +kernel
theorem dX9_sheet_69 : decode cX9_sheet 69 = .ok (.aload_n 0, 1) := by decide +kernel
theorem dX9_sheet_70 : decode cX9_sheet 70 = .ok (.getfield 52, 3) := by decide +kernel
theorem dX9_sheet_73 : decode cX9_sheet 73 = .ok (.iload_n 1, 1) := by decide +kernel
theorem dX9_sheet_74 : decode cX9_sheet 74 = .ok (.aaload, 1) := by decide +kernel
theorem dX9_sheet_75 : decode cX9_sheet 75 = .ok (.getfield 224, 3) := by decide +kernel
theorem dX9_sheet_78 : decode cX9_sheet 78 = .ok (.ireturn, 1) := by decide +kernel
theorem dX9_write_0 : decode cX9_write 0 = .ok (.iload_n 1, 1) := by decide +kernel
theorem dX9_write_1 : decode cX9_write 1 = .ok (.invokestatic 218, 3) := by decide +kernel
theorem dX9_write_4 : decode cX9_write 4 = .ok (.ifCond .ne 10, 3) := by decide +kernel
theorem dX9_write_7 : decode cX9_write 7 = .ok (.aload_n 0, 1) := by decide +kernel
theorem dX9_write_8 : decode cX9_write 8 = .ok (.iconst 0, 1) := by decide +kernel
theorem dX9_write_9 : decode cX9_write 9 = .ok (.invokevirtual 68, 3) := by decide +kernel
theorem dX9_write_12 : decode cX9_write 12 = .ok (.i2l, 1) := by decide +kernel
theorem dX9_write_13 : decode cX9_write 13 = .ok (.lreturn, 1) := by decide +kernel
theorem dX9_write_14 : decode cX9_write 14 = .ok (.aload_n 0, 1) := by decide +kernel
theorem dX9_write_15 : decode cX9_write 15 = .ok (.getfield 52, 3) := by decide +kernel
theorem dX9_write_18 : decode cX9_write 18 = .ok (.iload_n 1, 1) := by decide +kernel
theorem dX9_write_19 : decode cX9_write 19 = .ok (.aaload, 1) := by decide +kernel
theorem dX9_write_20 : decode cX9_write 20 = .ok (.astore 5, 2) := by decide +kernel
