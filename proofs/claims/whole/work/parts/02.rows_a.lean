theorem dX0_init_0 : decode cX0_init 0 = .ok (.aload_n 0, 1) := by decide +kernel
theorem dX0_init_1 : decode cX0_init 1 = .ok (.invokespecial 1, 3) := by decide +kernel
theorem dX0_init_4 : decode cX0_init 4 = .ok (.return_, 1) := by decide +kernel
theorem dX0_name_0 : decode cX0_name 0 = .ok (.ldc 7, 2) := by decide +kernel
theorem dX0_name_2 : decode cX0_name 2 = .ok (.areturn, 1) := by decide +kernel
theorem dX0_cutsHigh_0 : decode cX0_cutsHigh 0 = .ok (.aload_n 0, 1) := by decide +kernel
theorem dX0_cutsHigh_1 : decode cX0_cutsHigh 1 = .ok (.iload_n 1, 1) := by decide +kernel
theorem dX0_cutsHigh_2 : decode cX0_cutsHigh 2 = .ok (.invokespecial 9, 3) := by decide +kernel
theorem dX0_cutsHigh_5 : decode cX0_cutsHigh 5 = .ok (.iconst 2, 1) := by decide +kernel
theorem dX0_cutsHigh_6 : decode cX0_cutsHigh 6 = .ok (.isub, 1) := by decide +kernel
theorem dX0_cutsHigh_7 : decode cX0_cutsHigh 7 = .ok (.ireturn, 1) := by decide +kernel
theorem dX1_init_0 : decode cX1_init 0 = .ok (.aload_n 0, 1) := by decide +kernel
theorem dX1_init_1 : decode cX1_init 1 = .ok (.invokespecial 1, 3) := by decide +kernel
theorem dX1_init_4 : decode cX1_init 4 = .ok (.return_, 1) := by decide +kernel
theorem dX1_name_0 : decode cX1_name 0 = .ok (.ldc 7, 2) := by decide +kernel
theorem dX1_name_2 : decode cX1_name 2 = .ok (.areturn, 1) := by decide +kernel
theorem dX1_works_0 : decode cX1_works 0 = .ok (.aload_n 0, 1) := by decide +kernel
theorem dX1_works_1 : decode cX1_works 1 = .ok (.iload_n 1, 1) := by decide +kernel
theorem dX1_works_2 : decode cX1_works 2 = .ok (.iload_n 2, 1) := by decide +kernel
theorem dX1_works_3 : decode cX1_works 3 = .ok (.invokespecial 9, 3) := by decide +kernel
theorem dX1_works_6 : decode cX1_works 6 = .ok (.iconst 2, 1) := by decide +kernel
theorem dX1_works_7 : decode cX1_works 7 = .ok (.idiv, 1) := by decide +kernel
theorem dX1_works_8 : decode cX1_works 8 = .ok (.ireturn, 1) := by decide +kernel
theorem dX1_cutsHigh_0 : decode cX1_cutsHigh 0 = .ok (.aload_n 0, 1) := by decide +kernel
theorem dX1_cutsHigh_1 : decode cX1_cutsHigh 1 = .ok (.iload_n 1, 1) := by decide +kernel
theorem dX1_cutsHigh_2 : decode cX1_cutsHigh 2 = .ok (.invokespecial 13, 3) := by decide +kernel
theorem dX1_cutsHigh_5 : decode cX1_cutsHigh 5 = .ok (.iconst 3, 1) := by decide +kernel
theorem dX1_cutsHigh_6 : decode cX1_cutsHigh 6 = .ok (.iadd, 1) := by decide +kernel
theorem dX1_cutsHigh_7 : decode cX1_cutsHigh 7 = .ok (.ireturn, 1) := by decide +kernel
theorem dX1_counts_0 : decode cX1_counts 0 = .ok (.iconst 2, 1) := by decide +kernel
theorem dX1_counts_1 : decode cX1_counts 1 = .ok (.ireturn, 1) := by decide +kernel
theorem dX2_init_0 : decode cX2_init 0 = .ok (.aload_n 0, 1) := by decide +kernel
theorem dX2_init_1 : decode cX2_init 1 = .ok (.invokespecial 1, 3) := by decide +kernel
theorem dX2_init_4 : decode cX2_init 4 = .ok (.return_, 1) := by decide +kernel
theorem dX2_name_0 : decode cX2_name 0 = .ok (.ldc 7, 2) := by decide +kernel
theorem dX2_name_2 : decode cX2_name 2 = .ok (.areturn, 1) := by decide +kernel
theorem dX2_works_0 : decode cX2_works 0 = .ok (.aload_n 0, 1) := by decide +kernel
theorem dX2_works_1 : decode cX2_works 1 = .ok (.iload_n 1, 1) := by decide +kernel
theorem dX2_works_2 : decode cX2_works 2 = .ok (.iload_n 2, 1) := by decide +kernel
theorem dX2_works_3 : decode cX2_works 3 = .ok (.invokespecial 9, 3) := by decide +kernel
theorem dX2_works_6 : decode cX2_works 6 = .ok (.iconst 2, 1) := by decide +kernel
theorem dX2_works_7 : decode cX2_works 7 = .ok (.iadd, 1) := by decide +kernel
theorem dX2_works_8 : decode cX2_works 8 = .ok (.ireturn, 1) := by decide +kernel
theorem dX2_cutsHigh_0 : decode cX2_cutsHigh 0 = .ok (.aload_n 0, 1) := by decide +kernel
theorem dX2_cutsHigh_1 : decode cX2_cutsHigh 1 = .ok (.iload_n 1, 1) := by decide +kernel
theorem dX2_cutsHigh_2 : decode cX2_cutsHigh 2 = .ok (.invokespecial 13, 3) := by decide +kernel
theorem dX2_cutsHigh_5 : decode cX2_cutsHigh 5 = .ok (.iconst 5, 1) := by decide +kernel
theorem dX2_cutsHigh_6 : decode cX2_cutsHigh 6 = .ok (.iadd, 1) := by decide +kernel
theorem dX2_cutsHigh_7 : decode cX2_cutsHigh 7 = .ok (.ireturn, 1) := by decide +kernel
theorem dX3_init_0 : decode cX3_init 0 = .ok (.aload_n 0, 1) := by decide +kernel
theorem dX3_init_1 : decode cX3_init 1 = .ok (.invokespecial 1, 3) := by decide +kernel
theorem dX3_init_4 : decode cX3_init 4 = .ok (.return_, 1) := by decide +kernel
theorem dX3_name_0 : decode cX3_name 0 = .ok (.ldc 7, 2) := by decide +kernel
theorem dX3_name_2 : decode cX3_name 2 = .ok (.areturn, 1) := by decide +kernel
theorem dX3_works_0 : decode cX3_works 0 = .ok (.iload_n 1, 1) := by decide +kernel
theorem dX3_works_1 : decode cX3_works 1 = .ok (.ireturn, 1) := by decide +kernel
theorem dX3_cutsHigh_0 : decode cX3_cutsHigh 0 = .ok (.bipush 8, 2) := by decide +kernel
theorem dX3_cutsHigh_2 : decode cX3_cutsHigh 2 = .ok (.iload_n 1, 1) := by decide +kernel
theorem dX3_cutsHigh_3 : decode cX3_cutsHigh 3 = .ok (.iadd, 1) := by decide +kernel
theorem dX3_cutsHigh_4 : decode cX3_cutsHigh 4 = .ok (.ireturn, 1) := by decide +kernel
theorem dX3_counts_0 : decode cX3_counts 0 = .ok (.iconst 1, 1) := by decide +kernel
theorem dX3_counts_1 : decode cX3_counts 1 = .ok (.ireturn, 1) := by decide +kernel
theorem dX4_init_0 : decode cX4_init 0 = .ok (.aload_n 0, 1) := by decide +kernel
theorem dX4_init_1 : decode cX4_init 1 = .ok (.invokespecial 3, 3) := by decide +kernel
theorem dX4_init_4 : decode cX4_init 4 = .ok (.aload_n 0, 1) := by decide +kernel
theorem dX4_init_5 : decode cX4_init 5 = .ok (.bipush 40, 2) := by decide +kernel
theorem dX4_init_7 : decode cX4_init 7 = .ok (.newarray .int, 2) := by decide +kernel
theorem dX4_init_9 : decode cX4_init 9 = .ok (.putfield 9, 3) := by decide +kernel
theorem dX4_init_12 : decode cX4_init 12 = .ok (.aload_n 0, 1) := by decide +kernel
theorem dX4_init_13 : decode cX4_init 13 = .ok (.bipush 40, 2) := by decide +kernel
theorem dX4_init_15 : decode cX4_init 15 = .ok (.newarray .int, 2) := by decide +kernel
theorem dX4_init_17 : decode cX4_init 17 = .ok (.putfield 15, 3) := by decide +kernel
theorem dX4_init_20 : decode cX4_init 20 = .ok (.aload_n 0, 1) := by decide +kernel
theorem dX4_init_21 : decode cX4_init 21 = .ok (.bipush 40, 2) := by decide +kernel
theorem dX4_init_23 : decode cX4_init 23 = .ok (.newarray .int, 2) := by decide +kernel
theorem dX4_init_25 : decode cX4_init 25 = .ok (.putfield 18, 3) := by decide +kernel
theorem dX4_init_28 : decode cX4_init 28 = .ok (.aload_n 0, 1) := by decide +kernel
theorem dX4_init_29 : decode cX4_init 29 = .ok (.bipush 40, 2) := by decide +kernel
theorem dX4_init_31 : decode cX4_init 31 = .ok (.newarray .int, 2) := by decide +kernel
theorem dX4_init_33 : decode cX4_init 33 = .ok (.putfield 21, 3) := by decide +kernel
theorem dX4_init_36 : decode cX4_init 36 = .ok (.aload_n 0, 1) := by decide +kernel
theorem dX4_init_37 : decode cX4_init 37 = .ok (.iconst 4, 1) := by decide +kernel
theorem dX4_init_38 : decode cX4_init 38 = .ok (.putfield 24, 3) := by decide +kernel
theorem dX4_init_41 : decode cX4_init 41 = .ok (.aload_n 0, 1) := by decide +kernel
theorem dX4_init_42 : decode cX4_init 42 = .ok (.iconst 1, 1) := by decide +kernel
theorem dX4_init_43 : decode cX4_init 43 = .ok (.putfield 28, 3) := by decide +kernel
theorem dX4_init_46 : decode cX4_init 46 = .ok (.aload_n 0, 1) := by decide +kernel
theorem dX4_init_47 : decode cX4_init 47 = .ok (.bipush 10, 2) := by decide +kernel
theorem dX4_init_49 : decode cX4_init 49 = .ok (.newarray .int, 2) := by decide +kernel
theorem dX4_init_51 : decode cX4_init 51 = .ok (.putfield 31, 3) := by decide +kernel
theorem dX4_init_54 : decode cX4_init 54 = .ok (.aload_n 0, 1) := by decide +kernel
theorem dX4_init_55 : decode cX4_init 55 = .ok (.bipush 10, 2) := by decide +kernel
theorem dX4_init_57 : decode cX4_init 57 = .ok (.newarray .int, 2) := by decide +kernel
theorem dX4_init_59 : decode cX4_init 59 = .ok (.putfield 34, 3) := by decide +kernel
theorem dX4_init_62 : decode cX4_init 62 = .ok (.aload_n 0, 1) := by decide +kernel
theorem dX4_init_63 : decode cX4_init 63 = .ok (.bipush 10, 2) := by decide +kernel
theorem dX4_init_65 : decode cX4_init 65 = .ok (.newarray .int, 2) := by decide +kernel
theorem dX4_init_67 : decode cX4_init 67 = .ok (.putfield 37, 3) := by decide +kernel
theorem dX4_init_70 : decode cX4_init 70 = .ok (.aload_n 0, 1) := by decide +kernel
theorem dX4_init_71 : decode cX4_init 71 = .ok (.bipush 10, 2) := by decide +kernel
theorem dX4_init_73 : decode cX4_init 73 = .ok (.newarray .int, 2) := by decide +kernel
theorem dX4_init_75 : decode cX4_init 75 = .ok (.putfield 40, 3) := by decide +kernel
theorem dX4_init_78 : decode cX4_init 78 = .ok (.aload_n 0, 1) := by decide +kernel
theorem dX4_init_79 : decode cX4_init 79 = .ok (.bipush 10, 2) := by decide +kernel
theorem dX4_init_81 : decode cX4_init 81 = .ok (.newarray .int, 2) := by decide +kernel
theorem dX4_init_83 : decode cX4_init 83 = .ok (.putfield 43, 3) := by decide +kernel
theorem dX4_init_86 : decode cX4_init 86 = .ok (.aload_n 0, 1) := by decide +kernel
theorem dX4_init_87 : decode cX4_init 87 = .ok (.aload_n 1, 1) := by decide +kernel
theorem dX4_init_88 : decode cX4_init 88 = .ok (.putfield 46, 3) := by decide +kernel
theorem dX4_init_91 : decode cX4_init 91 = .ok (.aload_n 0, 1) := by decide +kernel
theorem dX4_init_92 : decode cX4_init 92 = .ok (.getfield 9, 3) := by decide +kernel
theorem dX4_init_95 : decode cX4_init 95 = .ok (.iconst 3, 1) := by decide +kernel
theorem dX4_init_96 : decode cX4_init 96 = .ok (.invokestatic 50, 3) := by decide +kernel
theorem dX4_init_99 : decode cX4_init 99 = .ok (.return_, 1) := by decide +kernel
theorem dX4_become_0 : decode cX4_become 0 = .ok (.aload_n 1, 1) := by decide +kernel
theorem dX4_become_1 : decode cX4_become 1 = .ok (.getfield 9, 3) := by decide +kernel
theorem dX4_become_4 : decode cX4_become 4 = .ok (.iconst 0, 1) := by decide +kernel
theorem dX4_become_5 : decode cX4_become 5 = .ok (.aload_n 0, 1) := by decide +kernel
theorem dX4_become_6 : decode cX4_become 6 = .ok (.getfield 9, 3) := by decide +kernel
theorem dX4_become_9 : decode cX4_become 9 = .ok (.iconst 0, 1) := by decide +kernel
theorem dX4_become_10 : decode cX4_become 10 = .ok (.bipush 40, 2) := by decide +kernel
theorem dX4_become_12 : decode cX4_become 12 = .ok (.invokestatic 56, 3) := by decide +kernel
theorem dX4_become_15 : decode cX4_become 15 = .ok (.aload_n 1, 1) := by decide +kernel
theorem dX4_become_16 : decode cX4_become 16 = .ok (.getfield 15, 3) := by decide +kernel
theorem dX4_become_19 : decode cX4_become 19 = .ok (.iconst 0, 1) := by decide +kernel
theorem dX4_become_20 : decode cX4_become 20 = .ok (.aload_n 0, 1) := by decide +kernel
theorem dX4_become_21 : decode cX4_become 21 = .ok (.getfield 15, 3) := by decide +kernel
theorem dX4_become_24 : decode cX4_become 24 = .ok (.iconst 0, 1) := by decide +kernel
theorem dX4_become_25 : decode cX4_become 25 = .ok (.bipush 40, 2) := by decide +kernel
theorem dX4_become_27 : decode cX4_become 27 = .ok (.invokestatic 56, 3) := by decide +kernel
theorem dX4_become_30 : decode cX4_become 30 = .ok (.aload_n 1, 1) := by decide +kernel
theorem dX4_become_31 : decode cX4_become 31 = .ok (.getfield 18, 3) := by decide +kernel
theorem dX4_become_34 : decode cX4_become 34 = .ok (.iconst 0, 1) := by decide +kernel
theorem dX4_become_35 : decode cX4_become 35 = .ok (.aload_n 0, 1) := by decide +kernel
theorem dX4_become_36 : decode cX4_become 36 = .ok (.getfield 18, 3) := by decide +kernel
theorem dX4_become_39 : decode cX4_become 39 = .ok (.iconst 0, 1) := by decide +kernel
theorem dX4_become_40 : decode cX4_become 40 = .ok (.bipush 40, 2) := by decide +kernel
theorem dX4_become_42 : decode cX4_become 42 = .ok (.invokestatic 56, 3) := by decide +kernel
theorem dX4_become_45 : decode cX4_become 45 = .ok (.aload_n 1, 1) := by decide +kernel
theorem dX4_become_46 : decode cX4_become 46 = .ok (.getfield 21, 3) := by decide +kernel
theorem dX4_become_49 : decode cX4_become 49 = .ok (.iconst 0, 1) := by decide +kernel
theorem dX4_become_50 : decode cX4_become 50 = .ok (.aload_n 0, 1) := by decide +kernel
theorem dX4_become_51 : decode cX4_become 51 = .ok (.getfield 21, 3) := by decide +kernel
theorem dX4_become_54 : decode cX4_become 54 = .ok (.iconst 0, 1) := by decide +kernel
theorem dX4_become_55 : decode cX4_become 55 = .ok (.bipush 40, 2) := by decide +kernel
theorem dX4_become_57 : decode cX4_become 57 = .ok (.invokestatic 56, 3) := by decide +kernel
theorem dX4_become_60 : decode cX4_become 60 = .ok (.aload_n 0, 1) := by decide +kernel
theorem dX4_become_61 : decode cX4_become 61 = .ok (.aload_n 1, 1) := by decide +kernel
theorem dX4_become_62 : decode cX4_become 62 = .ok (.getfield 62, 3) := by decide +kernel
theorem dX4_become_65 : decode cX4_become 65 = .ok (.putfield 62, 3) := by decide +kernel
theorem dX4_become_68 : decode cX4_become 68 = .ok (.aload_n 0, 1) := by decide +kernel
theorem dX4_become_69 : decode cX4_become 69 = .ok (.aload_n 1, 1) := by decide +kernel
theorem dX4_become_70 : decode cX4_become 70 = .ok (.getfield 66, 3) := by decide +kernel
theorem dX4_become_73 : decode cX4_become 73 = .ok (.putfield 66, 3) := by decide +kernel
theorem dX4_become_76 : decode cX4_become 76 = .ok (.aload_n 0, 1) := by decide +kernel
theorem dX4_become_77 : decode cX4_become 77 = .ok (.aload_n 1, 1) := by decide +kernel
theorem dX4_become_78 : decode cX4_become 78 = .ok (.getfield 69, 3) := by decide +kernel
theorem dX4_become_81 : decode cX4_become 81 = .ok (.putfield 69, 3) := by decide +kernel
theorem dX4_become_84 : decode cX4_become 84 = .ok (.aload_n 0, 1) := by decide +kernel
theorem dX4_become_85 : decode cX4_become 85 = .ok (.aload_n 1, 1) := by decide +kernel
theorem dX4_become_86 : decode cX4_become 86 = .ok (.getfield 24, 3) := by decide +kernel
theorem dX4_become_89 : decode cX4_become 89 = .ok (.putfield 24, 3) := by decide +kernel
theorem dX4_become_92 : decode cX4_become 92 = .ok (.aload_n 0, 1) := by decide +kernel
theorem dX4_become_93 : decode cX4_become 93 = .ok (.aload_n 1, 1) := by decide +kernel
theorem dX4_become_94 : decode cX4_become 94 = .ok (.getfield 28, 3) := by decide +kernel
theorem dX4_become_97 : decode cX4_become 97 = .ok (.putfield 28, 3) := by decide +kernel
theorem dX4_become_100 : decode cX4_become 100 = .ok (.aload_n 0, 1) := by decide +kernel
theorem dX4_become_101 : decode cX4_become 101 = .ok (.aload_n 1, 1) := by decide +kernel
theorem dX4_become_102 : decode cX4_become 102 = .ok (.getfield 72, 3) := by decide +kernel
theorem dX4_become_105 : decode cX4_become 105 = .ok (.putfield 72, 3) := by decide +kernel
theorem dX4_become_108 : decode cX4_become 108 = .ok (.aload_n 1, 1) := by decide +kernel
theorem dX4_become_109 : decode cX4_become 109 = .ok (.getfield 31, 3) := by decide +kernel
theorem dX4_become_112 : decode cX4_become 112 = .ok (.iconst 0, 1) := by decide +kernel
theorem dX4_become_113 : decode cX4_become 113 = .ok (.aload_n 0, 1) := by decide +kernel
theorem dX4_become_114 : decode cX4_become 114 = .ok (.getfield 31, 3) := by decide +kernel
theorem dX4_become_117 : decode cX4_become 117 = .ok (.iconst 0, 1) := by decide +kernel
theorem dX4_become_118 : decode cX4_become 118 = .ok (.bipush 10, 2) := by decide +kernel
theorem dX4_become_120 : decode cX4_become 120 = .ok (.invokestatic 56, 3) := by decide +kernel
theorem dX4_become_123 : decode cX4_become 123 = .ok (.aload_n 1, 1) := by decide +kernel
theorem dX4_become_124 : decode cX4_become 124 = .ok (.getfield 34, 3) := by decide +kernel
theorem dX4_become_127 : decode cX4_become 127 = .ok (.iconst 0, 1) := by decide +kernel
theorem dX4_become_128 : decode cX4_become 128 = .ok (.aload_n 0, 1) := by decide +kernel
theorem dX4_become_129 : decode cX4_become 129 = .ok (.getfield 34, 3) := by decide +kernel
theorem dX4_become_132 : decode cX4_become 132 = .ok (.iconst 0, 1) := by decide +kernel
theorem dX4_become_133 : decode cX4_become 133 = .ok (.bipush 10, 2) := by decide +kernel
theorem dX4_become_135 : decode cX4_become 135 = .ok (.invokestatic 56, 3) := by decide +kernel
theorem dX4_become_138 : decode cX4_become 138 = .ok (.aload_n 1, 1) := by decide +kernel
theorem dX4_become_139 : decode cX4_become 139 = .ok (.getfield 37, 3) := by decide +kernel
theorem dX4_become_142 : decode cX4_become 142 = .ok (.iconst 0, 1) := by decide +kernel
theorem dX4_become_143 : decode cX4_become 143 = .ok (.aload_n 0, 1) := by decide +kernel
theorem dX4_become_144 : decode cX4_become 144 = .ok (.getfield 37, 3) := by decide +kernel
theorem dX4_become_147 : decode cX4_become 147 = .ok (.iconst 0, 1) := by decide +kernel
theorem dX4_become_148 : decode cX4_become 148 = .ok (.bipush 10, 2) := by decide +kernel
theorem dX4_become_150 : decode cX4_become 150 = .ok (.invokestatic 56, 3) := by decide +kernel
theorem dX4_become_153 : decode cX4_become 153 = .ok (.aload_n 1, 1) := by decide +kernel
theorem dX4_become_154 : decode cX4_become 154 = .ok (.getfield 40, 3) := by decide +kernel
theorem dX4_become_157 : decode cX4_become 157 = .ok (.iconst 0, 1) := by decide +kernel
theorem dX4_become_158 : decode cX4_become 158 = .ok (.aload_n 0, 1) := by decide +kernel
theorem dX4_become_159 : decode cX4_become 159 = .ok (.getfield 40, 3) := by decide +kernel
theorem dX4_become_162 : decode cX4_become 162 = .ok (.iconst 0, 1) := by decide +kernel
theorem dX4_become_163 : decode cX4_become 163 = .ok (.bipush 10, 2) := by decide +kernel
theorem dX4_become_165 : decode cX4_become 165 = .ok (.invokestatic 56, 3) := by decide +kernel
theorem dX4_become_168 : decode cX4_become 168 = .ok (.aload_n 1, 1) := by decide +kernel
theorem dX4_become_169 : decode cX4_become 169 = .ok (.getfield 43, 3) := by decide +kernel
theorem dX4_become_172 : decode cX4_become 172 = .ok (.iconst 0, 1) := by decide +kernel
theorem dX4_become_173 : decode cX4_become 173 = .ok (.aload_n 0, 1) := by decide +kernel
theorem dX4_become_174 : decode cX4_become 174 = .ok (.getfield 43, 3) := by decide +kernel
theorem dX4_become_177 : decode cX4_become 177 = .ok (.iconst 0, 1) := by decide +kernel
theorem dX4_become_178 : decode cX4_become 178 = .ok (.bipush 10, 2) := by decide +kernel
theorem dX4_become_180 : decode cX4_become 180 = .ok (.invokestatic 56, 3) := by decide +kernel
theorem dX4_become_183 : decode cX4_become 183 = .ok (.return_, 1) := by decide +kernel
theorem dX4_isFull_0 : decode cX4_isFull 0 = .ok (.aload_n 0, 1) := by decide +kernel
theorem dX4_isFull_1 : decode cX4_isFull 1 = .ok (.getfield 72, 3) := by decide +kernel
theorem dX4_isFull_4 : decode cX4_isFull 4 = .ok (.bipush 10, 2) := by decide +kernel
theorem dX4_isFull_6 : decode cX4_isFull 6 = .ok (.if_icmp .lt 7, 3) := by decide +kernel
theorem dX4_isFull_9 : decode cX4_isFull 9 = .ok (.iconst 1, 1) := by decide +kernel
theorem dX4_isFull_10 : decode cX4_isFull 10 = .ok (.goto 4, 3) := by decide +kernel
theorem dX4_isFull_13 : decode cX4_isFull 13 = .ok (.iconst 0, 1) := by decide +kernel
theorem dX4_isFull_14 : decode cX4_isFull 14 = .ok (.ireturn, 1) := by decide +kernel
theorem dX4_hasFine_0 : decode cX4_hasFine 0 = .ok (.iload_n 1, 1) := by decide +kernel
theorem dX4_hasFine_1 : decode cX4_hasFine 1 = .ok (.ifCond .lt 21, 3) := by decide +kernel
theorem dX4_hasFine_4 : decode cX4_hasFine 4 = .ok (.iload_n 1, 1) := by decide +kernel
theorem dX4_hasFine_5 : decode cX4_hasFine 5 = .ok (.aload_n 0, 1) := by decide +kernel
theorem dX4_hasFine_6 : decode cX4_hasFine 6 = .ok (.getfield 72, 3) := by decide +kernel
theorem dX4_hasFine_9 : decode cX4_hasFine 9 = .ok (.if_icmp .ge 13, 3) := by decide +kernel
theorem dX4_hasFine_12 : decode cX4_hasFine 12 = .ok (.iload_n 1, 1) := by decide +kernel
theorem dX4_hasFine_13 : decode cX4_hasFine 13 = .ok (.bipush 10, 2) := by decide +kernel
theorem dX4_hasFine_15 : decode cX4_hasFine 15 = .ok (.if_icmp .ge 7, 3) := by decide +kernel
theorem dX4_hasFine_18 : decode cX4_hasFine 18 = .ok (.iconst 1, 1) := by decide +kernel
theorem dX4_hasFine_19 : decode cX4_hasFine 19 = .ok (.goto 4, 3) := by decide +kernel
theorem dX4_hasFine_22 : decode cX4_hasFine 22 = .ok (.iconst 0, 1) := by decide +kernel
theorem dX4_hasFine_23 : decode cX4_hasFine 23 = .ok (.ireturn, 1) := by decide +kernel
theorem dX4_addFine_0 : decode cX4_addFine 0 = .ok (.aload_n 0, 1) := by decide +kernel
theorem dX4_addFine_1 : decode cX4_addFine 1 = .ok (.invokevirtual 75, 3) := by decide +kernel
theorem dX4_addFine_4 : decode cX4_addFine 4 = .ok (.ifCond .eq 4, 3) := by decide +kernel
theorem dX4_addFine_7 : decode cX4_addFine 7 = .ok (.return_, 1) := by decide +kernel
theorem dX4_addFine_8 : decode cX4_addFine 8 = .ok (.aload_n 0, 1) := by decide +kernel
theorem dX4_addFine_9 : decode cX4_addFine 9 = .ok (.getfield 31, 3) := by decide +kernel
theorem dX4_addFine_12 : decode cX4_addFine 12 = .ok (.aload_n 0, 1) := by decide +kernel
theorem dX4_addFine_13 : decode cX4_addFine 13 = .ok (.getfield 72, 3) := by decide +kernel
theorem dX4_addFine_16 : decode cX4_addFine 16 = .ok (.iload_n 1, 1) := by decide +kernel
theorem dX4_addFine_17 : decode cX4_addFine 17 = .ok (.iastore, 1) := by decide +kernel
theorem dX4_addFine_18 : decode cX4_addFine 18 = .ok (.aload_n 0, 1) := by decide +kernel
theorem dX4_addFine_19 : decode cX4_addFine 19 = .ok (.getfield 34, 3) := by decide +kernel
theorem dX4_addFine_22 : decode cX4_addFine 22 = .ok (.aload_n 0, 1) := by decide +kernel
theorem dX4_addFine_23 : decode cX4_addFine 23 = .ok (.getfield 72, 3) := by decide +kernel
theorem dX4_addFine_26 : decode cX4_addFine 26 = .ok (.iload_n 2, 1) := by decide +kernel
theorem dX4_addFine_27 : decode cX4_addFine 27 = .ok (.iastore, 1) := by decide +kernel
theorem dX4_addFine_28 : decode cX4_addFine 28 = .ok (.aload_n 0, 1) := by decide +kernel
theorem dX4_addFine_29 : decode cX4_addFine 29 = .ok (.getfield 37, 3) := by decide +kernel
theorem dX4_addFine_32 : decode cX4_addFine 32 = .ok (.aload_n 0, 1) := by decide +kernel
theorem dX4_addFine_33 : decode cX4_addFine 33 = .ok (.getfield 72, 3) := by decide +kernel
theorem dX4_addFine_36 : decode cX4_addFine 36 = .ok (.iload_n 3, 1) := by decide +kernel
theorem dX4_addFine_37 : decode cX4_addFine 37 = .ok (.iastore, 1) := by decide +kernel
theorem dX4_addFine_38 : decode cX4_addFine 38 = .ok (.aload_n 0, 1) := by decide +kernel
theorem dX4_addFine_39 : decode cX4_addFine 39 = .ok (.getfield 40, 3) := by decide +kernel
theorem dX4_addFine_42 : decode cX4_addFine 42 = .ok (.aload_n 0, 1) := by decide +kernel
theorem dX4_addFine_43 : decode cX4_addFine 43 = .ok (.getfield 72, 3) := by decide +kernel
theorem dX4_addFine_46 : decode cX4_addFine 46 = .ok (.iload 4, 2) := by decide +kernel
theorem dX4_addFine_48 : decode cX4_addFine 48 = .ok (.iastore, 1) := by decide +kernel
theorem dX4_addFine_49 : decode cX4_addFine 49 = .ok (.aload_n 0, 1) := by decide +kernel
theorem dX4_addFine_50 : decode cX4_addFine 50 = .ok (.getfield 43, 3) := by decide +kernel
theorem dX4_addFine_53 : decode cX4_addFine 53 = .ok (.aload_n 0, 1) := by decide +kernel
theorem dX4_addFine_54 : decode cX4_addFine 54 = .ok (.getfield 72, 3) := by decide +kernel
theorem dX4_addFine_57 : decode cX4_addFine 57 = .ok (.iconst 0, 1) := by decide +kernel
theorem dX4_addFine_58 : decode cX4_addFine 58 = .ok (.iastore, 1) := by decide +kernel
theorem dX4_addFine_59 : decode cX4_addFine 59 = .ok (.aload_n 0, 1) := by decide +kernel
theorem dX4_addFine_60 : decode cX4_addFine 60 = .ok (.dup, 1) := by decide +kernel
theorem dX4_addFine_61 : decode cX4_addFine 61 = .ok (.getfield 72, 3) := by decide +kernel
theorem dX4_addFine_64 : decode cX4_addFine 64 = .ok (.iconst 1, 1) := by decide +kernel
theorem dX4_addFine_65 : decode cX4_addFine 65 = .ok (.iadd, 1) := by decide +kernel
theorem dX4_addFine_66 : decode cX4_addFine 66 = .ok (.putfield 72, 3) := by decide +kernel
theorem dX4_addFine_69 : decode cX4_addFine 69 = .ok (.return_, 1) := by decide +kernel
theorem dX4_moveFine_0 : decode cX4_moveFine 0 = .ok (.aload_n 0, 1) := by decide +kernel
theorem dX4_moveFine_1 : decode cX4_moveFine 1 = .ok (.getfield 37, 3) := by decide +kernel
theorem dX4_moveFine_4 : decode cX4_moveFine 4 = .ok (.iload_n 1, 1) := by decide +kernel
theorem dX4_moveFine_5 : decode cX4_moveFine 5 = .ok (.iload_n 2, 1) := by decide +kernel
theorem dX4_moveFine_6 : decode cX4_moveFine 6 = .ok (.iastore, 1) := by decide +kernel
theorem dX4_moveFine_7 : decode cX4_moveFine 7 = .ok (.aload_n 0, 1) := by decide +kernel
theorem dX4_moveFine_8 : decode cX4_moveFine 8 = .ok (.getfield 43, 3) := by decide +kernel
theorem dX4_moveFine_11 : decode cX4_moveFine 11 = .ok (.iload_n 1, 1) := by decide +kernel
theorem dX4_moveFine_12 : decode cX4_moveFine 12 = .ok (.iconst 0, 1) := by decide +kernel
theorem dX4_moveFine_13 : decode cX4_moveFine 13 = .ok (.iastore, 1) := by decide +kernel
theorem dX4_moveFine_14 : decode cX4_moveFine 14 = .ok (.return_, 1) := by decide +kernel
theorem dX4_kindOf_0 : decode cX4_kindOf 0 = .ok (.aload_n 0, 1) := by decide +kernel
theorem dX4_kindOf_1 : decode cX4_kindOf 1 = .ok (.getfield 31, 3) := by decide +kernel
theorem dX4_kindOf_4 : decode cX4_kindOf 4 = .ok (.iload_n 1, 1) := by decide +kernel
theorem dX4_kindOf_5 : decode cX4_kindOf 5 = .ok (.iaload, 1) := by decide +kernel
theorem dX4_kindOf_6 : decode cX4_kindOf 6 = .ok (.istore_n 2, 1) := by decide +kernel
theorem dX4_kindOf_7 : decode cX4_kindOf 7 = .ok (.iload_n 2, 1) := by decide +kernel
theorem dX4_kindOf_8 : decode cX4_kindOf 8 = .ok (.invokestatic 79, 3) := by decide +kernel
theorem dX4_kindOf_11 : decode cX4_kindOf 11 = .ok (.ifCond .eq 12, 3) := by decide +kernel
theorem dX4_kindOf_14 : decode cX4_kindOf 14 = .ok (.aload_n 0, 1) := by decide +kernel
theorem dX4_kindOf_15 : decode cX4_kindOf 15 = .ok (.getfield 46, 3) := by decide +kernel
theorem dX4_kindOf_18 : decode cX4_kindOf 18 = .ok (.iload_n 2, 1) := by decide +kernel
theorem dX4_kindOf_19 : decode cX4_kindOf 19 = .ok (.aaload, 1) := by decide +kernel
theorem dX4_kindOf_20 : decode cX4_kindOf 20 = .ok (.goto 9, 3) := by decide +kernel
theorem dX4_kindOf_23 : decode cX4_kindOf 23 = .ok (.aload_n 0, 1) := by decide +kernel
theorem dX4_kindOf_24 : decode cX4_kindOf 24 = .ok (.getfield 46, 3) := by decide +kernel
theorem dX4_kindOf_27 : decode cX4_kindOf 27 = .ok (.iconst 0, 1) := by decide +kernel
theorem dX4_kindOf_28 : decode cX4_kindOf 28 = .ok (.aaload, 1) := by decide +kernel
theorem dX4_kindOf_29 : decode cX4_kindOf 29 = .ok (.areturn, 1) := by decide +kernel
theorem dX4_worksOf_0 : decode cX4_worksOf 0 = .ok (.aload_n 0, 1) := by decide +kernel
theorem dX4_worksOf_1 : decode cX4_worksOf 1 = .ok (.iload_n 1, 1) := by decide +kernel
theorem dX4_worksOf_2 : decode cX4_worksOf 2 = .ok (.invokevirtual 83, 3) := by decide +kernel
theorem dX4_worksOf_5 : decode cX4_worksOf 5 = .ok (.aload_n 0, 1) := by decide +kernel
theorem dX4_worksOf_6 : decode cX4_worksOf 6 = .ok (.getfield 40, 3) := by decide +kernel
theorem dX4_worksOf_9 : decode cX4_worksOf 9 = .ok (.iload_n 1, 1) := by decide +kernel
theorem dX4_worksOf_10 : decode cX4_worksOf 10 = .ok (.iaload, 1) := by decide +kernel
theorem dX4_worksOf_11 : decode cX4_worksOf 11 = .ok (.bipush 40, 2) := by decide +kernel
theorem dX4_worksOf_13 : decode cX4_worksOf 13 = .ok (.aload_n 0, 1) := by decide +kernel
theorem dX4_worksOf_14 : decode cX4_worksOf 14 = .ok (.invokevirtual 87, 3) := by decide +kernel
theorem dX4_worksOf_17 : decode cX4_worksOf 17 = .ok (.isub, 1) := by decide +kernel
theorem dX4_worksOf_18 : decode cX4_worksOf 18 = .ok (.invokevirtual 91, 3) := by decide +kernel
theorem dX4_worksOf_21 : decode cX4_worksOf 21 = .ok (.ireturn, 1) := by decide +kernel
theorem dX4_highOf_0 : decode cX4_highOf 0 = .ok (.iload_n 2, 1) := by decide +kernel
theorem dX4_highOf_1 : decode cX4_highOf 1 = .ok (.invokestatic 97, 3) := by decide +kernel
theorem dX4_highOf_4 : decode cX4_highOf 4 = .ok (.ifCond .eq 20, 3) := by decide +kernel
theorem dX4_highOf_7 : decode cX4_highOf 7 = .ok (.aload_n 0, 1) := by decide +kernel
theorem dX4_highOf_8 : decode cX4_highOf 8 = .ok (.iload_n 1, 1) := by decide +kernel
theorem dX4_highOf_9 : decode cX4_highOf 9 = .ok (.invokevirtual 83, 3) := by decide +kernel
theorem dX4_highOf_12 : decode cX4_highOf 12 = .ok (.aload_n 0, 1) := by decide +kernel
theorem dX4_highOf_13 : decode cX4_highOf 13 = .ok (.getfield 9, 3) := by decide +kernel
theorem dX4_highOf_16 : decode cX4_highOf 16 = .ok (.iload_n 2, 1) := by decide +kernel
theorem dX4_highOf_17 : decode cX4_highOf 17 = .ok (.iaload, 1) := by decide +kernel
theorem dX4_highOf_18 : decode cX4_highOf 18 = .ok (.invokevirtual 100, 3) := by decide +kernel
theorem dX4_highOf_21 : decode cX4_highOf 21 = .ok (.goto 4, 3) := by decide +kernel
theorem dX4_highOf_24 : decode cX4_highOf 24 = .ok (.iconst 0, 1) := by decide +kernel
theorem dX4_highOf_25 : decode cX4_highOf 25 = .ok (.ireturn, 1) := by decide +kernel
theorem dX4_cutBy_0 : decode cX4_cutBy 0 = .ok (.iconst 0, 1) := by decide +kernel
theorem dX4_cutBy_1 : decode cX4_cutBy 1 = .ok (.istore_n 2, 1) := by decide +kernel
theorem dX4_cutBy_2 : decode cX4_cutBy 2 = .ok (.iconst 0, 1) := by decide +kernel
theorem dX4_cutBy_3 : decode cX4_cutBy 3 = .ok (.istore_n 3, 1) := by decide +kernel
theorem dX4_cutBy_4 : decode cX4_cutBy 4 = .ok (.iload_n 3, 1) := by decide +kernel
theorem dX4_cutBy_5 : decode cX4_cutBy 5 = .ok (.bipush 40, 2) := by decide +kernel
theorem dX4_cutBy_7 : decode cX4_cutBy 7 = .ok (.if_icmp .ge 30, 3) := by decide +kernel
theorem dX4_cutBy_10 : decode cX4_cutBy 10 = .ok (.aload_n 0, 1) := by decide +kernel
theorem dX4_cutBy_11 : decode cX4_cutBy 11 = .ok (.iload_n 3, 1) := by decide +kernel
theorem dX4_cutBy_12 : decode cX4_cutBy 12 = .ok (.invokevirtual 104, 3) := by decide +kernel
theorem dX4_cutBy_15 : decode cX4_cutBy 15 = .ok (.ifCond .eq 16, 3) := by decide +kernel
theorem dX4_cutBy_18 : decode cX4_cutBy 18 = .ok (.aload_n 0, 1) := by decide +kernel
theorem dX4_cutBy_19 : decode cX4_cutBy 19 = .ok (.getfield 18, 3) := by decide +kernel
theorem dX4_cutBy_22 : decode cX4_cutBy 22 = .ok (.iload_n 3, 1) := by decide +kernel
theorem dX4_cutBy_23 : decode cX4_cutBy 23 = .ok (.iaload, 1) := by decide +kernel
theorem dX4_cutBy_24 : decode cX4_cutBy 24 = .ok (.iload_n 1, 1) := by decide +kernel
theorem dX4_cutBy_25 : decode cX4_cutBy 25 = .ok (.if_icmp .ne 6, 3) := by decide +kernel
theorem dX4_cutBy_28 : decode cX4_cutBy 28 = .ok (.iinc 2 1, 3) := by decide +kernel
theorem dX4_cutBy_31 : decode cX4_cutBy 31 = .ok (.iinc 3 1, 3) := by decide +kernel
theorem dX4_cutBy_34 : decode cX4_cutBy 34 = .ok (.goto (-30), 3) := by decide +kernel
theorem dX4_cutBy_37 : decode cX4_cutBy 37 = .ok (.iload_n 2, 1) := by decide +kernel
theorem dX4_cutBy_38 : decode cX4_cutBy 38 = .ok (.ireturn, 1) := by decide +kernel
theorem dX4_owedByAll_0 : decode cX4_owedByAll 0 = .ok (.iconst 0, 1) := by decide +kernel
theorem dX4_owedByAll_1 : decode cX4_owedByAll 1 = .ok (.istore_n 1, 1) := by decide +kernel
theorem dX4_owedByAll_2 : decode cX4_owedByAll 2 = .ok (.iconst 0, 1) := by decide +kernel
theorem dX4_owedByAll_3 : decode cX4_owedByAll 3 = .ok (.istore_n 2, 1) := by decide +kernel
theorem dX4_owedByAll_4 : decode cX4_owedByAll 4 = .ok (.iload_n 2, 1) := by decide +kernel
theorem dX4_owedByAll_5 : decode cX4_owedByAll 5 = .ok (.aload_n 0, 1) := by decide +kernel
theorem dX4_owedByAll_6 : decode cX4_owedByAll 6 = .ok (.getfield 72, 3) := by decide +kernel
theorem dX4_owedByAll_9 : decode cX4_owedByAll 9 = .ok (.if_icmp .ge 18, 3) := by decide +kernel
theorem dX4_owedByAll_12 : decode cX4_owedByAll 12 = .ok (.iload_n 1, 1) := by decide +kernel
theorem dX4_owedByAll_13 : decode cX4_owedByAll 13 = .ok (.aload_n 0, 1) := by decide +kernel
theorem dX4_owedByAll_14 : decode cX4_owedByAll 14 = .ok (.getfield 34, 3) := by decide +kernel
theorem dX4_owedByAll_17 : decode cX4_owedByAll 17 = .ok (.iload_n 2, 1) := by decide +kernel
theorem dX4_owedByAll_18 : decode cX4_owedByAll 18 = .ok (.iaload, 1) := by decide +kernel
theorem dX4_owedByAll_19 : decode cX4_owedByAll 19 = .ok (.iadd, 1) := by decide +kernel
theorem dX4_owedByAll_20 : decode cX4_owedByAll 20 = .ok (.istore_n 1, 1) := by decide +kernel
theorem dX4_owedByAll_21 : decode cX4_owedByAll 21 = .ok (.iinc 2 1, 3) := by decide +kernel
theorem dX4_owedByAll_24 : decode cX4_owedByAll 24 = .ok (.goto (-20), 3) := by decide +kernel
theorem dX4_owedByAll_27 : decode cX4_owedByAll 27 = .ok (.iload_n 1, 1) := by decide +kernel
theorem dX4_owedByAll_28 : decode cX4_owedByAll 28 = .ok (.ireturn, 1) := by decide +kernel
theorem dX4_highOfAll_0 : decode cX4_highOfAll 0 = .ok (.iconst 0, 1) := by decide +kernel
theorem dX4_highOfAll_1 : decode cX4_highOfAll 1 = .ok (.istore_n 1, 1) := by decide +kernel
theorem dX4_highOfAll_2 : decode cX4_highOfAll 2 = .ok (.iconst 0, 1) := by decide +kernel
theorem dX4_highOfAll_3 : decode cX4_highOfAll 3 = .ok (.istore_n 2, 1) := by decide +kernel
theorem dX4_highOfAll_4 : decode cX4_highOfAll 4 = .ok (.iload_n 2, 1) := by decide +kernel
theorem dX4_highOfAll_5 : decode cX4_highOfAll 5 = .ok (.bipush 40, 2) := by decide +kernel
theorem dX4_highOfAll_7 : decode cX4_highOfAll 7 = .ok (.if_icmp .ge 26, 3) := by decide +kernel
theorem dX4_highOfAll_10 : decode cX4_highOfAll 10 = .ok (.aload_n 0, 1) := by decide +kernel
theorem dX4_highOfAll_11 : decode cX4_highOfAll 11 = .ok (.iload_n 2, 1) := by decide +kernel
theorem dX4_highOfAll_12 : decode cX4_highOfAll 12 = .ok (.invokevirtual 104, 3) := by decide +kernel
theorem dX4_highOfAll_15 : decode cX4_highOfAll 15 = .ok (.ifCond .eq 12, 3) := by decide +kernel
theorem dX4_highOfAll_18 : decode cX4_highOfAll 18 = .ok (.iload_n 1, 1) := by decide +kernel
theorem dX4_highOfAll_19 : decode cX4_highOfAll 19 = .ok (.aload_n 0, 1) := by decide +kernel
theorem dX4_highOfAll_20 : decode cX4_highOfAll 20 = .ok (.getfield 15, 3) := by decide +kernel
theorem dX4_highOfAll_23 : decode cX4_highOfAll 23 = .ok (.iload_n 2, 1) := by decide +kernel
theorem dX4_highOfAll_24 : decode cX4_highOfAll 24 = .ok (.iaload, 1) := by decide +kernel
theorem dX4_highOfAll_25 : decode cX4_highOfAll 25 = .ok (.iadd, 1) := by decide +kernel
theorem dX4_highOfAll_26 : decode cX4_highOfAll 26 = .ok (.istore_n 1, 1) := by decide +kernel
theorem dX4_highOfAll_27 : decode cX4_highOfAll 27 = .ok (.iinc 2 1, 3) := by decide +kernel
theorem dX4_highOfAll_30 : decode cX4_highOfAll 30 = .ok (.goto (-26), 3) := by decide +kernel
theorem dX4_highOfAll_33 : decode cX4_highOfAll 33 = .ok (.iload_n 1, 1) := by decide +kernel
theorem dX4_highOfAll_34 : decode cX4_highOfAll 34 = .ok (.ireturn, 1) := by decide +kernel
theorem dX4_wholePlaces_0 : decode cX4_wholePlaces 0 = .ok (.aload_n 0, 1) := by decide +kernel
theorem dX4_wholePlaces_1 : decode cX4_wholePlaces 1 = .ok (.getfield 62, 3) := by decide +kernel
theorem dX4_wholePlaces_4 : decode cX4_wholePlaces 4 = .ok (.invokestatic 107, 3) := by decide +kernel
theorem dX4_wholePlaces_7 : decode cX4_wholePlaces 7 = .ok (.ireturn, 1) := by decide +kernel
theorem dX4_isWhole_0 : decode cX4_isWhole 0 = .ok (.iload_n 1, 1) := by decide +kernel
theorem dX4_isWhole_1 : decode cX4_isWhole 1 = .ok (.invokestatic 97, 3) := by decide +kernel
theorem dX4_isWhole_4 : decode cX4_isWhole 4 = .ok (.ifCond .eq 20, 3) := by decide +kernel
theorem dX4_isWhole_7 : decode cX4_isWhole 7 = .ok (.aload_n 0, 1) := by decide +kernel
theorem dX4_isWhole_8 : decode cX4_isWhole 8 = .ok (.getfield 62, 3) := by decide +kernel
theorem dX4_isWhole_11 : decode cX4_isWhole 11 = .ok (.iload_n 1, 1) := by decide +kernel
theorem dX4_isWhole_12 : decode cX4_isWhole 12 = .ok (.lushr, 1) := by decide +kernel
theorem dX4_isWhole_13 : decode cX4_isWhole 13 = .ok (.lconst 1, 1) := by decide +kernel
theorem dX4_isWhole_14 : decode cX4_isWhole 14 = .ok (.land, 1) := by decide +kernel
theorem dX4_isWhole_15 : decode cX4_isWhole 15 = .ok (.lconst 0, 1) := by decide +kernel
theorem dX4_isWhole_16 : decode cX4_isWhole 16 = .ok (.lcmp, 1) := by decide +kernel
theorem dX4_isWhole_17 : decode cX4_isWhole 17 = .ok (.ifCond .eq 7, 3) := by decide +kernel
theorem dX4_isWhole_20 : decode cX4_isWhole 20 = .ok (.iconst 1, 1) := by decide +kernel
theorem dX4_isWhole_21 : decode cX4_isWhole 21 = .ok (.goto 4, 3) := by decide +kernel
theorem dX4_isWhole_24 : decode cX4_isWhole 24 = .ok (.iconst 0, 1) := by decide +kernel
theorem dX4_isWhole_25 : decode cX4_isWhole 25 = .ok (.ireturn, 1) := by decide +kernel
theorem dX4_cut_0 : decode cX4_cut 0 = .ok (.aload_n 0, 1) := by decide +kernel
theorem dX4_cut_1 : decode cX4_cut 1 = .ok (.dup, 1) := by decide +kernel
theorem dX4_cut_2 : decode cX4_cut 2 = .ok (.getfield 62, 3) := by decide +kernel
theorem dX4_cut_5 : decode cX4_cut 5 = .ok (.lconst 1, 1) := by decide +kernel
theorem dX4_cut_6 : decode cX4_cut 6 = .ok (.iload_n 1, 1) := by decide +kernel
theorem dX4_cut_7 : decode cX4_cut 7 = .ok (.lshl, 1) := by decide +kernel
theorem dX4_cut_8 : decode cX4_cut 8 = .ok (.lor, 1) := by decide +kernel
theorem dX4_cut_9 : decode cX4_cut 9 = .ok (.putfield 62, 3) := by decide +kernel
theorem dX4_cut_12 : decode cX4_cut 12 = .ok (.aload_n 0, 1) := by decide +kernel
theorem dX4_cut_13 : decode cX4_cut 13 = .ok (.getfield 15, 3) := by decide +kernel
theorem dX4_cut_16 : decode cX4_cut 16 = .ok (.iload_n 1, 1) := by decide +kernel
theorem dX4_cut_17 : decode cX4_cut 17 = .ok (.iload_n 2, 1) := by decide +kernel
theorem dX4_cut_18 : decode cX4_cut 18 = .ok (.iastore, 1) := by decide +kernel
theorem dX4_cut_19 : decode cX4_cut 19 = .ok (.aload_n 0, 1) := by decide +kernel
theorem dX4_cut_20 : decode cX4_cut 20 = .ok (.getfield 18, 3) := by decide +kernel
theorem dX4_cut_23 : decode cX4_cut 23 = .ok (.iload_n 1, 1) := by decide +kernel
theorem dX4_cut_24 : decode cX4_cut 24 = .ok (.iload_n 3, 1) := by decide +kernel
theorem dX4_cut_25 : decode cX4_cut 25 = .ok (.iastore, 1) := by decide +kernel
theorem dX4_cut_26 : decode cX4_cut 26 = .ok (.aload_n 0, 1) := by decide +kernel
theorem dX4_cut_27 : decode cX4_cut 27 = .ok (.getfield 21, 3) := by decide +kernel
theorem dX4_cut_30 : decode cX4_cut 30 = .ok (.iload_n 1, 1) := by decide +kernel
theorem dX4_cut_31 : decode cX4_cut 31 = .ok (.aload_n 0, 1) := by decide +kernel
theorem dX4_cut_32 : decode cX4_cut 32 = .ok (.getfield 66, 3) := by decide +kernel
theorem dX4_cut_35 : decode cX4_cut 35 = .ok (.iastore, 1) := by decide +kernel
theorem dX4_cut_36 : decode cX4_cut 36 = .ok (.return_, 1) := by decide +kernel
theorem dX4_breakUp_0 : decode cX4_breakUp 0 = .ok (.aload_n 0, 1) := by decide +kernel
theorem dX4_breakUp_1 : decode cX4_breakUp 1 = .ok (.dup, 1) := by decide +kernel
theorem dX4_breakUp_2 : decode cX4_breakUp 2 = .ok (.getfield 62, 3) := by decide +kernel
theorem dX4_breakUp_5 : decode cX4_breakUp 5 = .ok (.lconst 1, 1) := by decide +kernel
theorem dX4_breakUp_6 : decode cX4_breakUp 6 = .ok (.iload_n 1, 1) := by decide +kernel
theorem dX4_breakUp_7 : decode cX4_breakUp 7 = .ok (.lshl, 1) := by decide +kernel
theorem dX4_breakUp_8 : decode cX4_breakUp 8 = .ok (.ldc2_w 113, 3) := by decide +kernel
theorem dX4_breakUp_11 : decode cX4_breakUp 11 = .ok (.lxor, 1) := by decide +kernel
theorem dX4_breakUp_12 : decode cX4_breakUp 12 = .ok (.land, 1) := by decide +kernel
theorem dX4_breakUp_13 : decode cX4_breakUp 13 = .ok (.putfield 62, 3) := by decide +kernel
theorem dX4_breakUp_16 : decode cX4_breakUp 16 = .ok (.return_, 1) := by decide +kernel
theorem dX4_isPair_0 : decode cX4_isPair 0 = .ok (.aload_n 0, 1) := by decide +kernel
theorem dX4_isPair_1 : decode cX4_isPair 1 = .ok (.iload_n 1, 1) := by decide +kernel
theorem dX4_isPair_2 : decode cX4_isPair 2 = .ok (.invokevirtual 104, 3) := by decide +kernel
theorem dX4_isPair_5 : decode cX4_isPair 5 = .ok (.ifCond .eq 17, 3) := by decide +kernel
theorem dX4_isPair_8 : decode cX4_isPair 8 = .ok (.aload_n 0, 1) := by decide +kernel
theorem dX4_isPair_9 : decode cX4_isPair 9 = .ok (.iload_n 1, 1) := by decide +kernel
theorem dX4_isPair_10 : decode cX4_isPair 10 = .ok (.iconst 1, 1) := by decide +kernel
theorem dX4_isPair_11 : decode cX4_isPair 11 = .ok (.isub, 1) := by decide +kernel
theorem dX4_isPair_12 : decode cX4_isPair 12 = .ok (.invokevirtual 104, 3) := by decide +kernel
theorem dX4_isPair_15 : decode cX4_isPair 15 = .ok (.ifCond .eq 7, 3) := by decide +kernel
theorem dX4_isPair_18 : decode cX4_isPair 18 = .ok (.iconst 1, 1) := by decide +kernel
theorem dX4_isPair_19 : decode cX4_isPair 19 = .ok (.goto 4, 3) := by decide +kernel
theorem dX4_isPair_22 : decode cX4_isPair 22 = .ok (.iconst 0, 1) := by decide +kernel
theorem dX4_isPair_23 : decode cX4_isPair 23 = .ok (.ireturn, 1) := by decide +kernel
theorem dX4_isMet_0 : decode cX4_isMet 0 = .ok (.aload_n 0, 1) := by decide +kernel
theorem dX4_isMet_1 : decode cX4_isMet 1 = .ok (.getfield 15, 3) := by decide +kernel
theorem dX4_isMet_4 : decode cX4_isMet 4 = .ok (.iload_n 1, 1) := by decide +kernel
theorem dX4_isMet_5 : decode cX4_isMet 5 = .ok (.iaload, 1) := by decide +kernel
theorem dX4_isMet_6 : decode cX4_isMet 6 = .ok (.aload_n 0, 1) := by decide +kernel
theorem dX4_isMet_7 : decode cX4_isMet 7 = .ok (.getfield 15, 3) := by decide +kernel
theorem dX4_isMet_10 : decode cX4_isMet 10 = .ok (.iload_n 1, 1) := by decide +kernel
theorem dX4_isMet_11 : decode cX4_isMet 11 = .ok (.iconst 1, 1) := by decide +kernel
theorem dX4_isMet_12 : decode cX4_isMet 12 = .ok (.isub, 1) := by decide +kernel
theorem dX4_isMet_13 : decode cX4_isMet 13 = .ok (.iaload, 1) := by decide +kernel
theorem dX4_isMet_14 : decode cX4_isMet 14 = .ok (.isub, 1) := by decide +kernel
theorem dX4_isMet_15 : decode cX4_isMet 15 = .ok (.invokestatic 115, 3) := by decide +kernel
theorem dX4_isMet_18 : decode cX4_isMet 18 = .ok (.iload_n 2, 1) := by decide +kernel
theorem dX4_isMet_19 : decode cX4_isMet 19 = .ok (.if_icmp .gt 7, 3) := by decide +kernel
theorem dX4_isMet_22 : decode cX4_isMet 22 = .ok (.iconst 1, 1) := by decide +kernel
theorem dX4_isMet_23 : decode cX4_isMet 23 = .ok (.goto 4, 3) := by decide +kernel
theorem dX4_isMet_26 : decode cX4_isMet 26 = .ok (.iconst 0, 1) := by decide +kernel
theorem dX4_isMet_27 : decode cX4_isMet 27 = .ok (.ireturn, 1) := by decide +kernel
theorem dX4_climb_0 : decode cX4_climb 0 = .ok (.aload_n 0, 1) := by decide +kernel
theorem dX4_climb_1 : decode cX4_climb 1 = .ok (.aload_n 0, 1) := by decide +kernel
theorem dX4_climb_2 : decode cX4_climb 2 = .ok (.getfield 24, 3) := by decide +kernel
theorem dX4_climb_5 : decode cX4_climb 5 = .ok (.invokevirtual 120, 3) := by decide +kernel
theorem dX4_climb_8 : decode cX4_climb 8 = .ok (.ireturn, 1) := by decide +kernel
theorem dX4_climbWith_0 : decode cX4_climbWith 0 = .ok (.aload_n 0, 1) := by decide +kernel
theorem dX4_climbWith_1 : decode cX4_climbWith 1 = .ok (.iconst 0, 1) := by decide +kernel
theorem dX4_climbWith_2 : decode cX4_climbWith 2 = .ok (.invokevirtual 104, 3) := by decide +kernel
theorem dX4_climbWith_5 : decode cX4_climbWith 5 = .ok (.ifCond .ne 5, 3) := by decide +kernel
theorem dX4_climbWith_8 : decode cX4_climbWith 8 = .ok (.iconst 0, 1) := by decide +kernel
theorem dX4_climbWith_9 : decode cX4_climbWith 9 = .ok (.ireturn, 1) := by decide +kernel
theorem dX4_climbWith_10 : decode cX4_climbWith 10 = .ok (.iconst 1, 1) := by decide +kernel
theorem dX4_climbWith_11 : decode cX4_climbWith 11 = .ok (.istore_n 2, 1) := by decide +kernel
theorem dX4_climbWith_12 : decode cX4_climbWith 12 = .ok (.iload_n 2, 1) := by decide +kernel
theorem dX4_climbWith_13 : decode cX4_climbWith 13 = .ok (.bipush 40, 2) := by decide +kernel
theorem dX4_climbWith_15 : decode cX4_climbWith 15 = .ok (.if_icmp .ge 26, 3) := by decide +kernel
theorem dX4_climbWith_18 : decode cX4_climbWith 18 = .ok (.aload_n 0, 1) := by decide +kernel
theorem dX4_climbWith_19 : decode cX4_climbWith 19 = .ok (.iload_n 2, 1) := by decide +kernel
theorem dX4_climbWith_20 : decode cX4_climbWith 20 = .ok (.invokevirtual 104, 3) := by decide +kernel
theorem dX4_climbWith_23 : decode cX4_climbWith 23 = .ok (.ifCond .eq 18, 3) := by decide +kernel
theorem dX4_climbWith_26 : decode cX4_climbWith 26 = .ok (.aload_n 0, 1) := by decide +kernel
theorem dX4_climbWith_27 : decode cX4_climbWith 27 = .ok (.iload_n 2, 1) := by decide +kernel
theorem dX4_climbWith_28 : decode cX4_climbWith 28 = .ok (.iload_n 1, 1) := by decide +kernel
theorem dX4_climbWith_29 : decode cX4_climbWith 29 = .ok (.invokevirtual 123, 3) := by decide +kernel
theorem dX4_climbWith_32 : decode cX4_climbWith 32 = .ok (.ifCond .eq 9, 3) := by decide +kernel
theorem dX4_climbWith_35 : decode cX4_climbWith 35 = .ok (.iinc 2 1, 3) := by decide +kernel
theorem dX4_climbWith_38 : decode cX4_climbWith 38 = .ok (.goto (-26), 3) := by decide +kernel
theorem dX4_climbWith_41 : decode cX4_climbWith 41 = .ok (.iload_n 2, 1) := by decide +kernel
theorem dX4_climbWith_42 : decode cX4_climbWith 42 = .ok (.ireturn, 1) := by decide +kernel
theorem dX4_goYears_0 : decode cX4_goYears 0 = .ok (.iconst 0, 1) := by decide +kernel
theorem dX4_goYears_1 : decode cX4_goYears 1 = .ok (.istore_n 2, 1) := by decide +kernel
theorem dX4_goYears_2 : decode cX4_goYears 2 = .ok (.iload_n 2, 1) := by decide +kernel
theorem dX4_goYears_3 : decode cX4_goYears 3 = .ok (.iload_n 1, 1) := by decide +kernel
theorem dX4_goYears_4 : decode cX4_goYears 4 = .ok (.if_icmp .ge 33, 3) := by decide +kernel
theorem dX4_goYears_7 : decode cX4_goYears 7 = .ok (.aload_n 0, 1) := by decide +kernel
theorem dX4_goYears_8 : decode cX4_goYears 8 = .ok (.invokevirtual 127, 3) := by decide +kernel
theorem dX4_goYears_11 : decode cX4_goYears 11 = .ok (.ifCond .eq 16, 3) := by decide +kernel
theorem dX4_goYears_14 : decode cX4_goYears 14 = .ok (.aload_n 0, 1) := by decide +kernel
theorem dX4_goYears_15 : decode cX4_goYears 15 = .ok (.dup, 1) := by decide +kernel
theorem dX4_goYears_16 : decode cX4_goYears 16 = .ok (.getfield 66, 3) := by decide +kernel
theorem dX4_goYears_19 : decode cX4_goYears 19 = .ok (.iload_n 1, 1) := by decide +kernel
theorem dX4_goYears_20 : decode cX4_goYears 20 = .ok (.iload_n 2, 1) := by decide +kernel
theorem dX4_goYears_21 : decode cX4_goYears 21 = .ok (.isub, 1) := by decide +kernel
theorem dX4_goYears_22 : decode cX4_goYears 22 = .ok (.iadd, 1) := by decide +kernel
theorem dX4_goYears_23 : decode cX4_goYears 23 = .ok (.putfield 66, 3) := by decide +kernel
theorem dX4_goYears_26 : decode cX4_goYears 26 = .ok (.return_, 1) := by decide +kernel
theorem dX4_goYears_27 : decode cX4_goYears 27 = .ok (.aload_n 0, 1) := by decide +kernel
theorem dX4_goYears_28 : decode cX4_goYears 28 = .ok (.invokevirtual 130, 3) := by decide +kernel
theorem dX4_goYears_31 : decode cX4_goYears 31 = .ok (.iinc 2 1, 3) := by decide +kernel
theorem dX4_goYears_34 : decode cX4_goYears 34 = .ok (.goto (-32), 3) := by decide +kernel
theorem dX4_goYears_37 : decode cX4_goYears 37 = .ok (.return_, 1) := by decide +kernel
theorem dX4_isAtRest_0 : decode cX4_isAtRest 0 = .ok (.aload_n 0, 1) := by decide +kernel
theorem dX4_isAtRest_1 : decode cX4_isAtRest 1 = .ok (.getfield 62, 3) := by decide +kernel
theorem dX4_isAtRest_4 : decode cX4_isAtRest 4 = .ok (.ldc2_w 133, 3) := by decide +kernel
theorem dX4_isAtRest_7 : decode cX4_isAtRest 7 = .ok (.lcmp, 1) := by decide +kernel
theorem dX4_isAtRest_8 : decode cX4_isAtRest 8 = .ok (.ifCond .eq 14, 3) := by decide +kernel
theorem dX4_isAtRest_11 : decode cX4_isAtRest 11 = .ok (.aload_n 0, 1) := by decide +kernel
theorem dX4_isAtRest_12 : decode cX4_isAtRest 12 = .ok (.invokevirtual 135, 3) := by decide +kernel
theorem dX4_isAtRest_15 : decode cX4_isAtRest 15 = .ok (.ifCond .le 7, 3) := by decide +kernel
theorem dX4_isAtRest_18 : decode cX4_isAtRest 18 = .ok (.iconst 1, 1) := by decide +kernel
theorem dX4_isAtRest_19 : decode cX4_isAtRest 19 = .ok (.goto 4, 3) := by decide +kernel
theorem dX4_isAtRest_22 : decode cX4_isAtRest 22 = .ok (.iconst 0, 1) := by decide +kernel
theorem dX4_isAtRest_23 : decode cX4_isAtRest 23 = .ok (.istore_n 1, 1) := by decide +kernel
theorem dX4_isAtRest_24 : decode cX4_isAtRest 24 = .ok (.aload_n 0, 1) := by decide +kernel
theorem dX4_isAtRest_25 : decode cX4_isAtRest 25 = .ok (.getfield 62, 3) := by decide +kernel
theorem dX4_isAtRest_28 : decode cX4_isAtRest 28 = .ok (.lconst 0, 1) := by decide +kernel
theorem dX4_isAtRest_29 : decode cX4_isAtRest 29 = .ok (.lcmp, 1) := by decide +kernel
theorem dX4_isAtRest_30 : decode cX4_isAtRest 30 = .ok (.ifCond .eq 14, 3) := by decide +kernel
theorem dX4_isAtRest_33 : decode cX4_isAtRest 33 = .ok (.aload_n 0, 1) := by decide +kernel
theorem dX4_isAtRest_34 : decode cX4_isAtRest 34 = .ok (.getfield 69, 3) := by decide +kernel
theorem dX4_isAtRest_37 : decode cX4_isAtRest 37 = .ok (.ifCond .le 7, 3) := by decide +kernel
theorem dX4_isAtRest_40 : decode cX4_isAtRest 40 = .ok (.iconst 1, 1) := by decide +kernel
theorem dX4_isAtRest_41 : decode cX4_isAtRest 41 = .ok (.goto 4, 3) := by decide +kernel
theorem dX4_isAtRest_44 : decode cX4_isAtRest 44 = .ok (.iconst 0, 1) := by decide +kernel
theorem dX4_isAtRest_45 : decode cX4_isAtRest 45 = .ok (.istore_n 2, 1) := by decide +kernel
theorem dX4_isAtRest_46 : decode cX4_isAtRest 46 = .ok (.iload_n 1, 1) := by decide +kernel
theorem dX4_isAtRest_47 : decode cX4_isAtRest 47 = .ok (.ifCond .ne 11, 3) := by decide +kernel
theorem dX4_isAtRest_50 : decode cX4_isAtRest 50 = .ok (.iload_n 2, 1) := by decide +kernel
theorem dX4_isAtRest_51 : decode cX4_isAtRest 51 = .ok (.ifCond .ne 7, 3) := by decide +kernel
theorem dX4_isAtRest_54 : decode cX4_isAtRest 54 = .ok (.iconst 1, 1) := by decide +kernel
theorem dX4_isAtRest_55 : decode cX4_isAtRest 55 = .ok (.goto 4, 3) := by decide +kernel
theorem dX4_isAtRest_58 : decode cX4_isAtRest 58 = .ok (.iconst 0, 1) := by decide +kernel
theorem dX4_isAtRest_59 : decode cX4_isAtRest 59 = .ok (.ireturn, 1) := by decide +kernel
theorem dX4_goYear_0 : decode cX4_goYear 0 = .ok (.iconst 0, 1) := by decide +kernel
theorem dX4_goYear_1 : decode cX4_goYear 1 = .ok (.istore_n 1, 1) := by decide +kernel
theorem dX4_goYear_2 : decode cX4_goYear 2 = .ok (.iload_n 1, 1) := by decide +kernel
theorem dX4_goYear_3 : decode cX4_goYear 3 = .ok (.aload_n 0, 1) := by decide +kernel
theorem dX4_goYear_4 : decode cX4_goYear 4 = .ok (.getfield 72, 3) := by decide +kernel
theorem dX4_goYear_7 : decode cX4_goYear 7 = .ok (.if_icmp .ge 45, 3) := by decide +kernel
theorem dX4_goYear_10 : decode cX4_goYear 10 = .ok (.aload_n 0, 1) := by decide +kernel
theorem dX4_goYear_11 : decode cX4_goYear 11 = .ok (.getfield 34, 3) := by decide +kernel
theorem dX4_goYear_14 : decode cX4_goYear 14 = .ok (.iload_n 1, 1) := by decide +kernel
theorem dX4_goYear_15 : decode cX4_goYear 15 = .ok (.iaload, 1) := by decide +kernel
theorem dX4_goYear_16 : decode cX4_goYear 16 = .ok (.ifCond .le 30, 3) := by decide +kernel
theorem dX4_goYear_19 : decode cX4_goYear 19 = .ok (.aload_n 0, 1) := by decide +kernel
theorem dX4_goYear_20 : decode cX4_goYear 20 = .ok (.getfield 62, 3) := by decide +kernel
theorem dX4_goYear_23 : decode cX4_goYear 23 = .ok (.ldc2_w 133, 3) := by decide +kernel
theorem dX4_goYear_26 : decode cX4_goYear 26 = .ok (.lcmp, 1) := by decide +kernel
theorem dX4_goYear_27 : decode cX4_goYear 27 = .ok (.ifCond .eq 19, 3) := by decide +kernel
theorem dX4_goYear_30 : decode cX4_goYear 30 = .ok (.aload_n 0, 1) := by decide +kernel
theorem dX4_goYear_31 : decode cX4_goYear 31 = .ok (.iload_n 1, 1) := by decide +kernel
theorem dX4_goYear_32 : decode cX4_goYear 32 = .ok (.invokevirtual 138, 3) := by decide +kernel
theorem dX4_goYear_35 : decode cX4_goYear 35 = .ok (.aload_n 0, 1) := by decide +kernel
theorem dX4_goYear_36 : decode cX4_goYear 36 = .ok (.iload_n 1, 1) := by decide +kernel
theorem dX4_goYear_37 : decode cX4_goYear 37 = .ok (.aload_n 0, 1) := by decide +kernel
theorem dX4_goYear_38 : decode cX4_goYear 38 = .ok (.getfield 37, 3) := by decide +kernel
theorem dX4_goYear_41 : decode cX4_goYear 41 = .ok (.iload_n 1, 1) := by decide +kernel
theorem dX4_goYear_42 : decode cX4_goYear 42 = .ok (.iaload, 1) := by decide +kernel
theorem dX4_goYear_43 : decode cX4_goYear 43 = .ok (.invokevirtual 142, 3) := by decide +kernel
theorem dX4_goYear_46 : decode cX4_goYear 46 = .ok (.iinc 1 1, 3) := by decide +kernel
theorem dX4_goYear_49 : decode cX4_goYear 49 = .ok (.goto (-47), 3) := by decide +kernel
theorem dX4_goYear_52 : decode cX4_goYear 52 = .ok (.aload_n 0, 1) := by decide +kernel
theorem dX4_goYear_53 : decode cX4_goYear 53 = .ok (.getfield 69, 3) := by decide +kernel
theorem dX4_goYear_56 : decode cX4_goYear 56 = .ok (.ifCond .le 7, 3) := by decide +kernel
theorem dX4_goYear_59 : decode cX4_goYear 59 = .ok (.aload_n 0, 1) := by decide +kernel
theorem dX4_goYear_60 : decode cX4_goYear 60 = .ok (.invokevirtual 146, 3) := by decide +kernel
theorem dX4_goYear_63 : decode cX4_goYear 63 = .ok (.aload_n 0, 1) := by decide +kernel
theorem dX4_goYear_64 : decode cX4_goYear 64 = .ok (.dup, 1) := by decide +kernel
theorem dX4_goYear_65 : decode cX4_goYear 65 = .ok (.getfield 66, 3) := by decide +kernel
theorem dX4_goYear_68 : decode cX4_goYear 68 = .ok (.iconst 1, 1) := by decide +kernel
theorem dX4_goYear_69 : decode cX4_goYear 69 = .ok (.iadd, 1) := by decide +kernel
theorem dX4_goYear_70 : decode cX4_goYear 70 = .ok (.putfield 66, 3) := by decide +kernel
theorem dX4_goYear_73 : decode cX4_goYear 73 = .ok (.return_, 1) := by decide +kernel
theorem dX4_goOn_0 : decode cX4_goOn 0 = .ok (.iconst 0, 1) := by decide +kernel
theorem dX4_goOn_1 : decode cX4_goOn 1 = .ok (.istore_n 2, 1) := by decide +kernel
theorem dX4_goOn_2 : decode cX4_goOn 2 = .ok (.iload_n 2, 1) := by decide +kernel
theorem dX4_goOn_3 : decode cX4_goOn 3 = .ok (.bipush 40, 2) := by decide +kernel
theorem dX4_goOn_5 : decode cX4_goOn 5 = .ok (.if_icmp .ge 50, 3) := by decide +kernel
theorem dX4_goOn_8 : decode cX4_goOn 8 = .ok (.aload_n 0, 1) := by decide +kernel
theorem dX4_goOn_9 : decode cX4_goOn 9 = .ok (.aload_n 0, 1) := by decide +kernel
theorem dX4_goOn_10 : decode cX4_goOn 10 = .ok (.getfield 37, 3) := by decide +kernel
theorem dX4_goOn_13 : decode cX4_goOn 13 = .ok (.iload_n 1, 1) := by decide +kernel
theorem dX4_goOn_14 : decode cX4_goOn 14 = .ok (.iaload, 1) := by decide +kernel
theorem dX4_goOn_15 : decode cX4_goOn 15 = .ok (.invokevirtual 104, 3) := by decide +kernel
theorem dX4_goOn_18 : decode cX4_goOn 18 = .ok (.ifCond .eq 37, 3) := by decide +kernel
theorem dX4_goOn_21 : decode cX4_goOn 21 = .ok (.aload_n 0, 1) := by decide +kernel
theorem dX4_goOn_22 : decode cX4_goOn 22 = .ok (.iload_n 1, 1) := by decide +kernel
theorem dX4_goOn_23 : decode cX4_goOn 23 = .ok (.aload_n 0, 1) := by decide +kernel
theorem dX4_goOn_24 : decode cX4_goOn 24 = .ok (.getfield 37, 3) := by decide +kernel
theorem dX4_goOn_27 : decode cX4_goOn 27 = .ok (.iload_n 1, 1) := by decide +kernel
theorem dX4_goOn_28 : decode cX4_goOn 28 = .ok (.iaload, 1) := by decide +kernel
theorem dX4_goOn_29 : decode cX4_goOn 29 = .ok (.bipush 39, 2) := by decide +kernel
theorem dX4_goOn_31 : decode cX4_goOn 31 = .ok (.if_icmp .ne 7, 3) := by decide +kernel
theorem dX4_goOn_34 : decode cX4_goOn 34 = .ok (.iconst 0, 1) := by decide +kernel
theorem dX4_goOn_35 : decode cX4_goOn 35 = .ok (.goto 11, 3) := by decide +kernel
theorem dX4_goOn_38 : decode cX4_goOn 38 = .ok (.aload_n 0, 1) := by decide +kernel
theorem dX4_goOn_39 : decode cX4_goOn 39 = .ok (.getfield 37, 3) := by decide +kernel
theorem dX4_goOn_42 : decode cX4_goOn 42 = .ok (.iload_n 1, 1) := by decide +kernel
theorem dX4_goOn_43 : decode cX4_goOn 43 = .ok (.iaload, 1) := by decide +kernel
theorem dX4_goOn_44 : decode cX4_goOn 44 = .ok (.iconst 1, 1) := by decide +kernel
theorem dX4_goOn_45 : decode cX4_goOn 45 = .ok (.iadd, 1) := by decide +kernel
theorem dX4_goOn_46 : decode cX4_goOn 46 = .ok (.invokevirtual 149, 3) := by decide +kernel
theorem dX4_goOn_49 : decode cX4_goOn 49 = .ok (.iinc 2 1, 3) := by decide +kernel
theorem dX4_goOn_52 : decode cX4_goOn 52 = .ok (.goto (-50), 3) := by decide +kernel
theorem dX4_goOn_55 : decode cX4_goOn 55 = .ok (.return_, 1) := by decide +kernel
theorem dX4_workOn_0 : decode cX4_workOn 0 = .ok (.aload_n 0, 1) := by decide +kernel
theorem dX4_workOn_1 : decode cX4_workOn 1 = .ok (.iload_n 1, 1) := by decide +kernel
theorem dX4_workOn_2 : decode cX4_workOn 2 = .ok (.invokevirtual 83, 3) := by decide +kernel
theorem dX4_workOn_5 : decode cX4_workOn 5 = .ok (.astore_n 3, 1) := by decide +kernel
theorem dX4_workOn_6 : decode cX4_workOn 6 = .ok (.aload_n 0, 1) := by decide +kernel
theorem dX4_workOn_7 : decode cX4_workOn 7 = .ok (.getfield 43, 3) := by decide +kernel
theorem dX4_workOn_10 : decode cX4_workOn 10 = .ok (.iload_n 1, 1) := by decide +kernel
theorem dX4_workOn_11 : decode cX4_workOn 11 = .ok (.dup2, 1) := by decide +kernel
theorem dX4_workOn_12 : decode cX4_workOn 12 = .ok (.iaload, 1) := by decide +kernel
theorem dX4_workOn_13 : decode cX4_workOn 13 = .ok (.aload_n 3, 1) := by decide +kernel
theorem dX4_workOn_14 : decode cX4_workOn 14 = .ok (.aload_n 0, 1) := by decide +kernel
theorem dX4_workOn_15 : decode cX4_workOn 15 = .ok (.getfield 40, 3) := by decide +kernel
theorem dX4_workOn_18 : decode cX4_workOn 18 = .ok (.iload_n 1, 1) := by decide +kernel
theorem dX4_workOn_19 : decode cX4_workOn 19 = .ok (.iaload, 1) := by decide +kernel
theorem dX4_workOn_20 : decode cX4_workOn 20 = .ok (.bipush 40, 2) := by decide +kernel
theorem dX4_workOn_22 : decode cX4_workOn 22 = .ok (.aload_n 0, 1) := by decide +kernel
theorem dX4_workOn_23 : decode cX4_workOn 23 = .ok (.invokevirtual 87, 3) := by decide +kernel
theorem dX4_workOn_26 : decode cX4_workOn 26 = .ok (.isub, 1) := by decide +kernel
theorem dX4_workOn_27 : decode cX4_workOn 27 = .ok (.invokevirtual 91, 3) := by decide +kernel
theorem dX4_workOn_30 : decode cX4_workOn 30 = .ok (.iadd, 1) := by decide +kernel
theorem dX4_workOn_31 : decode cX4_workOn 31 = .ok (.iastore, 1) := by decide +kernel
theorem dX4_workOn_32 : decode cX4_workOn 32 = .ok (.iload_n 2, 1) := by decide +kernel
theorem dX4_workOn_33 : decode cX4_workOn 33 = .ok (.invokestatic 97, 3) := by decide +kernel
theorem dX4_workOn_36 : decode cX4_workOn 36 = .ok (.ifCond .eq 62, 3) := by decide +kernel
theorem dX4_workOn_39 : decode cX4_workOn 39 = .ok (.aload_n 0, 1) := by decide +kernel
theorem dX4_workOn_40 : decode cX4_workOn 40 = .ok (.getfield 43, 3) := by decide +kernel
theorem dX4_workOn_43 : decode cX4_workOn 43 = .ok (.iload_n 1, 1) := by decide +kernel
theorem dX4_workOn_44 : decode cX4_workOn 44 = .ok (.iaload, 1) := by decide +kernel
theorem dX4_workOn_45 : decode cX4_workOn 45 = .ok (.aload_n 0, 1) := by decide +kernel
theorem dX4_workOn_46 : decode cX4_workOn 46 = .ok (.getfield 9, 3) := by decide +kernel
theorem dX4_workOn_49 : decode cX4_workOn 49 = .ok (.iload_n 2, 1) := by decide +kernel
theorem dX4_workOn_50 : decode cX4_workOn 50 = .ok (.iaload, 1) := by decide +kernel
theorem dX4_workOn_51 : decode cX4_workOn 51 = .ok (.if_icmp .lt 47, 3) := by decide +kernel
theorem dX4_workOn_54 : decode cX4_workOn 54 = .ok (.aload_n 0, 1) := by decide +kernel
theorem dX4_workOn_55 : decode cX4_workOn 55 = .ok (.iload_n 2, 1) := by decide +kernel
theorem dX4_workOn_56 : decode cX4_workOn 56 = .ok (.aload_n 3, 1) := by decide +kernel
theorem dX4_workOn_57 : decode cX4_workOn 57 = .ok (.aload_n 0, 1) := by decide +kernel
theorem dX4_workOn_58 : decode cX4_workOn 58 = .ok (.getfield 9, 3) := by decide +kernel
theorem dX4_workOn_61 : decode cX4_workOn 61 = .ok (.iload_n 2, 1) := by decide +kernel
theorem dX4_workOn_62 : decode cX4_workOn 62 = .ok (.iaload, 1) := by decide +kernel
theorem dX4_workOn_63 : decode cX4_workOn 63 = .ok (.invokevirtual 100, 3) := by decide +kernel
theorem dX4_workOn_66 : decode cX4_workOn 66 = .ok (.iload_n 1, 1) := by decide +kernel
theorem dX4_workOn_67 : decode cX4_workOn 67 = .ok (.invokevirtual 152, 3) := by decide +kernel
theorem dX4_workOn_70 : decode cX4_workOn 70 = .ok (.aload_n 0, 1) := by decide +kernel
theorem dX4_workOn_71 : decode cX4_workOn 71 = .ok (.getfield 34, 3) := by decide +kernel
theorem dX4_workOn_74 : decode cX4_workOn 74 = .ok (.iload_n 1, 1) := by decide +kernel
theorem dX4_workOn_75 : decode cX4_workOn 75 = .ok (.iconst 0, 1) := by decide +kernel
theorem dX4_workOn_76 : decode cX4_workOn 76 = .ok (.aload_n 0, 1) := by decide +kernel
theorem dX4_workOn_77 : decode cX4_workOn 77 = .ok (.getfield 34, 3) := by decide +kernel
theorem dX4_workOn_80 : decode cX4_workOn 80 = .ok (.iload_n 1, 1) := by decide +kernel
theorem dX4_workOn_81 : decode cX4_workOn 81 = .ok (.iaload, 1) := by decide +kernel
theorem dX4_workOn_82 : decode cX4_workOn 82 = .ok (.aload_n 3, 1) := by decide +kernel
theorem dX4_workOn_83 : decode cX4_workOn 83 = .ok (.invokevirtual 156, 3) := by decide +kernel
theorem dX4_workOn_86 : decode cX4_workOn 86 = .ok (.isub, 1) := by decide +kernel
theorem dX4_workOn_87 : decode cX4_workOn 87 = .ok (.invokestatic 159, 3) := by decide +kernel
theorem dX4_workOn_90 : decode cX4_workOn 90 = .ok (.iastore, 1) := by decide +kernel
theorem dX4_workOn_91 : decode cX4_workOn 91 = .ok (.aload_n 0, 1) := by decide +kernel
theorem dX4_workOn_92 : decode cX4_workOn 92 = .ok (.getfield 43, 3) := by decide +kernel
theorem dX4_workOn_95 : decode cX4_workOn 95 = .ok (.iload_n 1, 1) := by decide +kernel
theorem dX4_workOn_96 : decode cX4_workOn 96 = .ok (.iconst 0, 1) := by decide +kernel
theorem dX4_workOn_97 : decode cX4_workOn 97 = .ok (.iastore, 1) := by decide +kernel
theorem dX4_workOn_98 : decode cX4_workOn 98 = .ok (.return_, 1) := by decide +kernel
theorem dX4_freeze_0 : decode cX4_freeze 0 = .ok (.iconst 0, 1) := by decide +kernel
theorem dX4_freeze_1 : decode cX4_freeze 1 = .ok (.istore_n 1, 1) := by decide +kernel
theorem dX4_freeze_2 : decode cX4_freeze 2 = .ok (.iload_n 1, 1) := by decide +kernel
theorem dX4_freeze_3 : decode cX4_freeze 3 = .ok (.bipush 40, 2) := by decide +kernel
theorem dX4_freeze_5 : decode cX4_freeze 5 = .ok (.if_icmp .ge 33, 3) := by decide +kernel
theorem dX4_freeze_8 : decode cX4_freeze 8 = .ok (.aload_n 0, 1) := by decide +kernel
theorem dX4_freeze_9 : decode cX4_freeze 9 = .ok (.iload_n 1, 1) := by decide +kernel
theorem dX4_freeze_10 : decode cX4_freeze 10 = .ok (.invokevirtual 104, 3) := by decide +kernel
theorem dX4_freeze_13 : decode cX4_freeze 13 = .ok (.ifCond .eq 19, 3) := by decide +kernel
theorem dX4_freeze_16 : decode cX4_freeze 16 = .ok (.aload_n 0, 1) := by decide +kernel
theorem dX4_freeze_17 : decode cX4_freeze 17 = .ok (.invokevirtual 162, 3) := by decide +kernel
theorem dX4_freeze_20 : decode cX4_freeze 20 = .ok (.aload_n 0, 1) := by decide +kernel
theorem dX4_freeze_21 : decode cX4_freeze 21 = .ok (.getfield 69, 3) := by decide +kernel
theorem dX4_freeze_24 : decode cX4_freeze 24 = .ok (.if_icmp .ge 8, 3) := by decide +kernel
theorem dX4_freeze_27 : decode cX4_freeze 27 = .ok (.aload_n 0, 1) := by decide +kernel
theorem dX4_freeze_28 : decode cX4_freeze 28 = .ok (.iload_n 1, 1) := by decide +kernel
theorem dX4_freeze_29 : decode cX4_freeze 29 = .ok (.invokevirtual 165, 3) := by decide +kernel
theorem dX4_freeze_32 : decode cX4_freeze 32 = .ok (.iinc 1 1, 3) := by decide +kernel
theorem dX4_freeze_35 : decode cX4_freeze 35 = .ok (.goto (-33), 3) := by decide +kernel
theorem dX4_freeze_38 : decode cX4_freeze 38 = .ok (.return_, 1) := by decide +kernel
theorem dX4_draw_0 : decode cX4_draw 0 = .ok (.aload_n 0, 1) := by decide +kernel
theorem dX4_draw_1 : decode cX4_draw 1 = .ok (.aload_n 0, 1) := by decide +kernel
theorem dX4_draw_2 : decode cX4_draw 2 = .ok (.getfield 28, 3) := by decide +kernel
theorem dX4_draw_5 : decode cX4_draw 5 = .ok (.ldc 168, 2) := by decide +kernel
theorem dX4_draw_7 : decode cX4_draw 7 = .ok (.imul, 1) := by decide +kernel
theorem dX4_draw_8 : decode cX4_draw 8 = .ok (.sipush 12345, 3) := by decide +kernel
theorem dX4_draw_11 : decode cX4_draw 11 = .ok (.iadd, 1) := by decide +kernel
theorem dX4_draw_12 : decode cX4_draw 12 = .ok (.putfield 28, 3) := by decide +kernel
theorem dX4_draw_15 : decode cX4_draw 15 = .ok (.aload_n 0, 1) := by decide +kernel
theorem dX4_draw_16 : decode cX4_draw 16 = .ok (.getfield 28, 3) := by decide +kernel
theorem dX4_draw_19 : decode cX4_draw 19 = .ok (.bipush 8, 2) := by decide +kernel
theorem dX4_draw_21 : decode cX4_draw 21 = .ok (.iushr, 1) := by decide +kernel
theorem dX4_draw_22 : decode cX4_draw 22 = .ok (.bipush 10, 2) := by decide +kernel
theorem dX4_draw_24 : decode cX4_draw 24 = .ok (.irem, 1) := by decide +kernel
theorem dX4_draw_25 : decode cX4_draw 25 = .ok (.ireturn, 1) := by decide +kernel
theorem dX5_init_0 : decode cX5_init 0 = .ok (.aload_n 0, 1) := by decide +kernel
theorem dX5_init_1 : decode cX5_init 1 = .ok (.invokespecial 1, 3) := by decide +kernel
theorem dX5_init_4 : decode cX5_init 4 = .ok (.return_, 1) := by decide +kernel
theorem dX5_name_0 : decode cX5_name 0 = .ok (.ldc 7, 2) := by decide +kernel
theorem dX5_name_2 : decode cX5_name 2 = .ok (.areturn, 1) := by decide +kernel
theorem dX5_works_0 : decode cX5_works 0 = .ok (.aload_n 0, 1) := by decide +kernel
theorem dX5_works_1 : decode cX5_works 1 = .ok (.iload_n 1, 1) := by decide +kernel
theorem dX5_works_2 : decode cX5_works 2 = .ok (.iload_n 2, 1) := by decide +kernel
theorem dX5_works_3 : decode cX5_works 3 = .ok (.invokespecial 9, 3) := by decide +kernel
theorem dX5_works_6 : decode cX5_works 6 = .ok (.iload_n 2, 1) := by decide +kernel
theorem dX5_works_7 : decode cX5_works 7 = .ok (.bipush 10, 2) := by decide +kernel
theorem dX5_works_9 : decode cX5_works 9 = .ok (.idiv, 1) := by decide +kernel
theorem dX5_works_10 : decode cX5_works 10 = .ok (.iadd, 1) := by decide +kernel
theorem dX5_works_11 : decode cX5_works 11 = .ok (.ireturn, 1) := by decide +kernel
theorem dX5_cutsHigh_0 : decode cX5_cutsHigh 0 = .ok (.iload_n 1, 1) := by decide +kernel
theorem dX5_cutsHigh_1 : decode cX5_cutsHigh 1 = .ok (.iconst 5, 1) := by decide +kernel
theorem dX5_cutsHigh_2 : decode cX5_cutsHigh 2 = .ok (.if_icmp .le 8, 3) := by decide +kernel
theorem dX5_cutsHigh_5 : decode cX5_cutsHigh 5 = .ok (.bipush 7, 2) := by decide +kernel
theorem dX5_cutsHigh_7 : decode cX5_cutsHigh 7 = .ok (.goto 8, 3) := by decide +kernel
theorem dX5_cutsHigh_10 : decode cX5_cutsHigh 10 = .ok (.aload_n 0, 1) := by decide +kernel
theorem dX5_cutsHigh_11 : decode cX5_cutsHigh 11 = .ok (.iload_n 1, 1) := by decide +kernel
theorem dX5_cutsHigh_12 : decode cX5_cutsHigh 12 = .ok (.invokespecial 13, 3) := by decide +kernel
theorem dX5_cutsHigh_15 : decode cX5_cutsHigh 15 = .ok (.ireturn, 1) := by decide +kernel
theorem dX6_init_0 : decode cX6_init 0 = .ok (.aload_n 0, 1) := by decide +kernel
theorem dX6_init_1 : decode cX6_init 1 = .ok (.invokespecial 1, 3) := by decide +kernel
theorem dX6_init_4 : decode cX6_init 4 = .ok (.return_, 1) := by decide +kernel
theorem dX6_name_0 : decode cX6_name 0 = .ok (.ldc 7, 2) := by decide +kernel
theorem dX6_name_2 : decode cX6_name 2 = .ok (.areturn, 1) := by decide +kernel
theorem dX6_works_0 : decode cX6_works 0 = .ok (.iconst 2, 1) := by decide +kernel
theorem dX6_works_1 : decode cX6_works 1 = .ok (.aload_n 0, 1) := by decide +kernel
theorem dX6_works_2 : decode cX6_works 2 = .ok (.iload_n 1, 1) := by decide +kernel
theorem dX6_works_3 : decode cX6_works 3 = .ok (.iload_n 2, 1) := by decide +kernel
theorem dX6_works_4 : decode cX6_works 4 = .ok (.invokespecial 9, 3) := by decide +kernel
theorem dX6_works_7 : decode cX6_works 7 = .ok (.imul, 1) := by decide +kernel
theorem dX6_works_8 : decode cX6_works 8 = .ok (.ireturn, 1) := by decide +kernel
theorem dX7_init_0 : decode cX7_init 0 = .ok (.aload_n 0, 1) := by decide +kernel
theorem dX7_init_1 : decode cX7_init 1 = .ok (.invokespecial 3, 3) := by decide +kernel
theorem dX7_init_4 : decode cX7_init 4 = .ok (.aload_n 0, 1) := by decide +kernel
theorem dX7_init_5 : decode cX7_init 5 = .ok (.bipush 40, 2) := by decide +kernel
theorem dX7_init_7 : decode cX7_init 7 = .ok (.newarray .long, 2) := by decide +kernel
theorem dX7_init_9 : decode cX7_init 9 = .ok (.putfield 9, 3) := by decide +kernel
theorem dX7_init_12 : decode cX7_init 12 = .ok (.return_, 1) := by decide +kernel
theorem dX7_isMissing_0 : decode cX7_isMissing 0 = .ok (.aload_n 0, 1) := by decide +kernel
theorem dX7_isMissing_1 : decode cX7_isMissing 1 = .ok (.getfield 15, 3) := by decide +kernel
theorem dX7_isMissing_4 : decode cX7_isMissing 4 = .ok (.ifCond .ne 7, 3) := by decide +kernel
theorem dX7_isMissing_7 : decode cX7_isMissing 7 = .ok (.iconst 1, 1) := by decide +kernel
theorem dX7_isMissing_8 : decode cX7_isMissing 8 = .ok (.goto 4, 3) := by decide +kernel
theorem dX7_isMissing_11 : decode cX7_isMissing 11 = .ok (.iconst 0, 1) := by decide +kernel
theorem dX7_isMissing_12 : decode cX7_isMissing 12 = .ok (.ireturn, 1) := by decide +kernel
theorem dX7_layOut_0 : decode cX7_layOut 0 = .ok (.aload_n 0, 1) := by decide +kernel
theorem dX7_layOut_1 : decode cX7_layOut 1 = .ok (.iload_n 1, 1) := by decide +kernel
theorem dX7_layOut_2 : decode cX7_layOut 2 = .ok (.putfield 15, 3) := by decide +kernel
theorem dX7_layOut_5 : decode cX7_layOut 5 = .ok (.aload_n 0, 1) := by decide +kernel
theorem dX7_layOut_6 : decode cX7_layOut 6 = .ok (.iload_n 1, 1) := by decide +kernel
theorem dX7_layOut_7 : decode cX7_layOut 7 = .ok (.ifCond .ne 7, 3) := by decide +kernel
theorem dX7_layOut_10 : decode cX7_layOut 10 = .ok (.iconst 0, 1) := by decide +kernel
theorem dX7_layOut_11 : decode cX7_layOut 11 = .ok (.goto 4, 3) := by decide +kernel
theorem dX7_layOut_14 : decode cX7_layOut 14 = .ok (.iload_n 2, 1) := by decide +kernel
theorem dX7_layOut_15 : decode cX7_layOut 15 = .ok (.putfield 19, 3) := by decide +kernel
theorem dX7_layOut_18 : decode cX7_layOut 18 = .ok (.aload_n 0, 1) := by decide +kernel
theorem dX7_layOut_19 : decode cX7_layOut 19 = .ok (.getfield 9, 3) := by decide +kernel
theorem dX7_layOut_22 : decode cX7_layOut 22 = .ok (.lconst 0, 1) := by decide +kernel
theorem dX7_layOut_23 : decode cX7_layOut 23 = .ok (.invokestatic 22, 3) := by decide +kernel
theorem dX7_layOut_26 : decode cX7_layOut 26 = .ok (.return_, 1) := by decide +kernel
theorem dX7_holds_0 : decode cX7_holds 0 = .ok (.iload_n 1, 1) := by decide +kernel
theorem dX7_holds_1 : decode cX7_holds 1 = .ok (.ifCond .lt 29, 3) := by decide +kernel
theorem dX7_holds_4 : decode cX7_holds 4 = .ok (.iload_n 2, 1) := by decide +kernel
theorem dX7_holds_5 : decode cX7_holds 5 = .ok (.ifCond .lt 25, 3) := by decide +kernel
theorem dX7_holds_8 : decode cX7_holds 8 = .ok (.iload_n 2, 1) := by decide +kernel
theorem dX7_holds_9 : decode cX7_holds 9 = .ok (.aload_n 0, 1) := by decide +kernel
theorem dX7_holds_10 : decode cX7_holds 10 = .ok (.getfield 19, 3) := by decide +kernel
theorem dX7_holds_13 : decode cX7_holds 13 = .ok (.if_icmp .gt 17, 3) := by decide +kernel
theorem dX7_holds_16 : decode cX7_holds 16 = .ok (.iload_n 1, 1) := by decide +kernel
theorem dX7_holds_17 : decode cX7_holds 17 = .ok (.aload_n 0, 1) := by decide +kernel
theorem dX7_holds_18 : decode cX7_holds 18 = .ok (.getfield 19, 3) := by decide +kernel
theorem dX7_holds_21 : decode cX7_holds 21 = .ok (.iload_n 2, 1) := by decide +kernel
theorem dX7_holds_22 : decode cX7_holds 22 = .ok (.isub, 1) := by decide +kernel
theorem dX7_holds_23 : decode cX7_holds 23 = .ok (.if_icmp .gt 7, 3) := by decide +kernel
theorem dX7_holds_26 : decode cX7_holds 26 = .ok (.iconst 1, 1) := by decide +kernel
theorem dX7_holds_27 : decode cX7_holds 27 = .ok (.goto 4, 3) := by decide +kernel
theorem dX7_holds_30 : decode cX7_holds 30 = .ok (.iconst 0, 1) := by decide +kernel
theorem dX7_holds_31 : decode cX7_holds 31 = .ok (.ireturn, 1) := by decide +kernel
theorem dX7_put_0 : decode cX7_put 0 = .ok (.aload_n 0, 1) := by decide +kernel
theorem dX7_put_1 : decode cX7_put 1 = .ok (.iload_n 1, 1) := by decide +kernel
theorem dX7_put_2 : decode cX7_put 2 = .ok (.iconst 1, 1) := by decide +kernel
theorem dX7_put_3 : decode cX7_put 3 = .ok (.invokevirtual 28, 3) := by decide +kernel
theorem dX7_put_6 : decode cX7_put 6 = .ok (.ifCond .eq 14, 3) := by decide +kernel
theorem dX7_put_9 : decode cX7_put 9 = .ok (.aload_n 0, 1) := by decide +kernel
theorem dX7_put_10 : decode cX7_put 10 = .ok (.getfield 9, 3) := by decide +kernel
theorem dX7_put_13 : decode cX7_put 13 = .ok (.iload_n 1, 1) := by decide +kernel
theorem dX7_put_14 : decode cX7_put 14 = .ok (.aload_n 0, 1) := by decide +kernel
theorem dX7_put_15 : decode cX7_put 15 = .ok (.lload_n 2, 1) := by decide +kernel
theorem dX7_put_16 : decode cX7_put 16 = .ok (.invokevirtual 32, 3) := by decide +kernel
theorem dX7_put_19 : decode cX7_put 19 = .ok (.lastore, 1) := by decide +kernel
theorem dX7_put_20 : decode cX7_put 20 = .ok (.return_, 1) := by decide +kernel
theorem dX7_lowest_0 : decode cX7_lowest 0 = .ok (.aload_n 0, 1) := by decide +kernel
theorem dX7_lowest_1 : decode cX7_lowest 1 = .ok (.getfield 15, 3) := by decide +kernel
theorem dX7_lowest_4 : decode cX7_lowest 4 = .ok (.bipush 8, 2) := by decide +kernel
theorem dX7_lowest_6 : decode cX7_lowest 6 = .ok (.if_icmp .ne 8, 3) := by decide +kernel
theorem dX7_lowest_9 : decode cX7_lowest 9 = .ok (.lload_n 1, 1) := by decide +kernel
theorem dX7_lowest_10 : decode cX7_lowest 10 = .ok (.l2i, 1) := by decide +kernel
theorem dX7_lowest_11 : decode cX7_lowest 11 = .ok (.i2b, 1) := by decide +kernel
theorem dX7_lowest_12 : decode cX7_lowest 12 = .ok (.i2l, 1) := by decide +kernel
theorem dX7_lowest_13 : decode cX7_lowest 13 = .ok (.lreturn, 1) := by decide +kernel
theorem dX7_lowest_14 : decode cX7_lowest 14 = .ok (.aload_n 0, 1) := by decide +kernel
theorem dX7_lowest_15 : decode cX7_lowest 15 = .ok (.getfield 15, 3) := by decide +kernel
theorem dX7_lowest_18 : decode cX7_lowest 18 = .ok (.bipush 16, 2) := by decide +kernel
theorem dX7_lowest_20 : decode cX7_lowest 20 = .ok (.if_icmp .ne 10, 3) := by decide +kernel
theorem dX7_lowest_23 : decode cX7_lowest 23 = .ok (.lload_n 1, 1) := by decide +kernel
theorem dX7_lowest_24 : decode cX7_lowest 24 = .ok (.l2i, 1) := by decide +kernel
theorem dX7_lowest_25 : decode cX7_lowest 25 = .ok (.i2s, 1) := by decide +kernel
theorem dX7_lowest_26 : decode cX7_lowest 26 = .ok (.i2l, 1) := by decide +kernel
theorem dX7_lowest_27 : decode cX7_lowest 27 = .ok (.goto 4, 3) := by decide +kernel
theorem dX7_lowest_30 : decode cX7_lowest 30 = .ok (.lload_n 1, 1) := by decide +kernel
theorem dX7_lowest_31 : decode cX7_lowest 31 = .ok (.lreturn, 1) := by decide +kernel
theorem dX8_init_0 : decode cX8_init 0 = .ok (.aload_n 0, 1) := by decide +kernel
theorem dX8_init_1 : decode cX8_init 1 = .ok (.invokespecial 3, 3) := by decide +kernel
theorem dX8_init_4 : decode cX8_init 4 = .ok (.aload_n 0, 1) := by decide +kernel
theorem dX8_init_5 : decode cX8_init 5 = .ok (.bipush 120, 2) := by decide +kernel
theorem dX8_init_7 : decode cX8_init 7 = .ok (.newarray .int, 2) := by decide +kernel
theorem dX8_init_9 : decode cX8_init 9 = .ok (.putfield 9, 3) := by decide +kernel
theorem dX8_init_12 : decode cX8_init 12 = .ok (.aload_n 0, 1) := by decide +kernel
theorem dX8_init_13 : decode cX8_init 13 = .ok (.aload_n 1, 1) := by decide +kernel
theorem dX8_init_14 : decode cX8_init 14 = .ok (.putfield 15, 3) := by decide +kernel
theorem dX8_init_17 : decode cX8_init 17 = .ok (.return_, 1) := by decide +kernel
theorem dX8_append_0 : decode cX8_append 0 = .ok (.aload_n 0, 1) := by decide +kernel
theorem dX8_append_1 : decode cX8_append 1 = .ok (.getfield 19, 3) := by decide +kernel
theorem dX8_append_4 : decode cX8_append 4 = .ok (.bipush 120, 2) := by decide +kernel
theorem dX8_append_6 : decode cX8_append 6 = .ok (.if_icmp .ge 23, 3) := by decide +kernel
theorem dX8_append_9 : decode cX8_append 9 = .ok (.aload_n 0, 1) := by decide +kernel
theorem dX8_append_10 : decode cX8_append 10 = .ok (.getfield 9, 3) := by decide +kernel
theorem dX8_append_13 : decode cX8_append 13 = .ok (.aload_n 0, 1) := by decide +kernel
theorem dX8_append_14 : decode cX8_append 14 = .ok (.getfield 19, 3) := by decide +kernel
theorem dX8_append_17 : decode cX8_append 17 = .ok (.iload_n 1, 1) := by decide +kernel
theorem dX8_append_18 : decode cX8_append 18 = .ok (.iastore, 1) := by decide +kernel
theorem dX8_append_19 : decode cX8_append 19 = .ok (.aload_n 0, 1) := by decide +kernel
theorem dX8_append_20 : decode cX8_append 20 = .ok (.dup, 1) := by decide +kernel
theorem dX8_append_21 : decode cX8_append 21 = .ok (.getfield 19, 3) := by decide +kernel
theorem dX8_append_24 : decode cX8_append 24 = .ok (.iconst 1, 1) := by decide +kernel
theorem dX8_append_25 : decode cX8_append 25 = .ok (.iadd, 1) := by decide +kernel
theorem dX8_append_26 : decode cX8_append 26 = .ok (.putfield 19, 3) := by decide +kernel
theorem dX8_append_29 : decode cX8_append 29 = .ok (.return_, 1) := by decide +kernel
theorem dX8_tell_0 : decode cX8_tell 0 = .ok (.aload_n 0, 1) := by decide +kernel
theorem dX8_tell_1 : decode cX8_tell 1 = .ok (.iconst 0, 1) := by decide +kernel
theorem dX8_tell_2 : decode cX8_tell 2 = .ok (.putfield 23, 3) := by decide +kernel
theorem dX8_tell_5 : decode cX8_tell 5 = .ok (.aload_n 0, 1) := by decide +kernel
theorem dX8_tell_6 : decode cX8_tell 6 = .ok (.invokevirtual 26, 3) := by decide +kernel
theorem dX8_tell_9 : decode cX8_tell 9 = .ok (.iconst 1, 1) := by decide +kernel
theorem dX8_tell_10 : decode cX8_tell 10 = .ok (.istore_n 2, 1) := by decide +kernel
theorem dX8_tell_11 : decode cX8_tell 11 = .ok (.iload_n 2, 1) := by decide +kernel
theorem dX8_tell_12 : decode cX8_tell 12 = .ok (.bipush 120, 2) := by decide +kernel
theorem dX8_tell_14 : decode cX8_tell 14 = .ok (.if_icmp .gt 52, 3) := by decide +kernel
theorem dX8_tell_17 : decode cX8_tell 17 = .ok (.aload_n 0, 1) := by decide +kernel
theorem dX8_tell_18 : decode cX8_tell 18 = .ok (.aload_n 1, 1) := by decide +kernel
theorem dX8_tell_19 : decode cX8_tell 19 = .ok (.invokevirtual 29, 3) := by decide +kernel
theorem dX8_tell_22 : decode cX8_tell 22 = .ok (.ifCond .ne 10, 3) := by decide +kernel
theorem dX8_tell_25 : decode cX8_tell 25 = .ok (.iconst (-1), 1) := by decide +kernel
theorem dX8_tell_26 : decode cX8_tell 26 = .ok (.aload_n 0, 1) := by decide +kernel
theorem dX8_tell_27 : decode cX8_tell 27 = .ok (.getfield 33, 3) := by decide +kernel
theorem dX8_tell_30 : decode cX8_tell 30 = .ok (.isub, 1) := by decide +kernel
theorem dX8_tell_31 : decode cX8_tell 31 = .ok (.ireturn, 1) := by decide +kernel
theorem dX8_tell_32 : decode cX8_tell 32 = .ok (.aload_n 0, 1) := by decide +kernel
theorem dX8_tell_33 : decode cX8_tell 33 = .ok (.getfield 36, 3) := by decide +kernel
theorem dX8_tell_36 : decode cX8_tell 36 = .ok (.ifCond .ne 5, 3) := by decide +kernel
theorem dX8_tell_39 : decode cX8_tell 39 = .ok (.iload_n 2, 1) := by decide +kernel
theorem dX8_tell_40 : decode cX8_tell 40 = .ok (.ireturn, 1) := by decide +kernel
theorem dX8_tell_41 : decode cX8_tell 41 = .ok (.aload_n 0, 1) := by decide +kernel
theorem dX8_tell_42 : decode cX8_tell 42 = .ok (.getfield 36, 3) := by decide +kernel
theorem dX8_tell_45 : decode cX8_tell 45 = .ok (.iconst 3, 1) := by decide +kernel
theorem dX8_tell_46 : decode cX8_tell 46 = .ok (.if_icmp .eq 10, 3) := by decide +kernel
theorem dX8_tell_49 : decode cX8_tell 49 = .ok (.iconst (-1), 1) := by decide +kernel
theorem dX8_tell_50 : decode cX8_tell 50 = .ok (.aload_n 0, 1) := by decide +kernel
theorem dX8_tell_51 : decode cX8_tell 51 = .ok (.getfield 33, 3) := by decide +kernel
theorem dX8_tell_54 : decode cX8_tell 54 = .ok (.isub, 1) := by decide +kernel
theorem dX8_tell_55 : decode cX8_tell 55 = .ok (.ireturn, 1) := by decide +kernel
theorem dX8_tell_56 : decode cX8_tell 56 = .ok (.aload_n 0, 1) := by decide +kernel
theorem dX8_tell_57 : decode cX8_tell 57 = .ok (.invokevirtual 26, 3) := by decide +kernel
theorem dX8_tell_60 : decode cX8_tell 60 = .ok (.iinc 2 1, 3) := by decide +kernel
theorem dX8_tell_63 : decode cX8_tell 63 = .ok (.goto (-52), 3) := by decide +kernel
theorem dX8_tell_66 : decode cX8_tell 66 = .ok (.iconst (-1), 1) := by decide +kernel
theorem dX8_tell_67 : decode cX8_tell 67 = .ok (.aload_n 0, 1) := by decide +kernel
theorem dX8_tell_68 : decode cX8_tell 68 = .ok (.getfield 33, 3) := by decide +kernel
theorem dX8_tell_71 : decode cX8_tell 71 = .ok (.isub, 1) := by decide +kernel
theorem dX8_tell_72 : decode cX8_tell 72 = .ok (.ireturn, 1) := by decide +kernel
theorem dX8_item_0 : decode cX8_item 0 = .ok (.iconst 0, 1) := by decide +kernel
theorem dX8_item_1 : decode cX8_item 1 = .ok (.istore_n 2, 1) := by decide +kernel
theorem dX8_item_2 : decode cX8_item 2 = .ok (.iload_n 2, 1) := by decide +kernel
theorem dX8_item_3 : decode cX8_item 3 = .ok (.bipush 6, 2) := by decide +kernel
theorem dX8_item_5 : decode cX8_item 5 = .ok (.if_icmp .ge 32, 3) := by decide +kernel
theorem dX8_item_8 : decode cX8_item 8 = .ok (.aload_n 0, 1) := by decide +kernel
theorem dX8_item_9 : decode cX8_item 9 = .ok (.aload_n 0, 1) := by decide +kernel
theorem dX8_item_10 : decode cX8_item 10 = .ok (.getfield 15, 3) := by decide +kernel
theorem dX8_item_13 : decode cX8_item 13 = .ok (.iload_n 2, 1) := by decide +kernel
theorem dX8_item_14 : decode cX8_item 14 = .ok (.aaload, 1) := by decide +kernel
theorem dX8_item_15 : decode cX8_item 15 = .ok (.invokevirtual 39, 3) := by decide +kernel
theorem dX8_item_18 : decode cX8_item 18 = .ok (.invokevirtual 45, 3) := by decide +kernel
theorem dX8_item_21 : decode cX8_item 21 = .ok (.ifCond .eq 10, 3) := by decide +kernel
theorem dX8_item_24 : decode cX8_item 24 = .ok (.aload_n 0, 1) := by decide +kernel
theorem dX8_item_25 : decode cX8_item 25 = .ok (.aload_n 1, 1) := by decide +kernel
theorem dX8_item_26 : decode cX8_item 26 = .ok (.iload_n 2, 1) := by decide +kernel
theorem dX8_item_27 : decode cX8_item 27 = .ok (.invokevirtual 49, 3) := by decide +kernel
theorem dX8_item_30 : decode cX8_item 30 = .ok (.ireturn, 1) := by decide +kernel
theorem dX8_item_31 : decode cX8_item 31 = .ok (.iinc 2 1, 3) := by decide +kernel
theorem dX8_item_34 : decode cX8_item 34 = .ok (.goto (-32), 3) := by decide +kernel
theorem dX8_item_37 : decode cX8_item 37 = .ok (.aload_n 0, 1) := by decide +kernel
theorem dX8_item_38 : decode cX8_item 38 = .ok (.ldc 53, 2) := by decide +kernel
theorem dX8_item_40 : decode cX8_item 40 = .ok (.invokevirtual 55, 3) := by decide +kernel
theorem dX8_item_43 : decode cX8_item 43 = .ok (.ifCond .eq 9, 3) := by decide +kernel
theorem dX8_item_46 : decode cX8_item 46 = .ok (.aload_n 0, 1) := by decide +kernel
theorem dX8_item_47 : decode cX8_item 47 = .ok (.aload_n 1, 1) := by decide +kernel
theorem dX8_item_48 : decode cX8_item 48 = .ok (.invokevirtual 58, 3) := by decide +kernel
theorem dX8_item_51 : decode cX8_item 51 = .ok (.ireturn, 1) := by decide +kernel
theorem dX8_item_52 : decode cX8_item 52 = .ok (.aload_n 0, 1) := by decide +kernel
theorem dX8_item_53 : decode cX8_item 53 = .ok (.ldc 61, 2) := by decide +kernel
theorem dX8_item_55 : decode cX8_item 55 = .ok (.invokevirtual 55, 3) := by decide +kernel
theorem dX8_item_58 : decode cX8_item 58 = .ok (.ifCond .eq 25, 3) := by decide +kernel
theorem dX8_item_61 : decode cX8_item 61 = .ok (.aload_n 0, 1) := by decide +kernel
theorem dX8_item_62 : decode cX8_item 62 = .ok (.iconst 0, 1) := by decide +kernel
theorem dX8_item_63 : decode cX8_item 63 = .ok (.bipush 9, 2) := by decide +kernel
theorem dX8_item_65 : decode cX8_item 65 = .ok (.invokevirtual 63, 3) := by decide +kernel
theorem dX8_item_68 : decode cX8_item 68 = .ok (.ifCond .ne 5, 3) := by decide +kernel
theorem dX8_item_71 : decode cX8_item 71 = .ok (.iconst 0, 1) := by decide +kernel
theorem dX8_item_72 : decode cX8_item 72 = .ok (.ireturn, 1) := by decide +kernel
theorem dX8_item_73 : decode cX8_item 73 = .ok (.aload_n 1, 1) := by decide +kernel
theorem dX8_item_74 : decode cX8_item 74 = .ok (.aload_n 0, 1) := by decide +kernel
theorem dX8_item_75 : decode cX8_item 75 = .ok (.getfield 67, 3) := by decide +kernel
theorem dX8_item_78 : decode cX8_item 78 = .ok (.putfield 70, 3) := by decide +kernel
theorem dX8_item_81 : decode cX8_item 81 = .ok (.iconst 1, 1) := by decide +kernel
theorem dX8_item_82 : decode cX8_item 82 = .ok (.ireturn, 1) := by decide +kernel
theorem dX8_item_83 : decode cX8_item 83 = .ok (.aload_n 0, 1) := by decide +kernel
theorem dX8_item_84 : decode cX8_item 84 = .ok (.ldc 74, 2) := by decide +kernel
theorem dX8_item_86 : decode cX8_item 86 = .ok (.invokevirtual 55, 3) := by decide +kernel
theorem dX8_item_89 : decode cX8_item 89 = .ok (.ifCond .eq 25, 3) := by decide +kernel
theorem dX8_item_92 : decode cX8_item 92 = .ok (.aload_n 0, 1) := by decide +kernel
theorem dX8_item_93 : decode cX8_item 93 = .ok (.iconst 0, 1) := by decide +kernel
theorem dX8_item_94 : decode cX8_item 94 = .ok (.bipush 20, 2) := by decide +kernel
theorem dX8_item_96 : decode cX8_item 96 = .ok (.invokevirtual 63, 3) := by decide +kernel
theorem dX8_item_99 : decode cX8_item 99 = .ok (.ifCond .ne 5, 3) := by decide +kernel
theorem dX8_item_102 : decode cX8_item 102 = .ok (.iconst 0, 1) := by decide +kernel
theorem dX8_item_103 : decode cX8_item 103 = .ok (.ireturn, 1) := by decide +kernel
theorem dX8_item_104 : decode cX8_item 104 = .ok (.aload_n 1, 1) := by decide +kernel
theorem dX8_item_105 : decode cX8_item 105 = .ok (.aload_n 0, 1) := by decide +kernel
theorem dX8_item_106 : decode cX8_item 106 = .ok (.getfield 67, 3) := by decide +kernel
theorem dX8_item_109 : decode cX8_item 109 = .ok (.putfield 76, 3) := by decide +kernel
theorem dX8_item_112 : decode cX8_item 112 = .ok (.iconst 1, 1) := by decide +kernel
theorem dX8_item_113 : decode cX8_item 113 = .ok (.ireturn, 1) := by decide +kernel
theorem dX8_item_114 : decode cX8_item 114 = .ok (.iconst 0, 1) := by decide +kernel
theorem dX8_item_115 : decode cX8_item 115 = .ok (.ireturn, 1) := by decide +kernel
theorem dX8_fineItem_0 : decode cX8_fineItem 0 = .ok (.aload_n 1, 1) := by decide +kernel
theorem dX8_fineItem_1 : decode cX8_fineItem 1 = .ok (.invokevirtual 78, 3) := by decide +kernel
theorem dX8_fineItem_4 : decode cX8_fineItem 4 = .ok (.ifCond .eq 5, 3) := by decide +kernel
theorem dX8_fineItem_7 : decode cX8_fineItem 7 = .ok (.iconst 0, 1) := by decide +kernel
theorem dX8_fineItem_8 : decode cX8_fineItem 8 = .ok (.ireturn, 1) := by decide +kernel
theorem dX8_fineItem_9 : decode cX8_fineItem 9 = .ok (.aload_n 0, 1) := by decide +kernel
theorem dX8_fineItem_10 : decode cX8_fineItem 10 = .ok (.invokevirtual 26, 3) := by decide +kernel
theorem dX8_fineItem_13 : decode cX8_fineItem 13 = .ok (.aload_n 0, 1) := by decide +kernel
theorem dX8_fineItem_14 : decode cX8_fineItem 14 = .ok (.iconst 1, 1) := by decide +kernel
theorem dX8_fineItem_15 : decode cX8_fineItem 15 = .ok (.bipush 40, 2) := by decide +kernel
theorem dX8_fineItem_17 : decode cX8_fineItem 17 = .ok (.invokevirtual 63, 3) := by decide +kernel
theorem dX8_fineItem_20 : decode cX8_fineItem 20 = .ok (.ifCond .ne 5, 3) := by decide +kernel
theorem dX8_fineItem_23 : decode cX8_fineItem 23 = .ok (.iconst 0, 1) := by decide +kernel
theorem dX8_fineItem_24 : decode cX8_fineItem 24 = .ok (.ireturn, 1) := by decide +kernel
theorem dX8_fineItem_25 : decode cX8_fineItem 25 = .ok (.aload_n 0, 1) := by decide +kernel
theorem dX8_fineItem_26 : decode cX8_fineItem 26 = .ok (.getfield 67, 3) := by decide +kernel
theorem dX8_fineItem_29 : decode cX8_fineItem 29 = .ok (.istore_n 3, 1) := by decide +kernel
theorem dX8_fineItem_30 : decode cX8_fineItem 30 = .ok (.aload_n 0, 1) := by decide +kernel
theorem dX8_fineItem_31 : decode cX8_fineItem 31 = .ok (.ldc 82, 2) := by decide +kernel
theorem dX8_fineItem_33 : decode cX8_fineItem 33 = .ok (.invokevirtual 55, 3) := by decide +kernel
theorem dX8_fineItem_36 : decode cX8_fineItem 36 = .ok (.ifCond .eq 13, 3) := by decide +kernel
theorem dX8_fineItem_39 : decode cX8_fineItem 39 = .ok (.aload_n 0, 1) := by decide +kernel
theorem dX8_fineItem_40 : decode cX8_fineItem 40 = .ok (.iconst 0, 1) := by decide +kernel
theorem dX8_fineItem_41 : decode cX8_fineItem 41 = .ok (.bipush 39, 2) := by decide +kernel
theorem dX8_fineItem_43 : decode cX8_fineItem 43 = .ok (.invokevirtual 63, 3) := by decide +kernel
theorem dX8_fineItem_46 : decode cX8_fineItem 46 = .ok (.ifCond .ne 5, 3) := by decide +kernel
theorem dX8_fineItem_49 : decode cX8_fineItem 49 = .ok (.iconst 0, 1) := by decide +kernel
theorem dX8_fineItem_50 : decode cX8_fineItem 50 = .ok (.ireturn, 1) := by decide +kernel
theorem dX8_fineItem_51 : decode cX8_fineItem 51 = .ok (.aload_n 0, 1) := by decide +kernel
theorem dX8_fineItem_52 : decode cX8_fineItem 52 = .ok (.getfield 67, 3) := by decide +kernel
theorem dX8_fineItem_55 : decode cX8_fineItem 55 = .ok (.istore 4, 2) := by decide +kernel
theorem dX8_fineItem_57 : decode cX8_fineItem 57 = .ok (.iconst 3, 1) := by decide +kernel
theorem dX8_fineItem_58 : decode cX8_fineItem 58 = .ok (.istore 5, 2) := by decide +kernel
theorem dX8_fineItem_60 : decode cX8_fineItem 60 = .ok (.aload_n 0, 1) := by decide +kernel
theorem dX8_fineItem_61 : decode cX8_fineItem 61 = .ok (.ldc 84, 2) := by decide +kernel
theorem dX8_fineItem_63 : decode cX8_fineItem 63 = .ok (.invokevirtual 55, 3) := by decide +kernel
theorem dX8_fineItem_66 : decode cX8_fineItem 66 = .ok (.ifCond .eq 21, 3) := by decide +kernel
theorem dX8_fineItem_69 : decode cX8_fineItem 69 = .ok (.aload_n 0, 1) := by decide +kernel
theorem dX8_fineItem_70 : decode cX8_fineItem 70 = .ok (.iconst 1, 1) := by decide +kernel
theorem dX8_fineItem_71 : decode cX8_fineItem 71 = .ok (.bipush 9, 2) := by decide +kernel
theorem dX8_fineItem_73 : decode cX8_fineItem 73 = .ok (.invokevirtual 63, 3) := by decide +kernel
theorem dX8_fineItem_76 : decode cX8_fineItem 76 = .ok (.ifCond .ne 5, 3) := by decide +kernel
theorem dX8_fineItem_79 : decode cX8_fineItem 79 = .ok (.iconst 0, 1) := by decide +kernel
theorem dX8_fineItem_80 : decode cX8_fineItem 80 = .ok (.ireturn, 1) := by decide +kernel
theorem dX8_fineItem_81 : decode cX8_fineItem 81 = .ok (.aload_n 0, 1) := by decide +kernel
theorem dX8_fineItem_82 : decode cX8_fineItem 82 = .ok (.getfield 67, 3) := by decide +kernel
theorem dX8_fineItem_85 : decode cX8_fineItem 85 = .ok (.istore 5, 2) := by decide +kernel
theorem dX8_fineItem_87 : decode cX8_fineItem 87 = .ok (.aload_n 1, 1) := by decide +kernel
theorem dX8_fineItem_88 : decode cX8_fineItem 88 = .ok (.iload_n 2, 1) := by decide +kernel
theorem dX8_fineItem_89 : decode cX8_fineItem 89 = .ok (.iload_n 3, 1) := by decide +kernel
theorem dX8_fineItem_90 : decode cX8_fineItem 90 = .ok (.iload 4, 2) := by decide +kernel
theorem dX8_fineItem_92 : decode cX8_fineItem 92 = .ok (.iload 5, 2) := by decide +kernel
theorem dX8_fineItem_94 : decode cX8_fineItem 94 = .ok (.invokevirtual 86, 3) := by decide +kernel
theorem dX8_fineItem_97 : decode cX8_fineItem 97 = .ok (.iconst 1, 1) := by decide +kernel
theorem dX8_fineItem_98 : decode cX8_fineItem 98 = .ok (.ireturn, 1) := by decide +kernel
theorem dX8_rockItem_0 : decode cX8_rockItem 0 = .ok (.aload_n 0, 1) := by decide +kernel
theorem dX8_rockItem_1 : decode cX8_rockItem 1 = .ok (.iconst 0, 1) := by decide +kernel
theorem dX8_rockItem_2 : decode cX8_rockItem 2 = .ok (.bipush 39, 2) := by decide +kernel
theorem dX8_rockItem_4 : decode cX8_rockItem 4 = .ok (.invokevirtual 63, 3) := by decide +kernel
theorem dX8_rockItem_7 : decode cX8_rockItem 7 = .ok (.ifCond .ne 5, 3) := by decide +kernel
theorem dX8_rockItem_10 : decode cX8_rockItem 10 = .ok (.iconst 0, 1) := by decide +kernel
theorem dX8_rockItem_11 : decode cX8_rockItem 11 = .ok (.ireturn, 1) := by decide +kernel
theorem dX8_rockItem_12 : decode cX8_rockItem 12 = .ok (.aload_n 0, 1) := by decide +kernel
theorem dX8_rockItem_13 : decode cX8_rockItem 13 = .ok (.getfield 67, 3) := by decide +kernel
theorem dX8_rockItem_16 : decode cX8_rockItem 16 = .ok (.istore_n 2, 1) := by decide +kernel
theorem dX8_rockItem_17 : decode cX8_rockItem 17 = .ok (.iload_n 2, 1) := by decide +kernel
theorem dX8_rockItem_18 : decode cX8_rockItem 18 = .ok (.istore_n 3, 1) := by decide +kernel
theorem dX8_rockItem_19 : decode cX8_rockItem 19 = .ok (.aload_n 0, 1) := by decide +kernel
theorem dX8_rockItem_20 : decode cX8_rockItem 20 = .ok (.ldc 90, 2) := by decide +kernel
theorem dX8_rockItem_22 : decode cX8_rockItem 22 = .ok (.invokevirtual 55, 3) := by decide +kernel
theorem dX8_rockItem_25 : decode cX8_rockItem 25 = .ok (.ifCond .eq 20, 3) := by decide +kernel
theorem dX8_rockItem_28 : decode cX8_rockItem 28 = .ok (.aload_n 0, 1) := by decide +kernel
theorem dX8_rockItem_29 : decode cX8_rockItem 29 = .ok (.iload_n 2, 1) := by decide +kernel
theorem dX8_rockItem_30 : decode cX8_rockItem 30 = .ok (.bipush 39, 2) := by decide +kernel
theorem dX8_rockItem_32 : decode cX8_rockItem 32 = .ok (.invokevirtual 63, 3) := by decide +kernel
theorem dX8_rockItem_35 : decode cX8_rockItem 35 = .ok (.ifCond .ne 5, 3) := by decide +kernel
theorem dX8_rockItem_38 : decode cX8_rockItem 38 = .ok (.iconst 0, 1) := by decide +kernel
theorem dX8_rockItem_39 : decode cX8_rockItem 39 = .ok (.ireturn, 1) := by decide +kernel
theorem dX8_rockItem_40 : decode cX8_rockItem 40 = .ok (.aload_n 0, 1) := by decide +kernel
theorem dX8_rockItem_41 : decode cX8_rockItem 41 = .ok (.getfield 67, 3) := by decide +kernel
theorem dX8_rockItem_44 : decode cX8_rockItem 44 = .ok (.istore_n 3, 1) := by decide +kernel
theorem dX8_rockItem_45 : decode cX8_rockItem 45 = .ok (.aload_n 0, 1) := by decide +kernel
theorem dX8_rockItem_46 : decode cX8_rockItem 46 = .ok (.ldc 92, 2) := by decide +kernel
theorem dX8_rockItem_48 : decode cX8_rockItem 48 = .ok (.invokevirtual 55, 3) := by decide +kernel
theorem dX8_rockItem_51 : decode cX8_rockItem 51 = .ok (.ifCond .eq 13, 3) := by decide +kernel
theorem dX8_rockItem_54 : decode cX8_rockItem 54 = .ok (.aload_n 0, 1) := by decide +kernel
theorem dX8_rockItem_55 : decode cX8_rockItem 55 = .ok (.iconst 1, 1) := by decide +kernel
theorem dX8_rockItem_56 : decode cX8_rockItem 56 = .ok (.bipush 9, 2) := by decide +kernel
theorem dX8_rockItem_58 : decode cX8_rockItem 58 = .ok (.invokevirtual 63, 3) := by decide +kernel
theorem dX8_rockItem_61 : decode cX8_rockItem 61 = .ok (.ifCond .ne 5, 3) := by decide +kernel
theorem dX8_rockItem_64 : decode cX8_rockItem 64 = .ok (.iconst 0, 1) := by decide +kernel
theorem dX8_rockItem_65 : decode cX8_rockItem 65 = .ok (.ireturn, 1) := by decide +kernel
theorem dX8_rockItem_66 : decode cX8_rockItem 66 = .ok (.iload_n 2, 1) := by decide +kernel
theorem dX8_rockItem_67 : decode cX8_rockItem 67 = .ok (.istore 4, 2) := by decide +kernel
theorem dX8_rockItem_69 : decode cX8_rockItem 69 = .ok (.iload 4, 2) := by decide +kernel
theorem dX8_rockItem_71 : decode cX8_rockItem 71 = .ok (.iload_n 3, 1) := by decide +kernel
theorem dX8_rockItem_72 : decode cX8_rockItem 72 = .ok (.if_icmp .gt 27, 3) := by decide +kernel
theorem dX8_rockItem_75 : decode cX8_rockItem 75 = .ok (.iload 4, 2) := by decide +kernel
theorem dX8_rockItem_77 : decode cX8_rockItem 77 = .ok (.bipush 40, 2) := by decide +kernel
theorem dX8_rockItem_79 : decode cX8_rockItem 79 = .ok (.if_icmp .ge 20, 3) := by decide +kernel
theorem dX8_rockItem_82 : decode cX8_rockItem 82 = .ok (.aload_n 1, 1) := by decide +kernel
theorem dX8_rockItem_83 : decode cX8_rockItem 83 = .ok (.getfield 94, 3) := by decide +kernel
theorem dX8_rockItem_86 : decode cX8_rockItem 86 = .ok (.iload 4, 2) := by decide +kernel
theorem dX8_rockItem_88 : decode cX8_rockItem 88 = .ok (.aload_n 0, 1) := by decide +kernel
theorem dX8_rockItem_89 : decode cX8_rockItem 89 = .ok (.getfield 67, 3) := by decide +kernel
theorem dX8_rockItem_92 : decode cX8_rockItem 92 = .ok (.iastore, 1) := by decide +kernel
theorem dX8_rockItem_93 : decode cX8_rockItem 93 = .ok (.iinc 4 1, 3) := by decide +kernel
theorem dX8_rockItem_96 : decode cX8_rockItem 96 = .ok (.goto (-27), 3) := by decide +kernel
theorem dX8_rockItem_99 : decode cX8_rockItem 99 = .ok (.iconst 1, 1) := by decide +kernel
theorem dX8_rockItem_100 : decode cX8_rockItem 100 = .ok (.ireturn, 1) := by decide +kernel
theorem dX8_take_0 : decode cX8_take 0 = .ok (.aload_n 0, 1) := by decide +kernel
theorem dX8_take_1 : decode cX8_take 1 = .ok (.getfield 36, 3) := by decide +kernel
theorem dX8_take_4 : decode cX8_take 4 = .ok (.iconst 2, 1) := by decide +kernel
theorem dX8_take_5 : decode cX8_take 5 = .ok (.if_icmp .ne 15, 3) := by decide +kernel
theorem dX8_take_8 : decode cX8_take 8 = .ok (.aload_n 0, 1) := by decide +kernel
theorem dX8_take_9 : decode cX8_take 9 = .ok (.getfield 96, 3) := by decide +kernel
theorem dX8_take_12 : decode cX8_take 12 = .ok (.iload_n 1, 1) := by decide +kernel
theorem dX8_take_13 : decode cX8_take 13 = .ok (.iload_n 2, 1) := by decide +kernel
theorem dX8_take_14 : decode cX8_take 14 = .ok (.invokestatic 99, 3) := by decide +kernel
theorem dX8_take_17 : decode cX8_take 17 = .ok (.ifCond .ne 5, 3) := by decide +kernel
theorem dX8_take_20 : decode cX8_take 20 = .ok (.iconst 0, 1) := by decide +kernel
theorem dX8_take_21 : decode cX8_take 21 = .ok (.ireturn, 1) := by decide +kernel
theorem dX8_take_22 : decode cX8_take 22 = .ok (.aload_n 0, 1) := by decide +kernel
theorem dX8_take_23 : decode cX8_take 23 = .ok (.aload_n 0, 1) := by decide +kernel
theorem dX8_take_24 : decode cX8_take 24 = .ok (.getfield 96, 3) := by decide +kernel
theorem dX8_take_27 : decode cX8_take 27 = .ok (.putfield 67, 3) := by decide +kernel
theorem dX8_take_30 : decode cX8_take 30 = .ok (.aload_n 0, 1) := by decide +kernel
theorem dX8_take_31 : decode cX8_take 31 = .ok (.invokevirtual 26, 3) := by decide +kernel
theorem dX8_take_34 : decode cX8_take 34 = .ok (.iconst 1, 1) := by decide +kernel
theorem dX8_take_35 : decode cX8_take 35 = .ok (.ireturn, 1) := by decide +kernel
theorem dX8_takeWord_0 : decode cX8_takeWord 0 = .ok (.aload_n 0, 1) := by decide +kernel
theorem dX8_takeWord_1 : decode cX8_takeWord 1 = .ok (.aload_n 1, 1) := by decide +kernel
theorem dX8_takeWord_2 : decode cX8_takeWord 2 = .ok (.invokevirtual 45, 3) := by decide +kernel
theorem dX8_takeWord_5 : decode cX8_takeWord 5 = .ok (.ifCond .ne 5, 3) := by decide +kernel
theorem dX8_takeWord_8 : decode cX8_takeWord 8 = .ok (.iconst 0, 1) := by decide +kernel
theorem dX8_takeWord_9 : decode cX8_takeWord 9 = .ok (.ireturn, 1) := by decide +kernel
theorem dX8_takeWord_10 : decode cX8_takeWord 10 = .ok (.aload_n 0, 1) := by decide +kernel
theorem dX8_takeWord_11 : decode cX8_takeWord 11 = .ok (.invokevirtual 26, 3) := by decide +kernel
theorem dX8_takeWord_14 : decode cX8_takeWord 14 = .ok (.iconst 1, 1) := by decide +kernel
theorem dX8_takeWord_15 : decode cX8_takeWord 15 = .ok (.ireturn, 1) := by decide +kernel
theorem dX8_isWord_0 : decode cX8_isWord 0 = .ok (.aload_n 0, 1) := by decide +kernel
theorem dX8_isWord_1 : decode cX8_isWord 1 = .ok (.getfield 36, 3) := by decide +kernel
theorem dX8_isWord_4 : decode cX8_isWord 4 = .ok (.iconst 1, 1) := by decide +kernel
theorem dX8_isWord_5 : decode cX8_isWord 5 = .ok (.if_icmp .ne 19, 3) := by decide +kernel
theorem dX8_isWord_8 : decode cX8_isWord 8 = .ok (.aload_n 0, 1) := by decide +kernel
theorem dX8_isWord_9 : decode cX8_isWord 9 = .ok (.getfield 23, 3) := by decide +kernel
theorem dX8_isWord_12 : decode cX8_isWord 12 = .ok (.aload_n 0, 1) := by decide +kernel
theorem dX8_isWord_13 : decode cX8_isWord 13 = .ok (.getfield 33, 3) := by decide +kernel
theorem dX8_isWord_16 : decode cX8_isWord 16 = .ok (.isub, 1) := by decide +kernel
theorem dX8_isWord_17 : decode cX8_isWord 17 = .ok (.aload_n 1, 1) := by decide +kernel
theorem dX8_isWord_18 : decode cX8_isWord 18 = .ok (.invokevirtual 103, 3) := by decide +kernel
theorem dX8_isWord_21 : decode cX8_isWord 21 = .ok (.if_icmp .eq 5, 3) := by decide +kernel
theorem dX8_isWord_24 : decode cX8_isWord 24 = .ok (.iconst 0, 1) := by decide +kernel
theorem dX8_isWord_25 : decode cX8_isWord 25 = .ok (.ireturn, 1) := by decide +kernel
theorem dX8_isWord_26 : decode cX8_isWord 26 = .ok (.iconst 0, 1) := by decide +kernel
theorem dX8_isWord_27 : decode cX8_isWord 27 = .ok (.istore_n 2, 1) := by decide +kernel
theorem dX8_isWord_28 : decode cX8_isWord 28 = .ok (.iload_n 2, 1) := by decide +kernel
theorem dX8_isWord_29 : decode cX8_isWord 29 = .ok (.aload_n 1, 1) := by decide +kernel
theorem dX8_isWord_30 : decode cX8_isWord 30 = .ok (.invokevirtual 103, 3) := by decide +kernel
theorem dX8_isWord_33 : decode cX8_isWord 33 = .ok (.if_icmp .ge 43, 3) := by decide +kernel
theorem dX8_isWord_36 : decode cX8_isWord 36 = .ok (.aload_n 0, 1) := by decide +kernel
theorem dX8_isWord_37 : decode cX8_isWord 37 = .ok (.getfield 33, 3) := by decide +kernel
theorem dX8_isWord_40 : decode cX8_isWord 40 = .ok (.iload_n 2, 1) := by decide +kernel
theorem dX8_isWord_41 : decode cX8_isWord 41 = .ok (.iadd, 1) := by decide +kernel
theorem dX8_isWord_42 : decode cX8_isWord 42 = .ok (.aload_n 0, 1) := by decide +kernel
theorem dX8_isWord_43 : decode cX8_isWord 43 = .ok (.getfield 19, 3) := by decide +kernel
theorem dX8_isWord_46 : decode cX8_isWord 46 = .ok (.if_icmp .ge 30, 3) := by decide +kernel
theorem dX8_isWord_49 : decode cX8_isWord 49 = .ok (.aload_n 0, 1) := by decide +kernel
theorem dX8_isWord_50 : decode cX8_isWord 50 = .ok (.getfield 9, 3) := by decide +kernel
theorem dX8_isWord_53 : decode cX8_isWord 53 = .ok (.aload_n 0, 1) := by decide +kernel
theorem dX8_isWord_54 : decode cX8_isWord 54 = .ok (.getfield 33, 3) := by decide +kernel
theorem dX8_isWord_57 : decode cX8_isWord 57 = .ok (.iload_n 2, 1) := by decide +kernel
theorem dX8_isWord_58 : decode cX8_isWord 58 = .ok (.iadd, 1) := by decide +kernel
theorem dX8_isWord_59 : decode cX8_isWord 59 = .ok (.iaload, 1) := by decide +kernel
theorem dX8_isWord_60 : decode cX8_isWord 60 = .ok (.aload_n 1, 1) := by decide +kernel
theorem dX8_isWord_61 : decode cX8_isWord 61 = .ok (.iload_n 2, 1) := by decide +kernel
theorem dX8_isWord_62 : decode cX8_isWord 62 = .ok (.invokevirtual 108, 3) := by decide +kernel
theorem dX8_isWord_65 : decode cX8_isWord 65 = .ok (.if_icmp .eq 5, 3) := by decide +kernel
theorem dX8_isWord_68 : decode cX8_isWord 68 = .ok (.iconst 0, 1) := by decide +kernel
theorem dX8_isWord_69 : decode cX8_isWord 69 = .ok (.ireturn, 1) := by decide +kernel
theorem dX8_isWord_70 : decode cX8_isWord 70 = .ok (.iinc 2 1, 3) := by decide +kernel
theorem dX8_isWord_73 : decode cX8_isWord 73 = .ok (.goto (-45), 3) := by decide +kernel
theorem dX8_isWord_76 : decode cX8_isWord 76 = .ok (.iconst 1, 1) := by decide +kernel
theorem dX8_isWord_77 : decode cX8_isWord 77 = .ok (.ireturn, 1) := by decide +kernel
theorem dX8_advance_0 : decode cX8_advance 0 = .ok (.aload_n 0, 1) := by decide +kernel
theorem dX8_advance_1 : decode cX8_advance 1 = .ok (.getfield 23, 3) := by decide +kernel
theorem dX8_advance_4 : decode cX8_advance 4 = .ok (.aload_n 0, 1) := by decide +kernel
theorem dX8_advance_5 : decode cX8_advance 5 = .ok (.getfield 19, 3) := by decide +kernel
theorem dX8_advance_8 : decode cX8_advance 8 = .ok (.if_icmp .ge 30, 3) := by decide +kernel
theorem dX8_advance_11 : decode cX8_advance 11 = .ok (.aload_n 0, 1) := by decide +kernel
theorem dX8_advance_12 : decode cX8_advance 12 = .ok (.getfield 9, 3) := by decide +kernel
theorem dX8_advance_15 : decode cX8_advance 15 = .ok (.aload_n 0, 1) := by decide +kernel
theorem dX8_advance_16 : decode cX8_advance 16 = .ok (.getfield 23, 3) := by decide +kernel
theorem dX8_advance_19 : decode cX8_advance 19 = .ok (.iaload, 1) := by decide +kernel
theorem dX8_advance_20 : decode cX8_advance 20 = .ok (.bipush 32, 2) := by decide +kernel
theorem dX8_advance_22 : decode cX8_advance 22 = .ok (.if_icmp .ne 16, 3) := by decide +kernel
theorem dX8_advance_25 : decode cX8_advance 25 = .ok (.aload_n 0, 1) := by decide +kernel
theorem dX8_advance_26 : decode cX8_advance 26 = .ok (.dup, 1) := by decide +kernel
theorem dX8_advance_27 : decode cX8_advance 27 = .ok (.getfield 23, 3) := by decide +kernel
theorem dX8_advance_30 : decode cX8_advance 30 = .ok (.iconst 1, 1) := by decide +kernel
theorem dX8_advance_31 : decode cX8_advance 31 = .ok (.iadd, 1) := by decide +kernel
theorem dX8_advance_32 : decode cX8_advance 32 = .ok (.putfield 23, 3) := by decide +kernel
theorem dX8_advance_35 : decode cX8_advance 35 = .ok (.goto (-35), 3) := by decide +kernel
theorem dX8_advance_38 : decode cX8_advance 38 = .ok (.aload_n 0, 1) := by decide +kernel
theorem dX8_advance_39 : decode cX8_advance 39 = .ok (.aload_n 0, 1) := by decide +kernel
theorem dX8_advance_40 : decode cX8_advance 40 = .ok (.getfield 23, 3) := by decide +kernel
theorem dX8_advance_43 : decode cX8_advance 43 = .ok (.putfield 33, 3) := by decide +kernel
theorem dX8_advance_46 : decode cX8_advance 46 = .ok (.aload_n 0, 1) := by decide +kernel
theorem dX8_advance_47 : decode cX8_advance 47 = .ok (.getfield 33, 3) := by decide +kernel
theorem dX8_advance_50 : decode cX8_advance 50 = .ok (.aload_n 0, 1) := by decide +kernel
theorem dX8_advance_51 : decode cX8_advance 51 = .ok (.getfield 19, 3) := by decide +kernel
theorem dX8_advance_54 : decode cX8_advance 54 = .ok (.if_icmp .lt 9, 3) := by decide +kernel
theorem dX8_advance_57 : decode cX8_advance 57 = .ok (.aload_n 0, 1) := by decide +kernel
theorem dX8_advance_58 : decode cX8_advance 58 = .ok (.iconst 0, 1) := by decide +kernel
theorem dX8_advance_59 : decode cX8_advance 59 = .ok (.putfield 36, 3) := by decide +kernel
theorem dX8_advance_62 : decode cX8_advance 62 = .ok (.return_, 1) := by decide +kernel
theorem dX8_advance_63 : decode cX8_advance 63 = .ok (.aload_n 0, 1) := by decide +kernel
theorem dX8_advance_64 : decode cX8_advance 64 = .ok (.getfield 9, 3) := by decide +kernel
theorem dX8_advance_67 : decode cX8_advance 67 = .ok (.aload_n 0, 1) := by decide +kernel
theorem dX8_advance_68 : decode cX8_advance 68 = .ok (.getfield 33, 3) := by decide +kernel
theorem dX8_advance_71 : decode cX8_advance 71 = .ok (.iaload, 1) := by decide +kernel
theorem dX8_advance_72 : decode cX8_advance 72 = .ok (.istore_n 1, 1) := by decide +kernel
theorem dX8_advance_73 : decode cX8_advance 73 = .ok (.aload_n 0, 1) := by decide +kernel
theorem dX8_advance_74 : decode cX8_advance 74 = .ok (.dup, 1) := by decide +kernel
theorem dX8_advance_75 : decode cX8_advance 75 = .ok (.getfield 23, 3) := by decide +kernel
theorem dX8_advance_78 : decode cX8_advance 78 = .ok (.iconst 1, 1) := by decide +kernel
theorem dX8_advance_79 : decode cX8_advance 79 = .ok (.iadd, 1) := by decide +kernel
theorem dX8_advance_80 : decode cX8_advance 80 = .ok (.putfield 23, 3) := by decide +kernel
theorem dX8_advance_83 : decode cX8_advance 83 = .ok (.iload_n 1, 1) := by decide +kernel
theorem dX8_advance_84 : decode cX8_advance 84 = .ok (.invokestatic 112, 3) := by decide +kernel
theorem dX8_advance_87 : decode cX8_advance 87 = .ok (.ifCond .eq 47, 3) := by decide +kernel
theorem dX8_advance_90 : decode cX8_advance 90 = .ok (.aload_n 0, 1) := by decide +kernel
theorem dX8_advance_91 : decode cX8_advance 91 = .ok (.iconst 1, 1) := by decide +kernel
theorem dX8_advance_92 : decode cX8_advance 92 = .ok (.putfield 36, 3) := by decide +kernel
theorem dX8_advance_95 : decode cX8_advance 95 = .ok (.aload_n 0, 1) := by decide +kernel
theorem dX8_advance_96 : decode cX8_advance 96 = .ok (.getfield 23, 3) := by decide +kernel
theorem dX8_advance_99 : decode cX8_advance 99 = .ok (.aload_n 0, 1) := by decide +kernel
theorem dX8_advance_100 : decode cX8_advance 100 = .ok (.getfield 19, 3) := by decide +kernel
theorem dX8_advance_103 : decode cX8_advance 103 = .ok (.if_icmp .ge 135, 3) := by decide +kernel
theorem dX8_advance_106 : decode cX8_advance 106 = .ok (.aload_n 0, 1) := by decide +kernel
theorem dX8_advance_107 : decode cX8_advance 107 = .ok (.getfield 9, 3) := by decide +kernel
theorem dX8_advance_110 : decode cX8_advance 110 = .ok (.aload_n 0, 1) := by decide +kernel
theorem dX8_advance_111 : decode cX8_advance 111 = .ok (.getfield 23, 3) := by decide +kernel
theorem dX8_advance_114 : decode cX8_advance 114 = .ok (.iaload, 1) := by decide +kernel
theorem dX8_advance_115 : decode cX8_advance 115 = .ok (.invokestatic 112, 3) := by decide +kernel
theorem dX8_advance_118 : decode cX8_advance 118 = .ok (.ifCond .eq 120, 3) := by decide +kernel
theorem dX8_advance_121 : decode cX8_advance 121 = .ok (.aload_n 0, 1) := by decide +kernel
theorem dX8_advance_122 : decode cX8_advance 122 = .ok (.dup, 1) := by decide +kernel
theorem dX8_advance_123 : decode cX8_advance 123 = .ok (.getfield 23, 3) := by decide +kernel
theorem dX8_advance_126 : decode cX8_advance 126 = .ok (.iconst 1, 1) := by decide +kernel
theorem dX8_advance_127 : decode cX8_advance 127 = .ok (.iadd, 1) := by decide +kernel
theorem dX8_advance_128 : decode cX8_advance 128 = .ok (.putfield 23, 3) := by decide +kernel
theorem dX8_advance_131 : decode cX8_advance 131 = .ok (.goto (-36), 3) := by decide +kernel
theorem dX8_advance_134 : decode cX8_advance 134 = .ok (.iload_n 1, 1) := by decide +kernel
theorem dX8_advance_135 : decode cX8_advance 135 = .ok (.invokestatic 116, 3) := by decide +kernel
theorem dX8_advance_138 : decode cX8_advance 138 = .ok (.ifCond .eq 85, 3) := by decide +kernel
theorem dX8_advance_141 : decode cX8_advance 141 = .ok (.aload_n 0, 1) := by decide +kernel
theorem dX8_advance_142 : decode cX8_advance 142 = .ok (.iconst 2, 1) := by decide +kernel
theorem dX8_advance_143 : decode cX8_advance 143 = .ok (.putfield 36, 3) := by decide +kernel
theorem dX8_advance_146 : decode cX8_advance 146 = .ok (.aload_n 0, 1) := by decide +kernel
theorem dX8_advance_147 : decode cX8_advance 147 = .ok (.iload_n 1, 1) := by decide +kernel
theorem dX8_advance_148 : decode cX8_advance 148 = .ok (.bipush 48, 2) := by decide +kernel
theorem dX8_advance_150 : decode cX8_advance 150 = .ok (.isub, 1) := by decide +kernel
theorem dX8_advance_151 : decode cX8_advance 151 = .ok (.putfield 96, 3) := by decide +kernel
theorem dX8_advance_154 : decode cX8_advance 154 = .ok (.aload_n 0, 1) := by decide +kernel
theorem dX8_advance_155 : decode cX8_advance 155 = .ok (.getfield 23, 3) := by decide +kernel
theorem dX8_advance_158 : decode cX8_advance 158 = .ok (.aload_n 0, 1) := by decide +kernel
theorem dX8_advance_159 : decode cX8_advance 159 = .ok (.getfield 19, 3) := by decide +kernel
theorem dX8_advance_162 : decode cX8_advance 162 = .ok (.if_icmp .ge 76, 3) := by decide +kernel
theorem dX8_advance_165 : decode cX8_advance 165 = .ok (.aload_n 0, 1) := by decide +kernel
theorem dX8_advance_166 : decode cX8_advance 166 = .ok (.getfield 9, 3) := by decide +kernel
theorem dX8_advance_169 : decode cX8_advance 169 = .ok (.aload_n 0, 1) := by decide +kernel
theorem dX8_advance_170 : decode cX8_advance 170 = .ok (.getfield 23, 3) := by decide +kernel
theorem dX8_advance_173 : decode cX8_advance 173 = .ok (.iaload, 1) := by decide +kernel
theorem dX8_advance_174 : decode cX8_advance 174 = .ok (.invokestatic 116, 3) := by decide +kernel
theorem dX8_advance_177 : decode cX8_advance 177 = .ok (.ifCond .eq 61, 3) := by decide +kernel
theorem dX8_advance_180 : decode cX8_advance 180 = .ok (.aload_n 0, 1) := by decide +kernel
theorem dX8_advance_181 : decode cX8_advance 181 = .ok (.sipush 10000, 3) := by decide +kernel
theorem dX8_advance_184 : decode cX8_advance 184 = .ok (.aload_n 0, 1) := by decide +kernel
theorem dX8_advance_185 : decode cX8_advance 185 = .ok (.getfield 96, 3) := by decide +kernel
theorem dX8_advance_188 : decode cX8_advance 188 = .ok (.bipush 10, 2) := by decide +kernel
theorem dX8_advance_190 : decode cX8_advance 190 = .ok (.imul, 1) := by decide +kernel
theorem dX8_advance_191 : decode cX8_advance 191 = .ok (.aload_n 0, 1) := by decide +kernel
theorem dX8_advance_192 : decode cX8_advance 192 = .ok (.getfield 9, 3) := by decide +kernel
theorem dX8_advance_195 : decode cX8_advance 195 = .ok (.aload_n 0, 1) := by decide +kernel
theorem dX8_advance_196 : decode cX8_advance 196 = .ok (.getfield 23, 3) := by decide +kernel
theorem dX8_advance_199 : decode cX8_advance 199 = .ok (.iaload, 1) := by decide +kernel
theorem dX8_advance_200 : decode cX8_advance 200 = .ok (.iadd, 1) := by decide +kernel
theorem dX8_advance_201 : decode cX8_advance 201 = .ok (.bipush 48, 2) := by decide +kernel
theorem dX8_advance_203 : decode cX8_advance 203 = .ok (.isub, 1) := by decide +kernel
theorem dX8_advance_204 : decode cX8_advance 204 = .ok (.invokestatic 119, 3) := by decide +kernel
theorem dX8_advance_207 : decode cX8_advance 207 = .ok (.putfield 96, 3) := by decide +kernel
theorem dX8_advance_210 : decode cX8_advance 210 = .ok (.aload_n 0, 1) := by decide +kernel
theorem dX8_advance_211 : decode cX8_advance 211 = .ok (.dup, 1) := by decide +kernel
theorem dX8_advance_212 : decode cX8_advance 212 = .ok (.getfield 23, 3) := by decide +kernel
theorem dX8_advance_215 : decode cX8_advance 215 = .ok (.iconst 1, 1) := by decide +kernel
theorem dX8_advance_216 : decode cX8_advance 216 = .ok (.iadd, 1) := by decide +kernel
theorem dX8_advance_217 : decode cX8_advance 217 = .ok (.putfield 23, 3) := by decide +kernel
theorem dX8_advance_220 : decode cX8_advance 220 = .ok (.goto (-66), 3) := by decide +kernel
theorem dX8_advance_223 : decode cX8_advance 223 = .ok (.aload_n 0, 1) := by decide +kernel
theorem dX8_advance_224 : decode cX8_advance 224 = .ok (.iload_n 1, 1) := by decide +kernel
theorem dX8_advance_225 : decode cX8_advance 225 = .ok (.bipush 59, 2) := by decide +kernel
theorem dX8_advance_227 : decode cX8_advance 227 = .ok (.if_icmp .ne 7, 3) := by decide +kernel
theorem dX8_advance_230 : decode cX8_advance 230 = .ok (.iconst 3, 1) := by decide +kernel
theorem dX8_advance_231 : decode cX8_advance 231 = .ok (.goto 4, 3) := by decide +kernel
theorem dX8_advance_234 : decode cX8_advance 234 = .ok (.iconst 4, 1) := by decide +kernel
theorem dX8_advance_235 : decode cX8_advance 235 = .ok (.putfield 36, 3) := by decide +kernel
theorem dX8_advance_238 : decode cX8_advance 238 = .ok (.return_, 1) := by decide +kernel
theorem dX8_isLetter_0 : decode cX8_isLetter 0 = .ok (.iload_n 0, 1) := by decide +kernel
theorem dX8_isLetter_1 : decode cX8_isLetter 1 = .ok (.bipush 97, 2) := by decide +kernel
theorem dX8_isLetter_3 : decode cX8_isLetter 3 = .ok (.if_icmp .lt 13, 3) := by decide +kernel
theorem dX8_isLetter_6 : decode cX8_isLetter 6 = .ok (.iload_n 0, 1) := by decide +kernel
theorem dX8_isLetter_7 : decode cX8_isLetter 7 = .ok (.bipush 122, 2) := by decide +kernel
theorem dX8_isLetter_9 : decode cX8_isLetter 9 = .ok (.if_icmp .gt 7, 3) := by decide +kernel
theorem dX8_isLetter_12 : decode cX8_isLetter 12 = .ok (.iconst 1, 1) := by decide +kernel
theorem dX8_isLetter_13 : decode cX8_isLetter 13 = .ok (.goto 4, 3) := by decide +kernel
theorem dX8_isLetter_16 : decode cX8_isLetter 16 = .ok (.iconst 0, 1) := by decide +kernel
theorem dX8_isLetter_17 : decode cX8_isLetter 17 = .ok (.ireturn, 1) := by decide +kernel
theorem dX8_isDigit_0 : decode cX8_isDigit 0 = .ok (.iload_n 0, 1) := by decide +kernel
theorem dX8_isDigit_1 : decode cX8_isDigit 1 = .ok (.bipush 48, 2) := by decide +kernel
