theorem dX9_write_22 : decode cX9_write 22 = .ok (.aload 5, 2) := by decide +kernel
theorem dX9_write_24 : decode cX9_write 24 = .ok (.invokevirtual 225, 3) := by decide +kernel
theorem dX9_write_27 : decode cX9_write 27 = .ok (.ifCond .eq 10, 3) := by decide +kernel
theorem dX9_write_30 : decode cX9_write 30 = .ok (.aload_n 0, 1) := by decide +kernel
theorem dX9_write_31 : decode cX9_write 31 = .ok (.iconst 5, 1) := by decide +kernel
theorem dX9_write_32 : decode cX9_write 32 = .ok (.invokevirtual 68, 3) := by decide +kernel
theorem dX9_write_35 : decode cX9_write 35 = .ok (.i2l, 1) := by decide +kernel
theorem dX9_write_36 : decode cX9_write 36 = .ok (.lreturn, 1) := by decide +kernel
theorem dX9_write_37 : decode cX9_write 37 = .ok (.aload 5, 2) := by decide +kernel
theorem dX9_write_39 : decode cX9_write 39 = .ok (.iload_n 2, 1) := by decide +kernel
theorem dX9_write_40 : decode cX9_write 40 = .ok (.iconst 1, 1) := by decide +kernel
theorem dX9_write_41 : decode cX9_write 41 = .ok (.invokevirtual 228, 3) := by decide +kernel
theorem dX9_write_44 : decode cX9_write 44 = .ok (.ifCond .ne 10, 3) := by decide +kernel
theorem dX9_write_47 : decode cX9_write 47 = .ok (.aload_n 0, 1) := by decide +kernel
theorem dX9_write_48 : decode cX9_write 48 = .ok (.iconst 0, 1) := by decide +kernel
theorem dX9_write_49 : decode cX9_write 49 = .ok (.invokevirtual 68, 3) := by decide +kernel
theorem dX9_write_52 : decode cX9_write 52 = .ok (.i2l, 1) := by decide +kernel
theorem dX9_write_53 : decode cX9_write 53 = .ok (.lreturn, 1) := by decide +kernel
theorem dX9_write_54 : decode cX9_write 54 = .ok (.aload 5, 2) := by decide +kernel
theorem dX9_write_56 : decode cX9_write 56 = .ok (.getfield 231, 3) := by decide +kernel
theorem dX9_write_59 : decode cX9_write 59 = .ok (.iload_n 2, 1) := by decide +kernel
theorem dX9_write_60 : decode cX9_write 60 = .ok (.laload, 1) := by decide +kernel
theorem dX9_write_61 : decode cX9_write 61 = .ok (.lstore 6, 2) := by decide +kernel
theorem dX9_write_63 : decode cX9_write 63 = .ok (.aload 5, 2) := by decide +kernel
theorem dX9_write_65 : decode cX9_write 65 = .ok (.iload_n 2, 1) := by decide +kernel
theorem dX9_write_66 : decode cX9_write 66 = .ok (.lload_n 3, 1) := by decide +kernel
theorem dX9_write_67 : decode cX9_write 67 = .ok (.invokevirtual 235, 3) := by decide +kernel
theorem dX9_write_70 : decode cX9_write 70 = .ok (.lload 6, 2) := by decide +kernel
theorem dX9_write_72 : decode cX9_write 72 = .ok (.lreturn, 1) := by decide +kernel
theorem dX9_copy_0 : decode cX9_copy 0 = .ok (.iload_n 1, 1) := by decide +kernel
theorem dX9_copy_1 : decode cX9_copy 1 = .ok (.invokestatic 218, 3) := by decide +kernel
theorem dX9_copy_4 : decode cX9_copy 4 = .ok (.ifCond .eq 10, 3) := by decide +kernel
theorem dX9_copy_7 : decode cX9_copy 7 = .ok (.iload_n 3, 1) := by decide +kernel
theorem dX9_copy_8 : decode cX9_copy 8 = .ok (.invokestatic 218, 3) := by decide +kernel
theorem dX9_copy_11 : decode cX9_copy 11 = .ok (.ifCond .ne 9, 3) := by decide +kernel
theorem dX9_copy_14 : decode cX9_copy 14 = .ok (.aload_n 0, 1) := by decide +kernel
theorem dX9_copy_15 : decode cX9_copy 15 = .ok (.iconst 0, 1) := by decide +kernel
theorem dX9_copy_16 : decode cX9_copy 16 = .ok (.invokevirtual 68, 3) := by decide +kernel
theorem dX9_copy_19 : decode cX9_copy 19 = .ok (.ireturn, 1) := by decide +kernel
theorem dX9_copy_20 : decode cX9_copy 20 = .ok (.aload_n 0, 1) := by decide +kernel
theorem dX9_copy_21 : decode cX9_copy 21 = .ok (.getfield 52, 3) := by decide +kernel
theorem dX9_copy_24 : decode cX9_copy 24 = .ok (.iload_n 1, 1) := by decide +kernel
theorem dX9_copy_25 : decode cX9_copy 25 = .ok (.aaload, 1) := by decide +kernel
theorem dX9_copy_26 : decode cX9_copy 26 = .ok (.astore 6, 2) := by decide +kernel
theorem dX9_copy_28 : decode cX9_copy 28 = .ok (.aload_n 0, 1) := by decide +kernel
theorem dX9_copy_29 : decode cX9_copy 29 = .ok (.getfield 52, 3) := by decide +kernel
theorem dX9_copy_32 : decode cX9_copy 32 = .ok (.iload_n 3, 1) := by decide +kernel
theorem dX9_copy_33 : decode cX9_copy 33 = .ok (.aaload, 1) := by decide +kernel
theorem dX9_copy_34 : decode cX9_copy 34 = .ok (.astore 7, 2) := by decide +kernel
theorem dX9_copy_36 : decode cX9_copy 36 = .ok (.aload 6, 2) := by decide +kernel
theorem dX9_copy_38 : decode cX9_copy 38 = .ok (.invokevirtual 225, 3) := by decide +kernel
theorem dX9_copy_41 : decode cX9_copy 41 = .ok (.ifCond .ne 11, 3) := by decide +kernel
theorem dX9_copy_44 : decode cX9_copy 44 = .ok (.aload 7, 2) := by decide +kernel
theorem dX9_copy_46 : decode cX9_copy 46 = .ok (.invokevirtual 225, 3) := by decide +kernel
theorem dX9_copy_49 : decode cX9_copy 49 = .ok (.ifCond .eq 9, 3) := by decide +kernel
theorem dX9_copy_52 : decode cX9_copy 52 = .ok (.aload_n 0, 1) := by decide +kernel
theorem dX9_copy_53 : decode cX9_copy 53 = .ok (.iconst 5, 1) := by decide +kernel
theorem dX9_copy_54 : decode cX9_copy 54 = .ok (.invokevirtual 68, 3) := by decide +kernel
theorem dX9_copy_57 : decode cX9_copy 57 = .ok (.ireturn, 1) := by decide +kernel
theorem dX9_copy_58 : decode cX9_copy 58 = .ok (.aload 6, 2) := by decide +kernel
theorem dX9_copy_60 : decode cX9_copy 60 = .ok (.getfield 239, 3) := by decide +kernel
theorem dX9_copy_63 : decode cX9_copy 63 = .ok (.aload 7, 2) := by decide +kernel
theorem dX9_copy_65 : decode cX9_copy 65 = .ok (.getfield 239, 3) := by decide +kernel
theorem dX9_copy_68 : decode cX9_copy 68 = .ok (.if_icmp .eq 9, 3) := by decide +kernel
theorem dX9_copy_71 : decode cX9_copy 71 = .ok (.aload_n 0, 1) := by decide +kernel
theorem dX9_copy_72 : decode cX9_copy 72 = .ok (.iconst 2, 1) := by decide +kernel
theorem dX9_copy_73 : decode cX9_copy 73 = .ok (.invokevirtual 68, 3) := by decide +kernel
theorem dX9_copy_76 : decode cX9_copy 76 = .ok (.ireturn, 1) := by decide +kernel
theorem dX9_copy_77 : decode cX9_copy 77 = .ok (.aload 6, 2) := by decide +kernel
theorem dX9_copy_79 : decode cX9_copy 79 = .ok (.iload_n 2, 1) := by decide +kernel
theorem dX9_copy_80 : decode cX9_copy 80 = .ok (.iload 5, 2) := by decide +kernel
theorem dX9_copy_82 : decode cX9_copy 82 = .ok (.invokevirtual 228, 3) := by decide +kernel
theorem dX9_copy_85 : decode cX9_copy 85 = .ok (.ifCond .eq 15, 3) := by decide +kernel
theorem dX9_copy_88 : decode cX9_copy 88 = .ok (.aload 7, 2) := by decide +kernel
theorem dX9_copy_90 : decode cX9_copy 90 = .ok (.iload 4, 2) := by decide +kernel
theorem dX9_copy_92 : decode cX9_copy 92 = .ok (.iload 5, 2) := by decide +kernel
theorem dX9_copy_94 : decode cX9_copy 94 = .ok (.invokevirtual 228, 3) := by decide +kernel
theorem dX9_copy_97 : decode cX9_copy 97 = .ok (.ifCond .ne 9, 3) := by decide +kernel
theorem dX9_copy_100 : decode cX9_copy 100 = .ok (.aload_n 0, 1) := by decide +kernel
theorem dX9_copy_101 : decode cX9_copy 101 = .ok (.iconst 0, 1) := by decide +kernel
theorem dX9_copy_102 : decode cX9_copy 102 = .ok (.invokevirtual 68, 3) := by decide +kernel
theorem dX9_copy_105 : decode cX9_copy 105 = .ok (.ireturn, 1) := by decide +kernel
theorem dX9_copy_106 : decode cX9_copy 106 = .ok (.aload 6, 2) := by decide +kernel
theorem dX9_copy_108 : decode cX9_copy 108 = .ok (.getfield 231, 3) := by decide +kernel
theorem dX9_copy_111 : decode cX9_copy 111 = .ok (.iload_n 2, 1) := by decide +kernel
theorem dX9_copy_112 : decode cX9_copy 112 = .ok (.aload 7, 2) := by decide +kernel
theorem dX9_copy_114 : decode cX9_copy 114 = .ok (.getfield 231, 3) := by decide +kernel
theorem dX9_copy_117 : decode cX9_copy 117 = .ok (.iload 4, 2) := by decide +kernel
theorem dX9_copy_119 : decode cX9_copy 119 = .ok (.iload 5, 2) := by decide +kernel
theorem dX9_copy_121 : decode cX9_copy 121 = .ok (.invokestatic 242, 3) := by decide +kernel
theorem dX9_copy_124 : decode cX9_copy 124 = .ok (.iload 5, 2) := by decide +kernel
theorem dX9_copy_126 : decode cX9_copy 126 = .ok (.ireturn, 1) := by decide +kernel
theorem dX9_lays_0 : decode cX9_lays 0 = .ok (.iload_n 1, 1) := by decide +kernel
theorem dX9_lays_1 : decode cX9_lays 1 = .ok (.invokestatic 218, 3) := by decide +kernel
theorem dX9_lays_4 : decode cX9_lays 4 = .ok (.ifCond .ne 9, 3) := by decide +kernel
theorem dX9_lays_7 : decode cX9_lays 7 = .ok (.aload_n 0, 1) := by decide +kernel
theorem dX9_lays_8 : decode cX9_lays 8 = .ok (.iconst 0, 1) := by decide +kernel
theorem dX9_lays_9 : decode cX9_lays 9 = .ok (.invokevirtual 68, 3) := by decide +kernel
theorem dX9_lays_12 : decode cX9_lays 12 = .ok (.ireturn, 1) := by decide +kernel
theorem dX9_lays_13 : decode cX9_lays 13 = .ok (.aload_n 0, 1) := by decide +kernel
theorem dX9_lays_14 : decode cX9_lays 14 = .ok (.getfield 52, 3) := by decide +kernel
theorem dX9_lays_17 : decode cX9_lays 17 = .ok (.iload_n 1, 1) := by decide +kernel
theorem dX9_lays_18 : decode cX9_lays 18 = .ok (.aaload, 1) := by decide +kernel
theorem dX9_lays_19 : decode cX9_lays 19 = .ok (.astore_n 2, 1) := by decide +kernel
theorem dX9_lays_20 : decode cX9_lays 20 = .ok (.aload_n 2, 1) := by decide +kernel
theorem dX9_lays_21 : decode cX9_lays 21 = .ok (.invokevirtual 225, 3) := by decide +kernel
theorem dX9_lays_24 : decode cX9_lays 24 = .ok (.ifCond .eq 9, 3) := by decide +kernel
theorem dX9_lays_27 : decode cX9_lays 27 = .ok (.aload_n 0, 1) := by decide +kernel
theorem dX9_lays_28 : decode cX9_lays 28 = .ok (.iconst 5, 1) := by decide +kernel
theorem dX9_lays_29 : decode cX9_lays 29 = .ok (.invokevirtual 68, 3) := by decide +kernel
theorem dX9_lays_32 : decode cX9_lays 32 = .ok (.ireturn, 1) := by decide +kernel
theorem dX9_lays_33 : decode cX9_lays 33 = .ok (.iconst 0, 1) := by decide +kernel
theorem dX9_lays_34 : decode cX9_lays 34 = .ok (.istore_n 3, 1) := by decide +kernel
theorem dX9_lays_35 : decode cX9_lays 35 = .ok (.iconst 0, 1) := by decide +kernel
theorem dX9_lays_36 : decode cX9_lays 36 = .ok (.istore 4, 2) := by decide +kernel
theorem dX9_lays_38 : decode cX9_lays 38 = .ok (.iload 4, 2) := by decide +kernel
theorem dX9_lays_40 : decode cX9_lays 40 = .ok (.bipush 40, 2) := by decide +kernel
theorem dX9_lays_42 : decode cX9_lays 42 = .ok (.if_icmp .ge 60, 3) := by decide +kernel
theorem dX9_lays_45 : decode cX9_lays 45 = .ok (.aload_n 2, 1) := by decide +kernel
theorem dX9_lays_46 : decode cX9_lays 46 = .ok (.iload 4, 2) := by decide +kernel
theorem dX9_lays_48 : decode cX9_lays 48 = .ok (.iconst 1, 1) := by decide +kernel
theorem dX9_lays_49 : decode cX9_lays 49 = .ok (.invokevirtual 228, 3) := by decide +kernel
theorem dX9_lays_52 : decode cX9_lays 52 = .ok (.ifCond .eq 50, 3) := by decide +kernel
theorem dX9_lays_55 : decode cX9_lays 55 = .ok (.aload_n 2, 1) := by decide +kernel
theorem dX9_lays_56 : decode cX9_lays 56 = .ok (.getfield 231, 3) := by decide +kernel
theorem dX9_lays_59 : decode cX9_lays 59 = .ok (.iload 4, 2) := by decide +kernel
theorem dX9_lays_61 : decode cX9_lays 61 = .ok (.laload, 1) := by decide +kernel
theorem dX9_lays_62 : decode cX9_lays 62 = .ok (.lstore 5, 2) := by decide +kernel
theorem dX9_lays_64 : decode cX9_lays 64 = .ok (.lload 5, 2) := by decide +kernel
theorem dX9_lays_66 : decode cX9_lays 66 = .ok (.lconst 1, 1) := by decide +kernel
theorem dX9_lays_67 : decode cX9_lays 67 = .ok (.lcmp, 1) := by decide +kernel
theorem dX9_lays_68 : decode cX9_lays 68 = .ok (.ifCond .lt 28, 3) := by decide +kernel
theorem dX9_lays_71 : decode cX9_lays 71 = .ok (.lload 5, 2) := by decide +kernel
theorem dX9_lays_73 : decode cX9_lays 73 = .ok (.ldc2_w 248, 3) := by decide +kernel
theorem dX9_lays_76 : decode cX9_lays 76 = .ok (.lcmp, 1) := by decide +kernel
theorem dX9_lays_77 : decode cX9_lays 77 = .ok (.ifCond .gt 19, 3) := by decide +kernel
theorem dX9_lays_80 : decode cX9_lays 80 = .ok (.aload_n 0, 1) := by decide +kernel
theorem dX9_lays_81 : decode cX9_lays 81 = .ok (.getfield 32, 3) := by decide +kernel
theorem dX9_lays_84 : decode cX9_lays 84 = .ok (.getfield 72, 3) := by decide +kernel
theorem dX9_lays_87 : decode cX9_lays 87 = .ok (.iload 4, 2) := by decide +kernel
theorem dX9_lays_89 : decode cX9_lays 89 = .ok (.lload 5, 2) := by decide +kernel
theorem dX9_lays_91 : decode cX9_lays 91 = .ok (.l2i, 1) := by decide +kernel
theorem dX9_lays_92 : decode cX9_lays 92 = .ok (.iastore, 1) := by decide +kernel
theorem dX9_lays_93 : decode cX9_lays 93 = .ok (.iinc 3 1, 3) := by decide +kernel
theorem dX9_lays_96 : decode cX9_lays 96 = .ok (.iinc 4 1, 3) := by decide +kernel
theorem dX9_lays_99 : decode cX9_lays 99 = .ok (.goto (-61), 3) := by decide +kernel
theorem dX9_lays_102 : decode cX9_lays 102 = .ok (.iload_n 3, 1) := by decide +kernel
theorem dX9_lays_103 : decode cX9_lays 103 = .ok (.ireturn, 1) := by decide +kernel
theorem dX9_stair_0 : decode cX9_stair 0 = .ok (.iload_n 1, 1) := by decide +kernel
theorem dX9_stair_1 : decode cX9_stair 1 = .ok (.invokestatic 218, 3) := by decide +kernel
theorem dX9_stair_4 : decode cX9_stair 4 = .ok (.ifCond .ne 9, 3) := by decide +kernel
theorem dX9_stair_7 : decode cX9_stair 7 = .ok (.aload_n 0, 1) := by decide +kernel
theorem dX9_stair_8 : decode cX9_stair 8 = .ok (.iconst 0, 1) := by decide +kernel
theorem dX9_stair_9 : decode cX9_stair 9 = .ok (.invokevirtual 68, 3) := by decide +kernel
theorem dX9_stair_12 : decode cX9_stair 12 = .ok (.ireturn, 1) := by decide +kernel
theorem dX9_stair_13 : decode cX9_stair 13 = .ok (.aload_n 0, 1) := by decide +kernel
theorem dX9_stair_14 : decode cX9_stair 14 = .ok (.getfield 52, 3) := by decide +kernel
theorem dX9_stair_17 : decode cX9_stair 17 = .ok (.iload_n 1, 1) := by decide +kernel
theorem dX9_stair_18 : decode cX9_stair 18 = .ok (.aaload, 1) := by decide +kernel
theorem dX9_stair_19 : decode cX9_stair 19 = .ok (.astore_n 3, 1) := by decide +kernel
theorem dX9_stair_20 : decode cX9_stair 20 = .ok (.aload_n 3, 1) := by decide +kernel
theorem dX9_stair_21 : decode cX9_stair 21 = .ok (.invokevirtual 225, 3) := by decide +kernel
theorem dX9_stair_24 : decode cX9_stair 24 = .ok (.ifCond .eq 9, 3) := by decide +kernel
theorem dX9_stair_27 : decode cX9_stair 27 = .ok (.aload_n 0, 1) := by decide +kernel
theorem dX9_stair_28 : decode cX9_stair 28 = .ok (.iconst 5, 1) := by decide +kernel
theorem dX9_stair_29 : decode cX9_stair 29 = .ok (.invokevirtual 68, 3) := by decide +kernel
theorem dX9_stair_32 : decode cX9_stair 32 = .ok (.ireturn, 1) := by decide +kernel
theorem dX9_stair_33 : decode cX9_stair 33 = .ok (.aload_n 0, 1) := by decide +kernel
theorem dX9_stair_34 : decode cX9_stair 34 = .ok (.iload_n 2, 1) := by decide +kernel
theorem dX9_stair_35 : decode cX9_stair 35 = .ok (.iconst 0, 1) := by decide +kernel
theorem dX9_stair_36 : decode cX9_stair 36 = .ok (.sipush 200, 3) := by decide +kernel
theorem dX9_stair_39 : decode cX9_stair 39 = .ok (.invokevirtual 171, 3) := by decide +kernel
theorem dX9_stair_42 : decode cX9_stair 42 = .ok (.istore 4, 2) := by decide +kernel
theorem dX9_stair_44 : decode cX9_stair 44 = .ok (.iload 4, 2) := by decide +kernel
theorem dX9_stair_46 : decode cX9_stair 46 = .ok (.ifCond .eq 6, 3) := by decide +kernel
theorem dX9_stair_49 : decode cX9_stair 49 = .ok (.iload 4, 2) := by decide +kernel
theorem dX9_stair_51 : decode cX9_stair 51 = .ok (.ireturn, 1) := by decide +kernel
theorem dX9_stair_52 : decode cX9_stair 52 = .ok (.aload_n 0, 1) := by decide +kernel
theorem dX9_stair_53 : decode cX9_stair 53 = .ok (.invokevirtual 190, 3) := by decide +kernel
theorem dX9_stair_56 : decode cX9_stair 56 = .ok (.aload_n 0, 1) := by decide +kernel
theorem dX9_stair_57 : decode cX9_stair 57 = .ok (.getfield 36, 3) := by decide +kernel
theorem dX9_stair_60 : decode cX9_stair 60 = .ok (.iload_n 2, 1) := by decide +kernel
theorem dX9_stair_61 : decode cX9_stair 61 = .ok (.invokevirtual 175, 3) := by decide +kernel
theorem dX9_stair_64 : decode cX9_stair 64 = .ok (.iconst 0, 1) := by decide +kernel
theorem dX9_stair_65 : decode cX9_stair 65 = .ok (.istore 5, 2) := by decide +kernel
theorem dX9_stair_67 : decode cX9_stair 67 = .ok (.iconst 0, 1) := by decide +kernel
theorem dX9_stair_68 : decode cX9_stair 68 = .ok (.istore 6, 2) := by decide +kernel
theorem dX9_stair_70 : decode cX9_stair 70 = .ok (.iload 6, 2) := by decide +kernel
theorem dX9_stair_72 : decode cX9_stair 72 = .ok (.bipush 40, 2) := by decide +kernel
theorem dX9_stair_74 : decode cX9_stair 74 = .ok (.if_icmp .ge 55, 3) := by decide +kernel
theorem dX9_stair_77 : decode cX9_stair 77 = .ok (.aload_n 3, 1) := by decide +kernel
theorem dX9_stair_78 : decode cX9_stair 78 = .ok (.iload 6, 2) := by decide +kernel
theorem dX9_stair_80 : decode cX9_stair 80 = .ok (.iconst 1, 1) := by decide +kernel
theorem dX9_stair_81 : decode cX9_stair 81 = .ok (.invokevirtual 228, 3) := by decide +kernel
theorem dX9_stair_84 : decode cX9_stair 84 = .ok (.ifCond .eq 45, 3) := by decide +kernel
theorem dX9_stair_87 : decode cX9_stair 87 = .ok (.aload_n 3, 1) := by decide +kernel
theorem dX9_stair_88 : decode cX9_stair 88 = .ok (.iload 6, 2) := by decide +kernel
theorem dX9_stair_90 : decode cX9_stair 90 = .ok (.aload_n 0, 1) := by decide +kernel
theorem dX9_stair_91 : decode cX9_stair 91 = .ok (.getfield 36, 3) := by decide +kernel
theorem dX9_stair_94 : decode cX9_stair 94 = .ok (.iload 6, 2) := by decide +kernel
theorem dX9_stair_96 : decode cX9_stair 96 = .ok (.invokevirtual 136, 3) := by decide +kernel
theorem dX9_stair_99 : decode cX9_stair 99 = .ok (.ifCond .eq 17, 3) := by decide +kernel
theorem dX9_stair_102 : decode cX9_stair 102 = .ok (.aload_n 0, 1) := by decide +kernel
theorem dX9_stair_103 : decode cX9_stair 103 = .ok (.getfield 36, 3) := by decide +kernel
theorem dX9_stair_106 : decode cX9_stair 106 = .ok (.getfield 139, 3) := by decide +kernel
theorem dX9_stair_109 : decode cX9_stair 109 = .ok (.iload 6, 2) := by decide +kernel
theorem dX9_stair_111 : decode cX9_stair 111 = .ok (.iaload, 1) := by decide +kernel
theorem dX9_stair_112 : decode cX9_stair 112 = .ok (.i2l, 1) := by decide +kernel
theorem dX9_stair_113 : decode cX9_stair 113 = .ok (.goto 4, 3) := by decide +kernel
theorem dX9_stair_116 : decode cX9_stair 116 = .ok (.lconst 0, 1) := by decide +kernel
theorem dX9_stair_117 : decode cX9_stair 117 = .ok (.invokevirtual 235, 3) := by decide +kernel
theorem dX9_stair_120 : decode cX9_stair 120 = .ok (.iinc 5 1, 3) := by decide +kernel
theorem dX9_stair_123 : decode cX9_stair 123 = .ok (.iinc 6 1, 3) := by decide +kernel
theorem dX9_stair_126 : decode cX9_stair 126 = .ok (.goto (-56), 3) := by decide +kernel
theorem dX9_stair_129 : decode cX9_stair 129 = .ok (.iload 5, 2) := by decide +kernel
theorem dX9_stair_131 : decode cX9_stair 131 = .ok (.ireturn, 1) := by decide +kernel
theorem dX9_read_0 : decode cX9_read 0 = .ok (.iload_n 1, 1) := by decide +kernel
theorem dX9_read_1 : decode cX9_read 1 = .ok (.invokestatic 218, 3) := by decide +kernel
theorem dX9_read_4 : decode cX9_read 4 = .ok (.ifCond .ne 9, 3) := by decide +kernel
theorem dX9_read_7 : decode cX9_read 7 = .ok (.aload_n 0, 1) := by decide +kernel
theorem dX9_read_8 : decode cX9_read 8 = .ok (.iconst 0, 1) := by decide +kernel
theorem dX9_read_9 : decode cX9_read 9 = .ok (.invokevirtual 68, 3) := by decide +kernel
theorem dX9_read_12 : decode cX9_read 12 = .ok (.ireturn, 1) := by decide +kernel
theorem dX9_read_13 : decode cX9_read 13 = .ok (.aload_n 0, 1) := by decide +kernel
theorem dX9_read_14 : decode cX9_read 14 = .ok (.getfield 52, 3) := by decide +kernel
theorem dX9_read_17 : decode cX9_read 17 = .ok (.iload_n 1, 1) := by decide +kernel
theorem dX9_read_18 : decode cX9_read 18 = .ok (.aaload, 1) := by decide +kernel
theorem dX9_read_19 : decode cX9_read 19 = .ok (.astore_n 2, 1) := by decide +kernel
theorem dX9_read_20 : decode cX9_read 20 = .ok (.aload_n 2, 1) := by decide +kernel
theorem dX9_read_21 : decode cX9_read 21 = .ok (.invokevirtual 225, 3) := by decide +kernel
theorem dX9_read_24 : decode cX9_read 24 = .ok (.ifCond .eq 9, 3) := by decide +kernel
theorem dX9_read_27 : decode cX9_read 27 = .ok (.aload_n 0, 1) := by decide +kernel
theorem dX9_read_28 : decode cX9_read 28 = .ok (.iconst 5, 1) := by decide +kernel
theorem dX9_read_29 : decode cX9_read 29 = .ok (.invokevirtual 68, 3) := by decide +kernel
theorem dX9_read_32 : decode cX9_read 32 = .ok (.ireturn, 1) := by decide +kernel
theorem dX9_read_33 : decode cX9_read 33 = .ok (.aload_n 0, 1) := by decide +kernel
theorem dX9_read_34 : decode cX9_read 34 = .ok (.bipush 40, 2) := by decide +kernel
theorem dX9_read_36 : decode cX9_read 36 = .ok (.invokevirtual 193, 3) := by decide +kernel
theorem dX9_read_39 : decode cX9_read 39 = .ok (.ifCond .eq 9, 3) := by decide +kernel
theorem dX9_read_42 : decode cX9_read 42 = .ok (.aload_n 0, 1) := by decide +kernel
theorem dX9_read_43 : decode cX9_read 43 = .ok (.iconst 4, 1) := by decide +kernel
theorem dX9_read_44 : decode cX9_read 44 = .ok (.invokevirtual 68, 3) := by decide +kernel
theorem dX9_read_47 : decode cX9_read 47 = .ok (.ireturn, 1) := by decide +kernel
theorem dX9_read_48 : decode cX9_read 48 = .ok (.aload_n 0, 1) := by decide +kernel
theorem dX9_read_49 : decode cX9_read 49 = .ok (.invokevirtual 190, 3) := by decide +kernel
theorem dX9_read_52 : decode cX9_read 52 = .ok (.iconst 0, 1) := by decide +kernel
theorem dX9_read_53 : decode cX9_read 53 = .ok (.istore_n 3, 1) := by decide +kernel
theorem dX9_read_54 : decode cX9_read 54 = .ok (.iload_n 3, 1) := by decide +kernel
theorem dX9_read_55 : decode cX9_read 55 = .ok (.bipush 40, 2) := by decide +kernel
theorem dX9_read_57 : decode cX9_read 57 = .ok (.if_icmp .ge 48, 3) := by decide +kernel
theorem dX9_read_60 : decode cX9_read 60 = .ok (.aload_n 2, 1) := by decide +kernel
theorem dX9_read_61 : decode cX9_read 61 = .ok (.iload_n 3, 1) := by decide +kernel
theorem dX9_read_62 : decode cX9_read 62 = .ok (.iconst 1, 1) := by decide +kernel
theorem dX9_read_63 : decode cX9_read 63 = .ok (.invokevirtual 228, 3) := by decide +kernel
theorem dX9_read_66 : decode cX9_read 66 = .ok (.ifCond .eq 39, 3) := by decide +kernel
theorem dX9_read_69 : decode cX9_read 69 = .ok (.aload_n 2, 1) := by decide +kernel
theorem dX9_read_70 : decode cX9_read 70 = .ok (.getfield 231, 3) := by decide +kernel
theorem dX9_read_73 : decode cX9_read 73 = .ok (.iload_n 3, 1) := by decide +kernel
theorem dX9_read_74 : decode cX9_read 74 = .ok (.laload, 1) := by decide +kernel
theorem dX9_read_75 : decode cX9_read 75 = .ok (.aload_n 0, 1) := by decide +kernel
theorem dX9_read_76 : decode cX9_read 76 = .ok (.getfield 36, 3) := by decide +kernel
theorem dX9_read_79 : decode cX9_read 79 = .ok (.invokevirtual 160, 3) := by decide +kernel
theorem dX9_read_82 : decode cX9_read 82 = .ok (.i2l, 1) := by decide +kernel
theorem dX9_read_83 : decode cX9_read 83 = .ok (.lcmp, 1) := by decide +kernel
theorem dX9_read_84 : decode cX9_read 84 = .ok (.ifCond .eq 7, 3) := by decide +kernel
theorem dX9_read_87 : decode cX9_read 87 = .ok (.iconst 1, 1) := by decide +kernel
theorem dX9_read_88 : decode cX9_read 88 = .ok (.iload_n 3, 1) := by decide +kernel
theorem dX9_read_89 : decode cX9_read 89 = .ok (.iadd, 1) := by decide +kernel
theorem dX9_read_90 : decode cX9_read 90 = .ok (.ireturn, 1) := by decide +kernel
theorem dX9_read_91 : decode cX9_read 91 = .ok (.aload_n 0, 1) := by decide +kernel
theorem dX9_read_92 : decode cX9_read 92 = .ok (.getfield 36, 3) := by decide +kernel
theorem dX9_read_95 : decode cX9_read 95 = .ok (.iconst 1, 1) := by decide +kernel
theorem dX9_read_96 : decode cX9_read 96 = .ok (.invokevirtual 175, 3) := by decide +kernel
theorem dX9_read_99 : decode cX9_read 99 = .ok (.iinc 3 1, 3) := by decide +kernel
theorem dX9_read_102 : decode cX9_read 102 = .ok (.goto (-48), 3) := by decide +kernel
theorem dX9_read_105 : decode cX9_read 105 = .ok (.iconst 0, 1) := by decide +kernel
theorem dX9_read_106 : decode cX9_read 106 = .ok (.ireturn, 1) := by decide +kernel
theorem dX9_image_0 : decode cX9_image 0 = .ok (.aload_n 0, 1) := by decide +kernel
theorem dX9_image_1 : decode cX9_image 1 = .ok (.getfield 39, 3) := by decide +kernel
theorem dX9_image_4 : decode cX9_image 4 = .ok (.aload_n 0, 1) := by decide +kernel
theorem dX9_image_5 : decode cX9_image 5 = .ok (.getfield 32, 3) := by decide +kernel
theorem dX9_image_8 : decode cX9_image 8 = .ok (.invokevirtual 214, 3) := by decide +kernel
theorem dX9_image_11 : decode cX9_image 11 = .ok (.aload_n 0, 1) := by decide +kernel
theorem dX9_image_12 : decode cX9_image 12 = .ok (.iconst 1, 1) := by decide +kernel
theorem dX9_image_13 : decode cX9_image 13 = .ok (.putfield 250, 3) := by decide +kernel
theorem dX9_image_16 : decode cX9_image 16 = .ok (.iconst 1, 1) := by decide +kernel
theorem dX9_image_17 : decode cX9_image 17 = .ok (.ireturn, 1) := by decide +kernel
theorem dX9_undo_0 : decode cX9_undo 0 = .ok (.aload_n 0, 1) := by decide +kernel
theorem dX9_undo_1 : decode cX9_undo 1 = .ok (.getfield 250, 3) := by decide +kernel
theorem dX9_undo_4 : decode cX9_undo 4 = .ok (.ifCond .ne 9, 3) := by decide +kernel
theorem dX9_undo_7 : decode cX9_undo 7 = .ok (.aload_n 0, 1) := by decide +kernel
theorem dX9_undo_8 : decode cX9_undo 8 = .ok (.iconst 3, 1) := by decide +kernel
theorem dX9_undo_9 : decode cX9_undo 9 = .ok (.invokevirtual 68, 3) := by decide +kernel
theorem dX9_undo_12 : decode cX9_undo 12 = .ok (.ireturn, 1) := by decide +kernel
theorem dX9_undo_13 : decode cX9_undo 13 = .ok (.aload_n 0, 1) := by decide +kernel
theorem dX9_undo_14 : decode cX9_undo 14 = .ok (.getfield 32, 3) := by decide +kernel
theorem dX9_undo_17 : decode cX9_undo 17 = .ok (.aload_n 0, 1) := by decide +kernel
theorem dX9_undo_18 : decode cX9_undo 18 = .ok (.getfield 39, 3) := by decide +kernel
theorem dX9_undo_21 : decode cX9_undo 21 = .ok (.invokevirtual 214, 3) := by decide +kernel
theorem dX9_undo_24 : decode cX9_undo 24 = .ok (.aload_n 0, 1) := by decide +kernel
theorem dX9_undo_25 : decode cX9_undo 25 = .ok (.getfield 32, 3) := by decide +kernel
theorem dX9_undo_28 : decode cX9_undo 28 = .ok (.getfield 93, 3) := by decide +kernel
theorem dX9_undo_31 : decode cX9_undo 31 = .ok (.ireturn, 1) := by decide +kernel
theorem dX9_tear_0 : decode cX9_tear 0 = .ok (.aload_n 0, 1) := by decide +kernel
theorem dX9_tear_1 : decode cX9_tear 1 = .ok (.getfield 250, 3) := by decide +kernel
theorem dX9_tear_4 : decode cX9_tear 4 = .ok (.ifCond .eq 7, 3) := by decide +kernel
theorem dX9_tear_7 : decode cX9_tear 7 = .ok (.iconst 1, 1) := by decide +kernel
theorem dX9_tear_8 : decode cX9_tear 8 = .ok (.goto 4, 3) := by decide +kernel
theorem dX9_tear_11 : decode cX9_tear 11 = .ok (.iconst 0, 1) := by decide +kernel
theorem dX9_tear_12 : decode cX9_tear 12 = .ok (.istore_n 1, 1) := by decide +kernel
theorem dX9_tear_13 : decode cX9_tear 13 = .ok (.aload_n 0, 1) := by decide +kernel
theorem dX9_tear_14 : decode cX9_tear 14 = .ok (.iconst 0, 1) := by decide +kernel
theorem dX9_tear_15 : decode cX9_tear 15 = .ok (.putfield 250, 3) := by decide +kernel
theorem dX9_tear_18 : decode cX9_tear 18 = .ok (.iload_n 1, 1) := by decide +kernel
theorem dX9_tear_19 : decode cX9_tear 19 = .ok (.ireturn, 1) := by decide +kernel
theorem dX9_count_0 : decode cX9_count 0 = .ok (.iload_n 1, 1) := by decide +kernel
theorem dX9_count_1 : decode cX9_count 1 = .ok (.tableswitch 63 0 3 #[31, 39, 47, 55], 31) := by decide +kernel
theorem dX9_count_32 : decode cX9_count 32 = .ok (.aload_n 0, 1) := by decide +kernel
theorem dX9_count_33 : decode cX9_count 33 = .ok (.getfield 32, 3) := by decide +kernel
theorem dX9_count_36 : decode cX9_count 36 = .ok (.getfield 93, 3) := by decide +kernel
theorem dX9_count_39 : decode cX9_count 39 = .ok (.ireturn, 1) := by decide +kernel
theorem dX9_count_40 : decode cX9_count 40 = .ok (.aload_n 0, 1) := by decide +kernel
theorem dX9_count_41 : decode cX9_count 41 = .ok (.getfield 45, 3) := by decide +kernel
theorem dX9_count_44 : decode cX9_count 44 = .ok (.getfield 204, 3) := by decide +kernel
theorem dX9_count_47 : decode cX9_count 47 = .ok (.ireturn, 1) := by decide +kernel
theorem dX9_count_48 : decode cX9_count 48 = .ok (.aload_n 0, 1) := by decide +kernel
theorem dX9_count_49 : decode cX9_count 49 = .ok (.getfield 32, 3) := by decide +kernel
theorem dX9_count_52 : decode cX9_count 52 = .ok (.invokevirtual 254, 3) := by decide +kernel
theorem dX9_count_55 : decode cX9_count 55 = .ok (.ireturn, 1) := by decide +kernel
theorem dX9_count_56 : decode cX9_count 56 = .ok (.aload_n 0, 1) := by decide +kernel
theorem dX9_count_57 : decode cX9_count 57 = .ok (.getfield 32, 3) := by decide +kernel
theorem dX9_count_60 : decode cX9_count 60 = .ok (.getfield 181, 3) := by decide +kernel
theorem dX9_count_63 : decode cX9_count 63 = .ok (.ireturn, 1) := by decide +kernel
theorem dX9_count_64 : decode cX9_count 64 = .ok (.aload_n 0, 1) := by decide +kernel
theorem dX9_count_65 : decode cX9_count 65 = .ok (.iconst 0, 1) := by decide +kernel
theorem dX9_count_66 : decode cX9_count 66 = .ok (.invokevirtual 68, 3) := by decide +kernel
theorem dX9_count_69 : decode cX9_count 69 = .ok (.ireturn, 1) := by decide +kernel
theorem dX9_status_0 : decode cX9_status 0 = .ok (.iload_n 1, 1) := by decide +kernel
theorem dX9_status_1 : decode cX9_status 1 = .ok (.iconst (-1), 1) := by decide +kernel
theorem dX9_status_2 : decode cX9_status 2 = .ok (.bipush 6, 2) := by decide +kernel
theorem dX9_status_4 : decode cX9_status 4 = .ok (.invokestatic 64, 3) := by decide +kernel
theorem dX9_status_7 : decode cX9_status 7 = .ok (.ifCond .ne 9, 3) := by decide +kernel
theorem dX9_status_10 : decode cX9_status 10 = .ok (.aload_n 0, 1) := by decide +kernel
theorem dX9_status_11 : decode cX9_status 11 = .ok (.iconst 0, 1) := by decide +kernel
theorem dX9_status_12 : decode cX9_status 12 = .ok (.invokevirtual 68, 3) := by decide +kernel
theorem dX9_status_15 : decode cX9_status 15 = .ok (.ireturn, 1) := by decide +kernel
theorem dX9_status_16 : decode cX9_status 16 = .ok (.iload_n 1, 1) := by decide +kernel
theorem dX9_status_17 : decode cX9_status 17 = .ok (.ifCond .lt 10, 3) := by decide +kernel
theorem dX9_status_20 : decode cX9_status 20 = .ok (.aload_n 0, 1) := by decide +kernel
theorem dX9_status_21 : decode cX9_status 21 = .ok (.getfield 56, 3) := by decide +kernel
theorem dX9_status_24 : decode cX9_status 24 = .ok (.iload_n 1, 1) := by decide +kernel
theorem dX9_status_25 : decode cX9_status 25 = .ok (.iaload, 1) := by decide +kernel
theorem dX9_status_26 : decode cX9_status 26 = .ok (.ireturn, 1) := by decide +kernel
theorem dX9_status_27 : decode cX9_status 27 = .ok (.iconst 0, 1) := by decide +kernel
theorem dX9_status_28 : decode cX9_status 28 = .ok (.istore_n 2, 1) := by decide +kernel
theorem dX9_status_29 : decode cX9_status 29 = .ok (.iconst 0, 1) := by decide +kernel
theorem dX9_status_30 : decode cX9_status 30 = .ok (.istore_n 3, 1) := by decide +kernel
theorem dX9_status_31 : decode cX9_status 31 = .ok (.iload_n 3, 1) := by decide +kernel
theorem dX9_status_32 : decode cX9_status 32 = .ok (.bipush 7, 2) := by decide +kernel
theorem dX9_status_34 : decode cX9_status 34 = .ok (.if_icmp .ge 18, 3) := by decide +kernel
theorem dX9_status_37 : decode cX9_status 37 = .ok (.iload_n 2, 1) := by decide +kernel
theorem dX9_status_38 : decode cX9_status 38 = .ok (.aload_n 0, 1) := by decide +kernel
theorem dX9_status_39 : decode cX9_status 39 = .ok (.getfield 56, 3) := by decide +kernel
theorem dX9_status_42 : decode cX9_status 42 = .ok (.iload_n 3, 1) := by decide +kernel
theorem dX9_status_43 : decode cX9_status 43 = .ok (.iaload, 1) := by decide +kernel
theorem dX9_status_44 : decode cX9_status 44 = .ok (.iadd, 1) := by decide +kernel
theorem dX9_status_45 : decode cX9_status 45 = .ok (.istore_n 2, 1) := by decide +kernel
theorem dX9_status_46 : decode cX9_status 46 = .ok (.iinc 3 1, 3) := by decide +kernel
theorem dX9_status_49 : decode cX9_status 49 = .ok (.goto (-18), 3) := by decide +kernel
theorem dX9_status_52 : decode cX9_status 52 = .ok (.iload_n 2, 1) := by decide +kernel
theorem dX9_status_53 : decode cX9_status 53 = .ok (.ireturn, 1) := by decide +kernel
theorem dX9_found_0 : decode cX9_found 0 = .ok (.iload_n 1, 1) := by decide +kernel
theorem dX9_found_1 : decode cX9_found 1 = .ok (.iconst 0, 1) := by decide +kernel
theorem dX9_found_2 : decode cX9_found 2 = .ok (.bipush 6, 2) := by decide +kernel
theorem dX9_found_4 : decode cX9_found 4 = .ok (.invokestatic 64, 3) := by decide +kernel
theorem dX9_found_7 : decode cX9_found 7 = .ok (.ifCond .eq 13, 3) := by decide +kernel
theorem dX9_found_10 : decode cX9_found 10 = .ok (.aload_n 0, 1) := by decide +kernel
theorem dX9_found_11 : decode cX9_found 11 = .ok (.getfield 56, 3) := by decide +kernel
theorem dX9_found_14 : decode cX9_found 14 = .ok (.iload_n 1, 1) := by decide +kernel
theorem dX9_found_15 : decode cX9_found 15 = .ok (.dup2, 1) := by decide +kernel
theorem dX9_found_16 : decode cX9_found 16 = .ok (.iaload, 1) := by decide +kernel
theorem dX9_found_17 : decode cX9_found 17 = .ok (.iconst 1, 1) := by decide +kernel
theorem dX9_found_18 : decode cX9_found 18 = .ok (.iadd, 1) := by decide +kernel
theorem dX9_found_19 : decode cX9_found 19 = .ok (.iastore, 1) := by decide +kernel
theorem dX9_found_20 : decode cX9_found 20 = .ok (.ldc_w 257, 3) := by decide +kernel
theorem dX9_found_23 : decode cX9_found 23 = .ok (.iload_n 1, 1) := by decide +kernel
theorem dX9_found_24 : decode cX9_found 24 = .ok (.isub, 1) := by decide +kernel
theorem dX9_found_25 : decode cX9_found 25 = .ok (.ireturn, 1) := by decide +kernel
theorem dX9_isTooLateFor_0 : decode cX9_isTooLateFor 0 = .ok (.aload_n 0, 1) := by decide +kernel
theorem dX9_isTooLateFor_1 : decode cX9_isTooLateFor 1 = .ok (.getfield 32, 3) := by decide +kernel
theorem dX9_isTooLateFor_4 : decode cX9_isTooLateFor 4 = .ok (.getfield 184, 3) := by decide +kernel
theorem dX9_isTooLateFor_7 : decode cX9_isTooLateFor 7 = .ok (.iload_n 1, 1) := by decide +kernel
theorem dX9_isTooLateFor_8 : decode cX9_isTooLateFor 8 = .ok (.iadd, 1) := by decide +kernel
theorem dX9_isTooLateFor_9 : decode cX9_isTooLateFor 9 = .ok (.sipush 9999, 3) := by decide +kernel
theorem dX9_isTooLateFor_12 : decode cX9_isTooLateFor 12 = .ok (.if_icmp .le 7, 3) := by decide +kernel
theorem dX9_isTooLateFor_15 : decode cX9_isTooLateFor 15 = .ok (.iconst 1, 1) := by decide +kernel
theorem dX9_isTooLateFor_16 : decode cX9_isTooLateFor 16 = .ok (.goto 4, 3) := by decide +kernel
theorem dX9_isTooLateFor_19 : decode cX9_isTooLateFor 19 = .ok (.iconst 0, 1) := by decide +kernel
theorem dX9_isTooLateFor_20 : decode cX9_isTooLateFor 20 = .ok (.ireturn, 1) := by decide +kernel
theorem dX9_againstYears_0 : decode cX9_againstYears 0 = .ok (.iload_n 1, 1) := by decide +kernel
theorem dX9_againstYears_1 : decode cX9_againstYears 1 = .ok (.iload_n 2, 1) := by decide +kernel
theorem dX9_againstYears_2 : decode cX9_againstYears 2 = .ok (.iload_n 3, 1) := by decide +kernel
theorem dX9_againstYears_3 : decode cX9_againstYears 3 = .ok (.invokestatic 64, 3) := by decide +kernel
theorem dX9_againstYears_6 : decode cX9_againstYears 6 = .ok (.ifCond .ne 9, 3) := by decide +kernel
theorem dX9_againstYears_9 : decode cX9_againstYears 9 = .ok (.aload_n 0, 1) := by decide +kernel
theorem dX9_againstYears_10 : decode cX9_againstYears 10 = .ok (.iconst 0, 1) := by decide +kernel
theorem dX9_againstYears_11 : decode cX9_againstYears 11 = .ok (.invokevirtual 68, 3) := by decide +kernel
theorem dX9_againstYears_14 : decode cX9_againstYears 14 = .ok (.ireturn, 1) := by decide +kernel
theorem dX9_againstYears_15 : decode cX9_againstYears 15 = .ok (.aload_n 0, 1) := by decide +kernel
theorem dX9_againstYears_16 : decode cX9_againstYears 16 = .ok (.iload_n 1, 1) := by decide +kernel
theorem dX9_againstYears_17 : decode cX9_againstYears 17 = .ok (.invokevirtual 193, 3) := by decide +kernel
theorem dX9_againstYears_20 : decode cX9_againstYears 20 = .ok (.ifCond .eq 11, 3) := by decide +kernel
theorem dX9_againstYears_23 : decode cX9_againstYears 23 = .ok (.aload_n 0, 1) := by decide +kernel
theorem dX9_againstYears_24 : decode cX9_againstYears 24 = .ok (.iconst 4, 1) := by decide +kernel
theorem dX9_againstYears_25 : decode cX9_againstYears 25 = .ok (.invokevirtual 68, 3) := by decide +kernel
theorem dX9_againstYears_28 : decode cX9_againstYears 28 = .ok (.goto 4, 3) := by decide +kernel
theorem dX9_againstYears_31 : decode cX9_againstYears 31 = .ok (.iconst 0, 1) := by decide +kernel
theorem dX9_againstYears_32 : decode cX9_againstYears 32 = .ok (.ireturn, 1) := by decide +kernel
theorem dX9_startTrial_0 : decode cX9_startTrial 0 = .ok (.aload_n 0, 1) := by decide +kernel
theorem dX9_startTrial_1 : decode cX9_startTrial 1 = .ok (.getfield 36, 3) := by decide +kernel
theorem dX9_startTrial_4 : decode cX9_startTrial 4 = .ok (.aload_n 0, 1) := by decide +kernel
theorem dX9_startTrial_5 : decode cX9_startTrial 5 = .ok (.getfield 32, 3) := by decide +kernel
theorem dX9_startTrial_8 : decode cX9_startTrial 8 = .ok (.invokevirtual 214, 3) := by decide +kernel
theorem dX9_startTrial_11 : decode cX9_startTrial 11 = .ok (.return_, 1) := by decide +kernel
theorem dX9_isWithin_0 : decode cX9_isWithin 0 = .ok (.iload_n 0, 1) := by decide +kernel
theorem dX9_isWithin_1 : decode cX9_isWithin 1 = .ok (.iload_n 1, 1) := by decide +kernel
theorem dX9_isWithin_2 : decode cX9_isWithin 2 = .ok (.if_icmp .lt 12, 3) := by decide +kernel
theorem dX9_isWithin_5 : decode cX9_isWithin 5 = .ok (.iload_n 0, 1) := by decide +kernel
theorem dX9_isWithin_6 : decode cX9_isWithin 6 = .ok (.iload_n 2, 1) := by decide +kernel
theorem dX9_isWithin_7 : decode cX9_isWithin 7 = .ok (.if_icmp .gt 7, 3) := by decide +kernel
theorem dX9_isWithin_10 : decode cX9_isWithin 10 = .ok (.iconst 1, 1) := by decide +kernel
theorem dX9_isWithin_11 : decode cX9_isWithin 11 = .ok (.goto 4, 3) := by decide +kernel
theorem dX9_isWithin_14 : decode cX9_isWithin 14 = .ok (.iconst 0, 1) := by decide +kernel
theorem dX9_isWithin_15 : decode cX9_isWithin 15 = .ok (.ireturn, 1) := by decide +kernel
theorem dX9_isPlace_0 : decode cX9_isPlace 0 = .ok (.iload_n 0, 1) := by decide +kernel
theorem dX9_isPlace_1 : decode cX9_isPlace 1 = .ok (.ifCond .lt 13, 3) := by decide +kernel
theorem dX9_isPlace_4 : decode cX9_isPlace 4 = .ok (.iload_n 0, 1) := by decide +kernel
theorem dX9_isPlace_5 : decode cX9_isPlace 5 = .ok (.bipush 40, 2) := by decide +kernel
theorem dX9_isPlace_7 : decode cX9_isPlace 7 = .ok (.if_icmp .ge 7, 3) := by decide +kernel
theorem dX9_isPlace_10 : decode cX9_isPlace 10 = .ok (.iconst 1, 1) := by decide +kernel
theorem dX9_isPlace_11 : decode cX9_isPlace 11 = .ok (.goto 4, 3) := by decide +kernel
theorem dX9_isPlace_14 : decode cX9_isPlace 14 = .ok (.iconst 0, 1) := by decide +kernel
theorem dX9_isPlace_15 : decode cX9_isPlace 15 = .ok (.ireturn, 1) := by decide +kernel
theorem dX9_isKind_0 : decode cX9_isKind 0 = .ok (.iload_n 0, 1) := by decide +kernel
theorem dX9_isKind_1 : decode cX9_isKind 1 = .ok (.ifCond .lt 13, 3) := by decide +kernel
theorem dX9_isKind_4 : decode cX9_isKind 4 = .ok (.iload_n 0, 1) := by decide +kernel
theorem dX9_isKind_5 : decode cX9_isKind 5 = .ok (.bipush 6, 2) := by decide +kernel
theorem dX9_isKind_7 : decode cX9_isKind 7 = .ok (.if_icmp .ge 7, 3) := by decide +kernel
theorem dX9_isKind_10 : decode cX9_isKind 10 = .ok (.iconst 1, 1) := by decide +kernel
theorem dX9_isKind_11 : decode cX9_isKind 11 = .ok (.goto 4, 3) := by decide +kernel
theorem dX9_isKind_14 : decode cX9_isKind 14 = .ok (.iconst 0, 1) := by decide +kernel
theorem dX9_isKind_15 : decode cX9_isKind 15 = .ok (.ireturn, 1) := by decide +kernel
theorem dX9_isSheet_0 : decode cX9_isSheet 0 = .ok (.iload_n 0, 1) := by decide +kernel
theorem dX9_isSheet_1 : decode cX9_isSheet 1 = .ok (.ifCond .lt 12, 3) := by decide +kernel
theorem dX9_isSheet_4 : decode cX9_isSheet 4 = .ok (.iload_n 0, 1) := by decide +kernel
theorem dX9_isSheet_5 : decode cX9_isSheet 5 = .ok (.iconst 4, 1) := by decide +kernel
theorem dX9_isSheet_6 : decode cX9_isSheet 6 = .ok (.if_icmp .ge 7, 3) := by decide +kernel
theorem dX9_isSheet_9 : decode cX9_isSheet 9 = .ok (.iconst 1, 1) := by decide +kernel
theorem dX9_isSheet_10 : decode cX9_isSheet 10 = .ok (.goto 4, 3) := by decide +kernel
theorem dX9_isSheet_13 : decode cX9_isSheet 13 = .ok (.iconst 0, 1) := by decide +kernel
theorem dX9_isSheet_14 : decode cX9_isSheet 14 = .ok (.ireturn, 1) := by decide +kernel
theorem dX9_isOfKind_0 : decode cX9_isOfKind 0 = .ok (.iload_n 1, 1) := by decide +kernel
theorem dX9_isOfKind_1 : decode cX9_isOfKind 1 = .ok (.tableswitch 66 0 5 #[39, 41, 46, 51, 56, 61], 39) := by decide +kernel
theorem dX9_isOfKind_40 : decode cX9_isOfKind 40 = .ok (.iconst 1, 1) := by decide +kernel
theorem dX9_isOfKind_41 : decode cX9_isOfKind 41 = .ok (.ireturn, 1) := by decide +kernel
theorem dX9_isOfKind_42 : decode cX9_isOfKind 42 = .ok (.aload_n 0, 1) := by decide +kernel
theorem dX9_isOfKind_43 : decode cX9_isOfKind 43 = .ok (.instanceof 12, 3) := by decide +kernel
theorem dX9_isOfKind_46 : decode cX9_isOfKind 46 = .ok (.ireturn, 1) := by decide +kernel
theorem dX9_isOfKind_47 : decode cX9_isOfKind 47 = .ok (.aload_n 0, 1) := by decide +kernel
theorem dX9_isOfKind_48 : decode cX9_isOfKind 48 = .ok (.instanceof 15, 3) := by decide +kernel
theorem dX9_isOfKind_51 : decode cX9_isOfKind 51 = .ok (.ireturn, 1) := by decide +kernel
theorem dX9_isOfKind_52 : decode cX9_isOfKind 52 = .ok (.aload_n 0, 1) := by decide +kernel
theorem dX9_isOfKind_53 : decode cX9_isOfKind 53 = .ok (.instanceof 18, 3) := by decide +kernel
theorem dX9_isOfKind_56 : decode cX9_isOfKind 56 = .ok (.ireturn, 1) := by decide +kernel
theorem dX9_isOfKind_57 : decode cX9_isOfKind 57 = .ok (.aload_n 0, 1) := by decide +kernel
theorem dX9_isOfKind_58 : decode cX9_isOfKind 58 = .ok (.instanceof 21, 3) := by decide +kernel
theorem dX9_isOfKind_61 : decode cX9_isOfKind 61 = .ok (.ireturn, 1) := by decide +kernel
theorem dX9_isOfKind_62 : decode cX9_isOfKind 62 = .ok (.aload_n 0, 1) := by decide +kernel
theorem dX9_isOfKind_63 : decode cX9_isOfKind 63 = .ok (.instanceof 24, 3) := by decide +kernel
theorem dX9_isOfKind_66 : decode cX9_isOfKind 66 = .ok (.ireturn, 1) := by decide +kernel
theorem dX9_isOfKind_67 : decode cX9_isOfKind 67 = .ok (.iconst 0, 1) := by decide +kernel
theorem dX9_isOfKind_68 : decode cX9_isOfKind 68 = .ok (.ireturn, 1) := by decide +kernel
theorem dX10_init_0 : decode cX10_init 0 = .ok (.aload_n 0, 1) := by decide +kernel
theorem dX10_init_1 : decode cX10_init 1 = .ok (.invokespecial 1, 3) := by decide +kernel
theorem dX10_init_4 : decode cX10_init 4 = .ok (.aload_n 0, 1) := by decide +kernel
theorem dX10_init_5 : decode cX10_init 5 = .ok (.sipush 510, 3) := by decide +kernel
theorem dX10_init_8 : decode cX10_init 8 = .ok (.newarray .int, 2) := by decide +kernel
theorem dX10_init_10 : decode cX10_init 10 = .ok (.putfield 7, 3) := by decide +kernel
theorem dX10_init_13 : decode cX10_init 13 = .ok (.aload_n 0, 1) := by decide +kernel
theorem dX10_init_14 : decode cX10_init 14 = .ok (.bipush 7, 2) := by decide +kernel
theorem dX10_init_16 : decode cX10_init 16 = .ok (.newarray .int, 2) := by decide +kernel
theorem dX10_init_18 : decode cX10_init 18 = .ok (.putfield 13, 3) := by decide +kernel
theorem dX10_init_21 : decode cX10_init 21 = .ok (.aload_n 0, 1) := by decide +kernel
theorem dX10_init_22 : decode cX10_init 22 = .ok (.bipush 120, 2) := by decide +kernel
theorem dX10_init_24 : decode cX10_init 24 = .ok (.newarray .int, 2) := by decide +kernel
theorem dX10_init_26 : decode cX10_init 26 = .ok (.putfield 16, 3) := by decide +kernel
theorem dX10_init_29 : decode cX10_init 29 = .ok (.aload_n 0, 1) := by decide +kernel
theorem dX10_init_30 : decode cX10_init 30 = .ok (.iconst 4, 1) := by decide +kernel
theorem dX10_init_31 : decode cX10_init 31 = .ok (.newarray .int, 2) := by decide +kernel
theorem dX10_init_33 : decode cX10_init 33 = .ok (.putfield 19, 3) := by decide +kernel
theorem dX10_init_36 : decode cX10_init 36 = .ok (.aload_n 0, 1) := by decide +kernel
theorem dX10_init_37 : decode cX10_init 37 = .ok (.iconst 4, 1) := by decide +kernel
theorem dX10_init_38 : decode cX10_init 38 = .ok (.newarray .int, 2) := by decide +kernel
theorem dX10_init_40 : decode cX10_init 40 = .ok (.putfield 22, 3) := by decide +kernel
theorem dX10_init_43 : decode cX10_init 43 = .ok (.aload_n 0, 1) := by decide +kernel
theorem dX10_init_44 : decode cX10_init 44 = .ok (.sipush 160, 3) := by decide +kernel
theorem dX10_init_47 : decode cX10_init 47 = .ok (.newarray .long, 2) := by decide +kernel
theorem dX10_init_49 : decode cX10_init 49 = .ok (.putfield 25, 3) := by decide +kernel
theorem dX10_init_52 : decode cX10_init 52 = .ok (.aload_n 0, 1) := by decide +kernel
theorem dX10_init_53 : decode cX10_init 53 = .ok (.bipush 40, 2) := by decide +kernel
theorem dX10_init_55 : decode cX10_init 55 = .ok (.newarray .long, 2) := by decide +kernel
theorem dX10_init_57 : decode cX10_init 57 = .ok (.putfield 29, 3) := by decide +kernel
theorem dX10_init_60 : decode cX10_init 60 = .ok (.aload_n 0, 1) := by decide +kernel
theorem dX10_init_61 : decode cX10_init 61 = .ok (.sipush 255, 3) := by decide +kernel
theorem dX10_init_64 : decode cX10_init 64 = .ok (.newarray .int, 2) := by decide +kernel
theorem dX10_init_66 : decode cX10_init 66 = .ok (.putfield 32, 3) := by decide +kernel
theorem dX10_init_69 : decode cX10_init 69 = .ok (.aload_n 0, 1) := by decide +kernel
theorem dX10_init_70 : decode cX10_init 70 = .ok (.sipush 255, 3) := by decide +kernel
theorem dX10_init_73 : decode cX10_init 73 = .ok (.newarray .int, 2) := by decide +kernel
theorem dX10_init_75 : decode cX10_init 75 = .ok (.putfield 35, 3) := by decide +kernel
theorem dX10_init_78 : decode cX10_init 78 = .ok (.aload_n 0, 1) := by decide +kernel
theorem dX10_init_79 : decode cX10_init 79 = .ok (.getfield 7, 3) := by decide +kernel
theorem dX10_init_82 : decode cX10_init 82 = .ok (.iconst 2, 1) := by decide +kernel
theorem dX10_init_83 : decode cX10_init 83 = .ok (.iconst 4, 1) := by decide +kernel
theorem dX10_init_84 : decode cX10_init 84 = .ok (.iastore, 1) := by decide +kernel
theorem dX10_init_85 : decode cX10_init 85 = .ok (.aload_n 0, 1) := by decide +kernel
theorem dX10_init_86 : decode cX10_init 86 = .ok (.getfield 7, 3) := by decide +kernel
theorem dX10_init_89 : decode cX10_init 89 = .ok (.iconst 3, 1) := by decide +kernel
theorem dX10_init_90 : decode cX10_init 90 = .ok (.iconst 1, 1) := by decide +kernel
theorem dX10_init_91 : decode cX10_init 91 = .ok (.iastore, 1) := by decide +kernel
theorem dX10_init_92 : decode cX10_init 92 = .ok (.iconst 0, 1) := by decide +kernel
theorem dX10_init_93 : decode cX10_init 93 = .ok (.istore_n 1, 1) := by decide +kernel
theorem dX10_init_94 : decode cX10_init 94 = .ok (.iload_n 1, 1) := by decide +kernel
theorem dX10_init_95 : decode cX10_init 95 = .ok (.bipush 40, 2) := by decide +kernel
theorem dX10_init_97 : decode cX10_init 97 = .ok (.if_icmp .ge 18, 3) := by decide +kernel
theorem dX10_init_100 : decode cX10_init 100 = .ok (.aload_n 0, 1) := by decide +kernel
theorem dX10_init_101 : decode cX10_init 101 = .ok (.getfield 7, 3) := by decide +kernel
theorem dX10_init_104 : decode cX10_init 104 = .ok (.iconst 5, 1) := by decide +kernel
theorem dX10_init_105 : decode cX10_init 105 = .ok (.iload_n 1, 1) := by decide +kernel
theorem dX10_init_106 : decode cX10_init 106 = .ok (.iadd, 1) := by decide +kernel
theorem dX10_init_107 : decode cX10_init 107 = .ok (.iconst 3, 1) := by decide +kernel
theorem dX10_init_108 : decode cX10_init 108 = .ok (.iastore, 1) := by decide +kernel
theorem dX10_init_109 : decode cX10_init 109 = .ok (.iinc 1 1, 3) := by decide +kernel
theorem dX10_init_112 : decode cX10_init 112 = .ok (.goto (-18), 3) := by decide +kernel
theorem dX10_init_115 : decode cX10_init 115 = .ok (.return_, 1) := by decide +kernel
theorem dX10_in_0 : decode cX10_in 0 = .ok (.iload_n 0, 1) := by decide +kernel
theorem dX10_in_1 : decode cX10_in 1 = .ok (.iload_n 1, 1) := by decide +kernel
theorem dX10_in_2 : decode cX10_in 2 = .ok (.if_icmp .lt 12, 3) := by decide +kernel
theorem dX10_in_5 : decode cX10_in 5 = .ok (.iload_n 0, 1) := by decide +kernel
theorem dX10_in_6 : decode cX10_in 6 = .ok (.iload_n 2, 1) := by decide +kernel
theorem dX10_in_7 : decode cX10_in 7 = .ok (.if_icmp .gt 7, 3) := by decide +kernel
theorem dX10_in_10 : decode cX10_in 10 = .ok (.iconst 1, 1) := by decide +kernel
theorem dX10_in_11 : decode cX10_in 11 = .ok (.goto 4, 3) := by decide +kernel
theorem dX10_in_14 : decode cX10_in 14 = .ok (.iconst 0, 1) := by decide +kernel
theorem dX10_in_15 : decode cX10_in 15 = .ok (.ireturn, 1) := by decide +kernel
theorem dX10_finds_0 : decode cX10_finds 0 = .ok (.aload_n 0, 1) := by decide +kernel
theorem dX10_finds_1 : decode cX10_finds 1 = .ok (.getfield 13, 3) := by decide +kernel
theorem dX10_finds_4 : decode cX10_finds 4 = .ok (.ldc 38, 2) := by decide +kernel
theorem dX10_finds_6 : decode cX10_finds 6 = .ok (.iload_n 1, 1) := by decide +kernel
theorem dX10_finds_7 : decode cX10_finds 7 = .ok (.isub, 1) := by decide +kernel
theorem dX10_finds_8 : decode cX10_finds 8 = .ok (.dup2, 1) := by decide +kernel
theorem dX10_finds_9 : decode cX10_finds 9 = .ok (.iaload, 1) := by decide +kernel
theorem dX10_finds_10 : decode cX10_finds 10 = .ok (.iconst 1, 1) := by decide +kernel
theorem dX10_finds_11 : decode cX10_finds 11 = .ok (.iadd, 1) := by decide +kernel
theorem dX10_finds_12 : decode cX10_finds 12 = .ok (.iastore, 1) := by decide +kernel
theorem dX10_finds_13 : decode cX10_finds 13 = .ok (.iload_n 1, 1) := by decide +kernel
theorem dX10_finds_14 : decode cX10_finds 14 = .ok (.ireturn, 1) := by decide +kernel
theorem dX10_its_0 : decode cX10_its 0 = .ok (.aload_n 0, 1) := by decide +kernel
theorem dX10_its_1 : decode cX10_its 1 = .ok (.getfield 7, 3) := by decide +kernel
theorem dX10_its_4 : decode cX10_its 4 = .ok (.aload_n 0, 1) := by decide +kernel
theorem dX10_its_5 : decode cX10_its 5 = .ok (.getfield 39, 3) := by decide +kernel
theorem dX10_its_8 : decode cX10_its 8 = .ok (.iload_n 1, 1) := by decide +kernel
theorem dX10_its_9 : decode cX10_its 9 = .ok (.iadd, 1) := by decide +kernel
theorem dX10_its_10 : decode cX10_its 10 = .ok (.iaload, 1) := by decide +kernel
theorem dX10_its_11 : decode cX10_its 11 = .ok (.ireturn, 1) := by decide +kernel
theorem dX10_fineOf_0 : decode cX10_fineOf 0 = .ok (.aload_n 0, 1) := by decide +kernel
theorem dX10_fineOf_1 : decode cX10_fineOf 1 = .ok (.getfield 7, 3) := by decide +kernel
theorem dX10_fineOf_4 : decode cX10_fineOf 4 = .ok (.aload_n 0, 1) := by decide +kernel
theorem dX10_fineOf_5 : decode cX10_fineOf 5 = .ok (.getfield 39, 3) := by decide +kernel
theorem dX10_fineOf_8 : decode cX10_fineOf 8 = .ok (.sipush 205, 3) := by decide +kernel
theorem dX10_fineOf_11 : decode cX10_fineOf 11 = .ok (.iadd, 1) := by decide +kernel
theorem dX10_fineOf_12 : decode cX10_fineOf 12 = .ok (.iconst 5, 1) := by decide +kernel
theorem dX10_fineOf_13 : decode cX10_fineOf 13 = .ok (.iload_n 1, 1) := by decide +kernel
theorem dX10_fineOf_14 : decode cX10_fineOf 14 = .ok (.imul, 1) := by decide +kernel
theorem dX10_fineOf_15 : decode cX10_fineOf 15 = .ok (.iadd, 1) := by decide +kernel
theorem dX10_fineOf_16 : decode cX10_fineOf 16 = .ok (.iload_n 2, 1) := by decide +kernel
theorem dX10_fineOf_17 : decode cX10_fineOf 17 = .ok (.iadd, 1) := by decide +kernel
theorem dX10_fineOf_18 : decode cX10_fineOf 18 = .ok (.iaload, 1) := by decide +kernel
theorem dX10_fineOf_19 : decode cX10_fineOf 19 = .ok (.ireturn, 1) := by decide +kernel
theorem dX10_sets_0 : decode cX10_sets 0 = .ok (.aload_n 0, 1) := by decide +kernel
theorem dX10_sets_1 : decode cX10_sets 1 = .ok (.getfield 7, 3) := by decide +kernel
theorem dX10_sets_4 : decode cX10_sets 4 = .ok (.aload_n 0, 1) := by decide +kernel
theorem dX10_sets_5 : decode cX10_sets 5 = .ok (.getfield 39, 3) := by decide +kernel
theorem dX10_sets_8 : decode cX10_sets 8 = .ok (.sipush 205, 3) := by decide +kernel
theorem dX10_sets_11 : decode cX10_sets 11 = .ok (.iadd, 1) := by decide +kernel
theorem dX10_sets_12 : decode cX10_sets 12 = .ok (.iconst 5, 1) := by decide +kernel
theorem dX10_sets_13 : decode cX10_sets 13 = .ok (.iload_n 1, 1) := by decide +kernel
theorem dX10_sets_14 : decode cX10_sets 14 = .ok (.imul, 1) := by decide +kernel
theorem dX10_sets_15 : decode cX10_sets 15 = .ok (.iadd, 1) := by decide +kernel
theorem dX10_sets_16 : decode cX10_sets 16 = .ok (.iload_n 2, 1) := by decide +kernel
theorem dX10_sets_17 : decode cX10_sets 17 = .ok (.iadd, 1) := by decide +kernel
theorem dX10_sets_18 : decode cX10_sets 18 = .ok (.iload_n 3, 1) := by decide +kernel
theorem dX10_sets_19 : decode cX10_sets 19 = .ok (.iastore, 1) := by decide +kernel
theorem dX10_sets_20 : decode cX10_sets 20 = .ok (.return_, 1) := by decide +kernel
theorem dX10_isFine_0 : decode cX10_isFine 0 = .ok (.iload_n 1, 1) := by decide +kernel
theorem dX10_isFine_1 : decode cX10_isFine 1 = .ok (.iconst 0, 1) := by decide +kernel
theorem dX10_isFine_2 : decode cX10_isFine 2 = .ok (.aload_n 0, 1) := by decide +kernel
theorem dX10_isFine_3 : decode cX10_isFine 3 = .ok (.iconst 4, 1) := by decide +kernel
theorem dX10_isFine_4 : decode cX10_isFine 4 = .ok (.invokevirtual 43, 3) := by decide +kernel
theorem dX10_isFine_7 : decode cX10_isFine 7 = .ok (.iconst 1, 1) := by decide +kernel
theorem dX10_isFine_8 : decode cX10_isFine 8 = .ok (.isub, 1) := by decide +kernel
theorem dX10_isFine_9 : decode cX10_isFine 9 = .ok (.invokestatic 47, 3) := by decide +kernel
theorem dX10_isFine_12 : decode cX10_isFine 12 = .ok (.ireturn, 1) := by decide +kernel
theorem dX10_isPlace_0 : decode cX10_isPlace 0 = .ok (.iload_n 0, 1) := by decide +kernel
theorem dX10_isPlace_1 : decode cX10_isPlace 1 = .ok (.iconst 0, 1) := by decide +kernel
theorem dX10_isPlace_2 : decode cX10_isPlace 2 = .ok (.bipush 39, 2) := by decide +kernel
theorem dX10_isPlace_4 : decode cX10_isPlace 4 = .ok (.invokestatic 47, 3) := by decide +kernel
theorem dX10_isPlace_7 : decode cX10_isPlace 7 = .ok (.ireturn, 1) := by decide +kernel
theorem dX10_isKind_0 : decode cX10_isKind 0 = .ok (.iload_n 0, 1) := by decide +kernel
theorem dX10_isKind_1 : decode cX10_isKind 1 = .ok (.iconst 0, 1) := by decide +kernel
theorem dX10_isKind_2 : decode cX10_isKind 2 = .ok (.iconst 5, 1) := by decide +kernel
theorem dX10_isKind_3 : decode cX10_isKind 3 = .ok (.invokestatic 47, 3) := by decide +kernel
theorem dX10_isKind_6 : decode cX10_isKind 6 = .ok (.ireturn, 1) := by decide +kernel
theorem dX10_isWhole_0 : decode cX10_isWhole 0 = .ok (.aload_n 0, 1) := by decide +kernel
theorem dX10_isWhole_1 : decode cX10_isWhole 1 = .ok (.bipush 45, 2) := by decide +kernel
theorem dX10_isWhole_3 : decode cX10_isWhole 3 = .ok (.iload_n 1, 1) := by decide +kernel
theorem dX10_isWhole_4 : decode cX10_isWhole 4 = .ok (.iadd, 1) := by decide +kernel
theorem dX10_isWhole_5 : decode cX10_isWhole 5 = .ok (.invokevirtual 43, 3) := by decide +kernel
theorem dX10_isWhole_8 : decode cX10_isWhole 8 = .ok (.iconst 1, 1) := by decide +kernel
theorem dX10_isWhole_9 : decode cX10_isWhole 9 = .ok (.if_icmp .ne 7, 3) := by decide +kernel
theorem dX10_isWhole_12 : decode cX10_isWhole 12 = .ok (.iconst 1, 1) := by decide +kernel
theorem dX10_isWhole_13 : decode cX10_isWhole 13 = .ok (.goto 4, 3) := by decide +kernel
theorem dX10_isWhole_16 : decode cX10_isWhole 16 = .ok (.iconst 0, 1) := by decide +kernel
theorem dX10_isWhole_17 : decode cX10_isWhole 17 = .ok (.ireturn, 1) := by decide +kernel
theorem dX10_wholes_0 : decode cX10_wholes 0 = .ok (.iconst 0, 1) := by decide +kernel
theorem dX10_wholes_1 : decode cX10_wholes 1 = .ok (.istore_n 1, 1) := by decide +kernel
theorem dX10_wholes_2 : decode cX10_wholes 2 = .ok (.iconst 0, 1) := by decide +kernel
theorem dX10_wholes_3 : decode cX10_wholes 3 = .ok (.istore_n 2, 1) := by decide +kernel
theorem dX10_wholes_4 : decode cX10_wholes 4 = .ok (.iload_n 2, 1) := by decide +kernel
theorem dX10_wholes_5 : decode cX10_wholes 5 = .ok (.bipush 40, 2) := by decide +kernel
theorem dX10_wholes_7 : decode cX10_wholes 7 = .ok (.if_icmp .ge 20, 3) := by decide +kernel
theorem dX10_wholes_10 : decode cX10_wholes 10 = .ok (.iload_n 1, 1) := by decide +kernel
theorem dX10_wholes_11 : decode cX10_wholes 11 = .ok (.aload_n 0, 1) := by decide +kernel
theorem dX10_wholes_12 : decode cX10_wholes 12 = .ok (.bipush 45, 2) := by decide +kernel
theorem dX10_wholes_14 : decode cX10_wholes 14 = .ok (.iload_n 2, 1) := by decide +kernel
theorem dX10_wholes_15 : decode cX10_wholes 15 = .ok (.iadd, 1) := by decide +kernel
theorem dX10_wholes_16 : decode cX10_wholes 16 = .ok (.invokevirtual 43, 3) := by decide +kernel
theorem dX10_wholes_19 : decode cX10_wholes 19 = .ok (.iadd, 1) := by decide +kernel
theorem dX10_wholes_20 : decode cX10_wholes 20 = .ok (.istore_n 1, 1) := by decide +kernel
theorem dX10_wholes_21 : decode cX10_wholes 21 = .ok (.iinc 2 1, 3) := by decide +kernel
theorem dX10_wholes_24 : decode cX10_wholes 24 = .ok (.goto (-20), 3) := by decide +kernel
theorem dX10_wholes_27 : decode cX10_wholes 27 = .ok (.iload_n 1, 1) := by decide +kernel
theorem dX10_wholes_28 : decode cX10_wholes 28 = .ok (.ireturn, 1) := by decide +kernel
theorem dX10_works_0 : decode cX10_works 0 = .ok (.aload_n 0, 1) := by decide +kernel
theorem dX10_works_1 : decode cX10_works 1 = .ok (.iload_n 1, 1) := by decide +kernel
theorem dX10_works_2 : decode cX10_works 2 = .ok (.iconst 3, 1) := by decide +kernel
theorem dX10_works_3 : decode cX10_works 3 = .ok (.invokevirtual 51, 3) := by decide +kernel
theorem dX10_works_6 : decode cX10_works 6 = .ok (.istore_n 2, 1) := by decide +kernel
theorem dX10_works_7 : decode cX10_works 7 = .ok (.aload_n 0, 1) := by decide +kernel
theorem dX10_works_8 : decode cX10_works 8 = .ok (.iload_n 1, 1) := by decide +kernel
theorem dX10_works_9 : decode cX10_works 9 = .ok (.iconst 0, 1) := by decide +kernel
theorem dX10_works_10 : decode cX10_works 10 = .ok (.invokevirtual 51, 3) := by decide +kernel
theorem dX10_works_13 : decode cX10_works 13 = .ok (.tableswitch 62 1 5 #[35, 62, 39, 43, 49], 35) := by decide +kernel
theorem dX10_works_48 : decode cX10_works 48 = .ok (.iconst 2, 1) := by decide +kernel
theorem dX10_works_49 : decode cX10_works 49 = .ok (.iload_n 2, 1) := by decide +kernel
theorem dX10_works_50 : decode cX10_works 50 = .ok (.imul, 1) := by decide +kernel
theorem dX10_works_51 : decode cX10_works 51 = .ok (.ireturn, 1) := by decide +kernel
theorem dX10_works_52 : decode cX10_works 52 = .ok (.iload_n 2, 1) := by decide +kernel
theorem dX10_works_53 : decode cX10_works 53 = .ok (.iconst 2, 1) := by decide +kernel
theorem dX10_works_54 : decode cX10_works 54 = .ok (.iadd, 1) := by decide +kernel
theorem dX10_works_55 : decode cX10_works 55 = .ok (.ireturn, 1) := by decide +kernel
theorem dX10_works_56 : decode cX10_works 56 = .ok (.iload_n 2, 1) := by decide +kernel
theorem dX10_works_57 : decode cX10_works 57 = .ok (.iconst 2, 1) := by decide +kernel
theorem dX10_works_58 : decode cX10_works 58 = .ok (.iadd, 1) := by decide +kernel
theorem dX10_works_59 : decode cX10_works 59 = .ok (.iconst 2, 1) := by decide +kernel
theorem dX10_works_60 : decode cX10_works 60 = .ok (.idiv, 1) := by decide +kernel
theorem dX10_works_61 : decode cX10_works 61 = .ok (.ireturn, 1) := by decide +kernel
theorem dX10_works_62 : decode cX10_works 62 = .ok (.iload_n 2, 1) := by decide +kernel
theorem dX10_works_63 : decode cX10_works 63 = .ok (.bipush 40, 2) := by decide +kernel
theorem dX10_works_65 : decode cX10_works 65 = .ok (.aload_n 0, 1) := by decide +kernel
theorem dX10_works_66 : decode cX10_works 66 = .ok (.invokevirtual 55, 3) := by decide +kernel
theorem dX10_works_69 : decode cX10_works 69 = .ok (.isub, 1) := by decide +kernel
theorem dX10_works_70 : decode cX10_works 70 = .ok (.bipush 10, 2) := by decide +kernel
theorem dX10_works_72 : decode cX10_works 72 = .ok (.idiv, 1) := by decide +kernel
theorem dX10_works_73 : decode cX10_works 73 = .ok (.iadd, 1) := by decide +kernel
theorem dX10_works_74 : decode cX10_works 74 = .ok (.ireturn, 1) := by decide +kernel
theorem dX10_works_75 : decode cX10_works 75 = .ok (.iload_n 2, 1) := by decide +kernel
theorem dX10_works_76 : decode cX10_works 76 = .ok (.ireturn, 1) := by decide +kernel
theorem dX10_highAt_0 : decode cX10_highAt 0 = .ok (.aload_n 0, 1) := by decide +kernel
theorem dX10_highAt_1 : decode cX10_highAt 1 = .ok (.iconst 5, 1) := by decide +kernel
theorem dX10_highAt_2 : decode cX10_highAt 2 = .ok (.iload_n 2, 1) := by decide +kernel
theorem dX10_highAt_3 : decode cX10_highAt 3 = .ok (.iadd, 1) := by decide +kernel
theorem dX10_highAt_4 : decode cX10_highAt 4 = .ok (.invokevirtual 43, 3) := by decide +kernel
theorem dX10_highAt_7 : decode cX10_highAt 7 = .ok (.istore_n 3, 1) := by decide +kernel
theorem dX10_highAt_8 : decode cX10_highAt 8 = .ok (.aload_n 0, 1) := by decide +kernel
theorem dX10_highAt_9 : decode cX10_highAt 9 = .ok (.iload_n 1, 1) := by decide +kernel
theorem dX10_highAt_10 : decode cX10_highAt 10 = .ok (.iconst 0, 1) := by decide +kernel
theorem dX10_highAt_11 : decode cX10_highAt 11 = .ok (.invokevirtual 51, 3) := by decide +kernel
theorem dX10_highAt_14 : decode cX10_highAt 14 = .ok (.tableswitch 60 2 5 #[30, 35, 40, 45], 30) := by decide +kernel
theorem dX10_highAt_44 : decode cX10_highAt 44 = .ok (.iload_n 3, 1) := by decide +kernel
theorem dX10_highAt_45 : decode cX10_highAt 45 = .ok (.bipush 6, 2) := by decide +kernel
theorem dX10_highAt_47 : decode cX10_highAt 47 = .ok (.iadd, 1) := by decide +kernel
theorem dX10_highAt_48 : decode cX10_highAt 48 = .ok (.ireturn, 1) := by decide +kernel
theorem dX10_highAt_49 : decode cX10_highAt 49 = .ok (.iload_n 3, 1) := by decide +kernel
theorem dX10_highAt_50 : decode cX10_highAt 50 = .ok (.bipush 13, 2) := by decide +kernel
theorem dX10_highAt_52 : decode cX10_highAt 52 = .ok (.iadd, 1) := by decide +kernel
theorem dX10_highAt_53 : decode cX10_highAt 53 = .ok (.ireturn, 1) := by decide +kernel
theorem dX10_highAt_54 : decode cX10_highAt 54 = .ok (.iload_n 3, 1) := by decide +kernel
theorem dX10_highAt_55 : decode cX10_highAt 55 = .ok (.bipush 16, 2) := by decide +kernel
theorem dX10_highAt_57 : decode cX10_highAt 57 = .ok (.iadd, 1) := by decide +kernel
theorem dX10_highAt_58 : decode cX10_highAt 58 = .ok (.ireturn, 1) := by decide +kernel
theorem dX10_highAt_59 : decode cX10_highAt 59 = .ok (.iload_n 3, 1) := by decide +kernel
theorem dX10_highAt_60 : decode cX10_highAt 60 = .ok (.iconst 5, 1) := by decide +kernel
theorem dX10_highAt_61 : decode cX10_highAt 61 = .ok (.if_icmp .le 8, 3) := by decide +kernel
theorem dX10_highAt_64 : decode cX10_highAt 64 = .ok (.bipush 7, 2) := by decide +kernel
theorem dX10_highAt_66 : decode cX10_highAt 66 = .ok (.goto 7, 3) := by decide +kernel
theorem dX10_highAt_69 : decode cX10_highAt 69 = .ok (.iload_n 3, 1) := by decide +kernel
theorem dX10_highAt_70 : decode cX10_highAt 70 = .ok (.bipush 6, 2) := by decide +kernel
theorem dX10_highAt_72 : decode cX10_highAt 72 = .ok (.iadd, 1) := by decide +kernel
theorem dX10_highAt_73 : decode cX10_highAt 73 = .ok (.ireturn, 1) := by decide +kernel
theorem dX10_highAt_74 : decode cX10_highAt 74 = .ok (.iload_n 3, 1) := by decide +kernel
theorem dX10_highAt_75 : decode cX10_highAt 75 = .ok (.bipush 8, 2) := by decide +kernel
theorem dX10_highAt_77 : decode cX10_highAt 77 = .ok (.iadd, 1) := by decide +kernel
theorem dX10_highAt_78 : decode cX10_highAt 78 = .ok (.ireturn, 1) := by decide +kernel
theorem dX10_rock_0 : decode cX10_rock 0 = .ok (.iload_n 1, 1) := by decide +kernel
theorem dX10_rock_1 : decode cX10_rock 1 = .ok (.invokestatic 59, 3) := by decide +kernel
theorem dX10_rock_4 : decode cX10_rock 4 = .ok (.ifCond .eq 13, 3) := by decide +kernel
theorem dX10_rock_7 : decode cX10_rock 7 = .ok (.iload_n 2, 1) := by decide +kernel
theorem dX10_rock_8 : decode cX10_rock 8 = .ok (.iconst 1, 1) := by decide +kernel
theorem dX10_rock_9 : decode cX10_rock 9 = .ok (.bipush 9, 2) := by decide +kernel
theorem dX10_rock_11 : decode cX10_rock 11 = .ok (.invokestatic 47, 3) := by decide +kernel
theorem dX10_rock_14 : decode cX10_rock 14 = .ok (.ifCond .ne 10, 3) := by decide +kernel
theorem dX10_rock_17 : decode cX10_rock 17 = .ok (.aload_n 0, 1) := by decide +kernel
theorem dX10_rock_18 : decode cX10_rock 18 = .ok (.ldc 38, 2) := by decide +kernel
theorem dX10_rock_20 : decode cX10_rock 20 = .ok (.invokevirtual 63, 3) := by decide +kernel
theorem dX10_rock_23 : decode cX10_rock 23 = .ok (.ireturn, 1) := by decide +kernel
theorem dX10_rock_24 : decode cX10_rock 24 = .ok (.aload_n 0, 1) := by decide +kernel
theorem dX10_rock_25 : decode cX10_rock 25 = .ok (.getfield 7, 3) := by decide +kernel
theorem dX10_rock_28 : decode cX10_rock 28 = .ok (.iconst 5, 1) := by decide +kernel
theorem dX10_rock_29 : decode cX10_rock 29 = .ok (.iload_n 1, 1) := by decide +kernel
theorem dX10_rock_30 : decode cX10_rock 30 = .ok (.iadd, 1) := by decide +kernel
theorem dX10_rock_31 : decode cX10_rock 31 = .ok (.iaload, 1) := by decide +kernel
theorem dX10_rock_32 : decode cX10_rock 32 = .ok (.istore_n 3, 1) := by decide +kernel
theorem dX10_rock_33 : decode cX10_rock 33 = .ok (.aload_n 0, 1) := by decide +kernel
theorem dX10_rock_34 : decode cX10_rock 34 = .ok (.getfield 7, 3) := by decide +kernel
theorem dX10_rock_37 : decode cX10_rock 37 = .ok (.iconst 5, 1) := by decide +kernel
theorem dX10_rock_38 : decode cX10_rock 38 = .ok (.iload_n 1, 1) := by decide +kernel
theorem dX10_rock_39 : decode cX10_rock 39 = .ok (.iadd, 1) := by decide +kernel
theorem dX10_rock_40 : decode cX10_rock 40 = .ok (.iload_n 2, 1) := by decide +kernel
theorem dX10_rock_41 : decode cX10_rock 41 = .ok (.iastore, 1) := by decide +kernel
theorem dX10_rock_42 : decode cX10_rock 42 = .ok (.iload_n 3, 1) := by decide +kernel
theorem dX10_rock_43 : decode cX10_rock 43 = .ok (.ireturn, 1) := by decide +kernel
theorem dX10_let_0 : decode cX10_let 0 = .ok (.iload_n 1, 1) := by decide +kernel
theorem dX10_let_1 : decode cX10_let 1 = .ok (.iconst 0, 1) := by decide +kernel
theorem dX10_let_2 : decode cX10_let 2 = .ok (.iconst 1, 1) := by decide +kernel
theorem dX10_let_3 : decode cX10_let 3 = .ok (.invokestatic 47, 3) := by decide +kernel
theorem dX10_let_6 : decode cX10_let 6 = .ok (.ifCond .eq 22, 3) := by decide +kernel
theorem dX10_let_9 : decode cX10_let 9 = .ok (.iload_n 2, 1) := by decide +kernel
theorem dX10_let_10 : decode cX10_let 10 = .ok (.iconst 0, 1) := by decide +kernel
theorem dX10_let_11 : decode cX10_let 11 = .ok (.iload_n 1, 1) := by decide +kernel
theorem dX10_let_12 : decode cX10_let 12 = .ok (.ifCond .ne 8, 3) := by decide +kernel
theorem dX10_let_15 : decode cX10_let 15 = .ok (.bipush 9, 2) := by decide +kernel
theorem dX10_let_17 : decode cX10_let 17 = .ok (.goto 5, 3) := by decide +kernel
theorem dX10_let_20 : decode cX10_let 20 = .ok (.bipush 20, 2) := by decide +kernel
theorem dX10_let_22 : decode cX10_let 22 = .ok (.invokestatic 47, 3) := by decide +kernel
theorem dX10_let_25 : decode cX10_let 25 = .ok (.ifCond .ne 10, 3) := by decide +kernel
theorem dX10_let_28 : decode cX10_let 28 = .ok (.aload_n 0, 1) := by decide +kernel
theorem dX10_let_29 : decode cX10_let 29 = .ok (.ldc 38, 2) := by decide +kernel
theorem dX10_let_31 : decode cX10_let 31 = .ok (.invokevirtual 63, 3) := by decide +kernel
theorem dX10_let_34 : decode cX10_let 34 = .ok (.ireturn, 1) := by decide +kernel
theorem dX10_let_35 : decode cX10_let 35 = .ok (.aload_n 0, 1) := by decide +kernel
theorem dX10_let_36 : decode cX10_let 36 = .ok (.getfield 7, 3) := by decide +kernel
theorem dX10_let_39 : decode cX10_let 39 = .ok (.iconst 1, 1) := by decide +kernel
theorem dX10_let_40 : decode cX10_let 40 = .ok (.iload_n 1, 1) := by decide +kernel
theorem dX10_let_41 : decode cX10_let 41 = .ok (.iadd, 1) := by decide +kernel
theorem dX10_let_42 : decode cX10_let 42 = .ok (.iaload, 1) := by decide +kernel
theorem dX10_let_43 : decode cX10_let 43 = .ok (.istore_n 3, 1) := by decide +kernel
theorem dX10_let_44 : decode cX10_let 44 = .ok (.aload_n 0, 1) := by decide +kernel
theorem dX10_let_45 : decode cX10_let 45 = .ok (.getfield 7, 3) := by decide +kernel
theorem dX10_let_48 : decode cX10_let 48 = .ok (.iconst 1, 1) := by decide +kernel
theorem dX10_let_49 : decode cX10_let 49 = .ok (.iload_n 1, 1) := by decide +kernel
theorem dX10_let_50 : decode cX10_let 50 = .ok (.iadd, 1) := by decide +kernel
theorem dX10_let_51 : decode cX10_let 51 = .ok (.iload_n 2, 1) := by decide +kernel
theorem dX10_let_52 : decode cX10_let 52 = .ok (.iastore, 1) := by decide +kernel
theorem dX10_let_53 : decode cX10_let 53 = .ok (.iload_n 3, 1) := by decide +kernel
theorem dX10_let_54 : decode cX10_let 54 = .ok (.ireturn, 1) := by decide +kernel
theorem dX10_addFine_0 : decode cX10_addFine 0 = .ok (.aload_n 0, 1) := by decide +kernel
theorem dX10_addFine_1 : decode cX10_addFine 1 = .ok (.getfield 7, 3) := by decide +kernel
theorem dX10_addFine_4 : decode cX10_addFine 4 = .ok (.iconst 4, 1) := by decide +kernel
theorem dX10_addFine_5 : decode cX10_addFine 5 = .ok (.iaload, 1) := by decide +kernel
theorem dX10_addFine_6 : decode cX10_addFine 6 = .ok (.istore 5, 2) := by decide +kernel
theorem dX10_addFine_8 : decode cX10_addFine 8 = .ok (.aload_n 0, 1) := by decide +kernel
theorem dX10_addFine_9 : decode cX10_addFine 9 = .ok (.iload 5, 2) := by decide +kernel
theorem dX10_addFine_11 : decode cX10_addFine 11 = .ok (.iconst 0, 1) := by decide +kernel
theorem dX10_addFine_12 : decode cX10_addFine 12 = .ok (.iload_n 1, 1) := by decide +kernel
theorem dX10_addFine_13 : decode cX10_addFine 13 = .ok (.invokevirtual 66, 3) := by decide +kernel
theorem dX10_addFine_16 : decode cX10_addFine 16 = .ok (.aload_n 0, 1) := by decide +kernel
theorem dX10_addFine_17 : decode cX10_addFine 17 = .ok (.iload 5, 2) := by decide +kernel
theorem dX10_addFine_19 : decode cX10_addFine 19 = .ok (.iconst 1, 1) := by decide +kernel
theorem dX10_addFine_20 : decode cX10_addFine 20 = .ok (.iload_n 2, 1) := by decide +kernel
theorem dX10_addFine_21 : decode cX10_addFine 21 = .ok (.invokevirtual 66, 3) := by decide +kernel
theorem dX10_addFine_24 : decode cX10_addFine 24 = .ok (.aload_n 0, 1) := by decide +kernel
theorem dX10_addFine_25 : decode cX10_addFine 25 = .ok (.iload 5, 2) := by decide +kernel
theorem dX10_addFine_27 : decode cX10_addFine 27 = .ok (.iconst 2, 1) := by decide +kernel
theorem dX10_addFine_28 : decode cX10_addFine 28 = .ok (.iload_n 3, 1) := by decide +kernel
theorem dX10_addFine_29 : decode cX10_addFine 29 = .ok (.invokevirtual 66, 3) := by decide +kernel
theorem dX10_addFine_32 : decode cX10_addFine 32 = .ok (.aload_n 0, 1) := by decide +kernel
theorem dX10_addFine_33 : decode cX10_addFine 33 = .ok (.iload 5, 2) := by decide +kernel
theorem dX10_addFine_35 : decode cX10_addFine 35 = .ok (.iconst 3, 1) := by decide +kernel
theorem dX10_addFine_36 : decode cX10_addFine 36 = .ok (.iload 4, 2) := by decide +kernel
theorem dX10_addFine_38 : decode cX10_addFine 38 = .ok (.invokevirtual 66, 3) := by decide +kernel
theorem dX10_addFine_41 : decode cX10_addFine 41 = .ok (.aload_n 0, 1) := by decide +kernel
theorem dX10_addFine_42 : decode cX10_addFine 42 = .ok (.iload 5, 2) := by decide +kernel
theorem dX10_addFine_44 : decode cX10_addFine 44 = .ok (.iconst 4, 1) := by decide +kernel
theorem dX10_addFine_45 : decode cX10_addFine 45 = .ok (.iconst 0, 1) := by decide +kernel
theorem dX10_addFine_46 : decode cX10_addFine 46 = .ok (.invokevirtual 66, 3) := by decide +kernel
theorem dX10_addFine_49 : decode cX10_addFine 49 = .ok (.aload_n 0, 1) := by decide +kernel
theorem dX10_addFine_50 : decode cX10_addFine 50 = .ok (.getfield 7, 3) := by decide +kernel
theorem dX10_addFine_53 : decode cX10_addFine 53 = .ok (.iconst 4, 1) := by decide +kernel
theorem dX10_addFine_54 : decode cX10_addFine 54 = .ok (.dup2, 1) := by decide +kernel
theorem dX10_addFine_55 : decode cX10_addFine 55 = .ok (.iaload, 1) := by decide +kernel
theorem dX10_addFine_56 : decode cX10_addFine 56 = .ok (.iconst 1, 1) := by decide +kernel
theorem dX10_addFine_57 : decode cX10_addFine 57 = .ok (.iadd, 1) := by decide +kernel
theorem dX10_addFine_58 : decode cX10_addFine 58 = .ok (.iastore, 1) := by decide +kernel
theorem dX10_addFine_59 : decode cX10_addFine 59 = .ok (.return_, 1) := by decide +kernel
theorem dX10_fine_0 : decode cX10_fine 0 = .ok (.iload_n 1, 1) := by decide +kernel
theorem dX10_fine_1 : decode cX10_fine 1 = .ok (.invokestatic 70, 3) := by decide +kernel
theorem dX10_fine_4 : decode cX10_fine 4 = .ok (.ifCond .eq 20, 3) := by decide +kernel
theorem dX10_fine_7 : decode cX10_fine 7 = .ok (.iload_n 2, 1) := by decide +kernel
theorem dX10_fine_8 : decode cX10_fine 8 = .ok (.iconst 1, 1) := by decide +kernel
theorem dX10_fine_9 : decode cX10_fine 9 = .ok (.bipush 40, 2) := by decide +kernel
theorem dX10_fine_11 : decode cX10_fine 11 = .ok (.invokestatic 47, 3) := by decide +kernel
theorem dX10_fine_14 : decode cX10_fine 14 = .ok (.ifCond .eq 10, 3) := by decide +kernel
theorem dX10_fine_17 : decode cX10_fine 17 = .ok (.iload_n 3, 1) := by decide +kernel
theorem dX10_fine_18 : decode cX10_fine 18 = .ok (.invokestatic 59, 3) := by decide +kernel
theorem dX10_fine_21 : decode cX10_fine 21 = .ok (.ifCond .ne 10, 3) := by decide +kernel
theorem dX10_fine_24 : decode cX10_fine 24 = .ok (.aload_n 0, 1) := by decide +kernel
theorem dX10_fine_25 : decode cX10_fine 25 = .ok (.ldc 38, 2) := by decide +kernel
theorem dX10_fine_27 : decode cX10_fine 27 = .ok (.invokevirtual 63, 3) := by decide +kernel
theorem dX10_fine_30 : decode cX10_fine 30 = .ok (.ireturn, 1) := by decide +kernel
theorem dX10_fine_31 : decode cX10_fine 31 = .ok (.aload_n 0, 1) := by decide +kernel
theorem dX10_fine_32 : decode cX10_fine 32 = .ok (.getfield 7, 3) := by decide +kernel
theorem dX10_fine_35 : decode cX10_fine 35 = .ok (.iconst 4, 1) := by decide +kernel
theorem dX10_fine_36 : decode cX10_fine 36 = .ok (.iaload, 1) := by decide +kernel
theorem dX10_fine_37 : decode cX10_fine 37 = .ok (.bipush 10, 2) := by decide +kernel
theorem dX10_fine_39 : decode cX10_fine 39 = .ok (.if_icmp .ne 10, 3) := by decide +kernel
theorem dX10_fine_42 : decode cX10_fine 42 = .ok (.aload_n 0, 1) := by decide +kernel
theorem dX10_fine_43 : decode cX10_fine 43 = .ok (.ldc 73, 2) := by decide +kernel
theorem dX10_fine_45 : decode cX10_fine 45 = .ok (.invokevirtual 63, 3) := by decide +kernel
theorem dX10_fine_48 : decode cX10_fine 48 = .ok (.ireturn, 1) := by decide +kernel
theorem dX10_fine_49 : decode cX10_fine 49 = .ok (.aload_n 0, 1) := by decide +kernel
theorem dX10_fine_50 : decode cX10_fine 50 = .ok (.iload_n 1, 1) := by decide +kernel
theorem dX10_fine_51 : decode cX10_fine 51 = .ok (.iload_n 2, 1) := by decide +kernel
theorem dX10_fine_52 : decode cX10_fine 52 = .ok (.iload_n 3, 1) := by decide +kernel
theorem dX10_fine_53 : decode cX10_fine 53 = .ok (.iconst 3, 1) := by decide +kernel
theorem dX10_fine_54 : decode cX10_fine 54 = .ok (.invokevirtual 74, 3) := by decide +kernel
theorem dX10_fine_57 : decode cX10_fine 57 = .ok (.aload_n 0, 1) := by decide +kernel
theorem dX10_fine_58 : decode cX10_fine 58 = .ok (.getfield 7, 3) := by decide +kernel
theorem dX10_fine_61 : decode cX10_fine 61 = .ok (.iconst 4, 1) := by decide +kernel
theorem dX10_fine_62 : decode cX10_fine 62 = .ok (.iaload, 1) := by decide +kernel
theorem dX10_fine_63 : decode cX10_fine 63 = .ok (.iconst 1, 1) := by decide +kernel
theorem dX10_fine_64 : decode cX10_fine 64 = .ok (.isub, 1) := by decide +kernel
theorem dX10_fine_65 : decode cX10_fine 65 = .ok (.ireturn, 1) := by decide +kernel
theorem dX10_cutBy_0 : decode cX10_cutBy 0 = .ok (.iconst 0, 1) := by decide +kernel
theorem dX10_cutBy_1 : decode cX10_cutBy 1 = .ok (.istore_n 2, 1) := by decide +kernel
theorem dX10_cutBy_2 : decode cX10_cutBy 2 = .ok (.iconst 0, 1) := by decide +kernel
theorem dX10_cutBy_3 : decode cX10_cutBy 3 = .ok (.istore_n 3, 1) := by decide +kernel
theorem dX10_cutBy_4 : decode cX10_cutBy 4 = .ok (.iload_n 3, 1) := by decide +kernel
theorem dX10_cutBy_5 : decode cX10_cutBy 5 = .ok (.bipush 40, 2) := by decide +kernel
theorem dX10_cutBy_7 : decode cX10_cutBy 7 = .ok (.if_icmp .ge 37, 3) := by decide +kernel
theorem dX10_cutBy_10 : decode cX10_cutBy 10 = .ok (.iload_n 2, 1) := by decide +kernel
theorem dX10_cutBy_11 : decode cX10_cutBy 11 = .ok (.aload_n 0, 1) := by decide +kernel
theorem dX10_cutBy_12 : decode cX10_cutBy 12 = .ok (.iload_n 3, 1) := by decide +kernel
theorem dX10_cutBy_13 : decode cX10_cutBy 13 = .ok (.invokevirtual 78, 3) := by decide +kernel
theorem dX10_cutBy_16 : decode cX10_cutBy 16 = .ok (.ifCond .eq 19, 3) := by decide +kernel
theorem dX10_cutBy_19 : decode cX10_cutBy 19 = .ok (.aload_n 0, 1) := by decide +kernel
theorem dX10_cutBy_20 : decode cX10_cutBy 20 = .ok (.bipush 125, 2) := by decide +kernel
theorem dX10_cutBy_22 : decode cX10_cutBy 22 = .ok (.iload_n 3, 1) := by decide +kernel
theorem dX10_cutBy_23 : decode cX10_cutBy 23 = .ok (.iadd, 1) := by decide +kernel
theorem dX10_cutBy_24 : decode cX10_cutBy 24 = .ok (.invokevirtual 43, 3) := by decide +kernel
theorem dX10_cutBy_27 : decode cX10_cutBy 27 = .ok (.iload_n 1, 1) := by decide +kernel
theorem dX10_cutBy_28 : decode cX10_cutBy 28 = .ok (.if_icmp .ne 7, 3) := by decide +kernel
theorem dX10_cutBy_31 : decode cX10_cutBy 31 = .ok (.iconst 1, 1) := by decide +kernel
theorem dX10_cutBy_32 : decode cX10_cutBy 32 = .ok (.goto 4, 3) := by decide +kernel
theorem dX10_cutBy_35 : decode cX10_cutBy 35 = .ok (.iconst 0, 1) := by decide +kernel
theorem dX10_cutBy_36 : decode cX10_cutBy 36 = .ok (.iadd, 1) := by decide +kernel
theorem dX10_cutBy_37 : decode cX10_cutBy 37 = .ok (.istore_n 2, 1) := by decide +kernel
theorem dX10_cutBy_38 : decode cX10_cutBy 38 = .ok (.iinc 3 1, 3) := by decide +kernel
theorem dX10_cutBy_41 : decode cX10_cutBy 41 = .ok (.goto (-37), 3) := by decide +kernel
theorem dX10_cutBy_44 : decode cX10_cutBy 44 = .ok (.iload_n 2, 1) := by decide +kernel
theorem dX10_cutBy_45 : decode cX10_cutBy 45 = .ok (.ireturn, 1) := by decide +kernel
theorem dX10_of_0 : decode cX10_of 0 = .ok (.aload_n 0, 1) := by decide +kernel
theorem dX10_of_1 : decode cX10_of 1 = .ok (.iload_n 1, 1) := by decide +kernel
theorem dX10_of_2 : decode cX10_of 2 = .ok (.invokevirtual 81, 3) := by decide +kernel
theorem dX10_of_5 : decode cX10_of 5 = .ok (.ifCond .eq 13, 3) := by decide +kernel
theorem dX10_of_8 : decode cX10_of 8 = .ok (.iload_n 2, 1) := by decide +kernel
theorem dX10_of_9 : decode cX10_of 9 = .ok (.iconst 0, 1) := by decide +kernel
theorem dX10_of_10 : decode cX10_of 10 = .ok (.bipush 7, 2) := by decide +kernel
theorem dX10_of_12 : decode cX10_of 12 = .ok (.invokestatic 47, 3) := by decide +kernel
theorem dX10_of_15 : decode cX10_of 15 = .ok (.ifCond .ne 10, 3) := by decide +kernel
theorem dX10_of_18 : decode cX10_of 18 = .ok (.aload_n 0, 1) := by decide +kernel
theorem dX10_of_19 : decode cX10_of 19 = .ok (.ldc 38, 2) := by decide +kernel
theorem dX10_of_21 : decode cX10_of 21 = .ok (.invokevirtual 63, 3) := by decide +kernel
theorem dX10_of_24 : decode cX10_of 24 = .ok (.ireturn, 1) := by decide +kernel
theorem dX10_of_25 : decode cX10_of 25 = .ok (.iload_n 2, 1) := by decide +kernel
theorem dX10_of_26 : decode cX10_of 26 = .ok (.tableswitch 50 5 7 #[26, 32, 44], 26) := by decide +kernel
theorem dX10_of_52 : decode cX10_of 52 = .ok (.aload_n 0, 1) := by decide +kernel
theorem dX10_of_53 : decode cX10_of 53 = .ok (.iload_n 1, 1) := by decide +kernel
theorem dX10_of_54 : decode cX10_of 54 = .ok (.invokevirtual 84, 3) := by decide +kernel
theorem dX10_of_57 : decode cX10_of 57 = .ok (.ireturn, 1) := by decide +kernel
theorem dX10_of_58 : decode cX10_of 58 = .ok (.aload_n 0, 1) := by decide +kernel
theorem dX10_of_59 : decode cX10_of 59 = .ok (.iload_n 1, 1) := by decide +kernel
theorem dX10_of_60 : decode cX10_of 60 = .ok (.aload_n 0, 1) := by decide +kernel
theorem dX10_of_61 : decode cX10_of 61 = .ok (.iload_n 1, 1) := by decide +kernel
theorem dX10_of_62 : decode cX10_of 62 = .ok (.iconst 2, 1) := by decide +kernel
theorem dX10_of_63 : decode cX10_of 63 = .ok (.invokevirtual 51, 3) := by decide +kernel
theorem dX10_of_66 : decode cX10_of 66 = .ok (.invokevirtual 87, 3) := by decide +kernel
theorem dX10_of_69 : decode cX10_of 69 = .ok (.ireturn, 1) := by decide +kernel
theorem dX10_of_70 : decode cX10_of 70 = .ok (.aload_n 0, 1) := by decide +kernel
theorem dX10_of_71 : decode cX10_of 71 = .ok (.iload_n 1, 1) := by decide +kernel
theorem dX10_of_72 : decode cX10_of 72 = .ok (.invokevirtual 90, 3) := by decide +kernel
theorem dX10_of_75 : decode cX10_of 75 = .ok (.ireturn, 1) := by decide +kernel
theorem dX10_of_76 : decode cX10_of 76 = .ok (.aload_n 0, 1) := by decide +kernel
theorem dX10_of_77 : decode cX10_of 77 = .ok (.iload_n 1, 1) := by decide +kernel
theorem dX10_of_78 : decode cX10_of 78 = .ok (.iload_n 2, 1) := by decide +kernel
theorem dX10_of_79 : decode cX10_of 79 = .ok (.invokevirtual 51, 3) := by decide +kernel
theorem dX10_of_82 : decode cX10_of 82 = .ok (.ireturn, 1) := by decide +kernel
theorem dX10_isPart_0 : decode cX10_isPart 0 = .ok (.iload_n 0, 1) := by decide +kernel
theorem dX10_isPart_1 : decode cX10_isPart 1 = .ok (.iconst 1, 1) := by decide +kernel
theorem dX10_isPart_2 : decode cX10_isPart 2 = .ok (.if_icmp .ne 13, 3) := by decide +kernel
theorem dX10_isPart_5 : decode cX10_isPart 5 = .ok (.iload_n 1, 1) := by decide +kernel
theorem dX10_isPart_6 : decode cX10_isPart 6 = .ok (.iconst 0, 1) := by decide +kernel
theorem dX10_isPart_7 : decode cX10_isPart 7 = .ok (.bipush 40, 2) := by decide +kernel
theorem dX10_isPart_9 : decode cX10_isPart 9 = .ok (.invokestatic 47, 3) := by decide +kernel
theorem dX10_isPart_12 : decode cX10_isPart 12 = .ok (.goto 35, 3) := by decide +kernel
theorem dX10_isPart_15 : decode cX10_isPart 15 = .ok (.iload_n 0, 1) := by decide +kernel
theorem dX10_isPart_16 : decode cX10_isPart 16 = .ok (.iconst 2, 1) := by decide +kernel
theorem dX10_isPart_17 : decode cX10_isPart 17 = .ok (.if_icmp .ne 10, 3) := by decide +kernel
theorem dX10_isPart_20 : decode cX10_isPart 20 = .ok (.iload_n 1, 1) := by decide +kernel
theorem dX10_isPart_21 : decode cX10_isPart 21 = .ok (.invokestatic 59, 3) := by decide +kernel
theorem dX10_isPart_24 : decode cX10_isPart 24 = .ok (.goto 23, 3) := by decide +kernel
theorem dX10_isPart_27 : decode cX10_isPart 27 = .ok (.iload_n 0, 1) := by decide +kernel
theorem dX10_isPart_28 : decode cX10_isPart 28 = .ok (.iconst 3, 1) := by decide +kernel
theorem dX10_isPart_29 : decode cX10_isPart 29 = .ok (.if_icmp .ne 17, 3) := by decide +kernel
theorem dX10_isPart_32 : decode cX10_isPart 32 = .ok (.iload_n 1, 1) := by decide +kernel
theorem dX10_isPart_33 : decode cX10_isPart 33 = .ok (.iconst 1, 1) := by decide +kernel
theorem dX10_isPart_34 : decode cX10_isPart 34 = .ok (.bipush 9, 2) := by decide +kernel
theorem dX10_isPart_36 : decode cX10_isPart 36 = .ok (.invokestatic 47, 3) := by decide +kernel
theorem dX10_isPart_39 : decode cX10_isPart 39 = .ok (.ifCond .eq 7, 3) := by decide +kernel
theorem dX10_isPart_42 : decode cX10_isPart 42 = .ok (.iconst 1, 1) := by decide +kernel
theorem dX10_isPart_43 : decode cX10_isPart 43 = .ok (.goto 4, 3) := by decide +kernel
theorem dX10_isPart_46 : decode cX10_isPart 46 = .ok (.iconst 0, 1) := by decide +kernel
theorem dX10_isPart_47 : decode cX10_isPart 47 = .ok (.ireturn, 1) := by decide +kernel
theorem dX10_set_0 : decode cX10_set 0 = .ok (.aload_n 0, 1) := by decide +kernel
theorem dX10_set_1 : decode cX10_set 1 = .ok (.iload_n 1, 1) := by decide +kernel
theorem dX10_set_2 : decode cX10_set 2 = .ok (.invokevirtual 81, 3) := by decide +kernel
theorem dX10_set_5 : decode cX10_set 5 = .ok (.ifCond .eq 11, 3) := by decide +kernel
theorem dX10_set_8 : decode cX10_set 8 = .ok (.iload_n 2, 1) := by decide +kernel
theorem dX10_set_9 : decode cX10_set 9 = .ok (.iload_n 3, 1) := by decide +kernel
theorem dX10_set_10 : decode cX10_set 10 = .ok (.invokestatic 93, 3) := by decide +kernel
theorem dX10_set_13 : decode cX10_set 13 = .ok (.ifCond .ne 10, 3) := by decide +kernel
theorem dX10_set_16 : decode cX10_set 16 = .ok (.aload_n 0, 1) := by decide +kernel
theorem dX10_set_17 : decode cX10_set 17 = .ok (.ldc 38, 2) := by decide +kernel
theorem dX10_set_19 : decode cX10_set 19 = .ok (.invokevirtual 63, 3) := by decide +kernel
theorem dX10_set_22 : decode cX10_set 22 = .ok (.ireturn, 1) := by decide +kernel
theorem dX10_set_23 : decode cX10_set 23 = .ok (.aload_n 0, 1) := by decide +kernel
theorem dX10_set_24 : decode cX10_set 24 = .ok (.iload_n 1, 1) := by decide +kernel
theorem dX10_set_25 : decode cX10_set 25 = .ok (.iload_n 2, 1) := by decide +kernel
theorem dX10_set_26 : decode cX10_set 26 = .ok (.invokevirtual 51, 3) := by decide +kernel
theorem dX10_set_29 : decode cX10_set 29 = .ok (.istore 4, 2) := by decide +kernel
theorem dX10_set_31 : decode cX10_set 31 = .ok (.aload_n 0, 1) := by decide +kernel
theorem dX10_set_32 : decode cX10_set 32 = .ok (.iload_n 1, 1) := by decide +kernel
theorem dX10_set_33 : decode cX10_set 33 = .ok (.iload_n 2, 1) := by decide +kernel
theorem dX10_set_34 : decode cX10_set 34 = .ok (.iload_n 3, 1) := by decide +kernel
theorem dX10_set_35 : decode cX10_set 35 = .ok (.invokevirtual 66, 3) := by decide +kernel
theorem dX10_set_38 : decode cX10_set 38 = .ok (.iload_n 2, 1) := by decide +kernel
theorem dX10_set_39 : decode cX10_set 39 = .ok (.iconst 2, 1) := by decide +kernel
theorem dX10_set_40 : decode cX10_set 40 = .ok (.if_icmp .ne 10, 3) := by decide +kernel
theorem dX10_set_43 : decode cX10_set 43 = .ok (.aload_n 0, 1) := by decide +kernel
theorem dX10_set_44 : decode cX10_set 44 = .ok (.iload_n 1, 1) := by decide +kernel
theorem dX10_set_45 : decode cX10_set 45 = .ok (.iconst 4, 1) := by decide +kernel
theorem dX10_set_46 : decode cX10_set 46 = .ok (.iconst 0, 1) := by decide +kernel
theorem dX10_set_47 : decode cX10_set 47 = .ok (.invokevirtual 66, 3) := by decide +kernel
theorem dX10_set_50 : decode cX10_set 50 = .ok (.iload 4, 2) := by decide +kernel
theorem dX10_set_52 : decode cX10_set 52 = .ok (.ireturn, 1) := by decide +kernel
theorem dX10_turn_0 : decode cX10_turn 0 = .ok (.aload_n 0, 1) := by decide +kernel
theorem dX10_turn_1 : decode cX10_turn 1 = .ok (.iload_n 1, 1) := by decide +kernel
theorem dX10_turn_2 : decode cX10_turn 2 = .ok (.invokevirtual 81, 3) := by decide +kernel
theorem dX10_turn_5 : decode cX10_turn 5 = .ok (.ifCond .eq 10, 3) := by decide +kernel
theorem dX10_turn_8 : decode cX10_turn 8 = .ok (.iload_n 2, 1) := by decide +kernel
theorem dX10_turn_9 : decode cX10_turn 9 = .ok (.invokestatic 70, 3) := by decide +kernel
theorem dX10_turn_12 : decode cX10_turn 12 = .ok (.ifCond .ne 10, 3) := by decide +kernel
theorem dX10_turn_15 : decode cX10_turn 15 = .ok (.aload_n 0, 1) := by decide +kernel
theorem dX10_turn_16 : decode cX10_turn 16 = .ok (.ldc 38, 2) := by decide +kernel
theorem dX10_turn_18 : decode cX10_turn 18 = .ok (.invokevirtual 63, 3) := by decide +kernel
theorem dX10_turn_21 : decode cX10_turn 21 = .ok (.ireturn, 1) := by decide +kernel
theorem dX10_turn_22 : decode cX10_turn 22 = .ok (.aload_n 0, 1) := by decide +kernel
theorem dX10_turn_23 : decode cX10_turn 23 = .ok (.iload_n 1, 1) := by decide +kernel
theorem dX10_turn_24 : decode cX10_turn 24 = .ok (.iconst 0, 1) := by decide +kernel
theorem dX10_turn_25 : decode cX10_turn 25 = .ok (.invokevirtual 51, 3) := by decide +kernel
theorem dX10_turn_28 : decode cX10_turn 28 = .ok (.istore_n 3, 1) := by decide +kernel
theorem dX10_turn_29 : decode cX10_turn 29 = .ok (.aload_n 0, 1) := by decide +kernel
theorem dX10_turn_30 : decode cX10_turn 30 = .ok (.iload_n 1, 1) := by decide +kernel
theorem dX10_turn_31 : decode cX10_turn 31 = .ok (.iconst 0, 1) := by decide +kernel
theorem dX10_turn_32 : decode cX10_turn 32 = .ok (.iload_n 2, 1) := by decide +kernel
theorem dX10_turn_33 : decode cX10_turn 33 = .ok (.invokevirtual 66, 3) := by decide +kernel
theorem dX10_turn_36 : decode cX10_turn 36 = .ok (.iload_n 3, 1) := by decide +kernel
theorem dX10_turn_37 : decode cX10_turn 37 = .ok (.ireturn, 1) := by decide +kernel
theorem dX10_isUnder_0 : decode cX10_isUnder 0 = .ok (.iload_n 1, 1) := by decide +kernel
theorem dX10_isUnder_1 : decode cX10_isUnder 1 = .ok (.ifCond .eq 28, 3) := by decide +kernel
theorem dX10_isUnder_4 : decode cX10_isUnder 4 = .ok (.iload_n 1, 1) := by decide +kernel
theorem dX10_isUnder_5 : decode cX10_isUnder 5 = .ok (.iload_n 0, 1) := by decide +kernel
theorem dX10_isUnder_6 : decode cX10_isUnder 6 = .ok (.if_icmp .eq 23, 3) := by decide +kernel
theorem dX10_isUnder_9 : decode cX10_isUnder 9 = .ok (.iload_n 1, 1) := by decide +kernel
theorem dX10_isUnder_10 : decode cX10_isUnder 10 = .ok (.iconst 3, 1) := by decide +kernel
theorem dX10_isUnder_11 : decode cX10_isUnder 11 = .ok (.if_icmp .ne 8, 3) := by decide +kernel
theorem dX10_isUnder_14 : decode cX10_isUnder 14 = .ok (.iload_n 0, 1) := by decide +kernel
theorem dX10_isUnder_15 : decode cX10_isUnder 15 = .ok (.iconst 4, 1) := by decide +kernel
theorem dX10_isUnder_16 : decode cX10_isUnder 16 = .ok (.if_icmp .eq 13, 3) := by decide +kernel
theorem dX10_isUnder_19 : decode cX10_isUnder 19 = .ok (.iload_n 1, 1) := by decide +kernel
theorem dX10_isUnder_20 : decode cX10_isUnder 20 = .ok (.iconst 2, 1) := by decide +kernel
theorem dX10_isUnder_21 : decode cX10_isUnder 21 = .ok (.if_icmp .ne 12, 3) := by decide +kernel
theorem dX10_isUnder_24 : decode cX10_isUnder 24 = .ok (.iload_n 0, 1) := by decide +kernel
theorem dX10_isUnder_25 : decode cX10_isUnder 25 = .ok (.iconst 5, 1) := by decide +kernel
theorem dX10_isUnder_26 : decode cX10_isUnder 26 = .ok (.if_icmp .ne 7, 3) := by decide +kernel
theorem dX10_isUnder_29 : decode cX10_isUnder 29 = .ok (.iconst 1, 1) := by decide +kernel
theorem dX10_isUnder_30 : decode cX10_isUnder 30 = .ok (.goto 4, 3) := by decide +kernel
theorem dX10_isUnder_33 : decode cX10_isUnder 33 = .ok (.iconst 0, 1) := by decide +kernel
theorem dX10_isUnder_34 : decode cX10_isUnder 34 = .ok (.ireturn, 1) := by decide +kernel
theorem dX10_as_0 : decode cX10_as 0 = .ok (.aload_n 0, 1) := by decide +kernel
theorem dX10_as_1 : decode cX10_as 1 = .ok (.iload_n 1, 1) := by decide +kernel
theorem dX10_as_2 : decode cX10_as 2 = .ok (.invokevirtual 81, 3) := by decide +kernel
theorem dX10_as_5 : decode cX10_as 5 = .ok (.ifCond .eq 10, 3) := by decide +kernel
theorem dX10_as_8 : decode cX10_as 8 = .ok (.iload_n 2, 1) := by decide +kernel
theorem dX10_as_9 : decode cX10_as 9 = .ok (.invokestatic 70, 3) := by decide +kernel
theorem dX10_as_12 : decode cX10_as 12 = .ok (.ifCond .ne 10, 3) := by decide +kernel
theorem dX10_as_15 : decode cX10_as 15 = .ok (.aload_n 0, 1) := by decide +kernel
theorem dX10_as_16 : decode cX10_as 16 = .ok (.ldc 38, 2) := by decide +kernel
theorem dX10_as_18 : decode cX10_as 18 = .ok (.invokevirtual 63, 3) := by decide +kernel
theorem dX10_as_21 : decode cX10_as 21 = .ok (.ireturn, 1) := by decide +kernel
theorem dX10_as_22 : decode cX10_as 22 = .ok (.aload_n 0, 1) := by decide +kernel
theorem dX10_as_23 : decode cX10_as 23 = .ok (.iload_n 1, 1) := by decide +kernel
theorem dX10_as_24 : decode cX10_as 24 = .ok (.iconst 0, 1) := by decide +kernel
theorem dX10_as_25 : decode cX10_as 25 = .ok (.invokevirtual 51, 3) := by decide +kernel
theorem dX10_as_28 : decode cX10_as 28 = .ok (.iload_n 2, 1) := by decide +kernel
theorem dX10_as_29 : decode cX10_as 29 = .ok (.invokestatic 97, 3) := by decide +kernel
theorem dX10_as_32 : decode cX10_as 32 = .ok (.ifCond .eq 12, 3) := by decide +kernel
theorem dX10_as_35 : decode cX10_as 35 = .ok (.aload_n 0, 1) := by decide +kernel
theorem dX10_as_36 : decode cX10_as 36 = .ok (.iload_n 1, 1) := by decide +kernel
theorem dX10_as_37 : decode cX10_as 37 = .ok (.iconst 1, 1) := by decide +kernel
theorem dX10_as_38 : decode cX10_as 38 = .ok (.invokevirtual 51, 3) := by decide +kernel
theorem dX10_as_41 : decode cX10_as 41 = .ok (.goto 9, 3) := by decide +kernel
theorem dX10_as_44 : decode cX10_as 44 = .ok (.aload_n 0, 1) := by decide +kernel
theorem dX10_as_45 : decode cX10_as 45 = .ok (.ldc 100, 2) := by decide +kernel
theorem dX10_as_47 : decode cX10_as 47 = .ok (.invokevirtual 63, 3) := by decide +kernel
theorem dX10_as_50 : decode cX10_as 50 = .ok (.ireturn, 1) := by decide +kernel
theorem dX10_placeOf_0 : decode cX10_placeOf 0 = .ok (.iload_n 1, 1) := by decide +kernel
theorem dX10_placeOf_1 : decode cX10_placeOf 1 = .ok (.invokestatic 59, 3) := by decide +kernel
theorem dX10_placeOf_4 : decode cX10_placeOf 4 = .ok (.ifCond .eq 12, 3) := by decide +kernel
theorem dX10_placeOf_7 : decode cX10_placeOf 7 = .ok (.iload_n 2, 1) := by decide +kernel
theorem dX10_placeOf_8 : decode cX10_placeOf 8 = .ok (.iconst 0, 1) := by decide +kernel
theorem dX10_placeOf_9 : decode cX10_placeOf 9 = .ok (.iconst 4, 1) := by decide +kernel
theorem dX10_placeOf_10 : decode cX10_placeOf 10 = .ok (.invokestatic 47, 3) := by decide +kernel
theorem dX10_placeOf_13 : decode cX10_placeOf 13 = .ok (.ifCond .ne 10, 3) := by decide +kernel
theorem dX10_placeOf_16 : decode cX10_placeOf 16 = .ok (.aload_n 0, 1) := by decide +kernel
theorem dX10_placeOf_17 : decode cX10_placeOf 17 = .ok (.ldc 38, 2) := by decide +kernel
theorem dX10_placeOf_19 : decode cX10_placeOf 19 = .ok (.invokevirtual 63, 3) := by decide +kernel
theorem dX10_placeOf_22 : decode cX10_placeOf 22 = .ok (.ireturn, 1) := by decide +kernel
theorem dX10_placeOf_23 : decode cX10_placeOf 23 = .ok (.iload_n 2, 1) := by decide +kernel
theorem dX10_placeOf_24 : decode cX10_placeOf 24 = .ok (.iconst 1, 1) := by decide +kernel
theorem dX10_placeOf_25 : decode cX10_placeOf 25 = .ok (.if_icmp .le 18, 3) := by decide +kernel
theorem dX10_placeOf_28 : decode cX10_placeOf 28 = .ok (.aload_n 0, 1) := by decide +kernel
theorem dX10_placeOf_29 : decode cX10_placeOf 29 = .ok (.iload_n 1, 1) := by decide +kernel
theorem dX10_placeOf_30 : decode cX10_placeOf 30 = .ok (.invokevirtual 78, 3) := by decide +kernel
theorem dX10_placeOf_33 : decode cX10_placeOf 33 = .ok (.ifCond .ne 10, 3) := by decide +kernel
theorem dX10_placeOf_36 : decode cX10_placeOf 36 = .ok (.aload_n 0, 1) := by decide +kernel
theorem dX10_placeOf_37 : decode cX10_placeOf 37 = .ok (.ldc 101, 2) := by decide +kernel
theorem dX10_placeOf_39 : decode cX10_placeOf 39 = .ok (.invokevirtual 63, 3) := by decide +kernel
theorem dX10_placeOf_42 : decode cX10_placeOf 42 = .ok (.ireturn, 1) := by decide +kernel
theorem dX10_placeOf_43 : decode cX10_placeOf 43 = .ok (.aload_n 0, 1) := by decide +kernel
theorem dX10_placeOf_44 : decode cX10_placeOf 44 = .ok (.getfield 7, 3) := by decide +kernel
theorem dX10_placeOf_47 : decode cX10_placeOf 47 = .ok (.iconst 5, 1) := by decide +kernel
theorem dX10_placeOf_48 : decode cX10_placeOf 48 = .ok (.bipush 40, 2) := by decide +kernel
theorem dX10_placeOf_50 : decode cX10_placeOf 50 = .ok (.iload_n 2, 1) := by decide +kernel
theorem dX10_placeOf_51 : decode cX10_placeOf 51 = .ok (.imul, 1) := by decide +kernel
theorem dX10_placeOf_52 : decode cX10_placeOf 52 = .ok (.iadd, 1) := by decide +kernel
theorem dX10_placeOf_53 : decode cX10_placeOf 53 = .ok (.iload_n 1, 1) := by decide +kernel
theorem dX10_placeOf_54 : decode cX10_placeOf 54 = .ok (.iadd, 1) := by decide +kernel
theorem dX10_placeOf_55 : decode cX10_placeOf 55 = .ok (.iaload, 1) := by decide +kernel
theorem dX10_placeOf_56 : decode cX10_placeOf 56 = .ok (.ireturn, 1) := by decide +kernel
theorem dX10_wholeSet_0 : decode cX10_wholeSet 0 = .ok (.lconst 0, 1) := by decide +kernel
theorem dX10_wholeSet_1 : decode cX10_wholeSet 1 = .ok (.lstore_n 1, 1) := by decide +kernel
theorem dX10_wholeSet_2 : decode cX10_wholeSet 2 = .ok (.iconst 0, 1) := by decide +kernel
theorem dX10_wholeSet_3 : decode cX10_wholeSet 3 = .ok (.istore_n 3, 1) := by decide +kernel
theorem dX10_wholeSet_4 : decode cX10_wholeSet 4 = .ok (.iload_n 3, 1) := by decide +kernel
theorem dX10_wholeSet_5 : decode cX10_wholeSet 5 = .ok (.bipush 40, 2) := by decide +kernel
theorem dX10_wholeSet_7 : decode cX10_wholeSet 7 = .ok (.if_icmp .ge 27, 3) := by decide +kernel
theorem dX10_wholeSet_10 : decode cX10_wholeSet 10 = .ok (.lload_n 1, 1) := by decide +kernel
theorem dX10_wholeSet_11 : decode cX10_wholeSet 11 = .ok (.aload_n 0, 1) := by decide +kernel
theorem dX10_wholeSet_12 : decode cX10_wholeSet 12 = .ok (.iload_n 3, 1) := by decide +kernel
theorem dX10_wholeSet_13 : decode cX10_wholeSet 13 = .ok (.invokevirtual 78, 3) := by decide +kernel
theorem dX10_wholeSet_16 : decode cX10_wholeSet 16 = .ok (.ifCond .eq 9, 3) := by decide +kernel
theorem dX10_wholeSet_19 : decode cX10_wholeSet 19 = .ok (.lconst 1, 1) := by decide +kernel
theorem dX10_wholeSet_20 : decode cX10_wholeSet 20 = .ok (.iload_n 3, 1) := by decide +kernel
theorem dX10_wholeSet_21 : decode cX10_wholeSet 21 = .ok (.lshl, 1) := by decide +kernel
theorem dX10_wholeSet_22 : decode cX10_wholeSet 22 = .ok (.goto 4, 3) := by decide +kernel
theorem dX10_wholeSet_25 : decode cX10_wholeSet 25 = .ok (.lconst 0, 1) := by decide +kernel
theorem dX10_wholeSet_26 : decode cX10_wholeSet 26 = .ok (.lor, 1) := by decide +kernel
theorem dX10_wholeSet_27 : decode cX10_wholeSet 27 = .ok (.lstore_n 1, 1) := by decide +kernel
theorem dX10_wholeSet_28 : decode cX10_wholeSet 28 = .ok (.iinc 3 1, 3) := by decide +kernel
theorem dX10_wholeSet_31 : decode cX10_wholeSet 31 = .ok (.goto (-27), 3) := by decide +kernel
theorem dX10_wholeSet_34 : decode cX10_wholeSet 34 = .ok (.lload_n 1, 1) := by decide +kernel
theorem dX10_wholeSet_35 : decode cX10_wholeSet 35 = .ok (.lreturn, 1) := by decide +kernel
theorem dX10_whole_0 : decode cX10_whole 0 = .ok (.aload_n 0, 1) := by decide +kernel
theorem dX10_whole_1 : decode cX10_whole 1 = .ok (.invokevirtual 102, 3) := by decide +kernel
theorem dX10_whole_4 : decode cX10_whole 4 = .ok (.lreturn, 1) := by decide +kernel
theorem dX10_cuts_0 : decode cX10_cuts 0 = .ok (.aload_n 0, 1) := by decide +kernel
theorem dX10_cuts_1 : decode cX10_cuts 1 = .ok (.getfield 7, 3) := by decide +kernel
theorem dX10_cuts_4 : decode cX10_cuts 4 = .ok (.aload_n 0, 1) := by decide +kernel
theorem dX10_cuts_5 : decode cX10_cuts 5 = .ok (.getfield 39, 3) := by decide +kernel
theorem dX10_cuts_8 : decode cX10_cuts 8 = .ok (.bipush 45, 2) := by decide +kernel
theorem dX10_cuts_10 : decode cX10_cuts 10 = .ok (.iadd, 1) := by decide +kernel
theorem dX10_cuts_11 : decode cX10_cuts 11 = .ok (.iload_n 1, 1) := by decide +kernel
theorem dX10_cuts_12 : decode cX10_cuts 12 = .ok (.iadd, 1) := by decide +kernel
theorem dX10_cuts_13 : decode cX10_cuts 13 = .ok (.iconst 1, 1) := by decide +kernel
theorem dX10_cuts_14 : decode cX10_cuts 14 = .ok (.iastore, 1) := by decide +kernel
theorem dX10_cuts_15 : decode cX10_cuts 15 = .ok (.aload_n 0, 1) := by decide +kernel
theorem dX10_cuts_16 : decode cX10_cuts 16 = .ok (.getfield 7, 3) := by decide +kernel
theorem dX10_cuts_19 : decode cX10_cuts 19 = .ok (.aload_n 0, 1) := by decide +kernel
theorem dX10_cuts_20 : decode cX10_cuts 20 = .ok (.getfield 39, 3) := by decide +kernel
theorem dX10_cuts_23 : decode cX10_cuts 23 = .ok (.bipush 85, 2) := by decide +kernel
theorem dX10_cuts_25 : decode cX10_cuts 25 = .ok (.iadd, 1) := by decide +kernel
theorem dX10_cuts_26 : decode cX10_cuts 26 = .ok (.iload_n 1, 1) := by decide +kernel
theorem dX10_cuts_27 : decode cX10_cuts 27 = .ok (.iadd, 1) := by decide +kernel
theorem dX10_cuts_28 : decode cX10_cuts 28 = .ok (.iload_n 2, 1) := by decide +kernel
theorem dX10_cuts_29 : decode cX10_cuts 29 = .ok (.iastore, 1) := by decide +kernel
theorem dX10_cuts_30 : decode cX10_cuts 30 = .ok (.aload_n 0, 1) := by decide +kernel
theorem dX10_cuts_31 : decode cX10_cuts 31 = .ok (.getfield 7, 3) := by decide +kernel
theorem dX10_cuts_34 : decode cX10_cuts 34 = .ok (.aload_n 0, 1) := by decide +kernel
theorem dX10_cuts_35 : decode cX10_cuts 35 = .ok (.getfield 39, 3) := by decide +kernel
theorem dX10_cuts_38 : decode cX10_cuts 38 = .ok (.bipush 125, 2) := by decide +kernel
theorem dX10_cuts_40 : decode cX10_cuts 40 = .ok (.iadd, 1) := by decide +kernel
theorem dX10_cuts_41 : decode cX10_cuts 41 = .ok (.iload_n 1, 1) := by decide +kernel
theorem dX10_cuts_42 : decode cX10_cuts 42 = .ok (.iadd, 1) := by decide +kernel
theorem dX10_cuts_43 : decode cX10_cuts 43 = .ok (.iload_n 3, 1) := by decide +kernel
theorem dX10_cuts_44 : decode cX10_cuts 44 = .ok (.iastore, 1) := by decide +kernel
theorem dX10_cuts_45 : decode cX10_cuts 45 = .ok (.aload_n 0, 1) := by decide +kernel
theorem dX10_cuts_46 : decode cX10_cuts 46 = .ok (.getfield 7, 3) := by decide +kernel
theorem dX10_cuts_49 : decode cX10_cuts 49 = .ok (.aload_n 0, 1) := by decide +kernel
theorem dX10_cuts_50 : decode cX10_cuts 50 = .ok (.getfield 39, 3) := by decide +kernel
theorem dX10_cuts_53 : decode cX10_cuts 53 = .ok (.sipush 165, 3) := by decide +kernel
theorem dX10_cuts_56 : decode cX10_cuts 56 = .ok (.iadd, 1) := by decide +kernel
theorem dX10_cuts_57 : decode cX10_cuts 57 = .ok (.iload_n 1, 1) := by decide +kernel
theorem dX10_cuts_58 : decode cX10_cuts 58 = .ok (.iadd, 1) := by decide +kernel
theorem dX10_cuts_59 : decode cX10_cuts 59 = .ok (.aload_n 0, 1) := by decide +kernel
theorem dX10_cuts_60 : decode cX10_cuts 60 = .ok (.iconst 0, 1) := by decide +kernel
theorem dX10_cuts_61 : decode cX10_cuts 61 = .ok (.invokevirtual 43, 3) := by decide +kernel
theorem dX10_cuts_64 : decode cX10_cuts 64 = .ok (.iastore, 1) := by decide +kernel
theorem dX10_cuts_65 : decode cX10_cuts 65 = .ok (.return_, 1) := by decide +kernel
theorem dX10_breaks_0 : decode cX10_breaks 0 = .ok (.aload_n 0, 1) := by decide +kernel
theorem dX10_breaks_1 : decode cX10_breaks 1 = .ok (.getfield 7, 3) := by decide +kernel
theorem dX10_breaks_4 : decode cX10_breaks 4 = .ok (.aload_n 0, 1) := by decide +kernel
theorem dX10_breaks_5 : decode cX10_breaks 5 = .ok (.getfield 39, 3) := by decide +kernel
theorem dX10_breaks_8 : decode cX10_breaks 8 = .ok (.bipush 45, 2) := by decide +kernel
theorem dX10_breaks_10 : decode cX10_breaks 10 = .ok (.iadd, 1) := by decide +kernel
theorem dX10_breaks_11 : decode cX10_breaks 11 = .ok (.iload_n 1, 1) := by decide +kernel
theorem dX10_breaks_12 : decode cX10_breaks 12 = .ok (.iadd, 1) := by decide +kernel
theorem dX10_breaks_13 : decode cX10_breaks 13 = .ok (.iconst 0, 1) := by decide +kernel
theorem dX10_breaks_14 : decode cX10_breaks 14 = .ok (.iastore, 1) := by decide +kernel
theorem dX10_breaks_15 : decode cX10_breaks 15 = .ok (.aload_n 0, 1) := by decide +kernel
theorem dX10_breaks_16 : decode cX10_breaks 16 = .ok (.getfield 7, 3) := by decide +kernel
theorem dX10_breaks_19 : decode cX10_breaks 19 = .ok (.aload_n 0, 1) := by decide +kernel
theorem dX10_breaks_20 : decode cX10_breaks 20 = .ok (.getfield 39, 3) := by decide +kernel
theorem dX10_breaks_23 : decode cX10_breaks 23 = .ok (.bipush 85, 2) := by decide +kernel
theorem dX10_breaks_25 : decode cX10_breaks 25 = .ok (.iadd, 1) := by decide +kernel
theorem dX10_breaks_26 : decode cX10_breaks 26 = .ok (.iload_n 1, 1) := by decide +kernel
theorem dX10_breaks_27 : decode cX10_breaks 27 = .ok (.iadd, 1) := by decide +kernel
theorem dX10_breaks_28 : decode cX10_breaks 28 = .ok (.iconst 0, 1) := by decide +kernel
theorem dX10_breaks_29 : decode cX10_breaks 29 = .ok (.iastore, 1) := by decide +kernel
theorem dX10_breaks_30 : decode cX10_breaks 30 = .ok (.aload_n 0, 1) := by decide +kernel
theorem dX10_breaks_31 : decode cX10_breaks 31 = .ok (.getfield 7, 3) := by decide +kernel
theorem dX10_breaks_34 : decode cX10_breaks 34 = .ok (.aload_n 0, 1) := by decide +kernel
theorem dX10_breaks_35 : decode cX10_breaks 35 = .ok (.getfield 39, 3) := by decide +kernel
theorem dX10_breaks_38 : decode cX10_breaks 38 = .ok (.bipush 125, 2) := by decide +kernel
theorem dX10_breaks_40 : decode cX10_breaks 40 = .ok (.iadd, 1) := by decide +kernel
theorem dX10_breaks_41 : decode cX10_breaks 41 = .ok (.iload_n 1, 1) := by decide +kernel
theorem dX10_breaks_42 : decode cX10_breaks 42 = .ok (.iadd, 1) := by decide +kernel
theorem dX10_breaks_43 : decode cX10_breaks 43 = .ok (.iconst 0, 1) := by decide +kernel
theorem dX10_breaks_44 : decode cX10_breaks 44 = .ok (.iastore, 1) := by decide +kernel
theorem dX10_breaks_45 : decode cX10_breaks 45 = .ok (.aload_n 0, 1) := by decide +kernel
theorem dX10_breaks_46 : decode cX10_breaks 46 = .ok (.getfield 7, 3) := by decide +kernel
theorem dX10_breaks_49 : decode cX10_breaks 49 = .ok (.aload_n 0, 1) := by decide +kernel
theorem dX10_breaks_50 : decode cX10_breaks 50 = .ok (.getfield 39, 3) := by decide +kernel
theorem dX10_breaks_53 : decode cX10_breaks 53 = .ok (.sipush 165, 3) := by decide +kernel
theorem dX10_breaks_56 : decode cX10_breaks 56 = .ok (.iadd, 1) := by decide +kernel
theorem dX10_breaks_57 : decode cX10_breaks 57 = .ok (.iload_n 1, 1) := by decide +kernel
theorem dX10_breaks_58 : decode cX10_breaks 58 = .ok (.iadd, 1) := by decide +kernel
theorem dX10_breaks_59 : decode cX10_breaks 59 = .ok (.iconst 0, 1) := by decide +kernel
theorem dX10_breaks_60 : decode cX10_breaks 60 = .ok (.iastore, 1) := by decide +kernel
theorem dX10_breaks_61 : decode cX10_breaks 61 = .ok (.return_, 1) := by decide +kernel
theorem dX10_make_0 : decode cX10_make 0 = .ok (.iload_n 1, 1) := by decide +kernel
theorem dX10_make_1 : decode cX10_make 1 = .ok (.invokestatic 59, 3) := by decide +kernel
theorem dX10_make_4 : decode cX10_make 4 = .ok (.ifCond .eq 11, 3) := by decide +kernel
theorem dX10_make_7 : decode cX10_make 7 = .ok (.aload_n 0, 1) := by decide +kernel
theorem dX10_make_8 : decode cX10_make 8 = .ok (.iload_n 3, 1) := by decide +kernel
theorem dX10_make_9 : decode cX10_make 9 = .ok (.invokevirtual 81, 3) := by decide +kernel
theorem dX10_make_12 : decode cX10_make 12 = .ok (.ifCond .ne 10, 3) := by decide +kernel
theorem dX10_make_15 : decode cX10_make 15 = .ok (.aload_n 0, 1) := by decide +kernel
theorem dX10_make_16 : decode cX10_make 16 = .ok (.ldc 38, 2) := by decide +kernel
theorem dX10_make_18 : decode cX10_make 18 = .ok (.invokevirtual 63, 3) := by decide +kernel
theorem dX10_make_21 : decode cX10_make 21 = .ok (.ireturn, 1) := by decide +kernel
theorem dX10_make_22 : decode cX10_make 22 = .ok (.aload_n 0, 1) := by decide +kernel
theorem dX10_make_23 : decode cX10_make 23 = .ok (.iload_n 1, 1) := by decide +kernel
theorem dX10_make_24 : decode cX10_make 24 = .ok (.invokevirtual 78, 3) := by decide +kernel
theorem dX10_make_27 : decode cX10_make 27 = .ok (.iload_n 2, 1) := by decide +kernel
theorem dX10_make_28 : decode cX10_make 28 = .ok (.if_icmp .ne 5, 3) := by decide +kernel
theorem dX10_make_31 : decode cX10_make 31 = .ok (.iconst 0, 1) := by decide +kernel
theorem dX10_make_32 : decode cX10_make 32 = .ok (.ireturn, 1) := by decide +kernel
theorem dX10_make_33 : decode cX10_make 33 = .ok (.iload_n 2, 1) := by decide +kernel
theorem dX10_make_34 : decode cX10_make 34 = .ok (.ifCond .eq 14, 3) := by decide +kernel
theorem dX10_make_37 : decode cX10_make 37 = .ok (.aload_n 0, 1) := by decide +kernel
theorem dX10_make_38 : decode cX10_make 38 = .ok (.iload_n 1, 1) := by decide +kernel
theorem dX10_make_39 : decode cX10_make 39 = .ok (.bipush 10, 2) := by decide +kernel
theorem dX10_make_41 : decode cX10_make 41 = .ok (.iload_n 3, 1) := by decide +kernel
theorem dX10_make_42 : decode cX10_make 42 = .ok (.invokevirtual 106, 3) := by decide +kernel
theorem dX10_make_45 : decode cX10_make 45 = .ok (.goto 8, 3) := by decide +kernel
theorem dX10_make_48 : decode cX10_make 48 = .ok (.aload_n 0, 1) := by decide +kernel
theorem dX10_make_49 : decode cX10_make 49 = .ok (.iload_n 1, 1) := by decide +kernel
theorem dX10_make_50 : decode cX10_make 50 = .ok (.invokevirtual 109, 3) := by decide +kernel
theorem dX10_make_53 : decode cX10_make 53 = .ok (.iconst 1, 1) := by decide +kernel
theorem dX10_make_54 : decode cX10_make 54 = .ok (.ireturn, 1) := by decide +kernel
theorem dX10_rises_0 : decode cX10_rises 0 = .ok (.aload_n 0, 1) := by decide +kernel
theorem dX10_rises_1 : decode cX10_rises 1 = .ok (.bipush 85, 2) := by decide +kernel
theorem dX10_rises_3 : decode cX10_rises 3 = .ok (.iload_n 1, 1) := by decide +kernel
theorem dX10_rises_4 : decode cX10_rises 4 = .ok (.iadd, 1) := by decide +kernel
theorem dX10_rises_5 : decode cX10_rises 5 = .ok (.invokevirtual 43, 3) := by decide +kernel
theorem dX10_rises_8 : decode cX10_rises 8 = .ok (.aload_n 0, 1) := by decide +kernel
theorem dX10_rises_9 : decode cX10_rises 9 = .ok (.bipush 85, 2) := by decide +kernel
theorem dX10_rises_11 : decode cX10_rises 11 = .ok (.iload_n 1, 1) := by decide +kernel
theorem dX10_rises_12 : decode cX10_rises 12 = .ok (.iadd, 1) := by decide +kernel
theorem dX10_rises_13 : decode cX10_rises 13 = .ok (.iconst 1, 1) := by decide +kernel
theorem dX10_rises_14 : decode cX10_rises 14 = .ok (.isub, 1) := by decide +kernel
theorem dX10_rises_15 : decode cX10_rises 15 = .ok (.invokevirtual 43, 3) := by decide +kernel
theorem dX10_rises_18 : decode cX10_rises 18 = .ok (.isub, 1) := by decide +kernel
theorem dX10_rises_19 : decode cX10_rises 19 = .ok (.ireturn, 1) := by decide +kernel
theorem dX10_meets_0 : decode cX10_meets 0 = .ok (.aload_n 0, 1) := by decide +kernel
theorem dX10_meets_1 : decode cX10_meets 1 = .ok (.iload_n 1, 1) := by decide +kernel
theorem dX10_meets_2 : decode cX10_meets 2 = .ok (.invokevirtual 113, 3) := by decide +kernel
theorem dX10_meets_5 : decode cX10_meets 5 = .ok (.iconst 0, 1) := by decide +kernel
theorem dX10_meets_6 : decode cX10_meets 6 = .ok (.aload_n 0, 1) := by decide +kernel
theorem dX10_meets_7 : decode cX10_meets 7 = .ok (.iconst 2, 1) := by decide +kernel
theorem dX10_meets_8 : decode cX10_meets 8 = .ok (.invokevirtual 43, 3) := by decide +kernel
theorem dX10_meets_11 : decode cX10_meets 11 = .ok (.isub, 1) := by decide +kernel
theorem dX10_meets_12 : decode cX10_meets 12 = .ok (.aload_n 0, 1) := by decide +kernel
theorem dX10_meets_13 : decode cX10_meets 13 = .ok (.iconst 2, 1) := by decide +kernel
theorem dX10_meets_14 : decode cX10_meets 14 = .ok (.invokevirtual 43, 3) := by decide +kernel
theorem dX10_meets_17 : decode cX10_meets 17 = .ok (.invokestatic 47, 3) := by decide +kernel
theorem dX10_meets_20 : decode cX10_meets 20 = .ok (.ireturn, 1) := by decide +kernel
theorem dX10_reachNow_0 : decode cX10_reachNow 0 = .ok (.iconst 0, 1) := by decide +kernel
theorem dX10_reachNow_1 : decode cX10_reachNow 1 = .ok (.istore_n 1, 1) := by decide +kernel
theorem dX10_reachNow_2 : decode cX10_reachNow 2 = .ok (.iload_n 1, 1) := by decide +kernel
theorem dX10_reachNow_3 : decode cX10_reachNow 3 = .ok (.bipush 40, 2) := by decide +kernel
theorem dX10_reachNow_5 : decode cX10_reachNow 5 = .ok (.if_icmp .ge 37, 3) := by decide +kernel
theorem dX10_reachNow_8 : decode cX10_reachNow 8 = .ok (.aload_n 0, 1) := by decide +kernel
theorem dX10_reachNow_9 : decode cX10_reachNow 9 = .ok (.iload_n 1, 1) := by decide +kernel
theorem dX10_reachNow_10 : decode cX10_reachNow 10 = .ok (.invokevirtual 78, 3) := by decide +kernel
theorem dX10_reachNow_13 : decode cX10_reachNow 13 = .ok (.ifCond .eq 29, 3) := by decide +kernel
theorem dX10_reachNow_16 : decode cX10_reachNow 16 = .ok (.iload_n 1, 1) := by decide +kernel
theorem dX10_reachNow_17 : decode cX10_reachNow 17 = .ok (.ifCond .eq 19, 3) := by decide +kernel
theorem dX10_reachNow_20 : decode cX10_reachNow 20 = .ok (.aload_n 0, 1) := by decide +kernel
theorem dX10_reachNow_21 : decode cX10_reachNow 21 = .ok (.iload_n 1, 1) := by decide +kernel
theorem dX10_reachNow_22 : decode cX10_reachNow 22 = .ok (.ifCond .ne 7, 3) := by decide +kernel
theorem dX10_reachNow_25 : decode cX10_reachNow 25 = .ok (.iconst 1, 1) := by decide +kernel
theorem dX10_reachNow_26 : decode cX10_reachNow 26 = .ok (.goto 4, 3) := by decide +kernel
theorem dX10_reachNow_29 : decode cX10_reachNow 29 = .ok (.iload_n 1, 1) := by decide +kernel
theorem dX10_reachNow_30 : decode cX10_reachNow 30 = .ok (.invokevirtual 116, 3) := by decide +kernel
theorem dX10_reachNow_33 : decode cX10_reachNow 33 = .ok (.ifCond .eq 9, 3) := by decide +kernel
theorem dX10_reachNow_36 : decode cX10_reachNow 36 = .ok (.iinc 1 1, 3) := by decide +kernel
theorem dX10_reachNow_39 : decode cX10_reachNow 39 = .ok (.goto (-37), 3) := by decide +kernel
theorem dX10_reachNow_42 : decode cX10_reachNow 42 = .ok (.iload_n 1, 1) := by decide +kernel
theorem dX10_reachNow_43 : decode cX10_reachNow 43 = .ok (.ireturn, 1) := by decide +kernel
theorem dX10_reach_0 : decode cX10_reach 0 = .ok (.aload_n 0, 1) := by decide +kernel
theorem dX10_reach_1 : decode cX10_reach 1 = .ok (.invokevirtual 119, 3) := by decide +kernel
theorem dX10_reach_4 : decode cX10_reach 4 = .ok (.ireturn, 1) := by decide +kernel
theorem dX10_areBoth_0 : decode cX10_areBoth 0 = .ok (.aload_n 0, 1) := by decide +kernel
theorem dX10_areBoth_1 : decode cX10_areBoth 1 = .ok (.iload_n 1, 1) := by decide +kernel
theorem dX10_areBoth_2 : decode cX10_areBoth 2 = .ok (.invokevirtual 78, 3) := by decide +kernel
theorem dX10_areBoth_5 : decode cX10_areBoth 5 = .ok (.ifCond .eq 17, 3) := by decide +kernel
theorem dX10_areBoth_8 : decode cX10_areBoth 8 = .ok (.aload_n 0, 1) := by decide +kernel
theorem dX10_areBoth_9 : decode cX10_areBoth 9 = .ok (.iload_n 1, 1) := by decide +kernel
theorem dX10_areBoth_10 : decode cX10_areBoth 10 = .ok (.iconst 1, 1) := by decide +kernel
theorem dX10_areBoth_11 : decode cX10_areBoth 11 = .ok (.isub, 1) := by decide +kernel
theorem dX10_areBoth_12 : decode cX10_areBoth 12 = .ok (.invokevirtual 78, 3) := by decide +kernel
theorem dX10_areBoth_15 : decode cX10_areBoth 15 = .ok (.ifCond .eq 7, 3) := by decide +kernel
theorem dX10_areBoth_18 : decode cX10_areBoth 18 = .ok (.iconst 1, 1) := by decide +kernel
theorem dX10_areBoth_19 : decode cX10_areBoth 19 = .ok (.goto 4, 3) := by decide +kernel
theorem dX10_areBoth_22 : decode cX10_areBoth 22 = .ok (.iconst 0, 1) := by decide +kernel
theorem dX10_areBoth_23 : decode cX10_areBoth 23 = .ok (.ireturn, 1) := by decide +kernel
theorem dX10_faults_0 : decode cX10_faults 0 = .ok (.lconst 0, 1) := by decide +kernel
theorem dX10_faults_1 : decode cX10_faults 1 = .ok (.lstore_n 1, 1) := by decide +kernel
