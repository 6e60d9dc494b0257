theorem dX10_mayWant_15 : decode cX10_mayWant 15 = .ok (.iload 5, 2) := by decide +kernel
theorem dX10_mayWant_17 : decode cX10_mayWant 17 = .ok (.ireturn, 1) := by decide +kernel
theorem dX10_mayWant_18 : decode cX10_mayWant 18 = .ok (.aload_n 0, 1) := by decide +kernel
theorem dX10_mayWant_19 : decode cX10_mayWant 19 = .ok (.invokevirtual 208, 3) := by decide +kernel
theorem dX10_mayWant_22 : decode cX10_mayWant 22 = .ok (.aload_n 0, 1) := by decide +kernel
theorem dX10_mayWant_23 : decode cX10_mayWant 23 = .ok (.iload_n 3, 1) := by decide +kernel
theorem dX10_mayWant_24 : decode cX10_mayWant 24 = .ok (.iload 4, 2) := by decide +kernel
theorem dX10_mayWant_26 : decode cX10_mayWant 26 = .ok (.invokevirtual 211, 3) := by decide +kernel
theorem dX10_mayWant_29 : decode cX10_mayWant 29 = .ok (.ireturn, 1) := by decide +kernel
theorem dX10_wantWord_0 : decode cX10_wantWord 0 = .ok (.aload_n 0, 1) := by decide +kernel
theorem dX10_wantWord_1 : decode cX10_wantWord 1 = .ok (.aload_n 0, 1) := by decide +kernel
theorem dX10_wantWord_2 : decode cX10_wantWord 2 = .ok (.getfield 204, 3) := by decide +kernel
theorem dX10_wantWord_5 : decode cX10_wantWord 5 = .ok (.ifCond .eq 15, 3) := by decide +kernel
theorem dX10_wantWord_8 : decode cX10_wantWord 8 = .ok (.aload_n 0, 1) := by decide +kernel
theorem dX10_wantWord_9 : decode cX10_wantWord 9 = .ok (.lload_n 1, 1) := by decide +kernel
theorem dX10_wantWord_10 : decode cX10_wantWord 10 = .ok (.invokevirtual 190, 3) := by decide +kernel
theorem dX10_wantWord_13 : decode cX10_wantWord 13 = .ok (.ifCond .eq 7, 3) := by decide +kernel
theorem dX10_wantWord_16 : decode cX10_wantWord 16 = .ok (.iconst 1, 1) := by decide +kernel
theorem dX10_wantWord_17 : decode cX10_wantWord 17 = .ok (.goto 4, 3) := by decide +kernel
theorem dX10_wantWord_20 : decode cX10_wantWord 20 = .ok (.iconst 0, 1) := by decide +kernel
theorem dX10_wantWord_21 : decode cX10_wantWord 21 = .ok (.putfield 204, 3) := by decide +kernel
theorem dX10_wantWord_24 : decode cX10_wantWord 24 = .ok (.aload_n 0, 1) := by decide +kernel
theorem dX10_wantWord_25 : decode cX10_wantWord 25 = .ok (.getfield 204, 3) := by decide +kernel
theorem dX10_wantWord_28 : decode cX10_wantWord 28 = .ok (.ifCond .eq 7, 3) := by decide +kernel
theorem dX10_wantWord_31 : decode cX10_wantWord 31 = .ok (.aload_n 0, 1) := by decide +kernel
theorem dX10_wantWord_32 : decode cX10_wantWord 32 = .ok (.invokevirtual 208, 3) := by decide +kernel
theorem dX10_wantWord_35 : decode cX10_wantWord 35 = .ok (.return_, 1) := by decide +kernel
theorem dX10_wantFine_0 : decode cX10_wantFine 0 = .ok (.aload_n 0, 1) := by decide +kernel
theorem dX10_wantFine_1 : decode cX10_wantFine 1 = .ok (.aload_n 0, 1) := by decide +kernel
theorem dX10_wantFine_2 : decode cX10_wantFine 2 = .ok (.getfield 7, 3) := by decide +kernel
theorem dX10_wantFine_5 : decode cX10_wantFine 5 = .ok (.iconst 4, 1) := by decide +kernel
theorem dX10_wantFine_6 : decode cX10_wantFine 6 = .ok (.iaload, 1) := by decide +kernel
theorem dX10_wantFine_7 : decode cX10_wantFine 7 = .ok (.bipush 10, 2) := by decide +kernel
theorem dX10_wantFine_9 : decode cX10_wantFine 9 = .ok (.if_icmp .ge 7, 3) := by decide +kernel
theorem dX10_wantFine_12 : decode cX10_wantFine 12 = .ok (.iconst 1, 1) := by decide +kernel
theorem dX10_wantFine_13 : decode cX10_wantFine 13 = .ok (.goto 4, 3) := by decide +kernel
theorem dX10_wantFine_16 : decode cX10_wantFine 16 = .ok (.iconst 0, 1) := by decide +kernel
theorem dX10_wantFine_17 : decode cX10_wantFine 17 = .ok (.putfield 204, 3) := by decide +kernel
theorem dX10_wantFine_20 : decode cX10_wantFine 20 = .ok (.aload_n 0, 1) := by decide +kernel
theorem dX10_wantFine_21 : decode cX10_wantFine 21 = .ok (.getfield 204, 3) := by decide +kernel
theorem dX10_wantFine_24 : decode cX10_wantFine 24 = .ok (.ifCond .eq 7, 3) := by decide +kernel
theorem dX10_wantFine_27 : decode cX10_wantFine 27 = .ok (.aload_n 0, 1) := by decide +kernel
theorem dX10_wantFine_28 : decode cX10_wantFine 28 = .ok (.invokevirtual 208, 3) := by decide +kernel
theorem dX10_wantFine_31 : decode cX10_wantFine 31 = .ok (.aload_n 0, 1) := by decide +kernel
theorem dX10_wantFine_32 : decode cX10_wantFine 32 = .ok (.iconst 1, 1) := by decide +kernel
theorem dX10_wantFine_33 : decode cX10_wantFine 33 = .ok (.bipush 40, 2) := by decide +kernel
theorem dX10_wantFine_35 : decode cX10_wantFine 35 = .ok (.invokevirtual 211, 3) := by decide +kernel
theorem dX10_wantFine_38 : decode cX10_wantFine 38 = .ok (.istore_n 2, 1) := by decide +kernel
theorem dX10_wantFine_39 : decode cX10_wantFine 39 = .ok (.aload_n 0, 1) := by decide +kernel
theorem dX10_wantFine_40 : decode cX10_wantFine 40 = .ok (.ldc2_w 214, 3) := by decide +kernel
theorem dX10_wantFine_43 : decode cX10_wantFine 43 = .ok (.invokevirtual 216, 3) := by decide +kernel
theorem dX10_wantFine_46 : decode cX10_wantFine 46 = .ok (.aload_n 0, 1) := by decide +kernel
theorem dX10_wantFine_47 : decode cX10_wantFine 47 = .ok (.iconst 0, 1) := by decide +kernel
theorem dX10_wantFine_48 : decode cX10_wantFine 48 = .ok (.bipush 39, 2) := by decide +kernel
theorem dX10_wantFine_50 : decode cX10_wantFine 50 = .ok (.invokevirtual 211, 3) := by decide +kernel
theorem dX10_wantFine_53 : decode cX10_wantFine 53 = .ok (.istore_n 3, 1) := by decide +kernel
theorem dX10_wantFine_54 : decode cX10_wantFine 54 = .ok (.aload_n 0, 1) := by decide +kernel
theorem dX10_wantFine_55 : decode cX10_wantFine 55 = .ok (.ldc2_w 220, 3) := by decide +kernel
theorem dX10_wantFine_58 : decode cX10_wantFine 58 = .ok (.iconst 1, 1) := by decide +kernel
theorem dX10_wantFine_59 : decode cX10_wantFine 59 = .ok (.bipush 9, 2) := by decide +kernel
theorem dX10_wantFine_61 : decode cX10_wantFine 61 = .ok (.iconst 3, 1) := by decide +kernel
theorem dX10_wantFine_62 : decode cX10_wantFine 62 = .ok (.invokevirtual 222, 3) := by decide +kernel
theorem dX10_wantFine_65 : decode cX10_wantFine 65 = .ok (.istore 4, 2) := by decide +kernel
theorem dX10_wantFine_67 : decode cX10_wantFine 67 = .ok (.aload_n 0, 1) := by decide +kernel
theorem dX10_wantFine_68 : decode cX10_wantFine 68 = .ok (.getfield 204, 3) := by decide +kernel
theorem dX10_wantFine_71 : decode cX10_wantFine 71 = .ok (.ifCond .eq 12, 3) := by decide +kernel
theorem dX10_wantFine_74 : decode cX10_wantFine 74 = .ok (.aload_n 0, 1) := by decide +kernel
theorem dX10_wantFine_75 : decode cX10_wantFine 75 = .ok (.iload_n 1, 1) := by decide +kernel
theorem dX10_wantFine_76 : decode cX10_wantFine 76 = .ok (.iload_n 2, 1) := by decide +kernel
theorem dX10_wantFine_77 : decode cX10_wantFine 77 = .ok (.iload_n 3, 1) := by decide +kernel
theorem dX10_wantFine_78 : decode cX10_wantFine 78 = .ok (.iload 4, 2) := by decide +kernel
theorem dX10_wantFine_80 : decode cX10_wantFine 80 = .ok (.invokevirtual 74, 3) := by decide +kernel
theorem dX10_wantFine_83 : decode cX10_wantFine 83 = .ok (.return_, 1) := by decide +kernel
theorem dX10_wantRock_0 : decode cX10_wantRock 0 = .ok (.aload_n 0, 1) := by decide +kernel
theorem dX10_wantRock_1 : decode cX10_wantRock 1 = .ok (.invokevirtual 208, 3) := by decide +kernel
theorem dX10_wantRock_4 : decode cX10_wantRock 4 = .ok (.aload_n 0, 1) := by decide +kernel
theorem dX10_wantRock_5 : decode cX10_wantRock 5 = .ok (.iconst 0, 1) := by decide +kernel
theorem dX10_wantRock_6 : decode cX10_wantRock 6 = .ok (.bipush 39, 2) := by decide +kernel
theorem dX10_wantRock_8 : decode cX10_wantRock 8 = .ok (.invokevirtual 211, 3) := by decide +kernel
theorem dX10_wantRock_11 : decode cX10_wantRock 11 = .ok (.istore_n 1, 1) := by decide +kernel
theorem dX10_wantRock_12 : decode cX10_wantRock 12 = .ok (.aload_n 0, 1) := by decide +kernel
theorem dX10_wantRock_13 : decode cX10_wantRock 13 = .ok (.ldc2_w 226, 3) := by decide +kernel
theorem dX10_wantRock_16 : decode cX10_wantRock 16 = .ok (.iload_n 1, 1) := by decide +kernel
theorem dX10_wantRock_17 : decode cX10_wantRock 17 = .ok (.bipush 39, 2) := by decide +kernel
theorem dX10_wantRock_19 : decode cX10_wantRock 19 = .ok (.iload_n 1, 1) := by decide +kernel
theorem dX10_wantRock_20 : decode cX10_wantRock 20 = .ok (.invokevirtual 222, 3) := by decide +kernel
theorem dX10_wantRock_23 : decode cX10_wantRock 23 = .ok (.istore_n 2, 1) := by decide +kernel
theorem dX10_wantRock_24 : decode cX10_wantRock 24 = .ok (.aload_n 0, 1) := by decide +kernel
theorem dX10_wantRock_25 : decode cX10_wantRock 25 = .ok (.ldc2_w 228, 3) := by decide +kernel
theorem dX10_wantRock_28 : decode cX10_wantRock 28 = .ok (.invokevirtual 216, 3) := by decide +kernel
theorem dX10_wantRock_31 : decode cX10_wantRock 31 = .ok (.aload_n 0, 1) := by decide +kernel
theorem dX10_wantRock_32 : decode cX10_wantRock 32 = .ok (.iconst 1, 1) := by decide +kernel
theorem dX10_wantRock_33 : decode cX10_wantRock 33 = .ok (.bipush 9, 2) := by decide +kernel
theorem dX10_wantRock_35 : decode cX10_wantRock 35 = .ok (.invokevirtual 211, 3) := by decide +kernel
theorem dX10_wantRock_38 : decode cX10_wantRock 38 = .ok (.istore_n 3, 1) := by decide +kernel
theorem dX10_wantRock_39 : decode cX10_wantRock 39 = .ok (.iload_n 1, 1) := by decide +kernel
theorem dX10_wantRock_40 : decode cX10_wantRock 40 = .ok (.istore 4, 2) := by decide +kernel
theorem dX10_wantRock_42 : decode cX10_wantRock 42 = .ok (.iload 4, 2) := by decide +kernel
theorem dX10_wantRock_44 : decode cX10_wantRock 44 = .ok (.iload_n 2, 1) := by decide +kernel
theorem dX10_wantRock_45 : decode cX10_wantRock 45 = .ok (.if_icmp .gt 26, 3) := by decide +kernel
theorem dX10_wantRock_48 : decode cX10_wantRock 48 = .ok (.aload_n 0, 1) := by decide +kernel
theorem dX10_wantRock_49 : decode cX10_wantRock 49 = .ok (.getfield 204, 3) := by decide +kernel
theorem dX10_wantRock_52 : decode cX10_wantRock 52 = .ok (.ifCond .eq 19, 3) := by decide +kernel
theorem dX10_wantRock_55 : decode cX10_wantRock 55 = .ok (.aload_n 0, 1) := by decide +kernel
theorem dX10_wantRock_56 : decode cX10_wantRock 56 = .ok (.getfield 7, 3) := by decide +kernel
theorem dX10_wantRock_59 : decode cX10_wantRock 59 = .ok (.iconst 5, 1) := by decide +kernel
theorem dX10_wantRock_60 : decode cX10_wantRock 60 = .ok (.iload 4, 2) := by decide +kernel
theorem dX10_wantRock_62 : decode cX10_wantRock 62 = .ok (.iadd, 1) := by decide +kernel
theorem dX10_wantRock_63 : decode cX10_wantRock 63 = .ok (.iload_n 3, 1) := by decide +kernel
theorem dX10_wantRock_64 : decode cX10_wantRock 64 = .ok (.iastore, 1) := by decide +kernel
theorem dX10_wantRock_65 : decode cX10_wantRock 65 = .ok (.iinc 4 1, 3) := by decide +kernel
theorem dX10_wantRock_68 : decode cX10_wantRock 68 = .ok (.goto (-26), 3) := by decide +kernel
theorem dX10_wantRock_71 : decode cX10_wantRock 71 = .ok (.return_, 1) := by decide +kernel
theorem dX10_wantLet_0 : decode cX10_wantLet 0 = .ok (.aload_n 0, 1) := by decide +kernel
theorem dX10_wantLet_1 : decode cX10_wantLet 1 = .ok (.invokevirtual 208, 3) := by decide +kernel
theorem dX10_wantLet_4 : decode cX10_wantLet 4 = .ok (.aload_n 0, 1) := by decide +kernel
theorem dX10_wantLet_5 : decode cX10_wantLet 5 = .ok (.iconst 0, 1) := by decide +kernel
theorem dX10_wantLet_6 : decode cX10_wantLet 6 = .ok (.iload_n 2, 1) := by decide +kernel
theorem dX10_wantLet_7 : decode cX10_wantLet 7 = .ok (.invokevirtual 211, 3) := by decide +kernel
theorem dX10_wantLet_10 : decode cX10_wantLet 10 = .ok (.istore_n 3, 1) := by decide +kernel
theorem dX10_wantLet_11 : decode cX10_wantLet 11 = .ok (.aload_n 0, 1) := by decide +kernel
theorem dX10_wantLet_12 : decode cX10_wantLet 12 = .ok (.getfield 204, 3) := by decide +kernel
theorem dX10_wantLet_15 : decode cX10_wantLet 15 = .ok (.ifCond .eq 10, 3) := by decide +kernel
theorem dX10_wantLet_18 : decode cX10_wantLet 18 = .ok (.aload_n 0, 1) := by decide +kernel
theorem dX10_wantLet_19 : decode cX10_wantLet 19 = .ok (.getfield 7, 3) := by decide +kernel
theorem dX10_wantLet_22 : decode cX10_wantLet 22 = .ok (.iload_n 1, 1) := by decide +kernel
theorem dX10_wantLet_23 : decode cX10_wantLet 23 = .ok (.iload_n 3, 1) := by decide +kernel
theorem dX10_wantLet_24 : decode cX10_wantLet 24 = .ok (.iastore, 1) := by decide +kernel
theorem dX10_wantLet_25 : decode cX10_wantLet 25 = .ok (.return_, 1) := by decide +kernel
theorem dX10_wantItem_0 : decode cX10_wantItem 0 = .ok (.aload_n 0, 1) := by decide +kernel
theorem dX10_wantItem_1 : decode cX10_wantItem 1 = .ok (.invokevirtual 230, 3) := by decide +kernel
theorem dX10_wantItem_4 : decode cX10_wantItem 4 = .ok (.ifCond .lt 14, 3) := by decide +kernel
theorem dX10_wantItem_7 : decode cX10_wantItem 7 = .ok (.aload_n 0, 1) := by decide +kernel
theorem dX10_wantItem_8 : decode cX10_wantItem 8 = .ok (.aload_n 0, 1) := by decide +kernel
theorem dX10_wantItem_9 : decode cX10_wantItem 9 = .ok (.invokevirtual 230, 3) := by decide +kernel
theorem dX10_wantItem_12 : decode cX10_wantItem 12 = .ok (.invokevirtual 233, 3) := by decide +kernel
theorem dX10_wantItem_15 : decode cX10_wantItem 15 = .ok (.goto 65, 3) := by decide +kernel
theorem dX10_wantItem_18 : decode cX10_wantItem 18 = .ok (.aload_n 0, 1) := by decide +kernel
theorem dX10_wantItem_19 : decode cX10_wantItem 19 = .ok (.ldc2_w 236, 3) := by decide +kernel
theorem dX10_wantItem_22 : decode cX10_wantItem 22 = .ok (.invokevirtual 190, 3) := by decide +kernel
theorem dX10_wantItem_25 : decode cX10_wantItem 25 = .ok (.ifCond .eq 10, 3) := by decide +kernel
theorem dX10_wantItem_28 : decode cX10_wantItem 28 = .ok (.aload_n 0, 1) := by decide +kernel
theorem dX10_wantItem_29 : decode cX10_wantItem 29 = .ok (.invokevirtual 238, 3) := by decide +kernel
theorem dX10_wantItem_32 : decode cX10_wantItem 32 = .ok (.goto 48, 3) := by decide +kernel
theorem dX10_wantItem_35 : decode cX10_wantItem 35 = .ok (.aload_n 0, 1) := by decide +kernel
theorem dX10_wantItem_36 : decode cX10_wantItem 36 = .ok (.ldc2_w 241, 3) := by decide +kernel
theorem dX10_wantItem_39 : decode cX10_wantItem 39 = .ok (.invokevirtual 190, 3) := by decide +kernel
theorem dX10_wantItem_42 : decode cX10_wantItem 42 = .ok (.ifCond .eq 13, 3) := by decide +kernel
theorem dX10_wantItem_45 : decode cX10_wantItem 45 = .ok (.aload_n 0, 1) := by decide +kernel
theorem dX10_wantItem_46 : decode cX10_wantItem 46 = .ok (.iconst 1, 1) := by decide +kernel
theorem dX10_wantItem_47 : decode cX10_wantItem 47 = .ok (.bipush 9, 2) := by decide +kernel
theorem dX10_wantItem_49 : decode cX10_wantItem 49 = .ok (.invokevirtual 243, 3) := by decide +kernel
theorem dX10_wantItem_52 : decode cX10_wantItem 52 = .ok (.goto 28, 3) := by decide +kernel
theorem dX10_wantItem_55 : decode cX10_wantItem 55 = .ok (.aload_n 0, 1) := by decide +kernel
theorem dX10_wantItem_56 : decode cX10_wantItem 56 = .ok (.ldc2_w 247, 3) := by decide +kernel
theorem dX10_wantItem_59 : decode cX10_wantItem 59 = .ok (.invokevirtual 190, 3) := by decide +kernel
theorem dX10_wantItem_62 : decode cX10_wantItem 62 = .ok (.ifCond .eq 13, 3) := by decide +kernel
theorem dX10_wantItem_65 : decode cX10_wantItem 65 = .ok (.aload_n 0, 1) := by decide +kernel
theorem dX10_wantItem_66 : decode cX10_wantItem 66 = .ok (.iconst 2, 1) := by decide +kernel
theorem dX10_wantItem_67 : decode cX10_wantItem 67 = .ok (.bipush 20, 2) := by decide +kernel
theorem dX10_wantItem_69 : decode cX10_wantItem 69 = .ok (.invokevirtual 243, 3) := by decide +kernel
theorem dX10_wantItem_72 : decode cX10_wantItem 72 = .ok (.goto 8, 3) := by decide +kernel
theorem dX10_wantItem_75 : decode cX10_wantItem 75 = .ok (.aload_n 0, 1) := by decide +kernel
theorem dX10_wantItem_76 : decode cX10_wantItem 76 = .ok (.iconst 0, 1) := by decide +kernel
theorem dX10_wantItem_77 : decode cX10_wantItem 77 = .ok (.putfield 204, 3) := by decide +kernel
theorem dX10_wantItem_80 : decode cX10_wantItem 80 = .ok (.return_, 1) := by decide +kernel
theorem dX10_court_0 : decode cX10_court 0 = .ok (.aload_n 0, 1) := by decide +kernel
theorem dX10_court_1 : decode cX10_court 1 = .ok (.iconst 1, 1) := by decide +kernel
theorem dX10_court_2 : decode cX10_court 2 = .ok (.aload_n 0, 1) := by decide +kernel
theorem dX10_court_3 : decode cX10_court 3 = .ok (.getfield 35, 3) := by decide +kernel
theorem dX10_court_6 : decode cX10_court 6 = .ok (.invokevirtual 249, 3) := by decide +kernel
theorem dX10_court_9 : decode cX10_court 9 = .ok (.aload_n 0, 1) := by decide +kernel
theorem dX10_court_10 : decode cX10_court 10 = .ok (.iconst 0, 1) := by decide +kernel
theorem dX10_court_11 : decode cX10_court 11 = .ok (.putfield 157, 3) := by decide +kernel
theorem dX10_court_14 : decode cX10_court 14 = .ok (.aload_n 0, 1) := by decide +kernel
theorem dX10_court_15 : decode cX10_court 15 = .ok (.iconst 1, 1) := by decide +kernel
theorem dX10_court_16 : decode cX10_court 16 = .ok (.putfield 204, 3) := by decide +kernel
theorem dX10_court_19 : decode cX10_court 19 = .ok (.iconst 0, 1) := by decide +kernel
theorem dX10_court_20 : decode cX10_court 20 = .ok (.istore_n 1, 1) := by decide +kernel
theorem dX10_court_21 : decode cX10_court 21 = .ok (.iconst 1, 1) := by decide +kernel
theorem dX10_court_22 : decode cX10_court 22 = .ok (.istore_n 2, 1) := by decide +kernel
theorem dX10_court_23 : decode cX10_court 23 = .ok (.iload_n 2, 1) := by decide +kernel
theorem dX10_court_24 : decode cX10_court 24 = .ok (.ifCond .eq 47, 3) := by decide +kernel
theorem dX10_court_27 : decode cX10_court 27 = .ok (.aload_n 0, 1) := by decide +kernel
theorem dX10_court_28 : decode cX10_court 28 = .ok (.invokevirtual 208, 3) := by decide +kernel
theorem dX10_court_31 : decode cX10_court 31 = .ok (.aload_n 0, 1) := by decide +kernel
theorem dX10_court_32 : decode cX10_court 32 = .ok (.invokevirtual 253, 3) := by decide +kernel
theorem dX10_court_35 : decode cX10_court 35 = .ok (.iinc 1 1, 3) := by decide +kernel
theorem dX10_court_38 : decode cX10_court 38 = .ok (.aload_n 0, 1) := by decide +kernel
theorem dX10_court_39 : decode cX10_court 39 = .ok (.getfield 204, 3) := by decide +kernel
theorem dX10_court_42 : decode cX10_court 42 = .ok (.ifCond .eq 24, 3) := by decide +kernel
theorem dX10_court_45 : decode cX10_court 45 = .ok (.aload_n 0, 1) := by decide +kernel
theorem dX10_court_46 : decode cX10_court 46 = .ok (.getfield 172, 3) := by decide +kernel
theorem dX10_court_49 : decode cX10_court 49 = .ok (.iconst 3, 1) := by decide +kernel
theorem dX10_court_50 : decode cX10_court 50 = .ok (.if_icmp .ne 16, 3) := by decide +kernel
theorem dX10_court_53 : decode cX10_court 53 = .ok (.aload_n 0, 1) := by decide +kernel
theorem dX10_court_54 : decode cX10_court 54 = .ok (.getfield 179, 3) := by decide +kernel
theorem dX10_court_57 : decode cX10_court 57 = .ok (.bipush 59, 2) := by decide +kernel
theorem dX10_court_59 : decode cX10_court 59 = .ok (.if_icmp .ne 7, 3) := by decide +kernel
theorem dX10_court_62 : decode cX10_court 62 = .ok (.iconst 1, 1) := by decide +kernel
theorem dX10_court_63 : decode cX10_court 63 = .ok (.goto 4, 3) := by decide +kernel
theorem dX10_court_66 : decode cX10_court 66 = .ok (.iconst 0, 1) := by decide +kernel
theorem dX10_court_67 : decode cX10_court 67 = .ok (.istore_n 2, 1) := by decide +kernel
theorem dX10_court_68 : decode cX10_court 68 = .ok (.goto (-45), 3) := by decide +kernel
theorem dX10_court_71 : decode cX10_court 71 = .ok (.aload_n 0, 1) := by decide +kernel
theorem dX10_court_72 : decode cX10_court 72 = .ok (.aload_n 0, 1) := by decide +kernel
theorem dX10_court_73 : decode cX10_court 73 = .ok (.getfield 204, 3) := by decide +kernel
theorem dX10_court_76 : decode cX10_court 76 = .ok (.ifCond .eq 14, 3) := by decide +kernel
theorem dX10_court_79 : decode cX10_court 79 = .ok (.aload_n 0, 1) := by decide +kernel
theorem dX10_court_80 : decode cX10_court 80 = .ok (.getfield 172, 3) := by decide +kernel
theorem dX10_court_83 : decode cX10_court 83 = .ok (.ifCond .ne 7, 3) := by decide +kernel
theorem dX10_court_86 : decode cX10_court 86 = .ok (.iconst 1, 1) := by decide +kernel
theorem dX10_court_87 : decode cX10_court 87 = .ok (.goto 4, 3) := by decide +kernel
theorem dX10_court_90 : decode cX10_court 90 = .ok (.iconst 0, 1) := by decide +kernel
theorem dX10_court_91 : decode cX10_court 91 = .ok (.putfield 204, 3) := by decide +kernel
theorem dX10_court_94 : decode cX10_court 94 = .ok (.aload_n 0, 1) := by decide +kernel
theorem dX10_court_95 : decode cX10_court 95 = .ok (.iconst 0, 1) := by decide +kernel
theorem dX10_court_96 : decode cX10_court 96 = .ok (.putfield 154, 3) := by decide +kernel
theorem dX10_court_99 : decode cX10_court 99 = .ok (.aload_n 0, 1) := by decide +kernel
theorem dX10_court_100 : decode cX10_court 100 = .ok (.getfield 204, 3) := by decide +kernel
theorem dX10_court_103 : decode cX10_court 103 = .ok (.ifCond .ne 19, 3) := by decide +kernel
theorem dX10_court_106 : decode cX10_court 106 = .ok (.aload_n 0, 1) := by decide +kernel
theorem dX10_court_107 : decode cX10_court 107 = .ok (.iconst 0, 1) := by decide +kernel
theorem dX10_court_108 : decode cX10_court 108 = .ok (.aload_n 0, 1) := by decide +kernel
theorem dX10_court_109 : decode cX10_court 109 = .ok (.getfield 35, 3) := by decide +kernel
theorem dX10_court_112 : decode cX10_court 112 = .ok (.invokevirtual 249, 3) := by decide +kernel
theorem dX10_court_115 : decode cX10_court 115 = .ok (.iconst (-1), 1) := by decide +kernel
theorem dX10_court_116 : decode cX10_court 116 = .ok (.aload_n 0, 1) := by decide +kernel
theorem dX10_court_117 : decode cX10_court 117 = .ok (.getfield 160, 3) := by decide +kernel
theorem dX10_court_120 : decode cX10_court 120 = .ok (.isub, 1) := by decide +kernel
theorem dX10_court_121 : decode cX10_court 121 = .ok (.ireturn, 1) := by decide +kernel
theorem dX10_court_122 : decode cX10_court 122 = .ok (.iload_n 1, 1) := by decide +kernel
theorem dX10_court_123 : decode cX10_court 123 = .ok (.ireturn, 1) := by decide +kernel
theorem dX10_isSheet_0 : decode cX10_isSheet 0 = .ok (.iload_n 0, 1) := by decide +kernel
theorem dX10_isSheet_1 : decode cX10_isSheet 1 = .ok (.iconst 0, 1) := by decide +kernel
theorem dX10_isSheet_2 : decode cX10_isSheet 2 = .ok (.iconst 3, 1) := by decide +kernel
theorem dX10_isSheet_3 : decode cX10_isSheet 3 = .ok (.invokestatic 47, 3) := by decide +kernel
theorem dX10_isSheet_6 : decode cX10_isSheet 6 = .ok (.ireturn, 1) := by decide +kernel
theorem dX10_narrow_0 : decode cX10_narrow 0 = .ok (.iload_n 0, 1) := by decide +kernel
theorem dX10_narrow_1 : decode cX10_narrow 1 = .ok (.bipush 8, 2) := by decide +kernel
theorem dX10_narrow_3 : decode cX10_narrow 3 = .ok (.if_icmp .ne 13, 3) := by decide +kernel
theorem dX10_narrow_6 : decode cX10_narrow 6 = .ok (.lload_n 1, 1) := by decide +kernel
theorem dX10_narrow_7 : decode cX10_narrow 7 = .ok (.bipush 56, 2) := by decide +kernel
theorem dX10_narrow_9 : decode cX10_narrow 9 = .ok (.lshl, 1) := by decide +kernel
theorem dX10_narrow_10 : decode cX10_narrow 10 = .ok (.bipush 56, 2) := by decide +kernel
theorem dX10_narrow_12 : decode cX10_narrow 12 = .ok (.lshr, 1) := by decide +kernel
theorem dX10_narrow_13 : decode cX10_narrow 13 = .ok (.goto 20, 3) := by decide +kernel
theorem dX10_narrow_16 : decode cX10_narrow 16 = .ok (.iload_n 0, 1) := by decide +kernel
theorem dX10_narrow_17 : decode cX10_narrow 17 = .ok (.bipush 16, 2) := by decide +kernel
theorem dX10_narrow_19 : decode cX10_narrow 19 = .ok (.if_icmp .ne 13, 3) := by decide +kernel
theorem dX10_narrow_22 : decode cX10_narrow 22 = .ok (.lload_n 1, 1) := by decide +kernel
theorem dX10_narrow_23 : decode cX10_narrow 23 = .ok (.bipush 48, 2) := by decide +kernel
theorem dX10_narrow_25 : decode cX10_narrow 25 = .ok (.lshl, 1) := by decide +kernel
theorem dX10_narrow_26 : decode cX10_narrow 26 = .ok (.bipush 48, 2) := by decide +kernel
theorem dX10_narrow_28 : decode cX10_narrow 28 = .ok (.lshr, 1) := by decide +kernel
theorem dX10_narrow_29 : decode cX10_narrow 29 = .ok (.goto 4, 3) := by decide +kernel
theorem dX10_narrow_32 : decode cX10_narrow 32 = .ok (.lload_n 1, 1) := by decide +kernel
theorem dX10_narrow_33 : decode cX10_narrow 33 = .ok (.lreturn, 1) := by decide +kernel
theorem dX10_sheet_0 : decode cX10_sheet 0 = .ok (.iload_n 1, 1) := by decide +kernel
theorem dX10_sheet_1 : decode cX10_sheet 1 = .ok (.invokestatic 256, 3) := by decide +kernel
theorem dX10_sheet_4 : decode cX10_sheet 4 = .ok (.ifCond .eq 25, 3) := by decide +kernel
theorem dX10_sheet_7 : decode cX10_sheet 7 = .ok (.iload_n 2, 1) := by decide +kernel
theorem dX10_sheet_8 : decode cX10_sheet 8 = .ok (.ifCond .eq 28, 3) := by decide +kernel
theorem dX10_sheet_11 : decode cX10_sheet 11 = .ok (.iload_n 2, 1) := by decide +kernel
theorem dX10_sheet_12 : decode cX10_sheet 12 = .ok (.bipush 8, 2) := by decide +kernel
theorem dX10_sheet_14 : decode cX10_sheet 14 = .ok (.if_icmp .eq 22, 3) := by decide +kernel
theorem dX10_sheet_17 : decode cX10_sheet 17 = .ok (.iload_n 2, 1) := by decide +kernel
theorem dX10_sheet_18 : decode cX10_sheet 18 = .ok (.bipush 16, 2) := by decide +kernel
theorem dX10_sheet_20 : decode cX10_sheet 20 = .ok (.if_icmp .eq 16, 3) := by decide +kernel
theorem dX10_sheet_23 : decode cX10_sheet 23 = .ok (.iload_n 2, 1) := by decide +kernel
theorem dX10_sheet_24 : decode cX10_sheet 24 = .ok (.bipush 64, 2) := by decide +kernel
theorem dX10_sheet_26 : decode cX10_sheet 26 = .ok (.if_icmp .eq 10, 3) := by decide +kernel
theorem dX10_sheet_29 : decode cX10_sheet 29 = .ok (.aload_n 0, 1) := by decide +kernel
theorem dX10_sheet_30 : decode cX10_sheet 30 = .ok (.ldc 38, 2) := by decide +kernel
theorem dX10_sheet_32 : decode cX10_sheet 32 = .ok (.invokevirtual 63, 3) := by decide +kernel
theorem dX10_sheet_35 : decode cX10_sheet 35 = .ok (.ireturn, 1) := by decide +kernel
theorem dX10_sheet_36 : decode cX10_sheet 36 = .ok (.iload_n 3, 1) := by decide +kernel
theorem dX10_sheet_37 : decode cX10_sheet 37 = .ok (.ifCond .ge 11, 3) := by decide +kernel
theorem dX10_sheet_40 : decode cX10_sheet 40 = .ok (.aload_n 0, 1) := by decide +kernel
theorem dX10_sheet_41 : decode cX10_sheet 41 = .ok (.ldc_w 259, 3) := by decide +kernel
theorem dX10_sheet_44 : decode cX10_sheet 44 = .ok (.invokevirtual 63, 3) := by decide +kernel
theorem dX10_sheet_47 : decode cX10_sheet 47 = .ok (.ireturn, 1) := by decide +kernel
theorem dX10_sheet_48 : decode cX10_sheet 48 = .ok (.iload_n 3, 1) := by decide +kernel
theorem dX10_sheet_49 : decode cX10_sheet 49 = .ok (.bipush 40, 2) := by decide +kernel
theorem dX10_sheet_51 : decode cX10_sheet 51 = .ok (.if_icmp .le 10, 3) := by decide +kernel
theorem dX10_sheet_54 : decode cX10_sheet 54 = .ok (.aload_n 0, 1) := by decide +kernel
theorem dX10_sheet_55 : decode cX10_sheet 55 = .ok (.ldc 38, 2) := by decide +kernel
theorem dX10_sheet_57 : decode cX10_sheet 57 = .ok (.invokevirtual 63, 3) := by decide +kernel
theorem dX10_sheet_60 : decode cX10_sheet 60 = .ok (.ireturn, 1) := by decide +kernel
theorem dX10_sheet_61 : decode cX10_sheet 61 = .ok (.aload_n 0, 1) := by decide +kernel
theorem dX10_sheet_62 : decode cX10_sheet 62 = .ok (.getfield 19, 3) := by decide +kernel
theorem dX10_sheet_65 : decode cX10_sheet 65 = .ok (.iload_n 1, 1) := by decide +kernel
theorem dX10_sheet_66 : decode cX10_sheet 66 = .ok (.iload_n 2, 1) := by decide +kernel
theorem dX10_sheet_67 : decode cX10_sheet 67 = .ok (.iastore, 1) := by decide +kernel
theorem dX10_sheet_68 : decode cX10_sheet 68 = .ok (.aload_n 0, 1) := by decide +kernel
theorem dX10_sheet_69 : decode cX10_sheet 69 = .ok (.getfield 22, 3) := by decide +kernel
theorem dX10_sheet_72 : decode cX10_sheet 72 = .ok (.iload_n 1, 1) := by decide +kernel
theorem dX10_sheet_73 : decode cX10_sheet 73 = .ok (.iload_n 2, 1) := by decide +kernel
theorem dX10_sheet_74 : decode cX10_sheet 74 = .ok (.ifCond .ne 7, 3) := by decide +kernel
theorem dX10_sheet_77 : decode cX10_sheet 77 = .ok (.iconst 0, 1) := by decide +kernel
theorem dX10_sheet_78 : decode cX10_sheet 78 = .ok (.goto 4, 3) := by decide +kernel
theorem dX10_sheet_81 : decode cX10_sheet 81 = .ok (.iload_n 3, 1) := by decide +kernel
theorem dX10_sheet_82 : decode cX10_sheet 82 = .ok (.iastore, 1) := by decide +kernel
theorem dX10_sheet_83 : decode cX10_sheet 83 = .ok (.iconst 0, 1) := by decide +kernel
theorem dX10_sheet_84 : decode cX10_sheet 84 = .ok (.istore 4, 2) := by decide +kernel
theorem dX10_sheet_86 : decode cX10_sheet 86 = .ok (.iload 4, 2) := by decide +kernel
theorem dX10_sheet_88 : decode cX10_sheet 88 = .ok (.bipush 40, 2) := by decide +kernel
theorem dX10_sheet_90 : decode cX10_sheet 90 = .ok (.if_icmp .ge 22, 3) := by decide +kernel
theorem dX10_sheet_93 : decode cX10_sheet 93 = .ok (.aload_n 0, 1) := by decide +kernel
theorem dX10_sheet_94 : decode cX10_sheet 94 = .ok (.getfield 25, 3) := by decide +kernel
theorem dX10_sheet_97 : decode cX10_sheet 97 = .ok (.bipush 40, 2) := by decide +kernel
theorem dX10_sheet_99 : decode cX10_sheet 99 = .ok (.iload_n 1, 1) := by decide +kernel
theorem dX10_sheet_100 : decode cX10_sheet 100 = .ok (.imul, 1) := by decide +kernel
theorem dX10_sheet_101 : decode cX10_sheet 101 = .ok (.iload 4, 2) := by decide +kernel
theorem dX10_sheet_103 : decode cX10_sheet 103 = .ok (.iadd, 1) := by decide +kernel
theorem dX10_sheet_104 : decode cX10_sheet 104 = .ok (.lconst 0, 1) := by decide +kernel
theorem dX10_sheet_105 : decode cX10_sheet 105 = .ok (.lastore, 1) := by decide +kernel
theorem dX10_sheet_106 : decode cX10_sheet 106 = .ok (.iinc 4 1, 3) := by decide +kernel
theorem dX10_sheet_109 : decode cX10_sheet 109 = .ok (.goto (-23), 3) := by decide +kernel
theorem dX10_sheet_112 : decode cX10_sheet 112 = .ok (.aload_n 0, 1) := by decide +kernel
theorem dX10_sheet_113 : decode cX10_sheet 113 = .ok (.getfield 22, 3) := by decide +kernel
theorem dX10_sheet_116 : decode cX10_sheet 116 = .ok (.iload_n 1, 1) := by decide +kernel
theorem dX10_sheet_117 : decode cX10_sheet 117 = .ok (.iaload, 1) := by decide +kernel
theorem dX10_sheet_118 : decode cX10_sheet 118 = .ok (.ireturn, 1) := by decide +kernel
theorem dX10_write_0 : decode cX10_write 0 = .ok (.iload_n 1, 1) := by decide +kernel
theorem dX10_write_1 : decode cX10_write 1 = .ok (.invokestatic 256, 3) := by decide +kernel
theorem dX10_write_4 : decode cX10_write 4 = .ok (.ifCond .ne 11, 3) := by decide +kernel
theorem dX10_write_7 : decode cX10_write 7 = .ok (.aload_n 0, 1) := by decide +kernel
theorem dX10_write_8 : decode cX10_write 8 = .ok (.ldc 38, 2) := by decide +kernel
theorem dX10_write_10 : decode cX10_write 10 = .ok (.invokevirtual 63, 3) := by decide +kernel
theorem dX10_write_13 : decode cX10_write 13 = .ok (.i2l, 1) := by decide +kernel
theorem dX10_write_14 : decode cX10_write 14 = .ok (.lreturn, 1) := by decide +kernel
theorem dX10_write_15 : decode cX10_write 15 = .ok (.aload_n 0, 1) := by decide +kernel
theorem dX10_write_16 : decode cX10_write 16 = .ok (.getfield 19, 3) := by decide +kernel
theorem dX10_write_19 : decode cX10_write 19 = .ok (.iload_n 1, 1) := by decide +kernel
theorem dX10_write_20 : decode cX10_write 20 = .ok (.iaload, 1) := by decide +kernel
theorem dX10_write_21 : decode cX10_write 21 = .ok (.ifCond .ne 12, 3) := by decide +kernel
theorem dX10_write_24 : decode cX10_write 24 = .ok (.aload_n 0, 1) := by decide +kernel
theorem dX10_write_25 : decode cX10_write 25 = .ok (.ldc_w 260, 3) := by decide +kernel
theorem dX10_write_28 : decode cX10_write 28 = .ok (.invokevirtual 63, 3) := by decide +kernel
theorem dX10_write_31 : decode cX10_write 31 = .ok (.i2l, 1) := by decide +kernel
theorem dX10_write_32 : decode cX10_write 32 = .ok (.lreturn, 1) := by decide +kernel
theorem dX10_write_33 : decode cX10_write 33 = .ok (.iload_n 2, 1) := by decide +kernel
theorem dX10_write_34 : decode cX10_write 34 = .ok (.iconst 0, 1) := by decide +kernel
theorem dX10_write_35 : decode cX10_write 35 = .ok (.aload_n 0, 1) := by decide +kernel
theorem dX10_write_36 : decode cX10_write 36 = .ok (.getfield 22, 3) := by decide +kernel
theorem dX10_write_39 : decode cX10_write 39 = .ok (.iload_n 1, 1) := by decide +kernel
theorem dX10_write_40 : decode cX10_write 40 = .ok (.iaload, 1) := by decide +kernel
theorem dX10_write_41 : decode cX10_write 41 = .ok (.iconst 1, 1) := by decide +kernel
theorem dX10_write_42 : decode cX10_write 42 = .ok (.isub, 1) := by decide +kernel
theorem dX10_write_43 : decode cX10_write 43 = .ok (.invokestatic 47, 3) := by decide +kernel
theorem dX10_write_46 : decode cX10_write 46 = .ok (.ifCond .ne 11, 3) := by decide +kernel
theorem dX10_write_49 : decode cX10_write 49 = .ok (.aload_n 0, 1) := by decide +kernel
theorem dX10_write_50 : decode cX10_write 50 = .ok (.ldc 38, 2) := by decide +kernel
theorem dX10_write_52 : decode cX10_write 52 = .ok (.invokevirtual 63, 3) := by decide +kernel
theorem dX10_write_55 : decode cX10_write 55 = .ok (.i2l, 1) := by decide +kernel
theorem dX10_write_56 : decode cX10_write 56 = .ok (.lreturn, 1) := by decide +kernel
theorem dX10_write_57 : decode cX10_write 57 = .ok (.aload_n 0, 1) := by decide +kernel
theorem dX10_write_58 : decode cX10_write 58 = .ok (.getfield 25, 3) := by decide +kernel
theorem dX10_write_61 : decode cX10_write 61 = .ok (.bipush 40, 2) := by decide +kernel
theorem dX10_write_63 : decode cX10_write 63 = .ok (.iload_n 1, 1) := by decide +kernel
theorem dX10_write_64 : decode cX10_write 64 = .ok (.imul, 1) := by decide +kernel
theorem dX10_write_65 : decode cX10_write 65 = .ok (.iload_n 2, 1) := by decide +kernel
theorem dX10_write_66 : decode cX10_write 66 = .ok (.iadd, 1) := by decide +kernel
theorem dX10_write_67 : decode cX10_write 67 = .ok (.laload, 1) := by decide +kernel
theorem dX10_write_68 : decode cX10_write 68 = .ok (.lstore 5, 2) := by decide +kernel
theorem dX10_write_70 : decode cX10_write 70 = .ok (.aload_n 0, 1) := by decide +kernel
theorem dX10_write_71 : decode cX10_write 71 = .ok (.getfield 25, 3) := by decide +kernel
theorem dX10_write_74 : decode cX10_write 74 = .ok (.bipush 40, 2) := by decide +kernel
theorem dX10_write_76 : decode cX10_write 76 = .ok (.iload_n 1, 1) := by decide +kernel
theorem dX10_write_77 : decode cX10_write 77 = .ok (.imul, 1) := by decide +kernel
theorem dX10_write_78 : decode cX10_write 78 = .ok (.iload_n 2, 1) := by decide +kernel
theorem dX10_write_79 : decode cX10_write 79 = .ok (.iadd, 1) := by decide +kernel
theorem dX10_write_80 : decode cX10_write 80 = .ok (.aload_n 0, 1) := by decide +kernel
theorem dX10_write_81 : decode cX10_write 81 = .ok (.getfield 19, 3) := by decide +kernel
theorem dX10_write_84 : decode cX10_write 84 = .ok (.iload_n 1, 1) := by decide +kernel
theorem dX10_write_85 : decode cX10_write 85 = .ok (.iaload, 1) := by decide +kernel
theorem dX10_write_86 : decode cX10_write 86 = .ok (.lload_n 3, 1) := by decide +kernel
theorem dX10_write_87 : decode cX10_write 87 = .ok (.invokestatic 261, 3) := by decide +kernel
theorem dX10_write_90 : decode cX10_write 90 = .ok (.lastore, 1) := by decide +kernel
theorem dX10_write_91 : decode cX10_write 91 = .ok (.lload 5, 2) := by decide +kernel
theorem dX10_write_93 : decode cX10_write 93 = .ok (.lreturn, 1) := by decide +kernel
theorem dX10_isPart__0 : decode cX10_isPart_ 0 = .ok (.iload_n 2, 1) := by decide +kernel
theorem dX10_isPart__1 : decode cX10_isPart_ 1 = .ok (.ifCond .lt 33, 3) := by decide +kernel
theorem dX10_isPart__4 : decode cX10_isPart_ 4 = .ok (.iload_n 3, 1) := by decide +kernel
theorem dX10_isPart__5 : decode cX10_isPart_ 5 = .ok (.ifCond .lt 29, 3) := by decide +kernel
theorem dX10_isPart__8 : decode cX10_isPart_ 8 = .ok (.iload_n 3, 1) := by decide +kernel
theorem dX10_isPart__9 : decode cX10_isPart_ 9 = .ok (.aload_n 0, 1) := by decide +kernel
theorem dX10_isPart__10 : decode cX10_isPart_ 10 = .ok (.getfield 22, 3) := by decide +kernel
theorem dX10_isPart__13 : decode cX10_isPart_ 13 = .ok (.iload_n 1, 1) := by decide +kernel
theorem dX10_isPart__14 : decode cX10_isPart_ 14 = .ok (.iaload, 1) := by decide +kernel
theorem dX10_isPart__15 : decode cX10_isPart_ 15 = .ok (.if_icmp .gt 19, 3) := by decide +kernel
theorem dX10_isPart__18 : decode cX10_isPart_ 18 = .ok (.iload_n 2, 1) := by decide +kernel
theorem dX10_isPart__19 : decode cX10_isPart_ 19 = .ok (.aload_n 0, 1) := by decide +kernel
theorem dX10_isPart__20 : decode cX10_isPart_ 20 = .ok (.getfield 22, 3) := by decide +kernel
theorem dX10_isPart__23 : decode cX10_isPart_ 23 = .ok (.iload_n 1, 1) := by decide +kernel
theorem dX10_isPart__24 : decode cX10_isPart_ 24 = .ok (.iaload, 1) := by decide +kernel
theorem dX10_isPart__25 : decode cX10_isPart_ 25 = .ok (.iload_n 3, 1) := by decide +kernel
theorem dX10_isPart__26 : decode cX10_isPart_ 26 = .ok (.isub, 1) := by decide +kernel
theorem dX10_isPart__27 : decode cX10_isPart_ 27 = .ok (.if_icmp .gt 7, 3) := by decide +kernel
theorem dX10_isPart__30 : decode cX10_isPart_ 30 = .ok (.iconst 1, 1) := by decide +kernel
theorem dX10_isPart__31 : decode cX10_isPart_ 31 = .ok (.goto 4, 3) := by decide +kernel
theorem dX10_isPart__34 : decode cX10_isPart_ 34 = .ok (.iconst 0, 1) := by decide +kernel
theorem dX10_isPart__35 : decode cX10_isPart_ 35 = .ok (.ireturn, 1) := by decide +kernel
theorem dX10_copy_0 : decode cX10_copy 0 = .ok (.iload_n 1, 1) := by decide +kernel
theorem dX10_copy_1 : decode cX10_copy 1 = .ok (.invokestatic 256, 3) := by decide +kernel
theorem dX10_copy_4 : decode cX10_copy 4 = .ok (.ifCond .eq 10, 3) := by decide +kernel
theorem dX10_copy_7 : decode cX10_copy 7 = .ok (.iload_n 3, 1) := by decide +kernel
theorem dX10_copy_8 : decode cX10_copy 8 = .ok (.invokestatic 256, 3) := by decide +kernel
theorem dX10_copy_11 : decode cX10_copy 11 = .ok (.ifCond .ne 10, 3) := by decide +kernel
theorem dX10_copy_14 : decode cX10_copy 14 = .ok (.aload_n 0, 1) := by decide +kernel
theorem dX10_copy_15 : decode cX10_copy 15 = .ok (.ldc 38, 2) := by decide +kernel
theorem dX10_copy_17 : decode cX10_copy 17 = .ok (.invokevirtual 63, 3) := by decide +kernel
theorem dX10_copy_20 : decode cX10_copy 20 = .ok (.ireturn, 1) := by decide +kernel
theorem dX10_copy_21 : decode cX10_copy 21 = .ok (.aload_n 0, 1) := by decide +kernel
theorem dX10_copy_22 : decode cX10_copy 22 = .ok (.getfield 19, 3) := by decide +kernel
theorem dX10_copy_25 : decode cX10_copy 25 = .ok (.iload_n 1, 1) := by decide +kernel
theorem dX10_copy_26 : decode cX10_copy 26 = .ok (.iaload, 1) := by decide +kernel
theorem dX10_copy_27 : decode cX10_copy 27 = .ok (.ifCond .eq 12, 3) := by decide +kernel
theorem dX10_copy_30 : decode cX10_copy 30 = .ok (.aload_n 0, 1) := by decide +kernel
theorem dX10_copy_31 : decode cX10_copy 31 = .ok (.getfield 19, 3) := by decide +kernel
theorem dX10_copy_34 : decode cX10_copy 34 = .ok (.iload_n 3, 1) := by decide +kernel
theorem dX10_copy_35 : decode cX10_copy 35 = .ok (.iaload, 1) := by decide +kernel
theorem dX10_copy_36 : decode cX10_copy 36 = .ok (.ifCond .ne 11, 3) := by decide +kernel
theorem dX10_copy_39 : decode cX10_copy 39 = .ok (.aload_n 0, 1) := by decide +kernel
theorem dX10_copy_40 : decode cX10_copy 40 = .ok (.ldc_w 260, 3) := by decide +kernel
theorem dX10_copy_43 : decode cX10_copy 43 = .ok (.invokevirtual 63, 3) := by decide +kernel
theorem dX10_copy_46 : decode cX10_copy 46 = .ok (.ireturn, 1) := by decide +kernel
theorem dX10_copy_47 : decode cX10_copy 47 = .ok (.aload_n 0, 1) := by decide +kernel
theorem dX10_copy_48 : decode cX10_copy 48 = .ok (.getfield 19, 3) := by decide +kernel
theorem dX10_copy_51 : decode cX10_copy 51 = .ok (.iload_n 1, 1) := by decide +kernel
theorem dX10_copy_52 : decode cX10_copy 52 = .ok (.iaload, 1) := by decide +kernel
theorem dX10_copy_53 : decode cX10_copy 53 = .ok (.aload_n 0, 1) := by decide +kernel
theorem dX10_copy_54 : decode cX10_copy 54 = .ok (.getfield 19, 3) := by decide +kernel
theorem dX10_copy_57 : decode cX10_copy 57 = .ok (.iload_n 3, 1) := by decide +kernel
theorem dX10_copy_58 : decode cX10_copy 58 = .ok (.iaload, 1) := by decide +kernel
theorem dX10_copy_59 : decode cX10_copy 59 = .ok (.if_icmp .eq 10, 3) := by decide +kernel
theorem dX10_copy_62 : decode cX10_copy 62 = .ok (.aload_n 0, 1) := by decide +kernel
theorem dX10_copy_63 : decode cX10_copy 63 = .ok (.ldc 100, 2) := by decide +kernel
theorem dX10_copy_65 : decode cX10_copy 65 = .ok (.invokevirtual 63, 3) := by decide +kernel
theorem dX10_copy_68 : decode cX10_copy 68 = .ok (.ireturn, 1) := by decide +kernel
theorem dX10_copy_69 : decode cX10_copy 69 = .ok (.aload_n 0, 1) := by decide +kernel
theorem dX10_copy_70 : decode cX10_copy 70 = .ok (.iload_n 1, 1) := by decide +kernel
theorem dX10_copy_71 : decode cX10_copy 71 = .ok (.iload_n 2, 1) := by decide +kernel
theorem dX10_copy_72 : decode cX10_copy 72 = .ok (.iload 5, 2) := by decide +kernel
theorem dX10_copy_74 : decode cX10_copy 74 = .ok (.invokevirtual 265, 3) := by decide +kernel
theorem dX10_copy_77 : decode cX10_copy 77 = .ok (.ifCond .eq 15, 3) := by decide +kernel
theorem dX10_copy_80 : decode cX10_copy 80 = .ok (.aload_n 0, 1) := by decide +kernel
theorem dX10_copy_81 : decode cX10_copy 81 = .ok (.iload_n 3, 1) := by decide +kernel
theorem dX10_copy_82 : decode cX10_copy 82 = .ok (.iload 4, 2) := by decide +kernel
theorem dX10_copy_84 : decode cX10_copy 84 = .ok (.iload 5, 2) := by decide +kernel
theorem dX10_copy_86 : decode cX10_copy 86 = .ok (.invokevirtual 265, 3) := by decide +kernel
theorem dX10_copy_89 : decode cX10_copy 89 = .ok (.ifCond .ne 10, 3) := by decide +kernel
theorem dX10_copy_92 : decode cX10_copy 92 = .ok (.aload_n 0, 1) := by decide +kernel
theorem dX10_copy_93 : decode cX10_copy 93 = .ok (.ldc 38, 2) := by decide +kernel
theorem dX10_copy_95 : decode cX10_copy 95 = .ok (.invokevirtual 63, 3) := by decide +kernel
theorem dX10_copy_98 : decode cX10_copy 98 = .ok (.ireturn, 1) := by decide +kernel
theorem dX10_copy_99 : decode cX10_copy 99 = .ok (.iconst 0, 1) := by decide +kernel
theorem dX10_copy_100 : decode cX10_copy 100 = .ok (.istore 6, 2) := by decide +kernel
theorem dX10_copy_102 : decode cX10_copy 102 = .ok (.iload 6, 2) := by decide +kernel
theorem dX10_copy_104 : decode cX10_copy 104 = .ok (.iload 5, 2) := by decide +kernel
theorem dX10_copy_106 : decode cX10_copy 106 = .ok (.if_icmp .ge 30, 3) := by decide +kernel
theorem dX10_copy_109 : decode cX10_copy 109 = .ok (.aload_n 0, 1) := by decide +kernel
theorem dX10_copy_110 : decode cX10_copy 110 = .ok (.getfield 29, 3) := by decide +kernel
theorem dX10_copy_113 : decode cX10_copy 113 = .ok (.iload 6, 2) := by decide +kernel
theorem dX10_copy_115 : decode cX10_copy 115 = .ok (.aload_n 0, 1) := by decide +kernel
theorem dX10_copy_116 : decode cX10_copy 116 = .ok (.getfield 25, 3) := by decide +kernel
theorem dX10_copy_119 : decode cX10_copy 119 = .ok (.bipush 40, 2) := by decide +kernel
theorem dX10_copy_121 : decode cX10_copy 121 = .ok (.iload_n 1, 1) := by decide +kernel
theorem dX10_copy_122 : decode cX10_copy 122 = .ok (.imul, 1) := by decide +kernel
theorem dX10_copy_123 : decode cX10_copy 123 = .ok (.iload_n 2, 1) := by decide +kernel
theorem dX10_copy_124 : decode cX10_copy 124 = .ok (.iadd, 1) := by decide +kernel
theorem dX10_copy_125 : decode cX10_copy 125 = .ok (.iload 6, 2) := by decide +kernel
theorem dX10_copy_127 : decode cX10_copy 127 = .ok (.iadd, 1) := by decide +kernel
theorem dX10_copy_128 : decode cX10_copy 128 = .ok (.laload, 1) := by decide +kernel
theorem dX10_copy_129 : decode cX10_copy 129 = .ok (.lastore, 1) := by decide +kernel
theorem dX10_copy_130 : decode cX10_copy 130 = .ok (.iinc 6 1, 3) := by decide +kernel
theorem dX10_copy_133 : decode cX10_copy 133 = .ok (.goto (-31), 3) := by decide +kernel
theorem dX10_copy_136 : decode cX10_copy 136 = .ok (.iconst 0, 1) := by decide +kernel
theorem dX10_copy_137 : decode cX10_copy 137 = .ok (.istore 6, 2) := by decide +kernel
theorem dX10_copy_139 : decode cX10_copy 139 = .ok (.iload 6, 2) := by decide +kernel
theorem dX10_copy_141 : decode cX10_copy 141 = .ok (.iload 5, 2) := by decide +kernel
theorem dX10_copy_143 : decode cX10_copy 143 = .ok (.if_icmp .ge 31, 3) := by decide +kernel
theorem dX10_copy_146 : decode cX10_copy 146 = .ok (.aload_n 0, 1) := by decide +kernel
theorem dX10_copy_147 : decode cX10_copy 147 = .ok (.getfield 25, 3) := by decide +kernel
theorem dX10_copy_150 : decode cX10_copy 150 = .ok (.bipush 40, 2) := by decide +kernel
theorem dX10_copy_152 : decode cX10_copy 152 = .ok (.iload_n 3, 1) := by decide +kernel
theorem dX10_copy_153 : decode cX10_copy 153 = .ok (.imul, 1) := by decide +kernel
theorem dX10_copy_154 : decode cX10_copy 154 = .ok (.iload 4, 2) := by decide +kernel
theorem dX10_copy_156 : decode cX10_copy 156 = .ok (.iadd, 1) := by decide +kernel
theorem dX10_copy_157 : decode cX10_copy 157 = .ok (.iload 6, 2) := by decide +kernel
theorem dX10_copy_159 : decode cX10_copy 159 = .ok (.iadd, 1) := by decide +kernel
theorem dX10_copy_160 : decode cX10_copy 160 = .ok (.aload_n 0, 1) := by decide +kernel
theorem dX10_copy_161 : decode cX10_copy 161 = .ok (.getfield 29, 3) := by decide +kernel
theorem dX10_copy_164 : decode cX10_copy 164 = .ok (.iload 6, 2) := by decide +kernel
theorem dX10_copy_166 : decode cX10_copy 166 = .ok (.laload, 1) := by decide +kernel
theorem dX10_copy_167 : decode cX10_copy 167 = .ok (.lastore, 1) := by decide +kernel
theorem dX10_copy_168 : decode cX10_copy 168 = .ok (.iinc 6 1, 3) := by decide +kernel
theorem dX10_copy_171 : decode cX10_copy 171 = .ok (.goto (-32), 3) := by decide +kernel
theorem dX10_copy_174 : decode cX10_copy 174 = .ok (.iload 5, 2) := by decide +kernel
theorem dX10_copy_176 : decode cX10_copy 176 = .ok (.ireturn, 1) := by decide +kernel
theorem dX10_lays_0 : decode cX10_lays 0 = .ok (.iload_n 1, 1) := by decide +kernel
theorem dX10_lays_1 : decode cX10_lays 1 = .ok (.invokestatic 256, 3) := by decide +kernel
theorem dX10_lays_4 : decode cX10_lays 4 = .ok (.ifCond .ne 10, 3) := by decide +kernel
theorem dX10_lays_7 : decode cX10_lays 7 = .ok (.aload_n 0, 1) := by decide +kernel
theorem dX10_lays_8 : decode cX10_lays 8 = .ok (.ldc 38, 2) := by decide +kernel
theorem dX10_lays_10 : decode cX10_lays 10 = .ok (.invokevirtual 63, 3) := by decide +kernel
theorem dX10_lays_13 : decode cX10_lays 13 = .ok (.ireturn, 1) := by decide +kernel
theorem dX10_lays_14 : decode cX10_lays 14 = .ok (.aload_n 0, 1) := by decide +kernel
theorem dX10_lays_15 : decode cX10_lays 15 = .ok (.getfield 19, 3) := by decide +kernel
theorem dX10_lays_18 : decode cX10_lays 18 = .ok (.iload_n 1, 1) := by decide +kernel
theorem dX10_lays_19 : decode cX10_lays 19 = .ok (.iaload, 1) := by decide +kernel
theorem dX10_lays_20 : decode cX10_lays 20 = .ok (.ifCond .ne 11, 3) := by decide +kernel
theorem dX10_lays_23 : decode cX10_lays 23 = .ok (.aload_n 0, 1) := by decide +kernel
theorem dX10_lays_24 : decode cX10_lays 24 = .ok (.ldc_w 260, 3) := by decide +kernel
theorem dX10_lays_27 : decode cX10_lays 27 = .ok (.invokevirtual 63, 3) := by decide +kernel
theorem dX10_lays_30 : decode cX10_lays 30 = .ok (.ireturn, 1) := by decide +kernel
theorem dX10_lays_31 : decode cX10_lays 31 = .ok (.iconst 0, 1) := by decide +kernel
theorem dX10_lays_32 : decode cX10_lays 32 = .ok (.istore_n 2, 1) := by decide +kernel
theorem dX10_lays_33 : decode cX10_lays 33 = .ok (.iconst 0, 1) := by decide +kernel
theorem dX10_lays_34 : decode cX10_lays 34 = .ok (.istore_n 3, 1) := by decide +kernel
theorem dX10_lays_35 : decode cX10_lays 35 = .ok (.iload_n 3, 1) := by decide +kernel
theorem dX10_lays_36 : decode cX10_lays 36 = .ok (.bipush 40, 2) := by decide +kernel
theorem dX10_lays_38 : decode cX10_lays 38 = .ok (.if_icmp .ge 62, 3) := by decide +kernel
theorem dX10_lays_41 : decode cX10_lays 41 = .ok (.iload_n 3, 1) := by decide +kernel
theorem dX10_lays_42 : decode cX10_lays 42 = .ok (.aload_n 0, 1) := by decide +kernel
theorem dX10_lays_43 : decode cX10_lays 43 = .ok (.getfield 22, 3) := by decide +kernel
theorem dX10_lays_46 : decode cX10_lays 46 = .ok (.iload_n 1, 1) := by decide +kernel
theorem dX10_lays_47 : decode cX10_lays 47 = .ok (.iaload, 1) := by decide +kernel
theorem dX10_lays_48 : decode cX10_lays 48 = .ok (.if_icmp .ge 52, 3) := by decide +kernel
theorem dX10_lays_51 : decode cX10_lays 51 = .ok (.aload_n 0, 1) := by decide +kernel
theorem dX10_lays_52 : decode cX10_lays 52 = .ok (.getfield 25, 3) := by decide +kernel
theorem dX10_lays_55 : decode cX10_lays 55 = .ok (.bipush 40, 2) := by decide +kernel
theorem dX10_lays_57 : decode cX10_lays 57 = .ok (.iload_n 1, 1) := by decide +kernel
theorem dX10_lays_58 : decode cX10_lays 58 = .ok (.imul, 1) := by decide +kernel
theorem dX10_lays_59 : decode cX10_lays 59 = .ok (.iload_n 3, 1) := by decide +kernel
theorem dX10_lays_60 : decode cX10_lays 60 = .ok (.iadd, 1) := by decide +kernel
theorem dX10_lays_61 : decode cX10_lays 61 = .ok (.laload, 1) := by decide +kernel
theorem dX10_lays_62 : decode cX10_lays 62 = .ok (.lstore 4, 2) := by decide +kernel
theorem dX10_lays_64 : decode cX10_lays 64 = .ok (.lload 4, 2) := by decide +kernel
theorem dX10_lays_66 : decode cX10_lays 66 = .ok (.lconst 1, 1) := by decide +kernel
theorem dX10_lays_67 : decode cX10_lays 67 = .ok (.lcmp, 1) := by decide +kernel
theorem dX10_lays_68 : decode cX10_lays 68 = .ok (.ifCond .lt 26, 3) := by decide +kernel
theorem dX10_lays_71 : decode cX10_lays 71 = .ok (.lload 4, 2) := by decide +kernel
theorem dX10_lays_73 : decode cX10_lays 73 = .ok (.ldc2_w 267, 3) := by decide +kernel
theorem dX10_lays_76 : decode cX10_lays 76 = .ok (.lcmp, 1) := by decide +kernel
theorem dX10_lays_77 : decode cX10_lays 77 = .ok (.ifCond .gt 17, 3) := by decide +kernel
theorem dX10_lays_80 : decode cX10_lays 80 = .ok (.aload_n 0, 1) := by decide +kernel
theorem dX10_lays_81 : decode cX10_lays 81 = .ok (.getfield 7, 3) := by decide +kernel
theorem dX10_lays_84 : decode cX10_lays 84 = .ok (.iconst 5, 1) := by decide +kernel
theorem dX10_lays_85 : decode cX10_lays 85 = .ok (.iload_n 3, 1) := by decide +kernel
theorem dX10_lays_86 : decode cX10_lays 86 = .ok (.iadd, 1) := by decide +kernel
theorem dX10_lays_87 : decode cX10_lays 87 = .ok (.lload 4, 2) := by decide +kernel
theorem dX10_lays_89 : decode cX10_lays 89 = .ok (.l2i, 1) := by decide +kernel
theorem dX10_lays_90 : decode cX10_lays 90 = .ok (.iastore, 1) := by decide +kernel
theorem dX10_lays_91 : decode cX10_lays 91 = .ok (.iinc 2 1, 3) := by decide +kernel
theorem dX10_lays_94 : decode cX10_lays 94 = .ok (.iinc 3 1, 3) := by decide +kernel
theorem dX10_lays_97 : decode cX10_lays 97 = .ok (.goto (-62), 3) := by decide +kernel
theorem dX10_lays_100 : decode cX10_lays 100 = .ok (.iload_n 2, 1) := by decide +kernel
theorem dX10_lays_101 : decode cX10_lays 101 = .ok (.ireturn, 1) := by decide +kernel
theorem dX10_stair_0 : decode cX10_stair 0 = .ok (.iload_n 1, 1) := by decide +kernel
theorem dX10_stair_1 : decode cX10_stair 1 = .ok (.invokestatic 256, 3) := by decide +kernel
theorem dX10_stair_4 : decode cX10_stair 4 = .ok (.ifCond .ne 8, 3) := by decide +kernel
theorem dX10_stair_7 : decode cX10_stair 7 = .ok (.ldc 38, 2) := by decide +kernel
theorem dX10_stair_9 : decode cX10_stair 9 = .ok (.goto 44, 3) := by decide +kernel
theorem dX10_stair_12 : decode cX10_stair 12 = .ok (.aload_n 0, 1) := by decide +kernel
theorem dX10_stair_13 : decode cX10_stair 13 = .ok (.getfield 19, 3) := by decide +kernel
theorem dX10_stair_16 : decode cX10_stair 16 = .ok (.iload_n 1, 1) := by decide +kernel
theorem dX10_stair_17 : decode cX10_stair 17 = .ok (.iaload, 1) := by decide +kernel
theorem dX10_stair_18 : decode cX10_stair 18 = .ok (.ifCond .ne 9, 3) := by decide +kernel
theorem dX10_stair_21 : decode cX10_stair 21 = .ok (.ldc_w 260, 3) := by decide +kernel
theorem dX10_stair_24 : decode cX10_stair 24 = .ok (.goto 29, 3) := by decide +kernel
theorem dX10_stair_27 : decode cX10_stair 27 = .ok (.iload_n 2, 1) := by decide +kernel
theorem dX10_stair_28 : decode cX10_stair 28 = .ok (.invokestatic 141, 3) := by decide +kernel
theorem dX10_stair_31 : decode cX10_stair 31 = .ok (.ifCond .ne 8, 3) := by decide +kernel
theorem dX10_stair_34 : decode cX10_stair 34 = .ok (.ldc 38, 2) := by decide +kernel
theorem dX10_stair_36 : decode cX10_stair 36 = .ok (.goto 17, 3) := by decide +kernel
theorem dX10_stair_39 : decode cX10_stair 39 = .ok (.aload_n 0, 1) := by decide +kernel
theorem dX10_stair_40 : decode cX10_stair 40 = .ok (.iload_n 2, 1) := by decide +kernel
theorem dX10_stair_41 : decode cX10_stair 41 = .ok (.invokevirtual 135, 3) := by decide +kernel
theorem dX10_stair_44 : decode cX10_stair 44 = .ok (.ifCond .eq 8, 3) := by decide +kernel
theorem dX10_stair_47 : decode cX10_stair 47 = .ok (.ldc 101, 2) := by decide +kernel
theorem dX10_stair_49 : decode cX10_stair 49 = .ok (.goto 4, 3) := by decide +kernel
theorem dX10_stair_52 : decode cX10_stair 52 = .ok (.iconst 0, 1) := by decide +kernel
theorem dX10_stair_53 : decode cX10_stair 53 = .ok (.istore_n 3, 1) := by decide +kernel
theorem dX10_stair_54 : decode cX10_stair 54 = .ok (.iload_n 3, 1) := by decide +kernel
theorem dX10_stair_55 : decode cX10_stair 55 = .ok (.ifCond .eq 9, 3) := by decide +kernel
theorem dX10_stair_58 : decode cX10_stair 58 = .ok (.aload_n 0, 1) := by decide +kernel
theorem dX10_stair_59 : decode cX10_stair 59 = .ok (.iload_n 3, 1) := by decide +kernel
theorem dX10_stair_60 : decode cX10_stair 60 = .ok (.invokevirtual 63, 3) := by decide +kernel
theorem dX10_stair_63 : decode cX10_stair 63 = .ok (.ireturn, 1) := by decide +kernel
theorem dX10_stair_64 : decode cX10_stair 64 = .ok (.aload_n 0, 1) := by decide +kernel
theorem dX10_stair_65 : decode cX10_stair 65 = .ok (.invokevirtual 144, 3) := by decide +kernel
theorem dX10_stair_68 : decode cX10_stair 68 = .ok (.aload_n 0, 1) := by decide +kernel
theorem dX10_stair_69 : decode cX10_stair 69 = .ok (.iload_n 2, 1) := by decide +kernel
theorem dX10_stair_70 : decode cX10_stair 70 = .ok (.invokevirtual 138, 3) := by decide +kernel
theorem dX10_stair_73 : decode cX10_stair 73 = .ok (.iconst 0, 1) := by decide +kernel
theorem dX10_stair_74 : decode cX10_stair 74 = .ok (.istore 4, 2) := by decide +kernel
theorem dX10_stair_76 : decode cX10_stair 76 = .ok (.iload 4, 2) := by decide +kernel
theorem dX10_stair_78 : decode cX10_stair 78 = .ok (.bipush 40, 2) := by decide +kernel
theorem dX10_stair_80 : decode cX10_stair 80 = .ok (.if_icmp .ge 55, 3) := by decide +kernel
theorem dX10_stair_83 : decode cX10_stair 83 = .ok (.iload 4, 2) := by decide +kernel
theorem dX10_stair_85 : decode cX10_stair 85 = .ok (.aload_n 0, 1) := by decide +kernel
theorem dX10_stair_86 : decode cX10_stair 86 = .ok (.getfield 22, 3) := by decide +kernel
theorem dX10_stair_89 : decode cX10_stair 89 = .ok (.iload_n 1, 1) := by decide +kernel
theorem dX10_stair_90 : decode cX10_stair 90 = .ok (.iaload, 1) := by decide +kernel
theorem dX10_stair_91 : decode cX10_stair 91 = .ok (.if_icmp .ge 44, 3) := by decide +kernel
theorem dX10_stair_94 : decode cX10_stair 94 = .ok (.aload_n 0, 1) := by decide +kernel
theorem dX10_stair_95 : decode cX10_stair 95 = .ok (.getfield 25, 3) := by decide +kernel
theorem dX10_stair_98 : decode cX10_stair 98 = .ok (.bipush 40, 2) := by decide +kernel
theorem dX10_stair_100 : decode cX10_stair 100 = .ok (.iload_n 1, 1) := by decide +kernel
theorem dX10_stair_101 : decode cX10_stair 101 = .ok (.imul, 1) := by decide +kernel
theorem dX10_stair_102 : decode cX10_stair 102 = .ok (.iload 4, 2) := by decide +kernel
theorem dX10_stair_104 : decode cX10_stair 104 = .ok (.iadd, 1) := by decide +kernel
theorem dX10_stair_105 : decode cX10_stair 105 = .ok (.aload_n 0, 1) := by decide +kernel
theorem dX10_stair_106 : decode cX10_stair 106 = .ok (.iload 4, 2) := by decide +kernel
theorem dX10_stair_108 : decode cX10_stair 108 = .ok (.invokevirtual 78, 3) := by decide +kernel
theorem dX10_stair_111 : decode cX10_stair 111 = .ok (.ifCond .eq 16, 3) := by decide +kernel
theorem dX10_stair_114 : decode cX10_stair 114 = .ok (.aload_n 0, 1) := by decide +kernel
theorem dX10_stair_115 : decode cX10_stair 115 = .ok (.bipush 85, 2) := by decide +kernel
theorem dX10_stair_117 : decode cX10_stair 117 = .ok (.iload 4, 2) := by decide +kernel
theorem dX10_stair_119 : decode cX10_stair 119 = .ok (.iadd, 1) := by decide +kernel
theorem dX10_stair_120 : decode cX10_stair 120 = .ok (.invokevirtual 43, 3) := by decide +kernel
theorem dX10_stair_123 : decode cX10_stair 123 = .ok (.i2l, 1) := by decide +kernel
theorem dX10_stair_124 : decode cX10_stair 124 = .ok (.goto 4, 3) := by decide +kernel
theorem dX10_stair_127 : decode cX10_stair 127 = .ok (.lconst 0, 1) := by decide +kernel
theorem dX10_stair_128 : decode cX10_stair 128 = .ok (.lastore, 1) := by decide +kernel
theorem dX10_stair_129 : decode cX10_stair 129 = .ok (.iinc 4 1, 3) := by decide +kernel
theorem dX10_stair_132 : decode cX10_stair 132 = .ok (.goto (-56), 3) := by decide +kernel
theorem dX10_stair_135 : decode cX10_stair 135 = .ok (.aload_n 0, 1) := by decide +kernel
theorem dX10_stair_136 : decode cX10_stair 136 = .ok (.iconst 0, 1) := by decide +kernel
theorem dX10_stair_137 : decode cX10_stair 137 = .ok (.putfield 39, 3) := by decide +kernel
theorem dX10_stair_140 : decode cX10_stair 140 = .ok (.iload 4, 2) := by decide +kernel
theorem dX10_stair_142 : decode cX10_stair 142 = .ok (.ireturn, 1) := by decide +kernel
theorem dX10_read_0 : decode cX10_read 0 = .ok (.iload_n 1, 1) := by decide +kernel
theorem dX10_read_1 : decode cX10_read 1 = .ok (.invokestatic 256, 3) := by decide +kernel
theorem dX10_read_4 : decode cX10_read 4 = .ok (.ifCond .ne 8, 3) := by decide +kernel
theorem dX10_read_7 : decode cX10_read 7 = .ok (.ldc 38, 2) := by decide +kernel
theorem dX10_read_9 : decode cX10_read 9 = .ok (.goto 33, 3) := by decide +kernel
theorem dX10_read_12 : decode cX10_read 12 = .ok (.aload_n 0, 1) := by decide +kernel
theorem dX10_read_13 : decode cX10_read 13 = .ok (.getfield 19, 3) := by decide +kernel
theorem dX10_read_16 : decode cX10_read 16 = .ok (.iload_n 1, 1) := by decide +kernel
theorem dX10_read_17 : decode cX10_read 17 = .ok (.iaload, 1) := by decide +kernel
theorem dX10_read_18 : decode cX10_read 18 = .ok (.ifCond .ne 9, 3) := by decide +kernel
theorem dX10_read_21 : decode cX10_read 21 = .ok (.ldc_w 260, 3) := by decide +kernel
theorem dX10_read_24 : decode cX10_read 24 = .ok (.goto 18, 3) := by decide +kernel
theorem dX10_read_27 : decode cX10_read 27 = .ok (.aload_n 0, 1) := by decide +kernel
theorem dX10_read_28 : decode cX10_read 28 = .ok (.bipush 40, 2) := by decide +kernel
theorem dX10_read_30 : decode cX10_read 30 = .ok (.invokevirtual 135, 3) := by decide +kernel
theorem dX10_read_33 : decode cX10_read 33 = .ok (.ifCond .eq 8, 3) := by decide +kernel
theorem dX10_read_36 : decode cX10_read 36 = .ok (.ldc 101, 2) := by decide +kernel
theorem dX10_read_38 : decode cX10_read 38 = .ok (.goto 4, 3) := by decide +kernel
theorem dX10_read_41 : decode cX10_read 41 = .ok (.iconst 0, 1) := by decide +kernel
theorem dX10_read_42 : decode cX10_read 42 = .ok (.istore_n 2, 1) := by decide +kernel
theorem dX10_read_43 : decode cX10_read 43 = .ok (.iload_n 2, 1) := by decide +kernel
theorem dX10_read_44 : decode cX10_read 44 = .ok (.ifCond .eq 9, 3) := by decide +kernel
theorem dX10_read_47 : decode cX10_read 47 = .ok (.aload_n 0, 1) := by decide +kernel
theorem dX10_read_48 : decode cX10_read 48 = .ok (.iload_n 2, 1) := by decide +kernel
theorem dX10_read_49 : decode cX10_read 49 = .ok (.invokevirtual 63, 3) := by decide +kernel
theorem dX10_read_52 : decode cX10_read 52 = .ok (.ireturn, 1) := by decide +kernel
theorem dX10_read_53 : decode cX10_read 53 = .ok (.aload_n 0, 1) := by decide +kernel
theorem dX10_read_54 : decode cX10_read 54 = .ok (.invokevirtual 144, 3) := by decide +kernel
theorem dX10_read_57 : decode cX10_read 57 = .ok (.iconst 0, 1) := by decide +kernel
theorem dX10_read_58 : decode cX10_read 58 = .ok (.istore_n 3, 1) := by decide +kernel
theorem dX10_read_59 : decode cX10_read 59 = .ok (.iconst 0, 1) := by decide +kernel
theorem dX10_read_60 : decode cX10_read 60 = .ok (.istore 4, 2) := by decide +kernel
theorem dX10_read_62 : decode cX10_read 62 = .ok (.iload 4, 2) := by decide +kernel
theorem dX10_read_64 : decode cX10_read 64 = .ok (.aload_n 0, 1) := by decide +kernel
theorem dX10_read_65 : decode cX10_read 65 = .ok (.getfield 22, 3) := by decide +kernel
theorem dX10_read_68 : decode cX10_read 68 = .ok (.iload_n 1, 1) := by decide +kernel
theorem dX10_read_69 : decode cX10_read 69 = .ok (.iaload, 1) := by decide +kernel
theorem dX10_read_70 : decode cX10_read 70 = .ok (.if_icmp .ge 47, 3) := by decide +kernel
theorem dX10_read_73 : decode cX10_read 73 = .ok (.iload_n 3, 1) := by decide +kernel
theorem dX10_read_74 : decode cX10_read 74 = .ok (.ifCond .ne 43, 3) := by decide +kernel
theorem dX10_read_77 : decode cX10_read 77 = .ok (.aload_n 0, 1) := by decide +kernel
theorem dX10_read_78 : decode cX10_read 78 = .ok (.getfield 25, 3) := by decide +kernel
theorem dX10_read_81 : decode cX10_read 81 = .ok (.bipush 40, 2) := by decide +kernel
theorem dX10_read_83 : decode cX10_read 83 = .ok (.iload_n 1, 1) := by decide +kernel
theorem dX10_read_84 : decode cX10_read 84 = .ok (.imul, 1) := by decide +kernel
theorem dX10_read_85 : decode cX10_read 85 = .ok (.iload 4, 2) := by decide +kernel
theorem dX10_read_87 : decode cX10_read 87 = .ok (.iadd, 1) := by decide +kernel
theorem dX10_read_88 : decode cX10_read 88 = .ok (.laload, 1) := by decide +kernel
theorem dX10_read_89 : decode cX10_read 89 = .ok (.aload_n 0, 1) := by decide +kernel
theorem dX10_read_90 : decode cX10_read 90 = .ok (.invokevirtual 119, 3) := by decide +kernel
theorem dX10_read_93 : decode cX10_read 93 = .ok (.i2l, 1) := by decide +kernel
theorem dX10_read_94 : decode cX10_read 94 = .ok (.lcmp, 1) := by decide +kernel
theorem dX10_read_95 : decode cX10_read 95 = .ok (.ifCond .ne 7, 3) := by decide +kernel
theorem dX10_read_98 : decode cX10_read 98 = .ok (.iconst 0, 1) := by decide +kernel
theorem dX10_read_99 : decode cX10_read 99 = .ok (.goto 7, 3) := by decide +kernel
theorem dX10_read_102 : decode cX10_read 102 = .ok (.iload 4, 2) := by decide +kernel
theorem dX10_read_104 : decode cX10_read 104 = .ok (.iconst 1, 1) := by decide +kernel
theorem dX10_read_105 : decode cX10_read 105 = .ok (.iadd, 1) := by decide +kernel
theorem dX10_read_106 : decode cX10_read 106 = .ok (.istore_n 3, 1) := by decide +kernel
theorem dX10_read_107 : decode cX10_read 107 = .ok (.aload_n 0, 1) := by decide +kernel
theorem dX10_read_108 : decode cX10_read 108 = .ok (.invokevirtual 132, 3) := by decide +kernel
theorem dX10_read_111 : decode cX10_read 111 = .ok (.iinc 4 1, 3) := by decide +kernel
theorem dX10_read_114 : decode cX10_read 114 = .ok (.goto (-52), 3) := by decide +kernel
theorem dX10_read_117 : decode cX10_read 117 = .ok (.aload_n 0, 1) := by decide +kernel
theorem dX10_read_118 : decode cX10_read 118 = .ok (.iconst 0, 1) := by decide +kernel
theorem dX10_read_119 : decode cX10_read 119 = .ok (.putfield 39, 3) := by decide +kernel
theorem dX10_read_122 : decode cX10_read 122 = .ok (.iload_n 3, 1) := by decide +kernel
theorem dX10_read_123 : decode cX10_read 123 = .ok (.ireturn, 1) := by decide +kernel
theorem dX10_moveAll_0 : decode cX10_moveAll 0 = .ok (.iconst 0, 1) := by decide +kernel
theorem dX10_moveAll_1 : decode cX10_moveAll 1 = .ok (.istore_n 3, 1) := by decide +kernel
theorem dX10_moveAll_2 : decode cX10_moveAll 2 = .ok (.iload_n 3, 1) := by decide +kernel
theorem dX10_moveAll_3 : decode cX10_moveAll 3 = .ok (.sipush 255, 3) := by decide +kernel
theorem dX10_moveAll_6 : decode cX10_moveAll 6 = .ok (.if_icmp .ge 34, 3) := by decide +kernel
theorem dX10_moveAll_9 : decode cX10_moveAll 9 = .ok (.iload_n 1, 1) := by decide +kernel
theorem dX10_moveAll_10 : decode cX10_moveAll 10 = .ok (.ifCond .eq 15, 3) := by decide +kernel
theorem dX10_moveAll_13 : decode cX10_moveAll 13 = .ok (.aload_n 2, 1) := by decide +kernel
theorem dX10_moveAll_14 : decode cX10_moveAll 14 = .ok (.iload_n 3, 1) := by decide +kernel
theorem dX10_moveAll_15 : decode cX10_moveAll 15 = .ok (.aload_n 0, 1) := by decide +kernel
theorem dX10_moveAll_16 : decode cX10_moveAll 16 = .ok (.getfield 7, 3) := by decide +kernel
theorem dX10_moveAll_19 : decode cX10_moveAll 19 = .ok (.iload_n 3, 1) := by decide +kernel
theorem dX10_moveAll_20 : decode cX10_moveAll 20 = .ok (.iaload, 1) := by decide +kernel
theorem dX10_moveAll_21 : decode cX10_moveAll 21 = .ok (.iastore, 1) := by decide +kernel
theorem dX10_moveAll_22 : decode cX10_moveAll 22 = .ok (.goto 12, 3) := by decide +kernel
theorem dX10_moveAll_25 : decode cX10_moveAll 25 = .ok (.aload_n 0, 1) := by decide +kernel
theorem dX10_moveAll_26 : decode cX10_moveAll 26 = .ok (.getfield 7, 3) := by decide +kernel
theorem dX10_moveAll_29 : decode cX10_moveAll 29 = .ok (.iload_n 3, 1) := by decide +kernel
theorem dX10_moveAll_30 : decode cX10_moveAll 30 = .ok (.aload_n 2, 1) := by decide +kernel
theorem dX10_moveAll_31 : decode cX10_moveAll 31 = .ok (.iload_n 3, 1) := by decide +kernel
theorem dX10_moveAll_32 : decode cX10_moveAll 32 = .ok (.iaload, 1) := by decide +kernel
theorem dX10_moveAll_33 : decode cX10_moveAll 33 = .ok (.iastore, 1) := by decide +kernel
theorem dX10_moveAll_34 : decode cX10_moveAll 34 = .ok (.iinc 3 1, 3) := by decide +kernel
theorem dX10_moveAll_37 : decode cX10_moveAll 37 = .ok (.goto (-35), 3) := by decide +kernel
theorem dX10_moveAll_40 : decode cX10_moveAll 40 = .ok (.return_, 1) := by decide +kernel
theorem dX10_image_0 : decode cX10_image 0 = .ok (.aload_n 0, 1) := by decide +kernel
theorem dX10_image_1 : decode cX10_image 1 = .ok (.iconst 1, 1) := by decide +kernel
theorem dX10_image_2 : decode cX10_image 2 = .ok (.aload_n 0, 1) := by decide +kernel
theorem dX10_image_3 : decode cX10_image 3 = .ok (.getfield 32, 3) := by decide +kernel
theorem dX10_image_6 : decode cX10_image 6 = .ok (.invokevirtual 249, 3) := by decide +kernel
theorem dX10_image_9 : decode cX10_image 9 = .ok (.aload_n 0, 1) := by decide +kernel
theorem dX10_image_10 : decode cX10_image 10 = .ok (.iconst 1, 1) := by decide +kernel
theorem dX10_image_11 : decode cX10_image 11 = .ok (.putfield 269, 3) := by decide +kernel
theorem dX10_image_14 : decode cX10_image 14 = .ok (.iconst 1, 1) := by decide +kernel
theorem dX10_image_15 : decode cX10_image 15 = .ok (.ireturn, 1) := by decide +kernel
theorem dX10_undo_0 : decode cX10_undo 0 = .ok (.aload_n 0, 1) := by decide +kernel
theorem dX10_undo_1 : decode cX10_undo 1 = .ok (.getfield 269, 3) := by decide +kernel
theorem dX10_undo_4 : decode cX10_undo 4 = .ok (.ifCond .ne 10, 3) := by decide +kernel
theorem dX10_undo_7 : decode cX10_undo 7 = .ok (.aload_n 0, 1) := by decide +kernel
theorem dX10_undo_8 : decode cX10_undo 8 = .ok (.ldc 147, 2) := by decide +kernel
theorem dX10_undo_10 : decode cX10_undo 10 = .ok (.invokevirtual 63, 3) := by decide +kernel
theorem dX10_undo_13 : decode cX10_undo 13 = .ok (.ireturn, 1) := by decide +kernel
theorem dX10_undo_14 : decode cX10_undo 14 = .ok (.aload_n 0, 1) := by decide +kernel
theorem dX10_undo_15 : decode cX10_undo 15 = .ok (.iconst 0, 1) := by decide +kernel
theorem dX10_undo_16 : decode cX10_undo 16 = .ok (.aload_n 0, 1) := by decide +kernel
theorem dX10_undo_17 : decode cX10_undo 17 = .ok (.getfield 32, 3) := by decide +kernel
theorem dX10_undo_20 : decode cX10_undo 20 = .ok (.invokevirtual 249, 3) := by decide +kernel
theorem dX10_undo_23 : decode cX10_undo 23 = .ok (.aload_n 0, 1) := by decide +kernel
theorem dX10_undo_24 : decode cX10_undo 24 = .ok (.getfield 7, 3) := by decide +kernel
theorem dX10_undo_27 : decode cX10_undo 27 = .ok (.iconst 4, 1) := by decide +kernel
theorem dX10_undo_28 : decode cX10_undo 28 = .ok (.iaload, 1) := by decide +kernel
theorem dX10_undo_29 : decode cX10_undo 29 = .ok (.ireturn, 1) := by decide +kernel
theorem dX10_tear_0 : decode cX10_tear 0 = .ok (.aload_n 0, 1) := by decide +kernel
theorem dX10_tear_1 : decode cX10_tear 1 = .ok (.getfield 269, 3) := by decide +kernel
theorem dX10_tear_4 : decode cX10_tear 4 = .ok (.ifCond .eq 7, 3) := by decide +kernel
theorem dX10_tear_7 : decode cX10_tear 7 = .ok (.iconst 1, 1) := by decide +kernel
theorem dX10_tear_8 : decode cX10_tear 8 = .ok (.goto 4, 3) := by decide +kernel
theorem dX10_tear_11 : decode cX10_tear 11 = .ok (.iconst 0, 1) := by decide +kernel
theorem dX10_tear_12 : decode cX10_tear 12 = .ok (.istore_n 1, 1) := by decide +kernel
theorem dX10_tear_13 : decode cX10_tear 13 = .ok (.aload_n 0, 1) := by decide +kernel
theorem dX10_tear_14 : decode cX10_tear 14 = .ok (.iconst 0, 1) := by decide +kernel
theorem dX10_tear_15 : decode cX10_tear 15 = .ok (.putfield 269, 3) := by decide +kernel
theorem dX10_tear_18 : decode cX10_tear 18 = .ok (.iload_n 1, 1) := by decide +kernel
theorem dX10_tear_19 : decode cX10_tear 19 = .ok (.ireturn, 1) := by decide +kernel
theorem dX10_count_0 : decode cX10_count 0 = .ok (.iconst 0, 1) := by decide +kernel
theorem dX10_count_1 : decode cX10_count 1 = .ok (.istore_n 2, 1) := by decide +kernel
theorem dX10_count_2 : decode cX10_count 2 = .ok (.iload_n 1, 1) := by decide +kernel
theorem dX10_count_3 : decode cX10_count 3 = .ok (.tableswitch 88 0 3 #[29, 36, 41, 81], 29) := by decide +kernel
theorem dX10_count_32 : decode cX10_count 32 = .ok (.aload_n 0, 1) := by decide +kernel
theorem dX10_count_33 : decode cX10_count 33 = .ok (.getfield 7, 3) := by decide +kernel
theorem dX10_count_36 : decode cX10_count 36 = .ok (.iconst 4, 1) := by decide +kernel
theorem dX10_count_37 : decode cX10_count 37 = .ok (.iaload, 1) := by decide +kernel
theorem dX10_count_38 : decode cX10_count 38 = .ok (.ireturn, 1) := by decide +kernel
theorem dX10_count_39 : decode cX10_count 39 = .ok (.aload_n 0, 1) := by decide +kernel
theorem dX10_count_40 : decode cX10_count 40 = .ok (.getfield 154, 3) := by decide +kernel
theorem dX10_count_43 : decode cX10_count 43 = .ok (.ireturn, 1) := by decide +kernel
theorem dX10_count_44 : decode cX10_count 44 = .ok (.iconst 0, 1) := by decide +kernel
theorem dX10_count_45 : decode cX10_count 45 = .ok (.istore_n 3, 1) := by decide +kernel
theorem dX10_count_46 : decode cX10_count 46 = .ok (.iload_n 3, 1) := by decide +kernel
theorem dX10_count_47 : decode cX10_count 47 = .ok (.bipush 40, 2) := by decide +kernel
theorem dX10_count_49 : decode cX10_count 49 = .ok (.if_icmp .ge 33, 3) := by decide +kernel
theorem dX10_count_52 : decode cX10_count 52 = .ok (.iload_n 2, 1) := by decide +kernel
theorem dX10_count_53 : decode cX10_count 53 = .ok (.aload_n 0, 1) := by decide +kernel
theorem dX10_count_54 : decode cX10_count 54 = .ok (.iload_n 3, 1) := by decide +kernel
theorem dX10_count_55 : decode cX10_count 55 = .ok (.invokevirtual 78, 3) := by decide +kernel
theorem dX10_count_58 : decode cX10_count 58 = .ok (.ifCond .eq 15, 3) := by decide +kernel
theorem dX10_count_61 : decode cX10_count 61 = .ok (.aload_n 0, 1) := by decide +kernel
theorem dX10_count_62 : decode cX10_count 62 = .ok (.getfield 7, 3) := by decide +kernel
theorem dX10_count_65 : decode cX10_count 65 = .ok (.bipush 85, 2) := by decide +kernel
theorem dX10_count_67 : decode cX10_count 67 = .ok (.iload_n 3, 1) := by decide +kernel
theorem dX10_count_68 : decode cX10_count 68 = .ok (.iadd, 1) := by decide +kernel
theorem dX10_count_69 : decode cX10_count 69 = .ok (.iaload, 1) := by decide +kernel
theorem dX10_count_70 : decode cX10_count 70 = .ok (.goto 4, 3) := by decide +kernel
theorem dX10_count_73 : decode cX10_count 73 = .ok (.iconst 0, 1) := by decide +kernel
theorem dX10_count_74 : decode cX10_count 74 = .ok (.iadd, 1) := by decide +kernel
theorem dX10_count_75 : decode cX10_count 75 = .ok (.istore_n 2, 1) := by decide +kernel
theorem dX10_count_76 : decode cX10_count 76 = .ok (.iinc 3 1, 3) := by decide +kernel
theorem dX10_count_79 : decode cX10_count 79 = .ok (.goto (-33), 3) := by decide +kernel
theorem dX10_count_82 : decode cX10_count 82 = .ok (.iload_n 2, 1) := by decide +kernel
theorem dX10_count_83 : decode cX10_count 83 = .ok (.ireturn, 1) := by decide +kernel
theorem dX10_count_84 : decode cX10_count 84 = .ok (.aload_n 0, 1) := by decide +kernel
theorem dX10_count_85 : decode cX10_count 85 = .ok (.getfield 7, 3) := by decide +kernel
theorem dX10_count_88 : decode cX10_count 88 = .ok (.iconst 3, 1) := by decide +kernel
theorem dX10_count_89 : decode cX10_count 89 = .ok (.iaload, 1) := by decide +kernel
theorem dX10_count_90 : decode cX10_count 90 = .ok (.ireturn, 1) := by decide +kernel
theorem dX10_count_91 : decode cX10_count 91 = .ok (.aload_n 0, 1) := by decide +kernel
theorem dX10_count_92 : decode cX10_count 92 = .ok (.ldc 38, 2) := by decide +kernel
theorem dX10_count_94 : decode cX10_count 94 = .ok (.invokevirtual 63, 3) := by decide +kernel
theorem dX10_count_97 : decode cX10_count 97 = .ok (.ireturn, 1) := by decide +kernel
theorem dX10_status_0 : decode cX10_status 0 = .ok (.iload_n 1, 1) := by decide +kernel
theorem dX10_status_1 : decode cX10_status 1 = .ok (.iconst (-1), 1) := by decide +kernel
theorem dX10_status_2 : decode cX10_status 2 = .ok (.bipush 6, 2) := by decide +kernel
theorem dX10_status_4 : decode cX10_status 4 = .ok (.invokestatic 47, 3) := by decide +kernel
theorem dX10_status_7 : decode cX10_status 7 = .ok (.ifCond .ne 10, 3) := by decide +kernel
theorem dX10_status_10 : decode cX10_status 10 = .ok (.aload_n 0, 1) := by decide +kernel
theorem dX10_status_11 : decode cX10_status 11 = .ok (.ldc 38, 2) := by decide +kernel
theorem dX10_status_13 : decode cX10_status 13 = .ok (.invokevirtual 63, 3) := by decide +kernel
theorem dX10_status_16 : decode cX10_status 16 = .ok (.ireturn, 1) := by decide +kernel
theorem dX10_status_17 : decode cX10_status 17 = .ok (.iconst 0, 1) := by decide +kernel
theorem dX10_status_18 : decode cX10_status 18 = .ok (.istore_n 2, 1) := by decide +kernel
theorem dX10_status_19 : decode cX10_status 19 = .ok (.iconst 0, 1) := by decide +kernel
theorem dX10_status_20 : decode cX10_status 20 = .ok (.istore_n 3, 1) := by decide +kernel
theorem dX10_status_21 : decode cX10_status 21 = .ok (.iload_n 3, 1) := by decide +kernel
theorem dX10_status_22 : decode cX10_status 22 = .ok (.bipush 7, 2) := by decide +kernel
theorem dX10_status_24 : decode cX10_status 24 = .ok (.if_icmp .ge 18, 3) := by decide +kernel
theorem dX10_status_27 : decode cX10_status 27 = .ok (.iload_n 2, 1) := by decide +kernel
theorem dX10_status_28 : decode cX10_status 28 = .ok (.aload_n 0, 1) := by decide +kernel
theorem dX10_status_29 : decode cX10_status 29 = .ok (.getfield 13, 3) := by decide +kernel
theorem dX10_status_32 : decode cX10_status 32 = .ok (.iload_n 3, 1) := by decide +kernel
theorem dX10_status_33 : decode cX10_status 33 = .ok (.iaload, 1) := by decide +kernel
theorem dX10_status_34 : decode cX10_status 34 = .ok (.iadd, 1) := by decide +kernel
theorem dX10_status_35 : decode cX10_status 35 = .ok (.istore_n 2, 1) := by decide +kernel
theorem dX10_status_36 : decode cX10_status 36 = .ok (.iinc 3 1, 3) := by decide +kernel
theorem dX10_status_39 : decode cX10_status 39 = .ok (.goto (-18), 3) := by decide +kernel
theorem dX10_status_42 : decode cX10_status 42 = .ok (.iload_n 1, 1) := by decide +kernel
theorem dX10_status_43 : decode cX10_status 43 = .ok (.ifCond .ge 7, 3) := by decide +kernel
theorem dX10_status_46 : decode cX10_status 46 = .ok (.iload_n 2, 1) := by decide +kernel
theorem dX10_status_47 : decode cX10_status 47 = .ok (.goto 17, 3) := by decide +kernel
theorem dX10_status_50 : decode cX10_status 50 = .ok (.aload_n 0, 1) := by decide +kernel
theorem dX10_status_51 : decode cX10_status 51 = .ok (.getfield 13, 3) := by decide +kernel
theorem dX10_status_54 : decode cX10_status 54 = .ok (.iload_n 1, 1) := by decide +kernel
theorem dX10_status_55 : decode cX10_status 55 = .ok (.ifCond .ge 7, 3) := by decide +kernel
theorem dX10_status_58 : decode cX10_status 58 = .ok (.iconst 0, 1) := by decide +kernel
theorem dX10_status_59 : decode cX10_status 59 = .ok (.goto 4, 3) := by decide +kernel
theorem dX10_status_62 : decode cX10_status 62 = .ok (.iload_n 1, 1) := by decide +kernel
theorem dX10_status_63 : decode cX10_status 63 = .ok (.iaload, 1) := by decide +kernel
theorem dX10_status_64 : decode cX10_status 64 = .ok (.ireturn, 1) := by decide +kernel
theorem dJ13_bitCount_95d88_0 : decode cJ13_bitCount_95d88 0 = .ok (.lload_n 0, 1) := by decide +kernel
theorem dJ13_bitCount_95d88_1 : decode cJ13_bitCount_95d88 1 = .ok (.lload_n 0, 1) := by decide +kernel
theorem dJ13_bitCount_95d88_2 : decode cJ13_bitCount_95d88 2 = .ok (.iconst 1, 1) := by decide +kernel
theorem dJ13_bitCount_95d88_3 : decode cJ13_bitCount_95d88 3 = .ok (.lushr, 1) := by decide +kernel
theorem dJ13_bitCount_95d88_4 : decode cJ13_bitCount_95d88 4 = .ok (.ldc2_w 314, 3) := by decide +kernel
theorem dJ13_bitCount_95d88_7 : decode cJ13_bitCount_95d88 7 = .ok (.land, 1) := by decide +kernel
theorem dJ13_bitCount_95d88_8 : decode cJ13_bitCount_95d88 8 = .ok (.lsub, 1) := by decide +kernel
theorem dJ13_bitCount_95d88_9 : decode cJ13_bitCount_95d88 9 = .ok (.lstore_n 0, 1) := by decide +kernel
theorem dJ13_bitCount_95d88_10 : decode cJ13_bitCount_95d88 10 = .ok (.lload_n 0, 1) := by decide +kernel
theorem dJ13_bitCount_95d88_11 : decode cJ13_bitCount_95d88 11 = .ok (.ldc2_w 316, 3) := by decide +kernel
theorem dJ13_bitCount_95d88_14 : decode cJ13_bitCount_95d88 14 = .ok (.land, 1) := by decide +kernel
theorem dJ13_bitCount_95d88_15 : decode cJ13_bitCount_95d88 15 = .ok (.lload_n 0, 1) := by decide +kernel
theorem dJ13_bitCount_95d88_16 : decode cJ13_bitCount_95d88 16 = .ok (.iconst 2, 1) := by decide +kernel
theorem dJ13_bitCount_95d88_17 : decode cJ13_bitCount_95d88 17 = .ok (.lushr, 1) := by decide +kernel
theorem dJ13_bitCount_95d88_18 : decode cJ13_bitCount_95d88 18 = .ok (.ldc2_w 316, 3) := by decide +kernel
theorem dJ13_bitCount_95d88_21 : decode cJ13_bitCount_95d88 21 = .ok (.land, 1) := by decide +kernel
theorem dJ13_bitCount_95d88_22 : decode cJ13_bitCount_95d88 22 = .ok (.ladd, 1) := by decide +kernel
theorem dJ13_bitCount_95d88_23 : decode cJ13_bitCount_95d88 23 = .ok (.lstore_n 0, 1) := by decide +kernel
theorem dJ13_bitCount_95d88_24 : decode cJ13_bitCount_95d88 24 = .ok (.lload_n 0, 1) := by decide +kernel
theorem dJ13_bitCount_95d88_25 : decode cJ13_bitCount_95d88 25 = .ok (.lload_n 0, 1) := by decide +kernel
theorem dJ13_bitCount_95d88_26 : decode cJ13_bitCount_95d88 26 = .ok (.iconst 4, 1) := by decide +kernel
theorem dJ13_bitCount_95d88_27 : decode cJ13_bitCount_95d88 27 = .ok (.lushr, 1) := by decide +kernel
theorem dJ13_bitCount_95d88_28 : decode cJ13_bitCount_95d88 28 = .ok (.ladd, 1) := by decide +kernel
theorem dJ13_bitCount_95d88_29 : decode cJ13_bitCount_95d88 29 = .ok (.ldc2_w 318, 3) := by decide +kernel
theorem dJ13_bitCount_95d88_32 : decode cJ13_bitCount_95d88 32 = .ok (.land, 1) := by decide +kernel
theorem dJ13_bitCount_95d88_33 : decode cJ13_bitCount_95d88 33 = .ok (.lstore_n 0, 1) := by decide +kernel
theorem dJ13_bitCount_95d88_34 : decode cJ13_bitCount_95d88 34 = .ok (.lload_n 0, 1) := by decide +kernel
theorem dJ13_bitCount_95d88_35 : decode cJ13_bitCount_95d88 35 = .ok (.lload_n 0, 1) := by decide +kernel
theorem dJ13_bitCount_95d88_36 : decode cJ13_bitCount_95d88 36 = .ok (.bipush 8, 2) := by decide +kernel
theorem dJ13_bitCount_95d88_38 : decode cJ13_bitCount_95d88 38 = .ok (.lushr, 1) := by decide +kernel
theorem dJ13_bitCount_95d88_39 : decode cJ13_bitCount_95d88 39 = .ok (.ladd, 1) := by decide +kernel
theorem dJ13_bitCount_95d88_40 : decode cJ13_bitCount_95d88 40 = .ok (.lstore_n 0, 1) := by decide +kernel
theorem dJ13_bitCount_95d88_41 : decode cJ13_bitCount_95d88 41 = .ok (.lload_n 0, 1) := by decide +kernel
theorem dJ13_bitCount_95d88_42 : decode cJ13_bitCount_95d88 42 = .ok (.lload_n 0, 1) := by decide +kernel
theorem dJ13_bitCount_95d88_43 : decode cJ13_bitCount_95d88 43 = .ok (.bipush 16, 2) := by decide +kernel
theorem dJ13_bitCount_95d88_45 : decode cJ13_bitCount_95d88 45 = .ok (.lushr, 1) := by decide +kernel
theorem dJ13_bitCount_95d88_46 : decode cJ13_bitCount_95d88 46 = .ok (.ladd, 1) := by decide +kernel
theorem dJ13_bitCount_95d88_47 : decode cJ13_bitCount_95d88 47 = .ok (.lstore_n 0, 1) := by decide +kernel
theorem dJ13_bitCount_95d88_48 : decode cJ13_bitCount_95d88 48 = .ok (.lload_n 0, 1) := by decide +kernel
theorem dJ13_bitCount_95d88_49 : decode cJ13_bitCount_95d88 49 = .ok (.lload_n 0, 1) := by decide +kernel
theorem dJ13_bitCount_95d88_50 : decode cJ13_bitCount_95d88 50 = .ok (.bipush 32, 2) := by decide +kernel
theorem dJ13_bitCount_95d88_52 : decode cJ13_bitCount_95d88 52 = .ok (.lushr, 1) := by decide +kernel
theorem dJ13_bitCount_95d88_53 : decode cJ13_bitCount_95d88 53 = .ok (.ladd, 1) := by decide +kernel
theorem dJ13_bitCount_95d88_54 : decode cJ13_bitCount_95d88 54 = .ok (.lstore_n 0, 1) := by decide +kernel
theorem dJ13_bitCount_95d88_55 : decode cJ13_bitCount_95d88 55 = .ok (.lload_n 0, 1) := by decide +kernel
theorem dJ13_bitCount_95d88_56 : decode cJ13_bitCount_95d88 56 = .ok (.l2i, 1) := by decide +kernel
theorem dJ13_bitCount_95d88_57 : decode cJ13_bitCount_95d88 57 = .ok (.bipush 127, 2) := by decide +kernel
theorem dJ13_bitCount_95d88_59 : decode cJ13_bitCount_95d88 59 = .ok (.iand, 1) := by decide +kernel
theorem dJ13_bitCount_95d88_60 : decode cJ13_bitCount_95d88 60 = .ok (.ireturn, 1) := by decide +kernel
theorem dJ9_abs_0f7a4_0 : decode cJ9_abs_0f7a4 0 = .ok (.iload_n 0, 1) := by decide +kernel
theorem dJ9_abs_0f7a4_1 : decode cJ9_abs_0f7a4 1 = .ok (.ifCond .ge 8, 3) := by decide +kernel
theorem dJ9_abs_0f7a4_4 : decode cJ9_abs_0f7a4 4 = .ok (.iload_n 0, 1) := by decide +kernel
theorem dJ9_abs_0f7a4_5 : decode cJ9_abs_0f7a4 5 = .ok (.ineg, 1) := by decide +kernel
theorem dJ9_abs_0f7a4_6 : decode cJ9_abs_0f7a4 6 = .ok (.goto 4, 3) := by decide +kernel
theorem dJ9_abs_0f7a4_9 : decode cJ9_abs_0f7a4 9 = .ok (.iload_n 0, 1) := by decide +kernel
theorem dJ9_abs_0f7a4_10 : decode cJ9_abs_0f7a4 10 = .ok (.ireturn, 1) := by decide +kernel
theorem dJ9_max_7cf53_0 : decode cJ9_max_7cf53 0 = .ok (.iload_n 0, 1) := by decide +kernel
theorem dJ9_max_7cf53_1 : decode cJ9_max_7cf53 1 = .ok (.iload_n 1, 1) := by decide +kernel
theorem dJ9_max_7cf53_2 : decode cJ9_max_7cf53 2 = .ok (.if_icmp .lt 7, 3) := by decide +kernel
theorem dJ9_max_7cf53_5 : decode cJ9_max_7cf53 5 = .ok (.iload_n 0, 1) := by decide +kernel
theorem dJ9_max_7cf53_6 : decode cJ9_max_7cf53 6 = .ok (.goto 4, 3) := by decide +kernel
theorem dJ9_max_7cf53_9 : decode cJ9_max_7cf53 9 = .ok (.iload_n 1, 1) := by decide +kernel
theorem dJ9_max_7cf53_10 : decode cJ9_max_7cf53 10 = .ok (.ireturn, 1) := by decide +kernel
theorem dJ9_min_7cf53_0 : decode cJ9_min_7cf53 0 = .ok (.iload_n 0, 1) := by decide +kernel
theorem dJ9_min_7cf53_1 : decode cJ9_min_7cf53 1 = .ok (.iload_n 1, 1) := by decide +kernel
theorem dJ9_min_7cf53_2 : decode cJ9_min_7cf53 2 = .ok (.if_icmp .gt 7, 3) := by decide +kernel
theorem dJ9_min_7cf53_5 : decode cJ9_min_7cf53 5 = .ok (.iload_n 0, 1) := by decide +kernel
theorem dJ9_min_7cf53_6 : decode cJ9_min_7cf53 6 = .ok (.goto 4, 3) := by decide +kernel
theorem dJ9_min_7cf53_9 : decode cJ9_min_7cf53 9 = .ok (.iload_n 1, 1) := by decide +kernel
theorem dJ9_min_7cf53_10 : decode cJ9_min_7cf53 10 = .ok (.ireturn, 1) := by decide +kernel
theorem dJ0_length_8abf5_0 : decode cJ0_length_8abf5 0 = .ok (.aload_n 0, 1) := by decide +kernel
theorem dJ0_length_8abf5_1 : decode cJ0_length_8abf5 1 = .ok (.getfield 9, 3) := by decide +kernel
theorem dJ0_length_8abf5_4 : decode cJ0_length_8abf5 4 = .ok (.arraylength, 1) := by decide +kernel
theorem dJ0_length_8abf5_5 : decode cJ0_length_8abf5 5 = .ok (.aload_n 0, 1) := by decide +kernel
theorem dJ0_length_8abf5_6 : decode cJ0_length_8abf5 6 = .ok (.invokevirtual 335, 3) := by decide +kernel
theorem dJ0_length_8abf5_9 : decode cJ0_length_8abf5 9 = .ok (.ishr, 1) := by decide +kernel
theorem dJ0_length_8abf5_10 : decode cJ0_length_8abf5 10 = .ok (.ireturn, 1) := by decide +kernel
theorem dJ0_charAt_5068e_0 : decode cJ0_charAt_5068e 0 = .ok (.aload_n 0, 1) := by decide +kernel
theorem dJ0_charAt_5068e_1 : decode cJ0_charAt_5068e 1 = .ok (.invokevirtual 492, 3) := by decide +kernel
theorem dJ0_charAt_5068e_4 : decode cJ0_charAt_5068e 4 = .ok (.ifCond .eq 12, 3) := by decide +kernel
theorem dJ0_charAt_5068e_7 : decode cJ0_charAt_5068e 7 = .ok (.aload_n 0, 1) := by decide +kernel
theorem dJ0_charAt_5068e_8 : decode cJ0_charAt_5068e 8 = .ok (.getfield 9, 3) := by decide +kernel
theorem dJ0_charAt_5068e_11 : decode cJ0_charAt_5068e 11 = .ok (.iload_n 1, 1) := by decide +kernel
theorem dJ0_charAt_5068e_12 : decode cJ0_charAt_5068e 12 = .ok (.invokestatic 495, 3) := by decide +kernel
theorem dJ0_charAt_5068e_15 : decode cJ0_charAt_5068e 15 = .ok (.ireturn, 1) := by decide +kernel
theorem dJ0_charAt_5068e_16 : decode cJ0_charAt_5068e 16 = .ok (.aload_n 0, 1) := by decide +kernel
theorem dJ0_charAt_5068e_17 : decode cJ0_charAt_5068e 17 = .ok (.getfield 9, 3) := by decide +kernel
theorem dJ0_charAt_5068e_20 : decode cJ0_charAt_5068e 20 = .ok (.iload_n 1, 1) := by decide +kernel
theorem dJ0_charAt_5068e_21 : decode cJ0_charAt_5068e 21 = .ok (.invokestatic 498, 3) := by decide +kernel
theorem dJ0_charAt_5068e_24 : decode cJ0_charAt_5068e 24 = .ok (.ireturn, 1) := by decide +kernel
theorem dJ0_coder_7d493_0 : decode cJ0_coder_7d493 0 = .ok (.getstatic 38, 3) := by decide +kernel
theorem dJ0_coder_7d493_3 : decode cJ0_coder_7d493 3 = .ok (.ifCond .eq 10, 3) := by decide +kernel
theorem dJ0_coder_7d493_6 : decode cJ0_coder_7d493 6 = .ok (.aload_n 0, 1) := by decide +kernel
theorem dJ0_coder_7d493_7 : decode cJ0_coder_7d493 7 = .ok (.getfield 15, 3) := by decide +kernel
theorem dJ0_coder_7d493_10 : decode cJ0_coder_7d493 10 = .ok (.goto 4, 3) := by decide +kernel
theorem dJ0_coder_7d493_13 : decode cJ0_coder_7d493 13 = .ok (.iconst 1, 1) := by decide +kernel
theorem dJ0_coder_7d493_14 : decode cJ0_coder_7d493 14 = .ok (.ireturn, 1) := by decide +kernel
theorem dJ0_isLatin1_aae02_0 : decode cJ0_isLatin1_aae02 0 = .ok (.getstatic 38, 3) := by decide +kernel
theorem dJ0_isLatin1_aae02_3 : decode cJ0_isLatin1_aae02 3 = .ok (.ifCond .eq 14, 3) := by decide +kernel
theorem dJ0_isLatin1_aae02_6 : decode cJ0_isLatin1_aae02 6 = .ok (.aload_n 0, 1) := by decide +kernel
theorem dJ0_isLatin1_aae02_7 : decode cJ0_isLatin1_aae02 7 = .ok (.getfield 15, 3) := by decide +kernel
theorem dJ0_isLatin1_aae02_10 : decode cJ0_isLatin1_aae02 10 = .ok (.ifCond .ne 7, 3) := by decide +kernel
theorem dJ0_isLatin1_aae02_13 : decode cJ0_isLatin1_aae02 13 = .ok (.iconst 1, 1) := by decide +kernel
theorem dJ0_isLatin1_aae02_14 : decode cJ0_isLatin1_aae02 14 = .ok (.goto 4, 3) := by decide +kernel
theorem dJ0_isLatin1_aae02_17 : decode cJ0_isLatin1_aae02 17 = .ok (.iconst 0, 1) := by decide +kernel
theorem dJ0_isLatin1_aae02_18 : decode cJ0_isLatin1_aae02 18 = .ok (.ireturn, 1) := by decide +kernel
theorem dJ0_checkIndex_df160_0 : decode cJ0_checkIndex_df160 0 = .ok (.iload_n 0, 1) := by decide +kernel
theorem dJ0_checkIndex_df160_1 : decode cJ0_checkIndex_df160 1 = .ok (.iload_n 1, 1) := by decide +kernel
theorem dJ0_checkIndex_df160_2 : decode cJ0_checkIndex_df160 2 = .ok (.getstatic 1053, 3) := by decide +kernel
theorem dJ0_checkIndex_df160_5 : decode cJ0_checkIndex_df160 5 = .ok (.invokestatic 1059, 3) := by decide +kernel
theorem dJ0_checkIndex_df160_8 : decode cJ0_checkIndex_df160 8 = .ok (.pop, 1) := by decide +kernel
theorem dJ0_checkIndex_df160_9 : decode cJ0_checkIndex_df160 9 = .ok (.return_, 1) := by decide +kernel
theorem dJ1_charAt_3b067_0 : decode cJ1_charAt_3b067 0 = .ok (.iload_n 1, 1) := by decide +kernel
theorem dJ1_charAt_3b067_1 : decode cJ1_charAt_3b067 1 = .ok (.aload_n 0, 1) := by decide +kernel
theorem dJ1_charAt_3b067_2 : decode cJ1_charAt_3b067 2 = .ok (.arraylength, 1) := by decide +kernel
theorem dJ1_charAt_3b067_3 : decode cJ1_charAt_3b067 3 = .ok (.invokestatic 9, 3) := by decide +kernel
theorem dJ1_charAt_3b067_6 : decode cJ1_charAt_3b067 6 = .ok (.aload_n 0, 1) := by decide +kernel
theorem dJ1_charAt_3b067_7 : decode cJ1_charAt_3b067 7 = .ok (.iload_n 1, 1) := by decide +kernel
theorem dJ1_charAt_3b067_8 : decode cJ1_charAt_3b067 8 = .ok (.baload, 1) := by decide +kernel
theorem dJ1_charAt_3b067_9 : decode cJ1_charAt_3b067 9 = .ok (.sipush 255, 3) := by decide +kernel
theorem dJ1_charAt_3b067_12 : decode cJ1_charAt_3b067 12 = .ok (.iand, 1) := by decide +kernel
theorem dJ1_charAt_3b067_13 : decode cJ1_charAt_3b067 13 = .ok (.i2c, 1) := by decide +kernel
theorem dJ1_charAt_3b067_14 : decode cJ1_charAt_3b067 14 = .ok (.ireturn, 1) := by decide +kernel
theorem dJ2_getChar_3b067_0 : decode cJ2_getChar_3b067 0 = .ok (.getstatic 44, 3) := by decide +kernel
theorem dJ2_getChar_3b067_3 : decode cJ2_getChar_3b067 3 = .ok (.ifCond .ne 25, 3) := by decide +kernel
theorem dJ2_getChar_3b067_6 : decode cJ2_getChar_3b067 6 = .ok (.iload_n 1, 1) := by decide +kernel
theorem dJ2_getChar_3b067_7 : decode cJ2_getChar_3b067 7 = .ok (.ifCond .lt 11, 3) := by decide +kernel
theorem dJ2_getChar_3b067_10 : decode cJ2_getChar_3b067 10 = .ok (.iload_n 1, 1) := by decide +kernel
theorem dJ2_getChar_3b067_11 : decode cJ2_getChar_3b067 11 = .ok (.aload_n 0, 1) := by decide +kernel
theorem dJ2_getChar_3b067_12 : decode cJ2_getChar_3b067 12 = .ok (.invokestatic 48, 3) := by decide +kernel
theorem dJ2_getChar_3b067_15 : decode cJ2_getChar_3b067 15 = .ok (.if_icmp .lt 13, 3) := by decide +kernel
theorem dJ2_getChar_3b067_18 : decode cJ2_getChar_3b067 18 = .ok (.new 52, 3) := by decide +kernel
theorem dJ2_getChar_3b067_21 : decode cJ2_getChar_3b067 21 = .ok (.dup, 1) := by decide +kernel
theorem dJ2_getChar_3b067_22 : decode cJ2_getChar_3b067 22 = .ok (.ldc 54, 2) := by decide +kernel
theorem dJ2_getChar_3b067_24 : decode cJ2_getChar_3b067 24 = .ok (.invokespecial 56, 3) := by decide +kernel
theorem dJ2_getChar_3b067_27 : decode cJ2_getChar_3b067 27 = .ok (.athrow, 1) := by decide +kernel
theorem dJ2_getChar_3b067_28 : decode cJ2_getChar_3b067 28 = .ok (.iload_n 1, 1) := by decide +kernel
theorem dJ2_getChar_3b067_29 : decode cJ2_getChar_3b067 29 = .ok (.iconst 1, 1) := by decide +kernel
theorem dJ2_getChar_3b067_30 : decode cJ2_getChar_3b067 30 = .ok (.ishl, 1) := by decide +kernel
theorem dJ2_getChar_3b067_31 : decode cJ2_getChar_3b067 31 = .ok (.istore_n 1, 1) := by decide +kernel
theorem dJ2_getChar_3b067_32 : decode cJ2_getChar_3b067 32 = .ok (.aload_n 0, 1) := by decide +kernel
theorem dJ2_getChar_3b067_33 : decode cJ2_getChar_3b067 33 = .ok (.iload_n 1, 1) := by decide +kernel
theorem dJ2_getChar_3b067_34 : decode cJ2_getChar_3b067 34 = .ok (.iinc 1 1, 3) := by decide +kernel
theorem dJ2_getChar_3b067_37 : decode cJ2_getChar_3b067 37 = .ok (.baload, 1) := by decide +kernel
theorem dJ2_getChar_3b067_38 : decode cJ2_getChar_3b067 38 = .ok (.sipush 255, 3) := by decide +kernel
theorem dJ2_getChar_3b067_41 : decode cJ2_getChar_3b067 41 = .ok (.iand, 1) := by decide +kernel
theorem dJ2_getChar_3b067_42 : decode cJ2_getChar_3b067 42 = .ok (.getstatic 59, 3) := by decide +kernel
theorem dJ2_getChar_3b067_45 : decode cJ2_getChar_3b067 45 = .ok (.ishl, 1) := by decide +kernel
theorem dJ2_getChar_3b067_46 : decode cJ2_getChar_3b067 46 = .ok (.aload_n 0, 1) := by decide +kernel
theorem dJ2_getChar_3b067_47 : decode cJ2_getChar_3b067 47 = .ok (.iload_n 1, 1) := by decide +kernel
theorem dJ2_getChar_3b067_48 : decode cJ2_getChar_3b067 48 = .ok (.baload, 1) := by decide +kernel
theorem dJ2_getChar_3b067_49 : decode cJ2_getChar_3b067 49 = .ok (.sipush 255, 3) := by decide +kernel
theorem dJ2_getChar_3b067_52 : decode cJ2_getChar_3b067 52 = .ok (.iand, 1) := by decide +kernel
theorem dJ2_getChar_3b067_53 : decode cJ2_getChar_3b067 53 = .ok (.getstatic 63, 3) := by decide +kernel
theorem dJ2_getChar_3b067_56 : decode cJ2_getChar_3b067 56 = .ok (.ishl, 1) := by decide +kernel
theorem dJ2_getChar_3b067_57 : decode cJ2_getChar_3b067 57 = .ok (.ior, 1) := by decide +kernel
theorem dJ2_getChar_3b067_58 : decode cJ2_getChar_3b067 58 = .ok (.i2c, 1) := by decide +kernel
theorem dJ2_getChar_3b067_59 : decode cJ2_getChar_3b067 59 = .ok (.ireturn, 1) := by decide +kernel
theorem dJ2_length_9d52b_0 : decode cJ2_length_9d52b 0 = .ok (.aload_n 0, 1) := by decide +kernel
theorem dJ2_length_9d52b_1 : decode cJ2_length_9d52b 1 = .ok (.arraylength, 1) := by decide +kernel
theorem dJ2_length_9d52b_2 : decode cJ2_length_9d52b 2 = .ok (.iconst 1, 1) := by decide +kernel
theorem dJ2_length_9d52b_3 : decode cJ2_length_9d52b 3 = .ok (.ishr, 1) := by decide +kernel
theorem dJ2_length_9d52b_4 : decode cJ2_length_9d52b 4 = .ok (.ireturn, 1) := by decide +kernel
theorem dJ2_charAt_3b067_0 : decode cJ2_charAt_3b067 0 = .ok (.iload_n 1, 1) := by decide +kernel
theorem dJ2_charAt_3b067_1 : decode cJ2_charAt_3b067 1 = .ok (.aload_n 0, 1) := by decide +kernel
theorem dJ2_charAt_3b067_2 : decode cJ2_charAt_3b067 2 = .ok (.invokestatic 67, 3) := by decide +kernel
theorem dJ2_charAt_3b067_5 : decode cJ2_charAt_3b067 5 = .ok (.aload_n 0, 1) := by decide +kernel
theorem dJ2_charAt_3b067_6 : decode cJ2_charAt_3b067 6 = .ok (.iload_n 1, 1) := by decide +kernel
theorem dJ2_charAt_3b067_7 : decode cJ2_charAt_3b067 7 = .ok (.invokestatic 71, 3) := by decide +kernel
theorem dJ2_charAt_3b067_10 : decode cJ2_charAt_3b067 10 = .ok (.ireturn, 1) := by decide +kernel
theorem dJ2_checkIndex_2214a_0 : decode cJ2_checkIndex_2214a 0 = .ok (.iload_n 0, 1) := by decide +kernel
theorem dJ2_checkIndex_2214a_1 : decode cJ2_checkIndex_2214a 1 = .ok (.aload_n 1, 1) := by decide +kernel
theorem dJ2_checkIndex_2214a_2 : decode cJ2_checkIndex_2214a 2 = .ok (.invokestatic 48, 3) := by decide +kernel
theorem dJ2_checkIndex_2214a_5 : decode cJ2_checkIndex_2214a 5 = .ok (.invokestatic 414, 3) := by decide +kernel
theorem dJ2_checkIndex_2214a_8 : decode cJ2_checkIndex_2214a 8 = .ok (.return_, 1) := by decide +kernel
theorem dJ7_fill_d0a16_0 : decode cJ7_fill_d0a16 0 = .ok (.iconst 0, 1) := by decide +kernel
theorem dJ7_fill_d0a16_1 : decode cJ7_fill_d0a16 1 = .ok (.istore_n 3, 1) := by decide +kernel
theorem dJ7_fill_d0a16_2 : decode cJ7_fill_d0a16 2 = .ok (.aload_n 0, 1) := by decide +kernel
theorem dJ7_fill_d0a16_3 : decode cJ7_fill_d0a16 3 = .ok (.arraylength, 1) := by decide +kernel
theorem dJ7_fill_d0a16_4 : decode cJ7_fill_d0a16 4 = .ok (.istore 4, 2) := by decide +kernel
theorem dJ7_fill_d0a16_6 : decode cJ7_fill_d0a16 6 = .ok (.iload_n 3, 1) := by decide +kernel
theorem dJ7_fill_d0a16_7 : decode cJ7_fill_d0a16 7 = .ok (.iload 4, 2) := by decide +kernel
theorem dJ7_fill_d0a16_9 : decode cJ7_fill_d0a16 9 = .ok (.if_icmp .ge 13, 3) := by decide +kernel
theorem dJ7_fill_d0a16_12 : decode cJ7_fill_d0a16 12 = .ok (.aload_n 0, 1) := by decide +kernel
theorem dJ7_fill_d0a16_13 : decode cJ7_fill_d0a16 13 = .ok (.iload_n 3, 1) := by decide +kernel
theorem dJ7_fill_d0a16_14 : decode cJ7_fill_d0a16 14 = .ok (.lload_n 1, 1) := by decide +kernel
theorem dJ7_fill_d0a16_15 : decode cJ7_fill_d0a16 15 = .ok (.lastore, 1) := by decide +kernel
theorem dJ7_fill_d0a16_16 : decode cJ7_fill_d0a16 16 = .ok (.iinc 3 1, 3) := by decide +kernel
theorem dJ7_fill_d0a16_19 : decode cJ7_fill_d0a16 19 = .ok (.goto (-13), 3) := by decide +kernel
theorem dJ7_fill_d0a16_22 : decode cJ7_fill_d0a16 22 = .ok (.return_, 1) := by decide +kernel
theorem dJ7_fill_53178_0 : decode cJ7_fill_53178 0 = .ok (.iconst 0, 1) := by decide +kernel
theorem dJ7_fill_53178_1 : decode cJ7_fill_53178 1 = .ok (.istore_n 2, 1) := by decide +kernel
theorem dJ7_fill_53178_2 : decode cJ7_fill_53178 2 = .ok (.aload_n 0, 1) := by decide +kernel
theorem dJ7_fill_53178_3 : decode cJ7_fill_53178 3 = .ok (.arraylength, 1) := by decide +kernel
theorem dJ7_fill_53178_4 : decode cJ7_fill_53178 4 = .ok (.istore_n 3, 1) := by decide +kernel
theorem dJ7_fill_53178_5 : decode cJ7_fill_53178 5 = .ok (.iload_n 2, 1) := by decide +kernel
theorem dJ7_fill_53178_6 : decode cJ7_fill_53178 6 = .ok (.iload_n 3, 1) := by decide +kernel
theorem dJ7_fill_53178_7 : decode cJ7_fill_53178 7 = .ok (.if_icmp .ge 13, 3) := by decide +kernel
theorem dJ7_fill_53178_10 : decode cJ7_fill_53178 10 = .ok (.aload_n 0, 1) := by decide +kernel
theorem dJ7_fill_53178_11 : decode cJ7_fill_53178 11 = .ok (.iload_n 2, 1) := by decide +kernel
theorem dJ7_fill_53178_12 : decode cJ7_fill_53178 12 = .ok (.iload_n 1, 1) := by decide +kernel
theorem dJ7_fill_53178_13 : decode cJ7_fill_53178 13 = .ok (.iastore, 1) := by decide +kernel
theorem dJ7_fill_53178_14 : decode cJ7_fill_53178 14 = .ok (.iinc 2 1, 3) := by decide +kernel
theorem dJ7_fill_53178_17 : decode cJ7_fill_53178 17 = .ok (.goto (-12), 3) := by decide +kernel
theorem dJ7_fill_53178_20 : decode cJ7_fill_53178 20 = .ok (.return_, 1) := by decide +kernel
theorem dJ3_checkIndex_8e157_0 : decode cJ3_checkIndex_8e157 0 = .ok (.iload_n 0, 1) := by decide +kernel
theorem dJ3_checkIndex_8e157_1 : decode cJ3_checkIndex_8e157 1 = .ok (.ifCond .lt 8, 3) := by decide +kernel
theorem dJ3_checkIndex_8e157_4 : decode cJ3_checkIndex_8e157 4 = .ok (.iload_n 0, 1) := by decide +kernel
theorem dJ3_checkIndex_8e157_5 : decode cJ3_checkIndex_8e157 5 = .ok (.iload_n 1, 1) := by decide +kernel
theorem dJ3_checkIndex_8e157_6 : decode cJ3_checkIndex_8e157 6 = .ok (.if_icmp .lt 10, 3) := by decide +kernel
theorem dJ3_checkIndex_8e157_9 : decode cJ3_checkIndex_8e157 9 = .ok (.aload_n 2, 1) := by decide +kernel
theorem dJ3_checkIndex_8e157_10 : decode cJ3_checkIndex_8e157 10 = .ok (.iload_n 0, 1) := by decide +kernel
theorem dJ3_checkIndex_8e157_11 : decode cJ3_checkIndex_8e157 11 = .ok (.iload_n 1, 1) := by decide +kernel
theorem dJ3_checkIndex_8e157_12 : decode cJ3_checkIndex_8e157 12 = .ok (.invokestatic 95, 3) := by decide +kernel
theorem dJ3_checkIndex_8e157_15 : decode cJ3_checkIndex_8e157 15 = .ok (.athrow, 1) := by decide +kernel
theorem dJ3_checkIndex_8e157_16 : decode cJ3_checkIndex_8e157 16 = .ok (.iload_n 0, 1) := by decide +kernel
theorem dJ3_checkIndex_8e157_17 : decode cJ3_checkIndex_8e157 17 = .ok (.ireturn, 1) := by decide +kernel
theorem dL_law_0 : decode cL_law 0 = .ok (.new 7, 3) := by decide +kernel
theorem dL_law_3 : decode cL_law 3 = .ok (.dup, 1) := by decide +kernel
theorem dL_law_4 : decode cL_law 4 = .ok (.invokespecial 9, 3) := by decide +kernel
theorem dL_law_7 : decode cL_law 7 = .ok (.astore_n 1, 1) := by decide +kernel
theorem dL_law_8 : decode cL_law 8 = .ok (.new 10, 3) := by decide +kernel
theorem dL_law_11 : decode cL_law 11 = .ok (.dup, 1) := by decide +kernel
theorem dL_law_12 : decode cL_law 12 = .ok (.invokespecial 12, 3) := by decide +kernel
theorem dL_law_15 : decode cL_law 15 = .ok (.astore_n 2, 1) := by decide +kernel
theorem dL_law_16 : decode cL_law 16 = .ok (.iconst 0, 1) := by decide +kernel
theorem dL_law_17 : decode cL_law 17 = .ok (.istore_n 3, 1) := by decide +kernel
theorem dL_law_18 : decode cL_law 18 = .ok (.iload_n 3, 1) := by decide +kernel
theorem dL_law_19 : decode cL_law 19 = .ok (.aload_n 0, 1) := by decide +kernel
theorem dL_law_20 : decode cL_law 20 = .ok (.arraylength, 1) := by decide +kernel
theorem dL_law_21 : decode cL_law 21 = .ok (.bipush 6, 2) := by decide +kernel
theorem dL_law_23 : decode cL_law 23 = .ok (.isub, 1) := by decide +kernel
theorem dL_law_24 : decode cL_law 24 = .ok (.if_icmp .gt 1381, 3) := by decide +kernel
theorem dL_law_27 : decode cL_law 27 = .ok (.aload_n 0, 1) := by decide +kernel
theorem dL_law_28 : decode cL_law 28 = .ok (.iload_n 3, 1) := by decide +kernel
theorem dL_law_29 : decode cL_law 29 = .ok (.iaload, 1) := by decide +kernel
theorem dL_law_30 : decode cL_law 30 = .ok (.bipush 63, 2) := by decide +kernel
theorem dL_law_32 : decode cL_law 32 = .ok (.iand, 1) := by decide +kernel
theorem dL_law_33 : decode cL_law 33 = .ok (.tableswitch 1366 0 42 #[187, 220, 253, 296, 329, 372, 405, 438, 471, 485, 544, 557, 571, 594, 617, 640, 664, 687, 700, 723, 746, 779, 812, 825, 848, 861, 894, 917, 940, 963, 996, 1009, 1022, 1065, 1139, 1202, 1225, 1258, 1281, 1294, 1307, 1320, 1343], 187) := by decide +kernel
theorem dL_law_220 : decode cL_law 220 = .ok (.aload_n 1, 1) := by decide +kernel
theorem dL_law_221 : decode cL_law 221 = .ok (.aload_n 0, 1) := by decide +kernel
theorem dL_law_222 : decode cL_law 222 = .ok (.iload_n 3, 1) := by decide +kernel
theorem dL_law_223 : decode cL_law 223 = .ok (.iconst 1, 1) := by decide +kernel
theorem dL_law_224 : decode cL_law 224 = .ok (.iadd, 1) := by decide +kernel
theorem dL_law_225 : decode cL_law 225 = .ok (.iaload, 1) := by decide +kernel
theorem dL_law_226 : decode cL_law 226 = .ok (.aload_n 0, 1) := by decide +kernel
theorem dL_law_227 : decode cL_law 227 = .ok (.iload_n 3, 1) := by decide +kernel
theorem dL_law_228 : decode cL_law 228 = .ok (.iconst 2, 1) := by decide +kernel
theorem dL_law_229 : decode cL_law 229 = .ok (.iadd, 1) := by decide +kernel
theorem dL_law_230 : decode cL_law 230 = .ok (.iaload, 1) := by decide +kernel
theorem dL_law_231 : decode cL_law 231 = .ok (.invokevirtual 13, 3) := by decide +kernel
theorem dL_law_234 : decode cL_law 234 = .ok (.aload_n 2, 1) := by decide +kernel
theorem dL_law_235 : decode cL_law 235 = .ok (.aload_n 0, 1) := by decide +kernel
theorem dL_law_236 : decode cL_law 236 = .ok (.iload_n 3, 1) := by decide +kernel
theorem dL_law_237 : decode cL_law 237 = .ok (.iconst 1, 1) := by decide +kernel
theorem dL_law_238 : decode cL_law 238 = .ok (.iadd, 1) := by decide +kernel
theorem dL_law_239 : decode cL_law 239 = .ok (.iaload, 1) := by decide +kernel
theorem dL_law_240 : decode cL_law 240 = .ok (.aload_n 0, 1) := by decide +kernel
theorem dL_law_241 : decode cL_law 241 = .ok (.iload_n 3, 1) := by decide +kernel
theorem dL_law_242 : decode cL_law 242 = .ok (.iconst 2, 1) := by decide +kernel
theorem dL_law_243 : decode cL_law 243 = .ok (.iadd, 1) := by decide +kernel
theorem dL_law_244 : decode cL_law 244 = .ok (.iaload, 1) := by decide +kernel
theorem dL_law_245 : decode cL_law 245 = .ok (.invokevirtual 17, 3) := by decide +kernel
theorem dL_law_248 : decode cL_law 248 = .ok (.if_icmp .eq 1151, 3) := by decide +kernel
theorem dL_law_251 : decode cL_law 251 = .ok (.iconst 0, 1) := by decide +kernel
theorem dL_law_252 : decode cL_law 252 = .ok (.ireturn, 1) := by decide +kernel
theorem dL_law_253 : decode cL_law 253 = .ok (.aload_n 1, 1) := by decide +kernel
theorem dL_law_254 : decode cL_law 254 = .ok (.aload_n 0, 1) := by decide +kernel
theorem dL_law_255 : decode cL_law 255 = .ok (.iload_n 3, 1) := by decide +kernel
theorem dL_law_256 : decode cL_law 256 = .ok (.iconst 1, 1) := by decide +kernel
theorem dL_law_257 : decode cL_law 257 = .ok (.iadd, 1) := by decide +kernel
theorem dL_law_258 : decode cL_law 258 = .ok (.iaload, 1) := by decide +kernel
theorem dL_law_259 : decode cL_law 259 = .ok (.aload_n 0, 1) := by decide +kernel
theorem dL_law_260 : decode cL_law 260 = .ok (.iload_n 3, 1) := by decide +kernel
theorem dL_law_261 : decode cL_law 261 = .ok (.iconst 2, 1) := by decide +kernel
theorem dL_law_262 : decode cL_law 262 = .ok (.iadd, 1) := by decide +kernel
theorem dL_law_263 : decode cL_law 263 = .ok (.iaload, 1) := by decide +kernel
theorem dL_law_264 : decode cL_law 264 = .ok (.invokevirtual 18, 3) := by decide +kernel
theorem dL_law_267 : decode cL_law 267 = .ok (.aload_n 2, 1) := by decide +kernel
theorem dL_law_268 : decode cL_law 268 = .ok (.aload_n 0, 1) := by decide +kernel
theorem dL_law_269 : decode cL_law 269 = .ok (.iload_n 3, 1) := by decide +kernel
theorem dL_law_270 : decode cL_law 270 = .ok (.iconst 1, 1) := by decide +kernel
theorem dL_law_271 : decode cL_law 271 = .ok (.iadd, 1) := by decide +kernel
theorem dL_law_272 : decode cL_law 272 = .ok (.iaload, 1) := by decide +kernel
theorem dL_law_273 : decode cL_law 273 = .ok (.aload_n 0, 1) := by decide +kernel
theorem dL_law_274 : decode cL_law 274 = .ok (.iload_n 3, 1) := by decide +kernel
theorem dL_law_275 : decode cL_law 275 = .ok (.iconst 2, 1) := by decide +kernel
theorem dL_law_276 : decode cL_law 276 = .ok (.iadd, 1) := by decide +kernel
theorem dL_law_277 : decode cL_law 277 = .ok (.iaload, 1) := by decide +kernel
theorem dL_law_278 : decode cL_law 278 = .ok (.invokevirtual 21, 3) := by decide +kernel
theorem dL_law_281 : decode cL_law 281 = .ok (.if_icmp .eq 1118, 3) := by decide +kernel
theorem dL_law_284 : decode cL_law 284 = .ok (.iconst 0, 1) := by decide +kernel
theorem dL_law_285 : decode cL_law 285 = .ok (.ireturn, 1) := by decide +kernel
theorem dL_law_286 : decode cL_law 286 = .ok (.aload_n 1, 1) := by decide +kernel
theorem dL_law_287 : decode cL_law 287 = .ok (.aload_n 0, 1) := by decide +kernel
theorem dL_law_288 : decode cL_law 288 = .ok (.iload_n 3, 1) := by decide +kernel
theorem dL_law_289 : decode cL_law 289 = .ok (.iconst 1, 1) := by decide +kernel
theorem dL_law_290 : decode cL_law 290 = .ok (.iadd, 1) := by decide +kernel
theorem dL_law_291 : decode cL_law 291 = .ok (.iaload, 1) := by decide +kernel
theorem dL_law_292 : decode cL_law 292 = .ok (.aload_n 0, 1) := by decide +kernel
theorem dL_law_293 : decode cL_law 293 = .ok (.iload_n 3, 1) := by decide +kernel
theorem dL_law_294 : decode cL_law 294 = .ok (.iconst 2, 1) := by decide +kernel
theorem dL_law_295 : decode cL_law 295 = .ok (.iadd, 1) := by decide +kernel
theorem dL_law_296 : decode cL_law 296 = .ok (.iaload, 1) := by decide +kernel
theorem dL_law_297 : decode cL_law 297 = .ok (.aload_n 0, 1) := by decide +kernel
theorem dL_law_298 : decode cL_law 298 = .ok (.iload_n 3, 1) := by decide +kernel
theorem dL_law_299 : decode cL_law 299 = .ok (.iconst 3, 1) := by decide +kernel
theorem dL_law_300 : decode cL_law 300 = .ok (.iadd, 1) := by decide +kernel
theorem dL_law_301 : decode cL_law 301 = .ok (.iaload, 1) := by decide +kernel
theorem dL_law_302 : decode cL_law 302 = .ok (.invokevirtual 22, 3) := by decide +kernel
theorem dL_law_305 : decode cL_law 305 = .ok (.aload_n 2, 1) := by decide +kernel
theorem dL_law_306 : decode cL_law 306 = .ok (.aload_n 0, 1) := by decide +kernel
theorem dL_law_307 : decode cL_law 307 = .ok (.iload_n 3, 1) := by decide +kernel
theorem dL_law_308 : decode cL_law 308 = .ok (.iconst 1, 1) := by decide +kernel
theorem dL_law_309 : decode cL_law 309 = .ok (.iadd, 1) := by decide +kernel
theorem dL_law_310 : decode cL_law 310 = .ok (.iaload, 1) := by decide +kernel
theorem dL_law_311 : decode cL_law 311 = .ok (.aload_n 0, 1) := by decide +kernel
theorem dL_law_312 : decode cL_law 312 = .ok (.iload_n 3, 1) := by decide +kernel
theorem dL_law_313 : decode cL_law 313 = .ok (.iconst 2, 1) := by decide +kernel
theorem dL_law_314 : decode cL_law 314 = .ok (.iadd, 1) := by decide +kernel
theorem dL_law_315 : decode cL_law 315 = .ok (.iaload, 1) := by decide +kernel
theorem dL_law_316 : decode cL_law 316 = .ok (.aload_n 0, 1) := by decide +kernel
theorem dL_law_317 : decode cL_law 317 = .ok (.iload_n 3, 1) := by decide +kernel
theorem dL_law_318 : decode cL_law 318 = .ok (.iconst 3, 1) := by decide +kernel
theorem dL_law_319 : decode cL_law 319 = .ok (.iadd, 1) := by decide +kernel
theorem dL_law_320 : decode cL_law 320 = .ok (.iaload, 1) := by decide +kernel
theorem dL_law_321 : decode cL_law 321 = .ok (.invokevirtual 26, 3) := by decide +kernel
theorem dL_law_324 : decode cL_law 324 = .ok (.if_icmp .eq 1075, 3) := by decide +kernel
theorem dL_law_327 : decode cL_law 327 = .ok (.iconst 0, 1) := by decide +kernel
theorem dL_law_328 : decode cL_law 328 = .ok (.ireturn, 1) := by decide +kernel
theorem dL_law_329 : decode cL_law 329 = .ok (.aload_n 1, 1) := by decide +kernel
theorem dL_law_330 : decode cL_law 330 = .ok (.aload_n 0, 1) := by decide +kernel
theorem dL_law_331 : decode cL_law 331 = .ok (.iload_n 3, 1) := by decide +kernel
theorem dL_law_332 : decode cL_law 332 = .ok (.iconst 1, 1) := by decide +kernel
theorem dL_law_333 : decode cL_law 333 = .ok (.iadd, 1) := by decide +kernel
theorem dL_law_334 : decode cL_law 334 = .ok (.iaload, 1) := by decide +kernel
theorem dL_law_335 : decode cL_law 335 = .ok (.aload_n 0, 1) := by decide +kernel
theorem dL_law_336 : decode cL_law 336 = .ok (.iload_n 3, 1) := by decide +kernel
theorem dL_law_337 : decode cL_law 337 = .ok (.iconst 2, 1) := by decide +kernel
theorem dL_law_338 : decode cL_law 338 = .ok (.iadd, 1) := by decide +kernel
theorem dL_law_339 : decode cL_law 339 = .ok (.iaload, 1) := by decide +kernel
theorem dL_law_340 : decode cL_law 340 = .ok (.invokevirtual 27, 3) := by decide +kernel
theorem dL_law_343 : decode cL_law 343 = .ok (.aload_n 2, 1) := by decide +kernel
theorem dL_law_344 : decode cL_law 344 = .ok (.aload_n 0, 1) := by decide +kernel
theorem dL_law_345 : decode cL_law 345 = .ok (.iload_n 3, 1) := by decide +kernel
theorem dL_law_346 : decode cL_law 346 = .ok (.iconst 1, 1) := by decide +kernel
theorem dL_law_347 : decode cL_law 347 = .ok (.iadd, 1) := by decide +kernel
theorem dL_law_348 : decode cL_law 348 = .ok (.iaload, 1) := by decide +kernel
theorem dL_law_349 : decode cL_law 349 = .ok (.aload_n 0, 1) := by decide +kernel
theorem dL_law_350 : decode cL_law 350 = .ok (.iload_n 3, 1) := by decide +kernel
theorem dL_law_351 : decode cL_law 351 = .ok (.iconst 2, 1) := by decide +kernel
theorem dL_law_352 : decode cL_law 352 = .ok (.iadd, 1) := by decide +kernel
theorem dL_law_353 : decode cL_law 353 = .ok (.iaload, 1) := by decide +kernel
theorem dL_law_354 : decode cL_law 354 = .ok (.invokevirtual 30, 3) := by decide +kernel
theorem dL_law_357 : decode cL_law 357 = .ok (.if_icmp .eq 1042, 3) := by decide +kernel
theorem dL_law_360 : decode cL_law 360 = .ok (.iconst 0, 1) := by decide +kernel
theorem dL_law_361 : decode cL_law 361 = .ok (.ireturn, 1) := by decide +kernel
theorem dL_law_362 : decode cL_law 362 = .ok (.aload_n 1, 1) := by decide +kernel
theorem dL_law_363 : decode cL_law 363 = .ok (.aload_n 0, 1) := by decide +kernel
theorem dL_law_364 : decode cL_law 364 = .ok (.iload_n 3, 1) := by decide +kernel
theorem dL_law_365 : decode cL_law 365 = .ok (.iconst 1, 1) := by decide +kernel
theorem dL_law_366 : decode cL_law 366 = .ok (.iadd, 1) := by decide +kernel
theorem dL_law_367 : decode cL_law 367 = .ok (.iaload, 1) := by decide +kernel
theorem dL_law_368 : decode cL_law 368 = .ok (.aload_n 0, 1) := by decide +kernel
theorem dL_law_369 : decode cL_law 369 = .ok (.iload_n 3, 1) := by decide +kernel
theorem dL_law_370 : decode cL_law 370 = .ok (.iconst 2, 1) := by decide +kernel
theorem dL_law_371 : decode cL_law 371 = .ok (.iadd, 1) := by decide +kernel
theorem dL_law_372 : decode cL_law 372 = .ok (.iaload, 1) := by decide +kernel
theorem dL_law_373 : decode cL_law 373 = .ok (.aload_n 0, 1) := by decide +kernel
theorem dL_law_374 : decode cL_law 374 = .ok (.iload_n 3, 1) := by decide +kernel
theorem dL_law_375 : decode cL_law 375 = .ok (.iconst 3, 1) := by decide +kernel
theorem dL_law_376 : decode cL_law 376 = .ok (.iadd, 1) := by decide +kernel
theorem dL_law_377 : decode cL_law 377 = .ok (.iaload, 1) := by decide +kernel
theorem dL_law_378 : decode cL_law 378 = .ok (.invokevirtual 31, 3) := by decide +kernel
theorem dL_law_381 : decode cL_law 381 = .ok (.aload_n 2, 1) := by decide +kernel
theorem dL_law_382 : decode cL_law 382 = .ok (.aload_n 0, 1) := by decide +kernel
theorem dL_law_383 : decode cL_law 383 = .ok (.iload_n 3, 1) := by decide +kernel
theorem dL_law_384 : decode cL_law 384 = .ok (.iconst 1, 1) := by decide +kernel
theorem dL_law_385 : decode cL_law 385 = .ok (.iadd, 1) := by decide +kernel
theorem dL_law_386 : decode cL_law 386 = .ok (.iaload, 1) := by decide +kernel
theorem dL_law_387 : decode cL_law 387 = .ok (.aload_n 0, 1) := by decide +kernel
theorem dL_law_388 : decode cL_law 388 = .ok (.iload_n 3, 1) := by decide +kernel
theorem dL_law_389 : decode cL_law 389 = .ok (.iconst 2, 1) := by decide +kernel
theorem dL_law_390 : decode cL_law 390 = .ok (.iadd, 1) := by decide +kernel
theorem dL_law_391 : decode cL_law 391 = .ok (.iaload, 1) := by decide +kernel
theorem dL_law_392 : decode cL_law 392 = .ok (.aload_n 0, 1) := by decide +kernel
theorem dL_law_393 : decode cL_law 393 = .ok (.iload_n 3, 1) := by decide +kernel
theorem dL_law_394 : decode cL_law 394 = .ok (.iconst 3, 1) := by decide +kernel
theorem dL_law_395 : decode cL_law 395 = .ok (.iadd, 1) := by decide +kernel
theorem dL_law_396 : decode cL_law 396 = .ok (.iaload, 1) := by decide +kernel
theorem dL_law_397 : decode cL_law 397 = .ok (.invokevirtual 34, 3) := by decide +kernel
theorem dL_law_400 : decode cL_law 400 = .ok (.if_icmp .eq 999, 3) := by decide +kernel
theorem dL_law_403 : decode cL_law 403 = .ok (.iconst 0, 1) := by decide +kernel
theorem dL_law_404 : decode cL_law 404 = .ok (.ireturn, 1) := by decide +kernel
theorem dL_law_405 : decode cL_law 405 = .ok (.aload_n 1, 1) := by decide +kernel
theorem dL_law_406 : decode cL_law 406 = .ok (.aload_n 0, 1) := by decide +kernel
theorem dL_law_407 : decode cL_law 407 = .ok (.iload_n 3, 1) := by decide +kernel
theorem dL_law_408 : decode cL_law 408 = .ok (.iconst 1, 1) := by decide +kernel
theorem dL_law_409 : decode cL_law 409 = .ok (.iadd, 1) := by decide +kernel
theorem dL_law_410 : decode cL_law 410 = .ok (.iaload, 1) := by decide +kernel
theorem dL_law_411 : decode cL_law 411 = .ok (.aload_n 0, 1) := by decide +kernel
theorem dL_law_412 : decode cL_law 412 = .ok (.iload_n 3, 1) := by decide +kernel
theorem dL_law_413 : decode cL_law 413 = .ok (.iconst 2, 1) := by decide +kernel
theorem dL_law_414 : decode cL_law 414 = .ok (.iadd, 1) := by decide +kernel
theorem dL_law_415 : decode cL_law 415 = .ok (.iaload, 1) := by decide +kernel
theorem dL_law_416 : decode cL_law 416 = .ok (.invokevirtual 35, 3) := by decide +kernel
theorem dL_law_419 : decode cL_law 419 = .ok (.aload_n 2, 1) := by decide +kernel
theorem dL_law_420 : decode cL_law 420 = .ok (.aload_n 0, 1) := by decide +kernel
theorem dL_law_421 : decode cL_law 421 = .ok (.iload_n 3, 1) := by decide +kernel
theorem dL_law_422 : decode cL_law 422 = .ok (.iconst 1, 1) := by decide +kernel
theorem dL_law_423 : decode cL_law 423 = .ok (.iadd, 1) := by decide +kernel
theorem dL_law_424 : decode cL_law 424 = .ok (.iaload, 1) := by decide +kernel
theorem dL_law_425 : decode cL_law 425 = .ok (.aload_n 0, 1) := by decide +kernel
theorem dL_law_426 : decode cL_law 426 = .ok (.iload_n 3, 1) := by decide +kernel
theorem dL_law_427 : decode cL_law 427 = .ok (.iconst 2, 1) := by decide +kernel
theorem dL_law_428 : decode cL_law 428 = .ok (.iadd, 1) := by decide +kernel
theorem dL_law_429 : decode cL_law 429 = .ok (.iaload, 1) := by decide +kernel
theorem dL_law_430 : decode cL_law 430 = .ok (.invokevirtual 38, 3) := by decide +kernel
theorem dL_law_433 : decode cL_law 433 = .ok (.if_icmp .eq 966, 3) := by decide +kernel
theorem dL_law_436 : decode cL_law 436 = .ok (.iconst 0, 1) := by decide +kernel
theorem dL_law_437 : decode cL_law 437 = .ok (.ireturn, 1) := by decide +kernel
theorem dL_law_438 : decode cL_law 438 = .ok (.aload_n 1, 1) := by decide +kernel
theorem dL_law_439 : decode cL_law 439 = .ok (.aload_n 0, 1) := by decide +kernel
theorem dL_law_440 : decode cL_law 440 = .ok (.iload_n 3, 1) := by decide +kernel
theorem dL_law_441 : decode cL_law 441 = .ok (.iconst 1, 1) := by decide +kernel
theorem dL_law_442 : decode cL_law 442 = .ok (.iadd, 1) := by decide +kernel
theorem dL_law_443 : decode cL_law 443 = .ok (.iaload, 1) := by decide +kernel
theorem dL_law_444 : decode cL_law 444 = .ok (.aload_n 0, 1) := by decide +kernel
theorem dL_law_445 : decode cL_law 445 = .ok (.iload_n 3, 1) := by decide +kernel
theorem dL_law_446 : decode cL_law 446 = .ok (.iconst 2, 1) := by decide +kernel
theorem dL_law_447 : decode cL_law 447 = .ok (.iadd, 1) := by decide +kernel
theorem dL_law_448 : decode cL_law 448 = .ok (.iaload, 1) := by decide +kernel
theorem dL_law_449 : decode cL_law 449 = .ok (.invokevirtual 39, 3) := by decide +kernel
theorem dL_law_452 : decode cL_law 452 = .ok (.aload_n 2, 1) := by decide +kernel
theorem dL_law_453 : decode cL_law 453 = .ok (.aload_n 0, 1) := by decide +kernel
theorem dL_law_454 : decode cL_law 454 = .ok (.iload_n 3, 1) := by decide +kernel
theorem dL_law_455 : decode cL_law 455 = .ok (.iconst 1, 1) := by decide +kernel
theorem dL_law_456 : decode cL_law 456 = .ok (.iadd, 1) := by decide +kernel
theorem dL_law_457 : decode cL_law 457 = .ok (.iaload, 1) := by decide +kernel
theorem dL_law_458 : decode cL_law 458 = .ok (.aload_n 0, 1) := by decide +kernel
theorem dL_law_459 : decode cL_law 459 = .ok (.iload_n 3, 1) := by decide +kernel
theorem dL_law_460 : decode cL_law 460 = .ok (.iconst 2, 1) := by decide +kernel
theorem dL_law_461 : decode cL_law 461 = .ok (.iadd, 1) := by decide +kernel
theorem dL_law_462 : decode cL_law 462 = .ok (.iaload, 1) := by decide +kernel
theorem dL_law_463 : decode cL_law 463 = .ok (.invokevirtual 42, 3) := by decide +kernel
theorem dL_law_466 : decode cL_law 466 = .ok (.if_icmp .eq 933, 3) := by decide +kernel
theorem dL_law_469 : decode cL_law 469 = .ok (.iconst 0, 1) := by decide +kernel
theorem dL_law_470 : decode cL_law 470 = .ok (.ireturn, 1) := by decide +kernel
theorem dL_law_471 : decode cL_law 471 = .ok (.aload_n 1, 1) := by decide +kernel
theorem dL_law_472 : decode cL_law 472 = .ok (.aload_n 0, 1) := by decide +kernel
theorem dL_law_473 : decode cL_law 473 = .ok (.iload_n 3, 1) := by decide +kernel
