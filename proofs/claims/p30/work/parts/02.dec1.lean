-- laid by wip/p30/names.py
theorem dX1_factOfFrame_0 : decode cX1_factOfFrame 0 = .ok (.iload_n 1, 1) := by decide +kernel
theorem dX1_factOfFrame_1 : decode cX1_factOfFrame 1 = .ok (.tableswitch 136 0 11 #[63, 68, 73, 78, 83, 88, 93, 98, 103, 108, 121, 126], 63) := by decide +kernel
theorem dX1_factOfFrame_64 : decode cX1_factOfFrame 64 = .ok (.aload_n 0, 1) := by decide +kernel
theorem dX1_factOfFrame_65 : decode cX1_factOfFrame 65 = .ok (.getfield 9, 3) := by decide +kernel
theorem dX1_factOfFrame_68 : decode cX1_factOfFrame 68 = .ok (.ireturn, 1) := by decide +kernel
theorem dX1_factOfFrame_69 : decode cX1_factOfFrame 69 = .ok (.aload_n 0, 1) := by decide +kernel
theorem dX1_factOfFrame_70 : decode cX1_factOfFrame 70 = .ok (.getfield 15, 3) := by decide +kernel
theorem dX1_factOfFrame_73 : decode cX1_factOfFrame 73 = .ok (.ireturn, 1) := by decide +kernel
theorem dX1_factOfFrame_74 : decode cX1_factOfFrame 74 = .ok (.aload_n 0, 1) := by decide +kernel
theorem dX1_factOfFrame_75 : decode cX1_factOfFrame 75 = .ok (.getfield 48, 3) := by decide +kernel
theorem dX1_factOfFrame_78 : decode cX1_factOfFrame 78 = .ok (.ireturn, 1) := by decide +kernel
theorem dX1_factOfFrame_79 : decode cX1_factOfFrame 79 = .ok (.aload_n 0, 1) := by decide +kernel
theorem dX1_factOfFrame_80 : decode cX1_factOfFrame 80 = .ok (.getfield 51, 3) := by decide +kernel
theorem dX1_factOfFrame_83 : decode cX1_factOfFrame 83 = .ok (.ireturn, 1) := by decide +kernel
theorem dX1_factOfFrame_84 : decode cX1_factOfFrame 84 = .ok (.aload_n 0, 1) := by decide +kernel
theorem dX1_factOfFrame_85 : decode cX1_factOfFrame 85 = .ok (.getfield 54, 3) := by decide +kernel
theorem dX1_factOfFrame_88 : decode cX1_factOfFrame 88 = .ok (.ireturn, 1) := by decide +kernel
theorem dX1_factOfFrame_89 : decode cX1_factOfFrame 89 = .ok (.aload_n 0, 1) := by decide +kernel
theorem dX1_factOfFrame_90 : decode cX1_factOfFrame 90 = .ok (.getfield 57, 3) := by decide +kernel
theorem dX1_factOfFrame_93 : decode cX1_factOfFrame 93 = .ok (.ireturn, 1) := by decide +kernel
theorem dX1_factOfFrame_94 : decode cX1_factOfFrame 94 = .ok (.aload_n 0, 1) := by decide +kernel
theorem dX1_factOfFrame_95 : decode cX1_factOfFrame 95 = .ok (.getfield 60, 3) := by decide +kernel
theorem dX1_factOfFrame_98 : decode cX1_factOfFrame 98 = .ok (.ireturn, 1) := by decide +kernel
theorem dX1_factOfFrame_99 : decode cX1_factOfFrame 99 = .ok (.aload_n 0, 1) := by decide +kernel
theorem dX1_factOfFrame_100 : decode cX1_factOfFrame 100 = .ok (.getfield 41, 3) := by decide +kernel
theorem dX1_factOfFrame_103 : decode cX1_factOfFrame 103 = .ok (.ireturn, 1) := by decide +kernel
theorem dX1_factOfFrame_104 : decode cX1_factOfFrame 104 = .ok (.aload_n 0, 1) := by decide +kernel
theorem dX1_factOfFrame_105 : decode cX1_factOfFrame 105 = .ok (.getfield 120, 3) := by decide +kernel
theorem dX1_factOfFrame_108 : decode cX1_factOfFrame 108 = .ok (.ireturn, 1) := by decide +kernel
theorem dX1_factOfFrame_109 : decode cX1_factOfFrame 109 = .ok (.aload_n 0, 1) := by decide +kernel
theorem dX1_factOfFrame_110 : decode cX1_factOfFrame 110 = .ok (.invokevirtual 136, 3) := by decide +kernel
theorem dX1_factOfFrame_113 : decode cX1_factOfFrame 113 = .ok (.ifCond .eq 7, 3) := by decide +kernel
theorem dX1_factOfFrame_116 : decode cX1_factOfFrame 116 = .ok (.iconst 1, 1) := by decide +kernel
theorem dX1_factOfFrame_117 : decode cX1_factOfFrame 117 = .ok (.goto 4, 3) := by decide +kernel
theorem dX1_factOfFrame_120 : decode cX1_factOfFrame 120 = .ok (.iconst 0, 1) := by decide +kernel
theorem dX1_factOfFrame_121 : decode cX1_factOfFrame 121 = .ok (.ireturn, 1) := by decide +kernel
theorem dX1_factOfFrame_122 : decode cX1_factOfFrame 122 = .ok (.aload_n 0, 1) := by decide +kernel
theorem dX1_factOfFrame_123 : decode cX1_factOfFrame 123 = .ok (.invokevirtual 140, 3) := by decide +kernel
theorem dX1_factOfFrame_126 : decode cX1_factOfFrame 126 = .ok (.ireturn, 1) := by decide +kernel
theorem dX1_factOfFrame_127 : decode cX1_factOfFrame 127 = .ok (.aload_n 0, 1) := by decide +kernel
theorem dX1_factOfFrame_128 : decode cX1_factOfFrame 128 = .ok (.invokevirtual 144, 3) := by decide +kernel
theorem dX1_factOfFrame_131 : decode cX1_factOfFrame 131 = .ok (.ldc2_w 148, 3) := by decide +kernel
theorem dX1_factOfFrame_134 : decode cX1_factOfFrame 134 = .ok (.lrem, 1) := by decide +kernel
theorem dX1_factOfFrame_135 : decode cX1_factOfFrame 135 = .ok (.l2i, 1) := by decide +kernel
theorem dX1_factOfFrame_136 : decode cX1_factOfFrame 136 = .ok (.ireturn, 1) := by decide +kernel
theorem dX1_factOfFrame_137 : decode cX1_factOfFrame 137 = .ok (.aload_n 0, 1) := by decide +kernel
theorem dX1_factOfFrame_138 : decode cX1_factOfFrame 138 = .ok (.invokevirtual 150, 3) := by decide +kernel
theorem dX1_factOfFrame_141 : decode cX1_factOfFrame 141 = .ok (.ireturn, 1) := by decide +kernel
theorem dX1_sumOfValues_0 : decode cX1_sumOfValues 0 = .ok (.iconst 0, 1) := by decide +kernel
theorem dX1_sumOfValues_1 : decode cX1_sumOfValues 1 = .ok (.istore_n 1, 1) := by decide +kernel
theorem dX1_sumOfValues_2 : decode cX1_sumOfValues 2 = .ok (.iconst 0, 1) := by decide +kernel
theorem dX1_sumOfValues_3 : decode cX1_sumOfValues 3 = .ok (.istore_n 2, 1) := by decide +kernel
theorem dX1_sumOfValues_4 : decode cX1_sumOfValues 4 = .ok (.iload_n 2, 1) := by decide +kernel
theorem dX1_sumOfValues_5 : decode cX1_sumOfValues 5 = .ok (.aload_n 0, 1) := by decide +kernel
theorem dX1_sumOfValues_6 : decode cX1_sumOfValues 6 = .ok (.getfield 15, 3) := by decide +kernel
theorem dX1_sumOfValues_9 : decode cX1_sumOfValues 9 = .ok (.if_icmp .ge 17, 3) := by decide +kernel
theorem dX1_sumOfValues_12 : decode cX1_sumOfValues 12 = .ok (.iload_n 1, 1) := by decide +kernel
theorem dX1_sumOfValues_13 : decode cX1_sumOfValues 13 = .ok (.aload_n 0, 1) := by decide +kernel
theorem dX1_sumOfValues_14 : decode cX1_sumOfValues 14 = .ok (.iload_n 2, 1) := by decide +kernel
theorem dX1_sumOfValues_15 : decode cX1_sumOfValues 15 = .ok (.invokevirtual 72, 3) := by decide +kernel
theorem dX1_sumOfValues_18 : decode cX1_sumOfValues 18 = .ok (.iadd, 1) := by decide +kernel
theorem dX1_sumOfValues_19 : decode cX1_sumOfValues 19 = .ok (.istore_n 1, 1) := by decide +kernel
theorem dX1_sumOfValues_20 : decode cX1_sumOfValues 20 = .ok (.iinc 2 1, 3) := by decide +kernel
theorem dX1_sumOfValues_23 : decode cX1_sumOfValues 23 = .ok (.goto (-19), 3) := by decide +kernel
theorem dX1_sumOfValues_26 : decode cX1_sumOfValues 26 = .ok (.iload_n 1, 1) := by decide +kernel
theorem dX1_sumOfValues_27 : decode cX1_sumOfValues 27 = .ok (.ireturn, 1) := by decide +kernel
theorem dX1_beadsThatCount_0 : decode cX1_beadsThatCount 0 = .ok (.iconst 0, 1) := by decide +kernel
theorem dX1_beadsThatCount_1 : decode cX1_beadsThatCount 1 = .ok (.istore_n 1, 1) := by decide +kernel
theorem dX1_beadsThatCount_2 : decode cX1_beadsThatCount 2 = .ok (.iconst 0, 1) := by decide +kernel
theorem dX1_beadsThatCount_3 : decode cX1_beadsThatCount 3 = .ok (.istore_n 2, 1) := by decide +kernel
theorem dX1_beadsThatCount_4 : decode cX1_beadsThatCount 4 = .ok (.iload_n 2, 1) := by decide +kernel
theorem dX1_beadsThatCount_5 : decode cX1_beadsThatCount 5 = .ok (.aload_n 0, 1) := by decide +kernel
theorem dX1_beadsThatCount_6 : decode cX1_beadsThatCount 6 = .ok (.getfield 15, 3) := by decide +kernel
theorem dX1_beadsThatCount_9 : decode cX1_beadsThatCount 9 = .ok (.if_icmp .ge 29, 3) := by decide +kernel
theorem dX1_beadsThatCount_12 : decode cX1_beadsThatCount 12 = .ok (.iload_n 1, 1) := by decide +kernel
theorem dX1_beadsThatCount_13 : decode cX1_beadsThatCount 13 = .ok (.aload_n 0, 1) := by decide +kernel
theorem dX1_beadsThatCount_14 : decode cX1_beadsThatCount 14 = .ok (.getfield 27, 3) := by decide +kernel
theorem dX1_beadsThatCount_17 : decode cX1_beadsThatCount 17 = .ok (.iload_n 2, 1) := by decide +kernel
theorem dX1_beadsThatCount_18 : decode cX1_beadsThatCount 18 = .ok (.invokevirtual 65, 3) := by decide +kernel
theorem dX1_beadsThatCount_21 : decode cX1_beadsThatCount 21 = .ok (.aload_n 0, 1) := by decide +kernel
theorem dX1_beadsThatCount_22 : decode cX1_beadsThatCount 22 = .ok (.getfield 34, 3) := by decide +kernel
theorem dX1_beadsThatCount_25 : decode cX1_beadsThatCount 25 = .ok (.iload_n 2, 1) := by decide +kernel
theorem dX1_beadsThatCount_26 : decode cX1_beadsThatCount 26 = .ok (.invokevirtual 65, 3) := by decide +kernel
theorem dX1_beadsThatCount_29 : decode cX1_beadsThatCount 29 = .ok (.iadd, 1) := by decide +kernel
theorem dX1_beadsThatCount_30 : decode cX1_beadsThatCount 30 = .ok (.iadd, 1) := by decide +kernel
theorem dX1_beadsThatCount_31 : decode cX1_beadsThatCount 31 = .ok (.istore_n 1, 1) := by decide +kernel
theorem dX1_beadsThatCount_32 : decode cX1_beadsThatCount 32 = .ok (.iinc 2 1, 3) := by decide +kernel
theorem dX1_beadsThatCount_35 : decode cX1_beadsThatCount 35 = .ok (.goto (-31), 3) := by decide +kernel
theorem dX1_beadsThatCount_38 : decode cX1_beadsThatCount 38 = .ok (.iload_n 1, 1) := by decide +kernel
theorem dX1_beadsThatCount_39 : decode cX1_beadsThatCount 39 = .ok (.ireturn, 1) := by decide +kernel
theorem dX1_waysToShow_0 : decode cX1_waysToShow 0 = .ok (.lconst 1, 1) := by decide +kernel
theorem dX1_waysToShow_1 : decode cX1_waysToShow 1 = .ok (.lstore_n 1, 1) := by decide +kernel
theorem dX1_waysToShow_2 : decode cX1_waysToShow 2 = .ok (.lconst 0, 1) := by decide +kernel
theorem dX1_waysToShow_3 : decode cX1_waysToShow 3 = .ok (.lstore_n 3, 1) := by decide +kernel
theorem dX1_waysToShow_4 : decode cX1_waysToShow 4 = .ok (.aload_n 0, 1) := by decide +kernel
theorem dX1_waysToShow_5 : decode cX1_waysToShow 5 = .ok (.invokevirtual 144, 3) := by decide +kernel
theorem dX1_waysToShow_8 : decode cX1_waysToShow 8 = .ok (.lstore 5, 2) := by decide +kernel
theorem dX1_waysToShow_10 : decode cX1_waysToShow 10 = .ok (.iconst 0, 1) := by decide +kernel
theorem dX1_waysToShow_11 : decode cX1_waysToShow 11 = .ok (.istore 7, 2) := by decide +kernel
theorem dX1_waysToShow_13 : decode cX1_waysToShow 13 = .ok (.iload 7, 2) := by decide +kernel
theorem dX1_waysToShow_15 : decode cX1_waysToShow 15 = .ok (.aload_n 0, 1) := by decide +kernel
theorem dX1_waysToShow_16 : decode cX1_waysToShow 16 = .ok (.getfield 15, 3) := by decide +kernel
theorem dX1_waysToShow_19 : decode cX1_waysToShow 19 = .ok (.if_icmp .ge 82, 3) := by decide +kernel
theorem dX1_waysToShow_22 : decode cX1_waysToShow 22 = .ok (.lload 5, 2) := by decide +kernel
theorem dX1_waysToShow_24 : decode cX1_waysToShow 24 = .ok (.ldc2_w 63, 3) := by decide +kernel
theorem dX1_waysToShow_27 : decode cX1_waysToShow 27 = .ok (.lrem, 1) := by decide +kernel
theorem dX1_waysToShow_28 : decode cX1_waysToShow 28 = .ok (.l2i, 1) := by decide +kernel
theorem dX1_waysToShow_29 : decode cX1_waysToShow 29 = .ok (.istore 8, 2) := by decide +kernel
theorem dX1_waysToShow_31 : decode cX1_waysToShow 31 = .ok (.lload_n 1, 1) := by decide +kernel
theorem dX1_waysToShow_32 : decode cX1_waysToShow 32 = .ok (.aload_n 0, 1) := by decide +kernel
theorem dX1_waysToShow_33 : decode cX1_waysToShow 33 = .ok (.iload 8, 2) := by decide +kernel
theorem dX1_waysToShow_35 : decode cX1_waysToShow 35 = .ok (.invokevirtual 164, 3) := by decide +kernel
theorem dX1_waysToShow_38 : decode cX1_waysToShow 38 = .ok (.i2l, 1) := by decide +kernel
theorem dX1_waysToShow_39 : decode cX1_waysToShow 39 = .ok (.lmul, 1) := by decide +kernel
theorem dX1_waysToShow_40 : decode cX1_waysToShow 40 = .ok (.lload_n 3, 1) := by decide +kernel
theorem dX1_waysToShow_41 : decode cX1_waysToShow 41 = .ok (.aload_n 0, 1) := by decide +kernel
theorem dX1_waysToShow_42 : decode cX1_waysToShow 42 = .ok (.iload 8, 2) := by decide +kernel
theorem dX1_waysToShow_44 : decode cX1_waysToShow 44 = .ok (.iconst 1, 1) := by decide +kernel
theorem dX1_waysToShow_45 : decode cX1_waysToShow 45 = .ok (.isub, 1) := by decide +kernel
theorem dX1_waysToShow_46 : decode cX1_waysToShow 46 = .ok (.invokevirtual 164, 3) := by decide +kernel
theorem dX1_waysToShow_49 : decode cX1_waysToShow 49 = .ok (.i2l, 1) := by decide +kernel
theorem dX1_waysToShow_50 : decode cX1_waysToShow 50 = .ok (.lmul, 1) := by decide +kernel
theorem dX1_waysToShow_51 : decode cX1_waysToShow 51 = .ok (.ladd, 1) := by decide +kernel
theorem dX1_waysToShow_52 : decode cX1_waysToShow 52 = .ok (.lstore 9, 2) := by decide +kernel
theorem dX1_waysToShow_54 : decode cX1_waysToShow 54 = .ok (.lload_n 1, 1) := by decide +kernel
theorem dX1_waysToShow_55 : decode cX1_waysToShow 55 = .ok (.aload_n 0, 1) := by decide +kernel
theorem dX1_waysToShow_56 : decode cX1_waysToShow 56 = .ok (.iload 8, 2) := by decide +kernel
theorem dX1_waysToShow_58 : decode cX1_waysToShow 58 = .ok (.bipush 10, 2) := by decide +kernel
theorem dX1_waysToShow_60 : decode cX1_waysToShow 60 = .ok (.iadd, 1) := by decide +kernel
theorem dX1_waysToShow_61 : decode cX1_waysToShow 61 = .ok (.invokevirtual 164, 3) := by decide +kernel
theorem dX1_waysToShow_64 : decode cX1_waysToShow 64 = .ok (.i2l, 1) := by decide +kernel
theorem dX1_waysToShow_65 : decode cX1_waysToShow 65 = .ok (.lmul, 1) := by decide +kernel
theorem dX1_waysToShow_66 : decode cX1_waysToShow 66 = .ok (.lload_n 3, 1) := by decide +kernel
theorem dX1_waysToShow_67 : decode cX1_waysToShow 67 = .ok (.aload_n 0, 1) := by decide +kernel
theorem dX1_waysToShow_68 : decode cX1_waysToShow 68 = .ok (.iload 8, 2) := by decide +kernel
theorem dX1_waysToShow_70 : decode cX1_waysToShow 70 = .ok (.bipush 9, 2) := by decide +kernel
theorem dX1_waysToShow_72 : decode cX1_waysToShow 72 = .ok (.iadd, 1) := by decide +kernel
theorem dX1_waysToShow_73 : decode cX1_waysToShow 73 = .ok (.invokevirtual 164, 3) := by decide +kernel
theorem dX1_waysToShow_76 : decode cX1_waysToShow 76 = .ok (.i2l, 1) := by decide +kernel
theorem dX1_waysToShow_77 : decode cX1_waysToShow 77 = .ok (.lmul, 1) := by decide +kernel
theorem dX1_waysToShow_78 : decode cX1_waysToShow 78 = .ok (.ladd, 1) := by decide +kernel
theorem dX1_waysToShow_79 : decode cX1_waysToShow 79 = .ok (.lstore 11, 2) := by decide +kernel
theorem dX1_waysToShow_81 : decode cX1_waysToShow 81 = .ok (.lload 9, 2) := by decide +kernel
theorem dX1_waysToShow_83 : decode cX1_waysToShow 83 = .ok (.lstore_n 1, 1) := by decide +kernel
theorem dX1_waysToShow_84 : decode cX1_waysToShow 84 = .ok (.lload 11, 2) := by decide +kernel
theorem dX1_waysToShow_86 : decode cX1_waysToShow 86 = .ok (.lstore_n 3, 1) := by decide +kernel
theorem dX1_waysToShow_87 : decode cX1_waysToShow 87 = .ok (.lload 5, 2) := by decide +kernel
theorem dX1_waysToShow_89 : decode cX1_waysToShow 89 = .ok (.ldc2_w 63, 3) := by decide +kernel
theorem dX1_waysToShow_92 : decode cX1_waysToShow 92 = .ok (.ldiv, 1) := by decide +kernel
theorem dX1_waysToShow_93 : decode cX1_waysToShow 93 = .ok (.lstore 5, 2) := by decide +kernel
theorem dX1_waysToShow_95 : decode cX1_waysToShow 95 = .ok (.iinc 7 1, 3) := by decide +kernel
theorem dX1_waysToShow_98 : decode cX1_waysToShow 98 = .ok (.goto (-85), 3) := by decide +kernel
theorem dX1_waysToShow_101 : decode cX1_waysToShow 101 = .ok (.lload 5, 2) := by decide +kernel
theorem dX1_waysToShow_103 : decode cX1_waysToShow 103 = .ok (.lconst 0, 1) := by decide +kernel
theorem dX1_waysToShow_104 : decode cX1_waysToShow 104 = .ok (.lcmp, 1) := by decide +kernel
theorem dX1_waysToShow_105 : decode cX1_waysToShow 105 = .ok (.ifCond .ne 7, 3) := by decide +kernel
theorem dX1_waysToShow_108 : decode cX1_waysToShow 108 = .ok (.lload_n 1, 1) := by decide +kernel
theorem dX1_waysToShow_109 : decode cX1_waysToShow 109 = .ok (.goto 4, 3) := by decide +kernel
theorem dX1_waysToShow_112 : decode cX1_waysToShow 112 = .ok (.lload_n 3, 1) := by decide +kernel
theorem dX1_waysToShow_113 : decode cX1_waysToShow 113 = .ok (.lreturn, 1) := by decide +kernel
theorem dX1_waysOfRod_0 : decode cX1_waysOfRod 0 = .ok (.iconst 0, 1) := by decide +kernel
theorem dX1_waysOfRod_1 : decode cX1_waysOfRod 1 = .ok (.istore_n 2, 1) := by decide +kernel
theorem dX1_waysOfRod_2 : decode cX1_waysOfRod 2 = .ok (.iconst 0, 1) := by decide +kernel
theorem dX1_waysOfRod_3 : decode cX1_waysOfRod 3 = .ok (.istore_n 3, 1) := by decide +kernel
theorem dX1_waysOfRod_4 : decode cX1_waysOfRod 4 = .ok (.iload_n 3, 1) := by decide +kernel
theorem dX1_waysOfRod_5 : decode cX1_waysOfRod 5 = .ok (.aload_n 0, 1) := by decide +kernel
theorem dX1_waysOfRod_6 : decode cX1_waysOfRod 6 = .ok (.getfield 27, 3) := by decide +kernel
theorem dX1_waysOfRod_9 : decode cX1_waysOfRod 9 = .ok (.getfield 69, 3) := by decide +kernel
theorem dX1_waysOfRod_12 : decode cX1_waysOfRod 12 = .ok (.if_icmp .gt 36, 3) := by decide +kernel
theorem dX1_waysOfRod_15 : decode cX1_waysOfRod 15 = .ok (.iload_n 1, 1) := by decide +kernel
theorem dX1_waysOfRod_16 : decode cX1_waysOfRod 16 = .ok (.iconst 5, 1) := by decide +kernel
theorem dX1_waysOfRod_17 : decode cX1_waysOfRod 17 = .ok (.iload_n 3, 1) := by decide +kernel
theorem dX1_waysOfRod_18 : decode cX1_waysOfRod 18 = .ok (.imul, 1) := by decide +kernel
theorem dX1_waysOfRod_19 : decode cX1_waysOfRod 19 = .ok (.isub, 1) := by decide +kernel
theorem dX1_waysOfRod_20 : decode cX1_waysOfRod 20 = .ok (.istore 4, 2) := by decide +kernel
theorem dX1_waysOfRod_22 : decode cX1_waysOfRod 22 = .ok (.iload 4, 2) := by decide +kernel
theorem dX1_waysOfRod_24 : decode cX1_waysOfRod 24 = .ok (.ifCond .lt 18, 3) := by decide +kernel
theorem dX1_waysOfRod_27 : decode cX1_waysOfRod 27 = .ok (.iload 4, 2) := by decide +kernel
theorem dX1_waysOfRod_29 : decode cX1_waysOfRod 29 = .ok (.aload_n 0, 1) := by decide +kernel
theorem dX1_waysOfRod_30 : decode cX1_waysOfRod 30 = .ok (.getfield 34, 3) := by decide +kernel
theorem dX1_waysOfRod_33 : decode cX1_waysOfRod 33 = .ok (.getfield 69, 3) := by decide +kernel
theorem dX1_waysOfRod_36 : decode cX1_waysOfRod 36 = .ok (.if_icmp .gt 6, 3) := by decide +kernel
theorem dX1_waysOfRod_39 : decode cX1_waysOfRod 39 = .ok (.iinc 2 1, 3) := by decide +kernel
theorem dX1_waysOfRod_42 : decode cX1_waysOfRod 42 = .ok (.iinc 3 1, 3) := by decide +kernel
theorem dX1_waysOfRod_45 : decode cX1_waysOfRod 45 = .ok (.goto (-41), 3) := by decide +kernel
theorem dX1_waysOfRod_48 : decode cX1_waysOfRod 48 = .ok (.iload_n 2, 1) := by decide +kernel
theorem dX1_waysOfRod_49 : decode cX1_waysOfRod 49 = .ok (.ireturn, 1) := by decide +kernel
theorem dX1_fewestBeadsToShow_0 : decode cX1_fewestBeadsToShow 0 = .ok (.iconst 0, 1) := by decide +kernel
theorem dX1_fewestBeadsToShow_1 : decode cX1_fewestBeadsToShow 1 = .ok (.istore_n 1, 1) := by decide +kernel
theorem dX1_fewestBeadsToShow_2 : decode cX1_fewestBeadsToShow 2 = .ok (.sipush 1000, 3) := by decide +kernel
theorem dX1_fewestBeadsToShow_5 : decode cX1_fewestBeadsToShow 5 = .ok (.istore_n 2, 1) := by decide +kernel
theorem dX1_fewestBeadsToShow_6 : decode cX1_fewestBeadsToShow 6 = .ok (.aload_n 0, 1) := by decide +kernel
theorem dX1_fewestBeadsToShow_7 : decode cX1_fewestBeadsToShow 7 = .ok (.invokevirtual 144, 3) := by decide +kernel
theorem dX1_fewestBeadsToShow_10 : decode cX1_fewestBeadsToShow 10 = .ok (.lstore_n 3, 1) := by decide +kernel
theorem dX1_fewestBeadsToShow_11 : decode cX1_fewestBeadsToShow 11 = .ok (.iconst 0, 1) := by decide +kernel
theorem dX1_fewestBeadsToShow_12 : decode cX1_fewestBeadsToShow 12 = .ok (.istore 5, 2) := by decide +kernel
theorem dX1_fewestBeadsToShow_14 : decode cX1_fewestBeadsToShow 14 = .ok (.iload 5, 2) := by decide +kernel
theorem dX1_fewestBeadsToShow_16 : decode cX1_fewestBeadsToShow 16 = .ok (.aload_n 0, 1) := by decide +kernel
theorem dX1_fewestBeadsToShow_17 : decode cX1_fewestBeadsToShow 17 = .ok (.getfield 15, 3) := by decide +kernel
theorem dX1_fewestBeadsToShow_20 : decode cX1_fewestBeadsToShow 20 = .ok (.if_icmp .ge 79, 3) := by decide +kernel
theorem dX1_fewestBeadsToShow_23 : decode cX1_fewestBeadsToShow 23 = .ok (.lload_n 3, 1) := by decide +kernel
theorem dX1_fewestBeadsToShow_24 : decode cX1_fewestBeadsToShow 24 = .ok (.ldc2_w 63, 3) := by decide +kernel
theorem dX1_fewestBeadsToShow_27 : decode cX1_fewestBeadsToShow 27 = .ok (.lrem, 1) := by decide +kernel
theorem dX1_fewestBeadsToShow_28 : decode cX1_fewestBeadsToShow 28 = .ok (.l2i, 1) := by decide +kernel
theorem dX1_fewestBeadsToShow_29 : decode cX1_fewestBeadsToShow 29 = .ok (.istore 6, 2) := by decide +kernel
theorem dX1_fewestBeadsToShow_31 : decode cX1_fewestBeadsToShow 31 = .ok (.iload_n 1, 1) := by decide +kernel
theorem dX1_fewestBeadsToShow_32 : decode cX1_fewestBeadsToShow 32 = .ok (.aload_n 0, 1) := by decide +kernel
theorem dX1_fewestBeadsToShow_33 : decode cX1_fewestBeadsToShow 33 = .ok (.iload 6, 2) := by decide +kernel
theorem dX1_fewestBeadsToShow_35 : decode cX1_fewestBeadsToShow 35 = .ok (.invokevirtual 167, 3) := by decide +kernel
theorem dX1_fewestBeadsToShow_38 : decode cX1_fewestBeadsToShow 38 = .ok (.iadd, 1) := by decide +kernel
theorem dX1_fewestBeadsToShow_39 : decode cX1_fewestBeadsToShow 39 = .ok (.iload_n 2, 1) := by decide +kernel
theorem dX1_fewestBeadsToShow_40 : decode cX1_fewestBeadsToShow 40 = .ok (.aload_n 0, 1) := by decide +kernel
theorem dX1_fewestBeadsToShow_41 : decode cX1_fewestBeadsToShow 41 = .ok (.iload 6, 2) := by decide +kernel
theorem dX1_fewestBeadsToShow_43 : decode cX1_fewestBeadsToShow 43 = .ok (.iconst 1, 1) := by decide +kernel
theorem dX1_fewestBeadsToShow_44 : decode cX1_fewestBeadsToShow 44 = .ok (.isub, 1) := by decide +kernel
theorem dX1_fewestBeadsToShow_45 : decode cX1_fewestBeadsToShow 45 = .ok (.invokevirtual 167, 3) := by decide +kernel
theorem dX1_fewestBeadsToShow_48 : decode cX1_fewestBeadsToShow 48 = .ok (.iadd, 1) := by decide +kernel
theorem dX1_fewestBeadsToShow_49 : decode cX1_fewestBeadsToShow 49 = .ok (.invokestatic 170, 3) := by decide +kernel
theorem dX1_fewestBeadsToShow_52 : decode cX1_fewestBeadsToShow 52 = .ok (.istore 7, 2) := by decide +kernel
theorem dX1_fewestBeadsToShow_54 : decode cX1_fewestBeadsToShow 54 = .ok (.iload_n 1, 1) := by decide +kernel
theorem dX1_fewestBeadsToShow_55 : decode cX1_fewestBeadsToShow 55 = .ok (.aload_n 0, 1) := by decide +kernel
theorem dX1_fewestBeadsToShow_56 : decode cX1_fewestBeadsToShow 56 = .ok (.iload 6, 2) := by decide +kernel
theorem dX1_fewestBeadsToShow_58 : decode cX1_fewestBeadsToShow 58 = .ok (.bipush 10, 2) := by decide +kernel
theorem dX1_fewestBeadsToShow_60 : decode cX1_fewestBeadsToShow 60 = .ok (.iadd, 1) := by decide +kernel
theorem dX1_fewestBeadsToShow_61 : decode cX1_fewestBeadsToShow 61 = .ok (.invokevirtual 167, 3) := by decide +kernel
theorem dX1_fewestBeadsToShow_64 : decode cX1_fewestBeadsToShow 64 = .ok (.iadd, 1) := by decide +kernel
theorem dX1_fewestBeadsToShow_65 : decode cX1_fewestBeadsToShow 65 = .ok (.iload_n 2, 1) := by decide +kernel
theorem dX1_fewestBeadsToShow_66 : decode cX1_fewestBeadsToShow 66 = .ok (.aload_n 0, 1) := by decide +kernel
theorem dX1_fewestBeadsToShow_67 : decode cX1_fewestBeadsToShow 67 = .ok (.iload 6, 2) := by decide +kernel
theorem dX1_fewestBeadsToShow_69 : decode cX1_fewestBeadsToShow 69 = .ok (.bipush 9, 2) := by decide +kernel
theorem dX1_fewestBeadsToShow_71 : decode cX1_fewestBeadsToShow 71 = .ok (.iadd, 1) := by decide +kernel
theorem dX1_fewestBeadsToShow_72 : decode cX1_fewestBeadsToShow 72 = .ok (.invokevirtual 167, 3) := by decide +kernel
theorem dX1_fewestBeadsToShow_75 : decode cX1_fewestBeadsToShow 75 = .ok (.iadd, 1) := by decide +kernel
theorem dX1_fewestBeadsToShow_76 : decode cX1_fewestBeadsToShow 76 = .ok (.invokestatic 170, 3) := by decide +kernel
theorem dX1_fewestBeadsToShow_79 : decode cX1_fewestBeadsToShow 79 = .ok (.istore 8, 2) := by decide +kernel
theorem dX1_fewestBeadsToShow_81 : decode cX1_fewestBeadsToShow 81 = .ok (.iload 7, 2) := by decide +kernel
theorem dX1_fewestBeadsToShow_83 : decode cX1_fewestBeadsToShow 83 = .ok (.istore_n 1, 1) := by decide +kernel
theorem dX1_fewestBeadsToShow_84 : decode cX1_fewestBeadsToShow 84 = .ok (.iload 8, 2) := by decide +kernel
theorem dX1_fewestBeadsToShow_86 : decode cX1_fewestBeadsToShow 86 = .ok (.istore_n 2, 1) := by decide +kernel
theorem dX1_fewestBeadsToShow_87 : decode cX1_fewestBeadsToShow 87 = .ok (.lload_n 3, 1) := by decide +kernel
theorem dX1_fewestBeadsToShow_88 : decode cX1_fewestBeadsToShow 88 = .ok (.ldc2_w 63, 3) := by decide +kernel
theorem dX1_fewestBeadsToShow_91 : decode cX1_fewestBeadsToShow 91 = .ok (.ldiv, 1) := by decide +kernel
theorem dX1_fewestBeadsToShow_92 : decode cX1_fewestBeadsToShow 92 = .ok (.lstore_n 3, 1) := by decide +kernel
theorem dX1_fewestBeadsToShow_93 : decode cX1_fewestBeadsToShow 93 = .ok (.iinc 5 1, 3) := by decide +kernel
theorem dX1_fewestBeadsToShow_96 : decode cX1_fewestBeadsToShow 96 = .ok (.goto (-82), 3) := by decide +kernel
theorem dX1_fewestBeadsToShow_99 : decode cX1_fewestBeadsToShow 99 = .ok (.lload_n 3, 1) := by decide +kernel
theorem dX1_fewestBeadsToShow_100 : decode cX1_fewestBeadsToShow 100 = .ok (.lconst 0, 1) := by decide +kernel
theorem dX1_fewestBeadsToShow_101 : decode cX1_fewestBeadsToShow 101 = .ok (.lcmp, 1) := by decide +kernel
theorem dX1_fewestBeadsToShow_102 : decode cX1_fewestBeadsToShow 102 = .ok (.ifCond .ne 7, 3) := by decide +kernel
theorem dX1_fewestBeadsToShow_105 : decode cX1_fewestBeadsToShow 105 = .ok (.iload_n 1, 1) := by decide +kernel
theorem dX1_fewestBeadsToShow_106 : decode cX1_fewestBeadsToShow 106 = .ok (.goto 4, 3) := by decide +kernel
theorem dX1_fewestBeadsToShow_109 : decode cX1_fewestBeadsToShow 109 = .ok (.iload_n 2, 1) := by decide +kernel
theorem dX1_fewestBeadsToShow_110 : decode cX1_fewestBeadsToShow 110 = .ok (.ireturn, 1) := by decide +kernel
theorem dX1_fewestOfRod_0 : decode cX1_fewestOfRod 0 = .ok (.sipush 1000, 3) := by decide +kernel
theorem dX1_fewestOfRod_3 : decode cX1_fewestOfRod 3 = .ok (.istore_n 2, 1) := by decide +kernel
theorem dX1_fewestOfRod_4 : decode cX1_fewestOfRod 4 = .ok (.iconst 0, 1) := by decide +kernel
theorem dX1_fewestOfRod_5 : decode cX1_fewestOfRod 5 = .ok (.istore_n 3, 1) := by decide +kernel
theorem dX1_fewestOfRod_6 : decode cX1_fewestOfRod 6 = .ok (.iload_n 3, 1) := by decide +kernel
theorem dX1_fewestOfRod_7 : decode cX1_fewestOfRod 7 = .ok (.aload_n 0, 1) := by decide +kernel
theorem dX1_fewestOfRod_8 : decode cX1_fewestOfRod 8 = .ok (.getfield 27, 3) := by decide +kernel
theorem dX1_fewestOfRod_11 : decode cX1_fewestOfRod 11 = .ok (.getfield 69, 3) := by decide +kernel
theorem dX1_fewestOfRod_14 : decode cX1_fewestOfRod 14 = .ok (.if_icmp .gt 42, 3) := by decide +kernel
theorem dX1_fewestOfRod_17 : decode cX1_fewestOfRod 17 = .ok (.iload_n 1, 1) := by decide +kernel
theorem dX1_fewestOfRod_18 : decode cX1_fewestOfRod 18 = .ok (.iconst 5, 1) := by decide +kernel
theorem dX1_fewestOfRod_19 : decode cX1_fewestOfRod 19 = .ok (.iload_n 3, 1) := by decide +kernel
theorem dX1_fewestOfRod_20 : decode cX1_fewestOfRod 20 = .ok (.imul, 1) := by decide +kernel
theorem dX1_fewestOfRod_21 : decode cX1_fewestOfRod 21 = .ok (.isub, 1) := by decide +kernel
theorem dX1_fewestOfRod_22 : decode cX1_fewestOfRod 22 = .ok (.istore 4, 2) := by decide +kernel
theorem dX1_fewestOfRod_24 : decode cX1_fewestOfRod 24 = .ok (.iload 4, 2) := by decide +kernel
theorem dX1_fewestOfRod_26 : decode cX1_fewestOfRod 26 = .ok (.ifCond .lt 24, 3) := by decide +kernel
theorem dX1_fewestOfRod_29 : decode cX1_fewestOfRod 29 = .ok (.iload 4, 2) := by decide +kernel
theorem dX1_fewestOfRod_31 : decode cX1_fewestOfRod 31 = .ok (.aload_n 0, 1) := by decide +kernel
theorem dX1_fewestOfRod_32 : decode cX1_fewestOfRod 32 = .ok (.getfield 34, 3) := by decide +kernel
theorem dX1_fewestOfRod_35 : decode cX1_fewestOfRod 35 = .ok (.getfield 69, 3) := by decide +kernel
theorem dX1_fewestOfRod_38 : decode cX1_fewestOfRod 38 = .ok (.if_icmp .gt 12, 3) := by decide +kernel
theorem dX1_fewestOfRod_41 : decode cX1_fewestOfRod 41 = .ok (.iload_n 2, 1) := by decide +kernel
theorem dX1_fewestOfRod_42 : decode cX1_fewestOfRod 42 = .ok (.iload_n 3, 1) := by decide +kernel
theorem dX1_fewestOfRod_43 : decode cX1_fewestOfRod 43 = .ok (.iload 4, 2) := by decide +kernel
theorem dX1_fewestOfRod_45 : decode cX1_fewestOfRod 45 = .ok (.iadd, 1) := by decide +kernel
theorem dX1_fewestOfRod_46 : decode cX1_fewestOfRod 46 = .ok (.invokestatic 170, 3) := by decide +kernel
theorem dX1_fewestOfRod_49 : decode cX1_fewestOfRod 49 = .ok (.istore_n 2, 1) := by decide +kernel
theorem dX1_fewestOfRod_50 : decode cX1_fewestOfRod 50 = .ok (.iinc 3 1, 3) := by decide +kernel
theorem dX1_fewestOfRod_53 : decode cX1_fewestOfRod 53 = .ok (.goto (-47), 3) := by decide +kernel
theorem dX1_fewestOfRod_56 : decode cX1_fewestOfRod 56 = .ok (.iload_n 2, 1) := by decide +kernel
theorem dX1_fewestOfRod_57 : decode cX1_fewestOfRod 57 = .ok (.ireturn, 1) := by decide +kernel
theorem dX2_init_0 : decode cX2_init 0 = .ok (.aload_n 0, 1) := by decide +kernel
theorem dX2_init_1 : decode cX2_init 1 = .ok (.invokespecial 1, 3) := by decide +kernel
theorem dX2_init_4 : decode cX2_init 4 = .ok (.aload_n 0, 1) := by decide +kernel
theorem dX2_init_5 : decode cX2_init 5 = .ok (.iconst 4, 1) := by decide +kernel
theorem dX2_init_6 : decode cX2_init 6 = .ok (.anewarray 9, 3) := by decide +kernel
theorem dX2_init_9 : decode cX2_init 9 = .ok (.putfield 11, 3) := by decide +kernel
theorem dX2_init_12 : decode cX2_init 12 = .ok (.aload_n 0, 1) := by decide +kernel
theorem dX2_init_13 : decode cX2_init 13 = .ok (.new 9, 3) := by decide +kernel
theorem dX2_init_16 : decode cX2_init 16 = .ok (.dup, 1) := by decide +kernel
theorem dX2_init_17 : decode cX2_init 17 = .ok (.iconst 0, 1) := by decide +kernel
theorem dX2_init_18 : decode cX2_init 18 = .ok (.iconst 2, 1) := by decide +kernel
theorem dX2_init_19 : decode cX2_init 19 = .ok (.invokespecial 15, 3) := by decide +kernel
theorem dX2_init_22 : decode cX2_init 22 = .ok (.putfield 18, 3) := by decide +kernel
theorem dX2_init_25 : decode cX2_init 25 = .ok (.return_, 1) := by decide +kernel
theorem dX2_frame_0 : decode cX2_frame 0 = .ok (.iload_n 1, 1) := by decide +kernel
theorem dX2_frame_1 : decode cX2_frame 1 = .ok (.ifCond .lt 22, 3) := by decide +kernel
theorem dX2_frame_4 : decode cX2_frame 4 = .ok (.iload_n 1, 1) := by decide +kernel
theorem dX2_frame_5 : decode cX2_frame 5 = .ok (.getstatic 22, 3) := by decide +kernel
theorem dX2_frame_8 : decode cX2_frame 8 = .ok (.arraylength, 1) := by decide +kernel
theorem dX2_frame_9 : decode cX2_frame 9 = .ok (.if_icmp .ge 14, 3) := by decide +kernel
theorem dX2_frame_12 : decode cX2_frame 12 = .ok (.iload_n 2, 1) := by decide +kernel
theorem dX2_frame_13 : decode cX2_frame 13 = .ok (.iconst 2, 1) := by decide +kernel
theorem dX2_frame_14 : decode cX2_frame 14 = .ok (.if_icmp .lt 9, 3) := by decide +kernel
theorem dX2_frame_17 : decode cX2_frame 17 = .ok (.iload_n 2, 1) := by decide +kernel
theorem dX2_frame_18 : decode cX2_frame 18 = .ok (.bipush 8, 2) := by decide +kernel
theorem dX2_frame_20 : decode cX2_frame 20 = .ok (.if_icmp .le 13, 3) := by decide +kernel
theorem dX2_frame_23 : decode cX2_frame 23 = .ok (.new 26, 3) := by decide +kernel
theorem dX2_frame_26 : decode cX2_frame 26 = .ok (.dup, 1) := by decide +kernel
theorem dX2_frame_27 : decode cX2_frame 27 = .ok (.ldc 28, 2) := by decide +kernel
theorem dX2_frame_29 : decode cX2_frame 29 = .ok (.invokespecial 30, 3) := by decide +kernel
theorem dX2_frame_32 : decode cX2_frame 32 = .ok (.athrow, 1) := by decide +kernel
theorem dX2_frame_33 : decode cX2_frame 33 = .ok (.aload_n 0, 1) := by decide +kernel
theorem dX2_frame_34 : decode cX2_frame 34 = .ok (.getfield 33, 3) := by decide +kernel
theorem dX2_frame_37 : decode cX2_frame 37 = .ok (.ifCond .lt 15, 3) := by decide +kernel
theorem dX2_frame_40 : decode cX2_frame 40 = .ok (.aload_n 0, 1) := by decide +kernel
theorem dX2_frame_41 : decode cX2_frame 41 = .ok (.getfield 33, 3) := by decide +kernel
theorem dX2_frame_44 : decode cX2_frame 44 = .ok (.aload_n 0, 1) := by decide +kernel
theorem dX2_frame_45 : decode cX2_frame 45 = .ok (.getfield 11, 3) := by decide +kernel
theorem dX2_frame_48 : decode cX2_frame 48 = .ok (.arraylength, 1) := by decide +kernel
theorem dX2_frame_49 : decode cX2_frame 49 = .ok (.if_icmp .lt 13, 3) := by decide +kernel
theorem dX2_frame_52 : decode cX2_frame 52 = .ok (.new 37, 3) := by decide +kernel
theorem dX2_frame_55 : decode cX2_frame 55 = .ok (.dup, 1) := by decide +kernel
theorem dX2_frame_56 : decode cX2_frame 56 = .ok (.ldc 39, 2) := by decide +kernel
theorem dX2_frame_58 : decode cX2_frame 58 = .ok (.invokespecial 41, 3) := by decide +kernel
theorem dX2_frame_61 : decode cX2_frame 61 = .ok (.athrow, 1) := by decide +kernel
theorem dX2_frame_62 : decode cX2_frame 62 = .ok (.aload_n 0, 1) := by decide +kernel
theorem dX2_frame_63 : decode cX2_frame 63 = .ok (.getfield 33, 3) := by decide +kernel
theorem dX2_frame_66 : decode cX2_frame 66 = .ok (.istore_n 3, 1) := by decide +kernel
theorem dX2_frame_67 : decode cX2_frame 67 = .ok (.aload_n 0, 1) := by decide +kernel
theorem dX2_frame_68 : decode cX2_frame 68 = .ok (.getfield 11, 3) := by decide +kernel
theorem dX2_frame_71 : decode cX2_frame 71 = .ok (.iload_n 3, 1) := by decide +kernel
theorem dX2_frame_72 : decode cX2_frame 72 = .ok (.new 9, 3) := by decide +kernel
theorem dX2_frame_75 : decode cX2_frame 75 = .ok (.dup, 1) := by decide +kernel
theorem dX2_frame_76 : decode cX2_frame 76 = .ok (.iload_n 1, 1) := by decide +kernel
theorem dX2_frame_77 : decode cX2_frame 77 = .ok (.iload_n 2, 1) := by decide +kernel
theorem dX2_frame_78 : decode cX2_frame 78 = .ok (.invokespecial 15, 3) := by decide +kernel
theorem dX2_frame_81 : decode cX2_frame 81 = .ok (.aastore, 1) := by decide +kernel
theorem dX2_frame_82 : decode cX2_frame 82 = .ok (.aload_n 0, 1) := by decide +kernel
theorem dX2_frame_83 : decode cX2_frame 83 = .ok (.iload_n 3, 1) := by decide +kernel
theorem dX2_frame_84 : decode cX2_frame 84 = .ok (.iconst 1, 1) := by decide +kernel
theorem dX2_frame_85 : decode cX2_frame 85 = .ok (.iadd, 1) := by decide +kernel
theorem dX2_frame_86 : decode cX2_frame 86 = .ok (.putfield 33, 3) := by decide +kernel
theorem dX2_frame_89 : decode cX2_frame 89 = .ok (.iload_n 3, 1) := by decide +kernel
theorem dX2_frame_90 : decode cX2_frame 90 = .ok (.ireturn, 1) := by decide +kernel
theorem dX2_push_0 : decode cX2_push 0 = .ok (.aload_n 0, 1) := by decide +kernel
theorem dX2_push_1 : decode cX2_push 1 = .ok (.iload_n 1, 1) := by decide +kernel
theorem dX2_push_2 : decode cX2_push 2 = .ok (.iload_n 2, 1) := by decide +kernel
theorem dX2_push_3 : decode cX2_push 3 = .ok (.invokevirtual 42, 3) := by decide +kernel
theorem dX2_push_6 : decode cX2_push 6 = .ok (.astore 5, 2) := by decide +kernel
theorem dX2_push_8 : decode cX2_push 8 = .ok (.iload 4, 2) := by decide +kernel
theorem dX2_push_10 : decode cX2_push 10 = .ok (.ifCond .ne 13, 3) := by decide +kernel
theorem dX2_push_13 : decode cX2_push 13 = .ok (.new 26, 3) := by decide +kernel
theorem dX2_push_16 : decode cX2_push 16 = .ok (.dup, 1) := by decide +kernel
theorem dX2_push_17 : decode cX2_push 17 = .ok (.ldc 46, 2) := by decide +kernel
theorem dX2_push_19 : decode cX2_push 19 = .ok (.invokespecial 30, 3) := by decide +kernel
theorem dX2_push_22 : decode cX2_push 22 = .ok (.athrow, 1) := by decide +kernel
theorem dX2_push_23 : decode cX2_push 23 = .ok (.iload_n 3, 1) := by decide +kernel
theorem dX2_push_24 : decode cX2_push 24 = .ok (.ifCond .eq 11, 3) := by decide +kernel
theorem dX2_push_27 : decode cX2_push 27 = .ok (.aload 5, 2) := by decide +kernel
theorem dX2_push_29 : decode cX2_push 29 = .ok (.getfield 48, 3) := by decide +kernel
theorem dX2_push_32 : decode cX2_push 32 = .ok (.goto 8, 3) := by decide +kernel
theorem dX2_push_35 : decode cX2_push 35 = .ok (.aload 5, 2) := by decide +kernel
theorem dX2_push_37 : decode cX2_push 37 = .ok (.getfield 52, 3) := by decide +kernel
theorem dX2_push_40 : decode cX2_push 40 = .ok (.astore 6, 2) := by decide +kernel
theorem dX2_push_42 : decode cX2_push 42 = .ok (.aload 6, 2) := by decide +kernel
theorem dX2_push_44 : decode cX2_push 44 = .ok (.iload_n 2, 1) := by decide +kernel
theorem dX2_push_45 : decode cX2_push 45 = .ok (.iload 4, 2) := by decide +kernel
theorem dX2_push_47 : decode cX2_push 47 = .ok (.invokevirtual 55, 3) := by decide +kernel
theorem dX2_push_50 : decode cX2_push 50 = .ok (.ifCond .ne 13, 3) := by decide +kernel
theorem dX2_push_53 : decode cX2_push 53 = .ok (.new 37, 3) := by decide +kernel
theorem dX2_push_56 : decode cX2_push 56 = .ok (.dup, 1) := by decide +kernel
theorem dX2_push_57 : decode cX2_push 57 = .ok (.ldc 61, 2) := by decide +kernel
theorem dX2_push_59 : decode cX2_push 59 = .ok (.invokespecial 41, 3) := by decide +kernel
theorem dX2_push_62 : decode cX2_push 62 = .ok (.athrow, 1) := by decide +kernel
theorem dX2_push_63 : decode cX2_push 63 = .ok (.aload 5, 2) := by decide +kernel
theorem dX2_push_65 : decode cX2_push 65 = .ok (.invokevirtual 63, 3) := by decide +kernel
theorem dX2_push_68 : decode cX2_push 68 = .ok (.aload 5, 2) := by decide +kernel
theorem dX2_push_70 : decode cX2_push 70 = .ok (.iload_n 2, 1) := by decide +kernel
theorem dX2_push_71 : decode cX2_push 71 = .ok (.invokevirtual 66, 3) := by decide +kernel
theorem dX2_push_74 : decode cX2_push 74 = .ok (.aload 5, 2) := by decide +kernel
theorem dX2_push_76 : decode cX2_push 76 = .ok (.aload 6, 2) := by decide +kernel
theorem dX2_push_78 : decode cX2_push 78 = .ok (.iload_n 2, 1) := by decide +kernel
theorem dX2_push_79 : decode cX2_push 79 = .ok (.iload 4, 2) := by decide +kernel
theorem dX2_push_81 : decode cX2_push 81 = .ok (.invokevirtual 70, 3) := by decide +kernel
theorem dX2_push_84 : decode cX2_push 84 = .ok (.aload 5, 2) := by decide +kernel
theorem dX2_push_86 : decode cX2_push 86 = .ok (.iload_n 2, 1) := by decide +kernel
theorem dX2_push_87 : decode cX2_push 87 = .ok (.invokevirtual 74, 3) := by decide +kernel
theorem dX2_push_90 : decode cX2_push 90 = .ok (.ireturn, 1) := by decide +kernel
theorem dX2_set_0 : decode cX2_set 0 = .ok (.aload_n 0, 1) := by decide +kernel
theorem dX2_set_1 : decode cX2_set 1 = .ok (.iload_n 1, 1) := by decide +kernel
theorem dX2_set_2 : decode cX2_set 2 = .ok (.iload_n 2, 1) := by decide +kernel
theorem dX2_set_3 : decode cX2_set 3 = .ok (.invokevirtual 42, 3) := by decide +kernel
theorem dX2_set_6 : decode cX2_set 6 = .ok (.astore 4, 2) := by decide +kernel
theorem dX2_set_8 : decode cX2_set 8 = .ok (.iload_n 3, 1) := by decide +kernel
theorem dX2_set_9 : decode cX2_set 9 = .ok (.ifCond .lt 12, 3) := by decide +kernel
theorem dX2_set_12 : decode cX2_set 12 = .ok (.iload_n 3, 1) := by decide +kernel
theorem dX2_set_13 : decode cX2_set 13 = .ok (.aload 4, 2) := by decide +kernel
theorem dX2_set_15 : decode cX2_set 15 = .ok (.invokevirtual 78, 3) := by decide +kernel
theorem dX2_set_18 : decode cX2_set 18 = .ok (.if_icmp .le 13, 3) := by decide +kernel
theorem dX2_set_21 : decode cX2_set 21 = .ok (.new 26, 3) := by decide +kernel
theorem dX2_set_24 : decode cX2_set 24 = .ok (.dup, 1) := by decide +kernel
theorem dX2_set_25 : decode cX2_set 25 = .ok (.ldc 82, 2) := by decide +kernel
theorem dX2_set_27 : decode cX2_set 27 = .ok (.invokespecial 30, 3) := by decide +kernel
theorem dX2_set_30 : decode cX2_set 30 = .ok (.athrow, 1) := by decide +kernel
theorem dX2_set_31 : decode cX2_set 31 = .ok (.aload 4, 2) := by decide +kernel
theorem dX2_set_33 : decode cX2_set 33 = .ok (.getfield 84, 3) := by decide +kernel
theorem dX2_set_36 : decode cX2_set 36 = .ok (.istore 5, 2) := by decide +kernel
theorem dX2_set_38 : decode cX2_set 38 = .ok (.aload 4, 2) := by decide +kernel
theorem dX2_set_40 : decode cX2_set 40 = .ok (.invokevirtual 63, 3) := by decide +kernel
theorem dX2_set_43 : decode cX2_set 43 = .ok (.aload 4, 2) := by decide +kernel
theorem dX2_set_45 : decode cX2_set 45 = .ok (.iload_n 2, 1) := by decide +kernel
theorem dX2_set_46 : decode cX2_set 46 = .ok (.iload_n 3, 1) := by decide +kernel
theorem dX2_set_47 : decode cX2_set 47 = .ok (.invokevirtual 87, 3) := by decide +kernel
theorem dX2_set_50 : decode cX2_set 50 = .ok (.aload 4, 2) := by decide +kernel
theorem dX2_set_52 : decode cX2_set 52 = .ok (.getfield 84, 3) := by decide +kernel
theorem dX2_set_55 : decode cX2_set 55 = .ok (.iload 5, 2) := by decide +kernel
theorem dX2_set_57 : decode cX2_set 57 = .ok (.isub, 1) := by decide +kernel
theorem dX2_set_58 : decode cX2_set 58 = .ok (.ireturn, 1) := by decide +kernel
theorem dX2_add_0 : decode cX2_add 0 = .ok (.aload_n 0, 1) := by decide +kernel
theorem dX2_add_1 : decode cX2_add 1 = .ok (.iload_n 1, 1) := by decide +kernel
theorem dX2_add_2 : decode cX2_add 2 = .ok (.invokevirtual 90, 3) := by decide +kernel
theorem dX2_add_5 : decode cX2_add 5 = .ok (.astore_n 3, 1) := by decide +kernel
theorem dX2_add_6 : decode cX2_add 6 = .ok (.aload_n 3, 1) := by decide +kernel
theorem dX2_add_7 : decode cX2_add 7 = .ok (.iload_n 2, 1) := by decide +kernel
theorem dX2_add_8 : decode cX2_add 8 = .ok (.invokestatic 94, 3) := by decide +kernel
theorem dX2_add_11 : decode cX2_add 11 = .ok (.aload_n 3, 1) := by decide +kernel
theorem dX2_add_12 : decode cX2_add 12 = .ok (.getfield 84, 3) := by decide +kernel
theorem dX2_add_15 : decode cX2_add 15 = .ok (.istore 4, 2) := by decide +kernel
theorem dX2_add_17 : decode cX2_add 17 = .ok (.aload_n 3, 1) := by decide +kernel
theorem dX2_add_18 : decode cX2_add 18 = .ok (.invokevirtual 63, 3) := by decide +kernel
theorem dX2_add_21 : decode cX2_add 21 = .ok (.aload_n 3, 1) := by decide +kernel
theorem dX2_add_22 : decode cX2_add 22 = .ok (.iload_n 2, 1) := by decide +kernel
theorem dX2_add_23 : decode cX2_add 23 = .ok (.i2l, 1) := by decide +kernel
theorem dX2_add_24 : decode cX2_add 24 = .ok (.invokevirtual 98, 3) := by decide +kernel
theorem dX2_add_27 : decode cX2_add 27 = .ok (.aload_n 3, 1) := by decide +kernel
theorem dX2_add_28 : decode cX2_add 28 = .ok (.getfield 84, 3) := by decide +kernel
theorem dX2_add_31 : decode cX2_add 31 = .ok (.iload 4, 2) := by decide +kernel
theorem dX2_add_33 : decode cX2_add 33 = .ok (.isub, 1) := by decide +kernel
theorem dX2_add_34 : decode cX2_add 34 = .ok (.ireturn, 1) := by decide +kernel
theorem dX2_off_0 : decode cX2_off 0 = .ok (.aload_n 0, 1) := by decide +kernel
theorem dX2_off_1 : decode cX2_off 1 = .ok (.iload_n 1, 1) := by decide +kernel
theorem dX2_off_2 : decode cX2_off 2 = .ok (.invokevirtual 90, 3) := by decide +kernel
theorem dX2_off_5 : decode cX2_off 5 = .ok (.astore_n 3, 1) := by decide +kernel
theorem dX2_off_6 : decode cX2_off 6 = .ok (.aload_n 3, 1) := by decide +kernel
theorem dX2_off_7 : decode cX2_off 7 = .ok (.iload_n 2, 1) := by decide +kernel
theorem dX2_off_8 : decode cX2_off 8 = .ok (.invokestatic 94, 3) := by decide +kernel
theorem dX2_off_11 : decode cX2_off 11 = .ok (.aload_n 3, 1) := by decide +kernel
theorem dX2_off_12 : decode cX2_off 12 = .ok (.invokevirtual 102, 3) := by decide +kernel
theorem dX2_off_15 : decode cX2_off 15 = .ok (.ifCond .eq 13, 3) := by decide +kernel
theorem dX2_off_18 : decode cX2_off 18 = .ok (.iload_n 2, 1) := by decide +kernel
theorem dX2_off_19 : decode cX2_off 19 = .ok (.i2l, 1) := by decide +kernel
theorem dX2_off_20 : decode cX2_off 20 = .ok (.aload_n 3, 1) := by decide +kernel
theorem dX2_off_21 : decode cX2_off 21 = .ok (.invokevirtual 106, 3) := by decide +kernel
theorem dX2_off_24 : decode cX2_off 24 = .ok (.lcmp, 1) := by decide +kernel
theorem dX2_off_25 : decode cX2_off 25 = .ok (.ifCond .le 6, 3) := by decide +kernel
theorem dX2_off_28 : decode cX2_off 28 = .ok (.bipush (-2), 2) := by decide +kernel
theorem dX2_off_30 : decode cX2_off 30 = .ok (.ireturn, 1) := by decide +kernel
theorem dX2_off_31 : decode cX2_off 31 = .ok (.aload_n 3, 1) := by decide +kernel
theorem dX2_off_32 : decode cX2_off 32 = .ok (.getfield 84, 3) := by decide +kernel
theorem dX2_off_35 : decode cX2_off 35 = .ok (.istore 4, 2) := by decide +kernel
theorem dX2_off_37 : decode cX2_off 37 = .ok (.aload_n 3, 1) := by decide +kernel
theorem dX2_off_38 : decode cX2_off 38 = .ok (.invokevirtual 63, 3) := by decide +kernel
theorem dX2_off_41 : decode cX2_off 41 = .ok (.aload_n 3, 1) := by decide +kernel
theorem dX2_off_42 : decode cX2_off 42 = .ok (.iload_n 2, 1) := by decide +kernel
theorem dX2_off_43 : decode cX2_off 43 = .ok (.i2l, 1) := by decide +kernel
theorem dX2_off_44 : decode cX2_off 44 = .ok (.invokevirtual 110, 3) := by decide +kernel
theorem dX2_off_47 : decode cX2_off 47 = .ok (.aload_n 3, 1) := by decide +kernel
theorem dX2_off_48 : decode cX2_off 48 = .ok (.getfield 84, 3) := by decide +kernel
theorem dX2_off_51 : decode cX2_off 51 = .ok (.iload 4, 2) := by decide +kernel
theorem dX2_off_53 : decode cX2_off 53 = .ok (.isub, 1) := by decide +kernel
theorem dX2_off_54 : decode cX2_off 54 = .ok (.ireturn, 1) := by decide +kernel
theorem dX2_times_0 : decode cX2_times 0 = .ok (.aload_n 0, 1) := by decide +kernel
theorem dX2_times_1 : decode cX2_times 1 = .ok (.iload_n 1, 1) := by decide +kernel
theorem dX2_times_2 : decode cX2_times 2 = .ok (.invokevirtual 90, 3) := by decide +kernel
theorem dX2_times_5 : decode cX2_times 5 = .ok (.astore_n 3, 1) := by decide +kernel
theorem dX2_times_6 : decode cX2_times 6 = .ok (.iload_n 2, 1) := by decide +kernel
theorem dX2_times_7 : decode cX2_times 7 = .ok (.ifCond .lt 9, 3) := by decide +kernel
theorem dX2_times_10 : decode cX2_times 10 = .ok (.iload_n 2, 1) := by decide +kernel
theorem dX2_times_11 : decode cX2_times 11 = .ok (.bipush 9, 2) := by decide +kernel
theorem dX2_times_13 : decode cX2_times 13 = .ok (.if_icmp .le 13, 3) := by decide +kernel
theorem dX2_times_16 : decode cX2_times 16 = .ok (.new 26, 3) := by decide +kernel
theorem dX2_times_19 : decode cX2_times 19 = .ok (.dup, 1) := by decide +kernel
theorem dX2_times_20 : decode cX2_times 20 = .ok (.ldc 113, 2) := by decide +kernel
theorem dX2_times_22 : decode cX2_times 22 = .ok (.invokespecial 30, 3) := by decide +kernel
theorem dX2_times_25 : decode cX2_times 25 = .ok (.athrow, 1) := by decide +kernel
theorem dX2_times_26 : decode cX2_times 26 = .ok (.aload_n 3, 1) := by decide +kernel
theorem dX2_times_27 : decode cX2_times 27 = .ok (.getfield 115, 3) := by decide +kernel
theorem dX2_times_30 : decode cX2_times 30 = .ok (.istore 4, 2) := by decide +kernel
theorem dX2_times_32 : decode cX2_times 32 = .ok (.aload_n 3, 1) := by decide +kernel
theorem dX2_times_33 : decode cX2_times 33 = .ok (.invokevirtual 63, 3) := by decide +kernel
theorem dX2_times_36 : decode cX2_times 36 = .ok (.aload_n 3, 1) := by decide +kernel
theorem dX2_times_37 : decode cX2_times 37 = .ok (.iload_n 2, 1) := by decide +kernel
theorem dX2_times_38 : decode cX2_times 38 = .ok (.invokevirtual 118, 3) := by decide +kernel
theorem dX2_times_41 : decode cX2_times 41 = .ok (.aload_n 3, 1) := by decide +kernel
theorem dX2_times_42 : decode cX2_times 42 = .ok (.getfield 115, 3) := by decide +kernel
theorem dX2_times_45 : decode cX2_times 45 = .ok (.iload 4, 2) := by decide +kernel
theorem dX2_times_47 : decode cX2_times 47 = .ok (.isub, 1) := by decide +kernel
theorem dX2_times_48 : decode cX2_times 48 = .ok (.ireturn, 1) := by decide +kernel
theorem dX2_divide_0 : decode cX2_divide 0 = .ok (.aload_n 0, 1) := by decide +kernel
theorem dX2_divide_1 : decode cX2_divide 1 = .ok (.iload_n 1, 1) := by decide +kernel
theorem dX2_divide_2 : decode cX2_divide 2 = .ok (.invokevirtual 90, 3) := by decide +kernel
theorem dX2_divide_5 : decode cX2_divide 5 = .ok (.astore_n 3, 1) := by decide +kernel
theorem dX2_divide_6 : decode cX2_divide 6 = .ok (.iload_n 2, 1) := by decide +kernel
theorem dX2_divide_7 : decode cX2_divide 7 = .ok (.iconst 1, 1) := by decide +kernel
theorem dX2_divide_8 : decode cX2_divide 8 = .ok (.if_icmp .lt 9, 3) := by decide +kernel
theorem dX2_divide_11 : decode cX2_divide 11 = .ok (.iload_n 2, 1) := by decide +kernel
theorem dX2_divide_12 : decode cX2_divide 12 = .ok (.bipush 9, 2) := by decide +kernel
theorem dX2_divide_14 : decode cX2_divide 14 = .ok (.if_icmp .le 13, 3) := by decide +kernel
theorem dX2_divide_17 : decode cX2_divide 17 = .ok (.new 26, 3) := by decide +kernel
theorem dX2_divide_20 : decode cX2_divide 20 = .ok (.dup, 1) := by decide +kernel
theorem dX2_divide_21 : decode cX2_divide 21 = .ok (.ldc 121, 2) := by decide +kernel
theorem dX2_divide_23 : decode cX2_divide 23 = .ok (.invokespecial 30, 3) := by decide +kernel
theorem dX2_divide_26 : decode cX2_divide 26 = .ok (.athrow, 1) := by decide +kernel
theorem dX2_divide_27 : decode cX2_divide 27 = .ok (.aload_n 3, 1) := by decide +kernel
theorem dX2_divide_28 : decode cX2_divide 28 = .ok (.invokevirtual 63, 3) := by decide +kernel
theorem dX2_divide_31 : decode cX2_divide 31 = .ok (.aload_n 3, 1) := by decide +kernel
theorem dX2_divide_32 : decode cX2_divide 32 = .ok (.iload_n 2, 1) := by decide +kernel
theorem dX2_divide_33 : decode cX2_divide 33 = .ok (.invokevirtual 123, 3) := by decide +kernel
theorem dX2_divide_36 : decode cX2_divide 36 = .ok (.ireturn, 1) := by decide +kernel
theorem dX2_shift_0 : decode cX2_shift 0 = .ok (.aload_n 0, 1) := by decide +kernel
theorem dX2_shift_1 : decode cX2_shift 1 = .ok (.iload_n 1, 1) := by decide +kernel
theorem dX2_shift_2 : decode cX2_shift 2 = .ok (.invokevirtual 90, 3) := by decide +kernel
theorem dX2_shift_5 : decode cX2_shift 5 = .ok (.astore_n 3, 1) := by decide +kernel
theorem dX2_shift_6 : decode cX2_shift 6 = .ok (.aload_n 3, 1) := by decide +kernel
theorem dX2_shift_7 : decode cX2_shift 7 = .ok (.invokevirtual 63, 3) := by decide +kernel
theorem dX2_shift_10 : decode cX2_shift 10 = .ok (.iload_n 2, 1) := by decide +kernel
theorem dX2_shift_11 : decode cX2_shift 11 = .ok (.ifCond .eq 10, 3) := by decide +kernel
theorem dX2_shift_14 : decode cX2_shift 14 = .ok (.aload_n 3, 1) := by decide +kernel
theorem dX2_shift_15 : decode cX2_shift 15 = .ok (.invokevirtual 126, 3) := by decide +kernel
theorem dX2_shift_18 : decode cX2_shift 18 = .ok (.goto 7, 3) := by decide +kernel
theorem dX2_shift_21 : decode cX2_shift 21 = .ok (.aload_n 3, 1) := by decide +kernel
theorem dX2_shift_22 : decode cX2_shift 22 = .ok (.invokevirtual 129, 3) := by decide +kernel
theorem dX2_shift_25 : decode cX2_shift 25 = .ok (.ireturn, 1) := by decide +kernel
theorem dX2_tidy_0 : decode cX2_tidy 0 = .ok (.aload_n 0, 1) := by decide +kernel
theorem dX2_tidy_1 : decode cX2_tidy 1 = .ok (.iload_n 1, 1) := by decide +kernel
theorem dX2_tidy_2 : decode cX2_tidy 2 = .ok (.invokevirtual 90, 3) := by decide +kernel
theorem dX2_tidy_5 : decode cX2_tidy 5 = .ok (.astore_n 2, 1) := by decide +kernel
theorem dX2_tidy_6 : decode cX2_tidy 6 = .ok (.aload_n 2, 1) := by decide +kernel
theorem dX2_tidy_7 : decode cX2_tidy 7 = .ok (.getfield 132, 3) := by decide +kernel
theorem dX2_tidy_10 : decode cX2_tidy 10 = .ok (.istore_n 3, 1) := by decide +kernel
theorem dX2_tidy_11 : decode cX2_tidy 11 = .ok (.aload_n 2, 1) := by decide +kernel
theorem dX2_tidy_12 : decode cX2_tidy 12 = .ok (.invokevirtual 63, 3) := by decide +kernel
theorem dX2_tidy_15 : decode cX2_tidy 15 = .ok (.aload_n 2, 1) := by decide +kernel
theorem dX2_tidy_16 : decode cX2_tidy 16 = .ok (.invokevirtual 135, 3) := by decide +kernel
theorem dX2_tidy_19 : decode cX2_tidy 19 = .ok (.aload_n 2, 1) := by decide +kernel
theorem dX2_tidy_20 : decode cX2_tidy 20 = .ok (.getfield 132, 3) := by decide +kernel
theorem dX2_tidy_23 : decode cX2_tidy 23 = .ok (.iload_n 3, 1) := by decide +kernel
theorem dX2_tidy_24 : decode cX2_tidy 24 = .ok (.isub, 1) := by decide +kernel
theorem dX2_tidy_25 : decode cX2_tidy 25 = .ok (.ireturn, 1) := by decide +kernel
theorem dX2_show_0 : decode cX2_show 0 = .ok (.aload_n 0, 1) := by decide +kernel
theorem dX2_show_1 : decode cX2_show 1 = .ok (.iload_n 1, 1) := by decide +kernel
theorem dX2_show_2 : decode cX2_show 2 = .ok (.invokevirtual 90, 3) := by decide +kernel
theorem dX2_show_5 : decode cX2_show 5 = .ok (.invokevirtual 106, 3) := by decide +kernel
theorem dX2_show_8 : decode cX2_show 8 = .ok (.lstore_n 3, 1) := by decide +kernel
theorem dX2_show_9 : decode cX2_show 9 = .ok (.aload_n 0, 1) := by decide +kernel
theorem dX2_show_10 : decode cX2_show 10 = .ok (.iload_n 2, 1) := by decide +kernel
theorem dX2_show_11 : decode cX2_show 11 = .ok (.invokevirtual 90, 3) := by decide +kernel
theorem dX2_show_14 : decode cX2_show 14 = .ok (.astore 5, 2) := by decide +kernel
theorem dX2_show_16 : decode cX2_show 16 = .ok (.aload 5, 2) := by decide +kernel
theorem dX2_show_18 : decode cX2_show 18 = .ok (.lload_n 3, 1) := by decide +kernel
theorem dX2_show_19 : decode cX2_show 19 = .ok (.invokevirtual 138, 3) := by decide +kernel
theorem dX2_show_22 : decode cX2_show 22 = .ok (.ifCond .ne 6, 3) := by decide +kernel
theorem dX2_show_25 : decode cX2_show 25 = .ok (.bipush (-2), 2) := by decide +kernel
theorem dX2_show_27 : decode cX2_show 27 = .ok (.ireturn, 1) := by decide +kernel
theorem dX2_show_28 : decode cX2_show 28 = .ok (.aload 5, 2) := by decide +kernel
theorem dX2_show_30 : decode cX2_show 30 = .ok (.getfield 84, 3) := by decide +kernel
theorem dX2_show_33 : decode cX2_show 33 = .ok (.istore 6, 2) := by decide +kernel
theorem dX2_show_35 : decode cX2_show 35 = .ok (.aload 5, 2) := by decide +kernel
theorem dX2_show_37 : decode cX2_show 37 = .ok (.invokevirtual 63, 3) := by decide +kernel
theorem dX2_show_40 : decode cX2_show 40 = .ok (.aload 5, 2) := by decide +kernel
theorem dX2_show_42 : decode cX2_show 42 = .ok (.lload_n 3, 1) := by decide +kernel
theorem dX2_show_43 : decode cX2_show 43 = .ok (.invokevirtual 142, 3) := by decide +kernel
theorem dX2_show_46 : decode cX2_show 46 = .ok (.aload 5, 2) := by decide +kernel
theorem dX2_show_48 : decode cX2_show 48 = .ok (.getfield 84, 3) := by decide +kernel
theorem dX2_show_51 : decode cX2_show 51 = .ok (.iload 6, 2) := by decide +kernel
theorem dX2_show_53 : decode cX2_show 53 = .ok (.isub, 1) := by decide +kernel
theorem dX2_show_54 : decode cX2_show 54 = .ok (.ireturn, 1) := by decide +kernel
theorem dX2_clear_0 : decode cX2_clear 0 = .ok (.aload_n 0, 1) := by decide +kernel
theorem dX2_clear_1 : decode cX2_clear 1 = .ok (.iload_n 1, 1) := by decide +kernel
theorem dX2_clear_2 : decode cX2_clear 2 = .ok (.invokevirtual 90, 3) := by decide +kernel
theorem dX2_clear_5 : decode cX2_clear 5 = .ok (.astore_n 2, 1) := by decide +kernel
theorem dX2_clear_6 : decode cX2_clear 6 = .ok (.aload_n 2, 1) := by decide +kernel
theorem dX2_clear_7 : decode cX2_clear 7 = .ok (.getfield 84, 3) := by decide +kernel
theorem dX2_clear_10 : decode cX2_clear 10 = .ok (.istore_n 3, 1) := by decide +kernel
theorem dX2_clear_11 : decode cX2_clear 11 = .ok (.aload_n 2, 1) := by decide +kernel
theorem dX2_clear_12 : decode cX2_clear 12 = .ok (.invokevirtual 63, 3) := by decide +kernel
theorem dX2_clear_15 : decode cX2_clear 15 = .ok (.aload_n 2, 1) := by decide +kernel
theorem dX2_clear_16 : decode cX2_clear 16 = .ok (.lconst 0, 1) := by decide +kernel
theorem dX2_clear_17 : decode cX2_clear 17 = .ok (.invokevirtual 142, 3) := by decide +kernel
theorem dX2_clear_20 : decode cX2_clear 20 = .ok (.aload_n 2, 1) := by decide +kernel
theorem dX2_clear_21 : decode cX2_clear 21 = .ok (.getfield 84, 3) := by decide +kernel
theorem dX2_clear_24 : decode cX2_clear 24 = .ok (.iload_n 3, 1) := by decide +kernel
theorem dX2_clear_25 : decode cX2_clear 25 = .ok (.isub, 1) := by decide +kernel
theorem dX2_clear_26 : decode cX2_clear 26 = .ok (.ireturn, 1) := by decide +kernel
theorem dX2_back_0 : decode cX2_back 0 = .ok (.aload_n 0, 1) := by decide +kernel
theorem dX2_back_1 : decode cX2_back 1 = .ok (.iload_n 1, 1) := by decide +kernel
theorem dX2_back_2 : decode cX2_back 2 = .ok (.invokevirtual 90, 3) := by decide +kernel
theorem dX2_back_5 : decode cX2_back 5 = .ok (.astore_n 2, 1) := by decide +kernel
theorem dX2_back_6 : decode cX2_back 6 = .ok (.aload_n 2, 1) := by decide +kernel
theorem dX2_back_7 : decode cX2_back 7 = .ok (.getfield 145, 3) := by decide +kernel
theorem dX2_back_10 : decode cX2_back 10 = .ok (.ifCond .gt 13, 3) := by decide +kernel
theorem dX2_back_13 : decode cX2_back 13 = .ok (.new 37, 3) := by decide +kernel
theorem dX2_back_16 : decode cX2_back 16 = .ok (.dup, 1) := by decide +kernel
theorem dX2_back_17 : decode cX2_back 17 = .ok (.ldc 148, 2) := by decide +kernel
theorem dX2_back_19 : decode cX2_back 19 = .ok (.invokespecial 41, 3) := by decide +kernel
theorem dX2_back_22 : decode cX2_back 22 = .ok (.athrow, 1) := by decide +kernel
theorem dX2_back_23 : decode cX2_back 23 = .ok (.aload_n 2, 1) := by decide +kernel
theorem dX2_back_24 : decode cX2_back 24 = .ok (.invokevirtual 150, 3) := by decide +kernel
theorem dX2_back_27 : decode cX2_back 27 = .ok (.aload_n 2, 1) := by decide +kernel
theorem dX2_back_28 : decode cX2_back 28 = .ok (.getfield 145, 3) := by decide +kernel
theorem dX2_back_31 : decode cX2_back 31 = .ok (.ireturn, 1) := by decide +kernel
theorem dX2_grease_0 : decode cX2_grease 0 = .ok (.aload_n 0, 1) := by decide +kernel
theorem dX2_grease_1 : decode cX2_grease 1 = .ok (.iload_n 1, 1) := by decide +kernel
theorem dX2_grease_2 : decode cX2_grease 2 = .ok (.iload_n 2, 1) := by decide +kernel
theorem dX2_grease_3 : decode cX2_grease 3 = .ok (.invokevirtual 42, 3) := by decide +kernel
theorem dX2_grease_6 : decode cX2_grease 6 = .ok (.astore_n 3, 1) := by decide +kernel
theorem dX2_grease_7 : decode cX2_grease 7 = .ok (.aload_n 3, 1) := by decide +kernel
theorem dX2_grease_8 : decode cX2_grease 8 = .ok (.iload_n 2, 1) := by decide +kernel
theorem dX2_grease_9 : decode cX2_grease 9 = .ok (.invokevirtual 153, 3) := by decide +kernel
theorem dX2_grease_12 : decode cX2_grease 12 = .ok (.ireturn, 1) := by decide +kernel
theorem dX2_number_0 : decode cX2_number 0 = .ok (.aload_n 0, 1) := by decide +kernel
theorem dX2_number_1 : decode cX2_number 1 = .ok (.iload_n 1, 1) := by decide +kernel
theorem dX2_number_2 : decode cX2_number 2 = .ok (.invokevirtual 90, 3) := by decide +kernel
theorem dX2_number_5 : decode cX2_number 5 = .ok (.astore_n 2, 1) := by decide +kernel
theorem dX2_number_6 : decode cX2_number 6 = .ok (.aload_n 2, 1) := by decide +kernel
theorem dX2_number_7 : decode cX2_number 7 = .ok (.invokevirtual 106, 3) := by decide +kernel
theorem dX2_number_10 : decode cX2_number 10 = .ok (.lreturn, 1) := by decide +kernel
theorem dX2_ofFrame_0 : decode cX2_ofFrame 0 = .ok (.aload_n 0, 1) := by decide +kernel
theorem dX2_ofFrame_1 : decode cX2_ofFrame 1 = .ok (.iload_n 1, 1) := by decide +kernel
theorem dX2_ofFrame_2 : decode cX2_ofFrame 2 = .ok (.invokevirtual 90, 3) := by decide +kernel
theorem dX2_ofFrame_5 : decode cX2_ofFrame 5 = .ok (.astore_n 3, 1) := by decide +kernel
theorem dX2_ofFrame_6 : decode cX2_ofFrame 6 = .ok (.iload_n 2, 1) := by decide +kernel
theorem dX2_ofFrame_7 : decode cX2_ofFrame 7 = .ok (.bipush 13, 2) := by decide +kernel
theorem dX2_ofFrame_9 : decode cX2_ofFrame 9 = .ok (.invokestatic 159, 3) := by decide +kernel
theorem dX2_ofFrame_12 : decode cX2_ofFrame 12 = .ok (.aload_n 3, 1) := by decide +kernel
theorem dX2_ofFrame_13 : decode cX2_ofFrame 13 = .ok (.iload_n 2, 1) := by decide +kernel
theorem dX2_ofFrame_14 : decode cX2_ofFrame 14 = .ok (.invokevirtual 166, 3) := by decide +kernel
theorem dX2_ofFrame_17 : decode cX2_ofFrame 17 = .ok (.ireturn, 1) := by decide +kernel
theorem dX2_seconds_0 : decode cX2_seconds 0 = .ok (.aload_n 0, 1) := by decide +kernel
theorem dX2_seconds_1 : decode cX2_seconds 1 = .ok (.iload_n 1, 1) := by decide +kernel
theorem dX2_seconds_2 : decode cX2_seconds 2 = .ok (.invokevirtual 90, 3) := by decide +kernel
theorem dX2_seconds_5 : decode cX2_seconds 5 = .ok (.astore_n 2, 1) := by decide +kernel
theorem dX2_seconds_6 : decode cX2_seconds 6 = .ok (.aload_n 2, 1) := by decide +kernel
theorem dX2_seconds_7 : decode cX2_seconds 7 = .ok (.getfield 169, 3) := by decide +kernel
theorem dX2_seconds_10 : decode cX2_seconds 10 = .ok (.f2d, 1) := by decide +kernel
theorem dX2_seconds_11 : decode cX2_seconds 11 = .ok (.dreturn, 1) := by decide +kernel
theorem dX2_many_0 : decode cX2_many 0 = .ok (.iload_n 1, 1) := by decide +kernel
theorem dX2_many_1 : decode cX2_many 1 = .ok (.iconst 5, 1) := by decide +kernel
theorem dX2_many_2 : decode cX2_many 2 = .ok (.invokestatic 159, 3) := by decide +kernel
theorem dX2_many_5 : decode cX2_many 5 = .ok (.aload_n 0, 1) := by decide +kernel
theorem dX2_many_6 : decode cX2_many 6 = .ok (.iload_n 1, 1) := by decide +kernel
theorem dX2_many_7 : decode cX2_many 7 = .ok (.invokevirtual 177, 3) := by decide +kernel
theorem dX2_many_10 : decode cX2_many 10 = .ok (.ireturn, 1) := by decide +kernel
theorem dX2_would_0 : decode cX2_would 0 = .ok (.aload_n 0, 1) := by decide +kernel
theorem dX2_would_1 : decode cX2_would 1 = .ok (.iload_n 1, 1) := by decide +kernel
theorem dX2_would_2 : decode cX2_would 2 = .ok (.invokevirtual 90, 3) := by decide +kernel
theorem dX2_would_5 : decode cX2_would 5 = .ok (.astore 4, 2) := by decide +kernel
theorem dX2_would_7 : decode cX2_would 7 = .ok (.aload 4, 2) := by decide +kernel
theorem dX2_would_9 : decode cX2_would 9 = .ok (.iload_n 2, 1) := by decide +kernel
theorem dX2_would_10 : decode cX2_would 10 = .ok (.invokestatic 94, 3) := by decide +kernel
theorem dX2_would_13 : decode cX2_would 13 = .ok (.iload_n 3, 1) := by decide +kernel
theorem dX2_would_14 : decode cX2_would 14 = .ok (.iconst 4, 1) := by decide +kernel
theorem dX2_would_15 : decode cX2_would 15 = .ok (.invokestatic 159, 3) := by decide +kernel
theorem dX2_would_18 : decode cX2_would 18 = .ok (.aload_n 0, 1) := by decide +kernel
theorem dX2_would_19 : decode cX2_would 19 = .ok (.aload 4, 2) := by decide +kernel
theorem dX2_would_21 : decode cX2_would 21 = .ok (.iload_n 2, 1) := by decide +kernel
theorem dX2_would_22 : decode cX2_would 22 = .ok (.iload_n 3, 1) := by decide +kernel
theorem dX2_would_23 : decode cX2_would 23 = .ok (.invokevirtual 186, 3) := by decide +kernel
theorem dX2_would_26 : decode cX2_would 26 = .ok (.ireturn, 1) := by decide +kernel
theorem dX2_wouldTake_0 : decode cX2_wouldTake 0 = .ok (.aload_n 0, 1) := by decide +kernel
theorem dX2_wouldTake_1 : decode cX2_wouldTake 1 = .ok (.iload_n 1, 1) := by decide +kernel
theorem dX2_wouldTake_2 : decode cX2_wouldTake 2 = .ok (.invokevirtual 90, 3) := by decide +kernel
theorem dX2_wouldTake_5 : decode cX2_wouldTake 5 = .ok (.astore_n 3, 1) := by decide +kernel
theorem dX2_wouldTake_6 : decode cX2_wouldTake 6 = .ok (.aload_n 3, 1) := by decide +kernel
theorem dX2_wouldTake_7 : decode cX2_wouldTake 7 = .ok (.iload_n 2, 1) := by decide +kernel
theorem dX2_wouldTake_8 : decode cX2_wouldTake 8 = .ok (.invokestatic 94, 3) := by decide +kernel
theorem dX2_wouldTake_11 : decode cX2_wouldTake 11 = .ok (.aload_n 0, 1) := by decide +kernel
theorem dX2_wouldTake_12 : decode cX2_wouldTake 12 = .ok (.aload_n 3, 1) := by decide +kernel
theorem dX2_wouldTake_13 : decode cX2_wouldTake 13 = .ok (.iload_n 2, 1) := by decide +kernel
theorem dX2_wouldTake_14 : decode cX2_wouldTake 14 = .ok (.invokevirtual 190, 3) := by decide +kernel
theorem dX2_wouldTake_17 : decode cX2_wouldTake 17 = .ok (.dreturn, 1) := by decide +kernel
theorem dX2_quicker_0 : decode cX2_quicker 0 = .ok (.aload_n 0, 1) := by decide +kernel
theorem dX2_quicker_1 : decode cX2_quicker 1 = .ok (.iload_n 1, 1) := by decide +kernel
theorem dX2_quicker_2 : decode cX2_quicker 2 = .ok (.invokevirtual 90, 3) := by decide +kernel
theorem dX2_quicker_5 : decode cX2_quicker 5 = .ok (.astore 4, 2) := by decide +kernel
theorem dX2_quicker_7 : decode cX2_quicker 7 = .ok (.aload_n 0, 1) := by decide +kernel
theorem dX2_quicker_8 : decode cX2_quicker 8 = .ok (.iload_n 2, 1) := by decide +kernel
theorem dX2_quicker_9 : decode cX2_quicker 9 = .ok (.invokevirtual 90, 3) := by decide +kernel
theorem dX2_quicker_12 : decode cX2_quicker 12 = .ok (.astore 5, 2) := by decide +kernel
theorem dX2_quicker_14 : decode cX2_quicker 14 = .ok (.iload_n 3, 1) := by decide +kernel
theorem dX2_quicker_15 : decode cX2_quicker 15 = .ok (.ifCond .ge 13, 3) := by decide +kernel
theorem dX2_quicker_18 : decode cX2_quicker 18 = .ok (.new 26, 3) := by decide +kernel
theorem dX2_quicker_21 : decode cX2_quicker 21 = .ok (.dup, 1) := by decide +kernel
theorem dX2_quicker_22 : decode cX2_quicker 22 = .ok (.ldc 194, 2) := by decide +kernel
theorem dX2_quicker_24 : decode cX2_quicker 24 = .ok (.invokespecial 30, 3) := by decide +kernel
theorem dX2_quicker_27 : decode cX2_quicker 27 = .ok (.athrow, 1) := by decide +kernel
theorem dX2_quicker_28 : decode cX2_quicker 28 = .ok (.aload 4, 2) := by decide +kernel
theorem dX2_quicker_30 : decode cX2_quicker 30 = .ok (.iload_n 3, 1) := by decide +kernel
theorem dX2_quicker_31 : decode cX2_quicker 31 = .ok (.i2l, 1) := by decide +kernel
theorem dX2_quicker_32 : decode cX2_quicker 32 = .ok (.invokevirtual 138, 3) := by decide +kernel
theorem dX2_quicker_35 : decode cX2_quicker 35 = .ok (.ifCond .eq 13, 3) := by decide +kernel
theorem dX2_quicker_38 : decode cX2_quicker 38 = .ok (.aload 5, 2) := by decide +kernel
theorem dX2_quicker_40 : decode cX2_quicker 40 = .ok (.iload_n 3, 1) := by decide +kernel
theorem dX2_quicker_41 : decode cX2_quicker 41 = .ok (.i2l, 1) := by decide +kernel
theorem dX2_quicker_42 : decode cX2_quicker 42 = .ok (.invokevirtual 138, 3) := by decide +kernel
theorem dX2_quicker_45 : decode cX2_quicker 45 = .ok (.ifCond .ne 5, 3) := by decide +kernel
theorem dX2_quicker_48 : decode cX2_quicker 48 = .ok (.iconst (-1), 1) := by decide +kernel
theorem dX2_quicker_49 : decode cX2_quicker 49 = .ok (.ireturn, 1) := by decide +kernel
theorem dX2_quicker_50 : decode cX2_quicker 50 = .ok (.aload_n 0, 1) := by decide +kernel
theorem dX2_quicker_51 : decode cX2_quicker 51 = .ok (.iload_n 1, 1) := by decide +kernel
theorem dX2_quicker_52 : decode cX2_quicker 52 = .ok (.iload_n 2, 1) := by decide +kernel
theorem dX2_quicker_53 : decode cX2_quicker 53 = .ok (.iload_n 3, 1) := by decide +kernel
theorem dX2_quicker_54 : decode cX2_quicker 54 = .ok (.invokevirtual 196, 3) := by decide +kernel
theorem dX2_quicker_57 : decode cX2_quicker 57 = .ok (.ireturn, 1) := by decide +kernel
theorem dX2_hardest_0 : decode cX2_hardest 0 = .ok (.aload_n 0, 1) := by decide +kernel
theorem dX2_hardest_1 : decode cX2_hardest 1 = .ok (.iload_n 1, 1) := by decide +kernel
theorem dX2_hardest_2 : decode cX2_hardest 2 = .ok (.iload_n 2, 1) := by decide +kernel
theorem dX2_hardest_3 : decode cX2_hardest 3 = .ok (.invokevirtual 42, 3) := by decide +kernel
theorem dX2_hardest_6 : decode cX2_hardest 6 = .ok (.astore_n 3, 1) := by decide +kernel
theorem dX2_hardest_7 : decode cX2_hardest 7 = .ok (.aload_n 0, 1) := by decide +kernel
theorem dX2_hardest_8 : decode cX2_hardest 8 = .ok (.aload_n 3, 1) := by decide +kernel
theorem dX2_hardest_9 : decode cX2_hardest 9 = .ok (.iload_n 2, 1) := by decide +kernel
theorem dX2_hardest_10 : decode cX2_hardest 10 = .ok (.invokevirtual 200, 3) := by decide +kernel
theorem dX2_hardest_13 : decode cX2_hardest 13 = .ok (.ireturn, 1) := by decide +kernel
theorem dX2_digest_0 : decode cX2_digest 0 = .ok (.ldc2_w 204, 3) := by decide +kernel
theorem dX2_digest_3 : decode cX2_digest 3 = .ok (.lstore_n 1, 1) := by decide +kernel
theorem dX2_digest_4 : decode cX2_digest 4 = .ok (.iconst 0, 1) := by decide +kernel
theorem dX2_digest_5 : decode cX2_digest 5 = .ok (.istore_n 3, 1) := by decide +kernel
theorem dX2_digest_6 : decode cX2_digest 6 = .ok (.iload_n 3, 1) := by decide +kernel
theorem dX2_digest_7 : decode cX2_digest 7 = .ok (.iconst 5, 1) := by decide +kernel
theorem dX2_digest_8 : decode cX2_digest 8 = .ok (.if_icmp .ge 20, 3) := by decide +kernel
theorem dX2_digest_11 : decode cX2_digest 11 = .ok (.lload_n 1, 1) := by decide +kernel
theorem dX2_digest_12 : decode cX2_digest 12 = .ok (.aload_n 0, 1) := by decide +kernel
theorem dX2_digest_13 : decode cX2_digest 13 = .ok (.iload_n 3, 1) := by decide +kernel
theorem dX2_digest_14 : decode cX2_digest 14 = .ok (.invokevirtual 177, 3) := by decide +kernel
theorem dX2_digest_17 : decode cX2_digest 17 = .ok (.i2l, 1) := by decide +kernel
theorem dX2_digest_18 : decode cX2_digest 18 = .ok (.invokestatic 206, 3) := by decide +kernel
theorem dX2_digest_21 : decode cX2_digest 21 = .ok (.lstore_n 1, 1) := by decide +kernel
theorem dX2_digest_22 : decode cX2_digest 22 = .ok (.iinc 3 1, 3) := by decide +kernel
theorem dX2_digest_25 : decode cX2_digest 25 = .ok (.goto (-19), 3) := by decide +kernel
theorem dX2_digest_28 : decode cX2_digest 28 = .ok (.iconst 0, 1) := by decide +kernel
theorem dX2_digest_29 : decode cX2_digest 29 = .ok (.istore_n 3, 1) := by decide +kernel
theorem dX2_digest_30 : decode cX2_digest 30 = .ok (.iload_n 3, 1) := by decide +kernel
theorem dX2_digest_31 : decode cX2_digest 31 = .ok (.aload_n 0, 1) := by decide +kernel
theorem dX2_digest_32 : decode cX2_digest 32 = .ok (.getfield 11, 3) := by decide +kernel
theorem dX2_digest_35 : decode cX2_digest 35 = .ok (.arraylength, 1) := by decide +kernel
theorem dX2_digest_36 : decode cX2_digest 36 = .ok (.if_icmp .ge 30, 3) := by decide +kernel
theorem dX2_digest_39 : decode cX2_digest 39 = .ok (.aload_n 0, 1) := by decide +kernel
theorem dX2_digest_40 : decode cX2_digest 40 = .ok (.getfield 11, 3) := by decide +kernel
theorem dX2_digest_43 : decode cX2_digest 43 = .ok (.iload_n 3, 1) := by decide +kernel
theorem dX2_digest_44 : decode cX2_digest 44 = .ok (.aaload, 1) := by decide +kernel
theorem dX2_digest_45 : decode cX2_digest 45 = .ok (.astore 4, 2) := by decide +kernel
theorem dX2_digest_47 : decode cX2_digest 47 = .ok (.aload 4, 2) := by decide +kernel
theorem dX2_digest_49 : decode cX2_digest 49 = .ok (.ifnull 11, 3) := by decide +kernel
theorem dX2_digest_52 : decode cX2_digest 52 = .ok (.aload_n 0, 1) := by decide +kernel
theorem dX2_digest_53 : decode cX2_digest 53 = .ok (.lload_n 1, 1) := by decide +kernel
theorem dX2_digest_54 : decode cX2_digest 54 = .ok (.aload 4, 2) := by decide +kernel
theorem dX2_digest_56 : decode cX2_digest 56 = .ok (.invokevirtual 210, 3) := by decide +kernel
theorem dX2_digest_59 : decode cX2_digest 59 = .ok (.lstore_n 1, 1) := by decide +kernel
theorem dX2_digest_60 : decode cX2_digest 60 = .ok (.iinc 3 1, 3) := by decide +kernel
theorem dX2_digest_63 : decode cX2_digest 63 = .ok (.goto (-33), 3) := by decide +kernel
theorem dX2_digest_66 : decode cX2_digest 66 = .ok (.aload_n 0, 1) := by decide +kernel
theorem dX2_digest_67 : decode cX2_digest 67 = .ok (.getfield 33, 3) := by decide +kernel
theorem dX2_digest_70 : decode cX2_digest 70 = .ok (.ifCond .le 22, 3) := by decide +kernel
theorem dX2_digest_73 : decode cX2_digest 73 = .ok (.lload_n 1, 1) := by decide +kernel
theorem dX2_digest_74 : decode cX2_digest 74 = .ok (.aload_n 0, 1) := by decide +kernel
theorem dX2_digest_75 : decode cX2_digest 75 = .ok (.iconst 0, 1) := by decide +kernel
theorem dX2_digest_76 : decode cX2_digest 76 = .ok (.aload_n 0, 1) := by decide +kernel
theorem dX2_digest_77 : decode cX2_digest 77 = .ok (.getfield 33, 3) := by decide +kernel
theorem dX2_digest_80 : decode cX2_digest 80 = .ok (.iconst 1, 1) := by decide +kernel
theorem dX2_digest_81 : decode cX2_digest 81 = .ok (.isub, 1) := by decide +kernel
theorem dX2_digest_82 : decode cX2_digest 82 = .ok (.bipush 25, 2) := by decide +kernel
theorem dX2_digest_84 : decode cX2_digest 84 = .ok (.invokevirtual 196, 3) := by decide +kernel
theorem dX2_digest_87 : decode cX2_digest 87 = .ok (.i2l, 1) := by decide +kernel
theorem dX2_digest_88 : decode cX2_digest 88 = .ok (.invokestatic 206, 3) := by decide +kernel
theorem dX2_digest_91 : decode cX2_digest 91 = .ok (.lstore_n 1, 1) := by decide +kernel
theorem dX2_digest_92 : decode cX2_digest 92 = .ok (.lload_n 1, 1) := by decide +kernel
theorem dX2_digest_93 : decode cX2_digest 93 = .ok (.lreturn, 1) := by decide +kernel
theorem dX2_frameAt_0 : decode cX2_frameAt 0 = .ok (.iload_n 1, 1) := by decide +kernel
theorem dX2_frameAt_1 : decode cX2_frameAt 1 = .ok (.ifCond .lt 21, 3) := by decide +kernel
theorem dX2_frameAt_4 : decode cX2_frameAt 4 = .ok (.iload_n 1, 1) := by decide +kernel
theorem dX2_frameAt_5 : decode cX2_frameAt 5 = .ok (.aload_n 0, 1) := by decide +kernel
theorem dX2_frameAt_6 : decode cX2_frameAt 6 = .ok (.getfield 11, 3) := by decide +kernel
theorem dX2_frameAt_9 : decode cX2_frameAt 9 = .ok (.arraylength, 1) := by decide +kernel
theorem dX2_frameAt_10 : decode cX2_frameAt 10 = .ok (.if_icmp .ge 12, 3) := by decide +kernel
theorem dX2_frameAt_13 : decode cX2_frameAt 13 = .ok (.aload_n 0, 1) := by decide +kernel
theorem dX2_frameAt_14 : decode cX2_frameAt 14 = .ok (.getfield 11, 3) := by decide +kernel
theorem dX2_frameAt_17 : decode cX2_frameAt 17 = .ok (.iload_n 1, 1) := by decide +kernel
theorem dX2_frameAt_18 : decode cX2_frameAt 18 = .ok (.aaload, 1) := by decide +kernel
theorem dX2_frameAt_19 : decode cX2_frameAt 19 = .ok (.goto 4, 3) := by decide +kernel
theorem dX2_frameAt_22 : decode cX2_frameAt 22 = .ok (.aconst_null, 1) := by decide +kernel
theorem dX2_frameAt_23 : decode cX2_frameAt 23 = .ok (.areturn, 1) := by decide +kernel
theorem dX2_foundFrame_0 : decode cX2_foundFrame 0 = .ok (.aload_n 0, 1) := by decide +kernel
theorem dX2_foundFrame_1 : decode cX2_foundFrame 1 = .ok (.iload_n 1, 1) := by decide +kernel
theorem dX2_foundFrame_2 : decode cX2_foundFrame 2 = .ok (.invokevirtual 214, 3) := by decide +kernel
theorem dX2_foundFrame_5 : decode cX2_foundFrame 5 = .ok (.astore_n 2, 1) := by decide +kernel
theorem dX2_foundFrame_6 : decode cX2_foundFrame 6 = .ok (.aload_n 2, 1) := by decide +kernel
theorem dX2_foundFrame_7 : decode cX2_foundFrame 7 = .ok (.ifnonnull 13, 3) := by decide +kernel
theorem dX2_foundFrame_10 : decode cX2_foundFrame 10 = .ok (.new 217, 3) := by decide +kernel
theorem dX2_foundFrame_13 : decode cX2_foundFrame 13 = .ok (.dup, 1) := by decide +kernel
theorem dX2_foundFrame_14 : decode cX2_foundFrame 14 = .ok (.ldc 219, 2) := by decide +kernel
theorem dX2_foundFrame_16 : decode cX2_foundFrame 16 = .ok (.invokespecial 221, 3) := by decide +kernel
theorem dX2_foundFrame_19 : decode cX2_foundFrame 19 = .ok (.athrow, 1) := by decide +kernel
theorem dX2_foundFrame_20 : decode cX2_foundFrame 20 = .ok (.aload_n 2, 1) := by decide +kernel
theorem dX2_foundFrame_21 : decode cX2_foundFrame 21 = .ok (.areturn, 1) := by decide +kernel
theorem dX2_foundFrameWithRod_0 : decode cX2_foundFrameWithRod 0 = .ok (.aload_n 0, 1) := by decide +kernel
theorem dX2_foundFrameWithRod_1 : decode cX2_foundFrameWithRod 1 = .ok (.iload_n 1, 1) := by decide +kernel
theorem dX2_foundFrameWithRod_2 : decode cX2_foundFrameWithRod 2 = .ok (.invokevirtual 90, 3) := by decide +kernel
theorem dX2_foundFrameWithRod_5 : decode cX2_foundFrameWithRod 5 = .ok (.astore_n 3, 1) := by decide +kernel
theorem dX2_foundFrameWithRod_6 : decode cX2_foundFrameWithRod 6 = .ok (.aload_n 3, 1) := by decide +kernel
theorem dX2_foundFrameWithRod_7 : decode cX2_foundFrameWithRod 7 = .ok (.iload_n 2, 1) := by decide +kernel
theorem dX2_foundFrameWithRod_8 : decode cX2_foundFrameWithRod 8 = .ok (.invokevirtual 222, 3) := by decide +kernel
theorem dX2_foundFrameWithRod_11 : decode cX2_foundFrameWithRod 11 = .ok (.ifCond .ne 13, 3) := by decide +kernel
theorem dX2_foundFrameWithRod_14 : decode cX2_foundFrameWithRod 14 = .ok (.new 217, 3) := by decide +kernel
theorem dX2_foundFrameWithRod_17 : decode cX2_foundFrameWithRod 17 = .ok (.dup, 1) := by decide +kernel
theorem dX2_foundFrameWithRod_18 : decode cX2_foundFrameWithRod 18 = .ok (.ldc 226, 2) := by decide +kernel
theorem dX2_foundFrameWithRod_20 : decode cX2_foundFrameWithRod 20 = .ok (.invokespecial 221, 3) := by decide +kernel
theorem dX2_foundFrameWithRod_23 : decode cX2_foundFrameWithRod 23 = .ok (.athrow, 1) := by decide +kernel
theorem dX2_foundFrameWithRod_24 : decode cX2_foundFrameWithRod 24 = .ok (.aload_n 3, 1) := by decide +kernel
theorem dX2_foundFrameWithRod_25 : decode cX2_foundFrameWithRod 25 = .ok (.areturn, 1) := by decide +kernel
theorem dX2_refuseUnlessFits_0 : decode cX2_refuseUnlessFits 0 = .ok (.aload_n 0, 1) := by decide +kernel
theorem dX2_refuseUnlessFits_1 : decode cX2_refuseUnlessFits 1 = .ok (.iload_n 1, 1) := by decide +kernel
theorem dX2_refuseUnlessFits_2 : decode cX2_refuseUnlessFits 2 = .ok (.i2l, 1) := by decide +kernel
theorem dX2_refuseUnlessFits_3 : decode cX2_refuseUnlessFits 3 = .ok (.invokevirtual 138, 3) := by decide +kernel
theorem dX2_refuseUnlessFits_6 : decode cX2_refuseUnlessFits 6 = .ok (.ifCond .ne 13, 3) := by decide +kernel
theorem dX2_refuseUnlessFits_9 : decode cX2_refuseUnlessFits 9 = .ok (.new 26, 3) := by decide +kernel
theorem dX2_refuseUnlessFits_12 : decode cX2_refuseUnlessFits 12 = .ok (.dup, 1) := by decide +kernel
theorem dX2_refuseUnlessFits_13 : decode cX2_refuseUnlessFits 13 = .ok (.ldc 228, 2) := by decide +kernel
theorem dX2_refuseUnlessFits_15 : decode cX2_refuseUnlessFits 15 = .ok (.invokespecial 30, 3) := by decide +kernel
theorem dX2_refuseUnlessFits_18 : decode cX2_refuseUnlessFits 18 = .ok (.athrow, 1) := by decide +kernel
theorem dX2_refuseUnlessFits_19 : decode cX2_refuseUnlessFits 19 = .ok (.return_, 1) := by decide +kernel
theorem dX2_refuseUnlessBelow_0 : decode cX2_refuseUnlessBelow 0 = .ok (.iload_n 0, 1) := by decide +kernel
theorem dX2_refuseUnlessBelow_1 : decode cX2_refuseUnlessBelow 1 = .ok (.ifCond .lt 8, 3) := by decide +kernel
theorem dX2_refuseUnlessBelow_4 : decode cX2_refuseUnlessBelow 4 = .ok (.iload_n 0, 1) := by decide +kernel
theorem dX2_refuseUnlessBelow_5 : decode cX2_refuseUnlessBelow 5 = .ok (.iload_n 1, 1) := by decide +kernel
theorem dX2_refuseUnlessBelow_6 : decode cX2_refuseUnlessBelow 6 = .ok (.if_icmp .lt 13, 3) := by decide +kernel
theorem dX2_refuseUnlessBelow_9 : decode cX2_refuseUnlessBelow 9 = .ok (.new 26, 3) := by decide +kernel
theorem dX2_refuseUnlessBelow_12 : decode cX2_refuseUnlessBelow 12 = .ok (.dup, 1) := by decide +kernel
theorem dX2_refuseUnlessBelow_13 : decode cX2_refuseUnlessBelow 13 = .ok (.ldc 230, 2) := by decide +kernel
theorem dX2_refuseUnlessBelow_15 : decode cX2_refuseUnlessBelow 15 = .ok (.invokespecial 30, 3) := by decide +kernel
theorem dX2_refuseUnlessBelow_18 : decode cX2_refuseUnlessBelow 18 = .ok (.athrow, 1) := by decide +kernel
theorem dX2_refuseUnlessBelow_19 : decode cX2_refuseUnlessBelow 19 = .ok (.return_, 1) := by decide +kernel
theorem dX2_factOfHall_0 : decode cX2_factOfHall 0 = .ok (.iload_n 1, 1) := by decide +kernel
theorem dX2_factOfHall_1 : decode cX2_factOfHall 1 = .ok (.tableswitch 51 0 3 #[31, 36, 41, 46], 31) := by decide +kernel
theorem dX2_factOfHall_32 : decode cX2_factOfHall 32 = .ok (.aload_n 0, 1) := by decide +kernel
theorem dX2_factOfHall_33 : decode cX2_factOfHall 33 = .ok (.getfield 33, 3) := by decide +kernel
theorem dX2_factOfHall_36 : decode cX2_factOfHall 36 = .ok (.ireturn, 1) := by decide +kernel
theorem dX2_factOfHall_37 : decode cX2_factOfHall 37 = .ok (.aload_n 0, 1) := by decide +kernel
theorem dX2_factOfHall_38 : decode cX2_factOfHall 38 = .ok (.getfield 156, 3) := by decide +kernel
theorem dX2_factOfHall_41 : decode cX2_factOfHall 41 = .ok (.ireturn, 1) := by decide +kernel
theorem dX2_factOfHall_42 : decode cX2_factOfHall 42 = .ok (.aload_n 0, 1) := by decide +kernel
theorem dX2_factOfHall_43 : decode cX2_factOfHall 43 = .ok (.invokevirtual 232, 3) := by decide +kernel
theorem dX2_factOfHall_46 : decode cX2_factOfHall 46 = .ok (.ireturn, 1) := by decide +kernel
theorem dX2_factOfHall_47 : decode cX2_factOfHall 47 = .ok (.aload_n 0, 1) := by decide +kernel
theorem dX2_factOfHall_48 : decode cX2_factOfHall 48 = .ok (.invokevirtual 235, 3) := by decide +kernel
theorem dX2_factOfHall_51 : decode cX2_factOfHall 51 = .ok (.ireturn, 1) := by decide +kernel
theorem dX2_factOfHall_52 : decode cX2_factOfHall 52 = .ok (.aload_n 0, 1) := by decide +kernel
theorem dX2_factOfHall_53 : decode cX2_factOfHall 53 = .ok (.invokevirtual 238, 3) := by decide +kernel
theorem dX2_factOfHall_56 : decode cX2_factOfHall 56 = .ok (.ireturn, 1) := by decide +kernel
theorem dX2_pushesOfAll_0 : decode cX2_pushesOfAll 0 = .ok (.iconst 0, 1) := by decide +kernel
theorem dX2_pushesOfAll_1 : decode cX2_pushesOfAll 1 = .ok (.istore_n 1, 1) := by decide +kernel
theorem dX2_pushesOfAll_2 : decode cX2_pushesOfAll 2 = .ok (.iconst 0, 1) := by decide +kernel
theorem dX2_pushesOfAll_3 : decode cX2_pushesOfAll 3 = .ok (.istore_n 2, 1) := by decide +kernel
theorem dX2_pushesOfAll_4 : decode cX2_pushesOfAll 4 = .ok (.iload_n 2, 1) := by decide +kernel
theorem dX2_pushesOfAll_5 : decode cX2_pushesOfAll 5 = .ok (.aload_n 0, 1) := by decide +kernel
theorem dX2_pushesOfAll_6 : decode cX2_pushesOfAll 6 = .ok (.getfield 11, 3) := by decide +kernel
theorem dX2_pushesOfAll_9 : decode cX2_pushesOfAll 9 = .ok (.arraylength, 1) := by decide +kernel
theorem dX2_pushesOfAll_10 : decode cX2_pushesOfAll 10 = .ok (.if_icmp .ge 27, 3) := by decide +kernel
theorem dX2_pushesOfAll_13 : decode cX2_pushesOfAll 13 = .ok (.aload_n 0, 1) := by decide +kernel
theorem dX2_pushesOfAll_14 : decode cX2_pushesOfAll 14 = .ok (.getfield 11, 3) := by decide +kernel
theorem dX2_pushesOfAll_17 : decode cX2_pushesOfAll 17 = .ok (.iload_n 2, 1) := by decide +kernel
theorem dX2_pushesOfAll_18 : decode cX2_pushesOfAll 18 = .ok (.aaload, 1) := by decide +kernel
theorem dX2_pushesOfAll_19 : decode cX2_pushesOfAll 19 = .ok (.astore_n 3, 1) := by decide +kernel
theorem dX2_pushesOfAll_20 : decode cX2_pushesOfAll 20 = .ok (.aload_n 3, 1) := by decide +kernel
theorem dX2_pushesOfAll_21 : decode cX2_pushesOfAll 21 = .ok (.ifnull 10, 3) := by decide +kernel
theorem dX2_pushesOfAll_24 : decode cX2_pushesOfAll 24 = .ok (.iload_n 1, 1) := by decide +kernel
theorem dX2_pushesOfAll_25 : decode cX2_pushesOfAll 25 = .ok (.aload_n 3, 1) := by decide +kernel
theorem dX2_pushesOfAll_26 : decode cX2_pushesOfAll 26 = .ok (.getfield 84, 3) := by decide +kernel
theorem dX2_pushesOfAll_29 : decode cX2_pushesOfAll 29 = .ok (.iadd, 1) := by decide +kernel
theorem dX2_pushesOfAll_30 : decode cX2_pushesOfAll 30 = .ok (.istore_n 1, 1) := by decide +kernel
theorem dX2_pushesOfAll_31 : decode cX2_pushesOfAll 31 = .ok (.iinc 2 1, 3) := by decide +kernel
theorem dX2_pushesOfAll_34 : decode cX2_pushesOfAll 34 = .ok (.goto (-30), 3) := by decide +kernel
theorem dX2_pushesOfAll_37 : decode cX2_pushesOfAll 37 = .ok (.iload_n 1, 1) := by decide +kernel
theorem dX2_pushesOfAll_38 : decode cX2_pushesOfAll 38 = .ok (.ireturn, 1) := by decide +kernel
theorem dX2_spilledByAll_0 : decode cX2_spilledByAll 0 = .ok (.iconst 0, 1) := by decide +kernel
theorem dX2_spilledByAll_1 : decode cX2_spilledByAll 1 = .ok (.istore_n 1, 1) := by decide +kernel
theorem dX2_spilledByAll_2 : decode cX2_spilledByAll 2 = .ok (.iconst 0, 1) := by decide +kernel
theorem dX2_spilledByAll_3 : decode cX2_spilledByAll 3 = .ok (.istore_n 2, 1) := by decide +kernel
theorem dX2_spilledByAll_4 : decode cX2_spilledByAll 4 = .ok (.iload_n 2, 1) := by decide +kernel
theorem dX2_spilledByAll_5 : decode cX2_spilledByAll 5 = .ok (.aload_n 0, 1) := by decide +kernel
theorem dX2_spilledByAll_6 : decode cX2_spilledByAll 6 = .ok (.getfield 11, 3) := by decide +kernel
theorem dX2_spilledByAll_9 : decode cX2_spilledByAll 9 = .ok (.arraylength, 1) := by decide +kernel
theorem dX2_spilledByAll_10 : decode cX2_spilledByAll 10 = .ok (.if_icmp .ge 27, 3) := by decide +kernel
theorem dX2_spilledByAll_13 : decode cX2_spilledByAll 13 = .ok (.aload_n 0, 1) := by decide +kernel
theorem dX2_spilledByAll_14 : decode cX2_spilledByAll 14 = .ok (.getfield 11, 3) := by decide +kernel
theorem dX2_spilledByAll_17 : decode cX2_spilledByAll 17 = .ok (.iload_n 2, 1) := by decide +kernel
theorem dX2_spilledByAll_18 : decode cX2_spilledByAll 18 = .ok (.aaload, 1) := by decide +kernel
theorem dX2_spilledByAll_19 : decode cX2_spilledByAll 19 = .ok (.astore_n 3, 1) := by decide +kernel
theorem dX2_spilledByAll_20 : decode cX2_spilledByAll 20 = .ok (.aload_n 3, 1) := by decide +kernel
theorem dX2_spilledByAll_21 : decode cX2_spilledByAll 21 = .ok (.ifnull 10, 3) := by decide +kernel
theorem dX2_spilledByAll_24 : decode cX2_spilledByAll 24 = .ok (.iload_n 1, 1) := by decide +kernel
theorem dX2_spilledByAll_25 : decode cX2_spilledByAll 25 = .ok (.aload_n 3, 1) := by decide +kernel
theorem dX2_spilledByAll_26 : decode cX2_spilledByAll 26 = .ok (.getfield 115, 3) := by decide +kernel
theorem dX2_spilledByAll_29 : decode cX2_spilledByAll 29 = .ok (.iadd, 1) := by decide +kernel
theorem dX2_spilledByAll_30 : decode cX2_spilledByAll 30 = .ok (.istore_n 1, 1) := by decide +kernel
theorem dX2_spilledByAll_31 : decode cX2_spilledByAll 31 = .ok (.iinc 2 1, 3) := by decide +kernel
theorem dX2_spilledByAll_34 : decode cX2_spilledByAll 34 = .ok (.goto (-30), 3) := by decide +kernel
theorem dX2_spilledByAll_37 : decode cX2_spilledByAll 37 = .ok (.iload_n 1, 1) := by decide +kernel
theorem dX2_spilledByAll_38 : decode cX2_spilledByAll 38 = .ok (.ireturn, 1) := by decide +kernel
theorem dX2_pairsThatShowTheSame_0 : decode cX2_pairsThatShowTheSame 0 = .ok (.iconst 0, 1) := by decide +kernel
theorem dX2_pairsThatShowTheSame_1 : decode cX2_pairsThatShowTheSame 1 = .ok (.istore_n 1, 1) := by decide +kernel
theorem dX2_pairsThatShowTheSame_2 : decode cX2_pairsThatShowTheSame 2 = .ok (.iconst 0, 1) := by decide +kernel
theorem dX2_pairsThatShowTheSame_3 : decode cX2_pairsThatShowTheSame 3 = .ok (.istore_n 2, 1) := by decide +kernel
theorem dX2_pairsThatShowTheSame_4 : decode cX2_pairsThatShowTheSame 4 = .ok (.iload_n 2, 1) := by decide +kernel
theorem dX2_pairsThatShowTheSame_5 : decode cX2_pairsThatShowTheSame 5 = .ok (.aload_n 0, 1) := by decide +kernel
theorem dX2_pairsThatShowTheSame_6 : decode cX2_pairsThatShowTheSame 6 = .ok (.getfield 11, 3) := by decide +kernel
theorem dX2_pairsThatShowTheSame_9 : decode cX2_pairsThatShowTheSame 9 = .ok (.arraylength, 1) := by decide +kernel
theorem dX2_pairsThatShowTheSame_10 : decode cX2_pairsThatShowTheSame 10 = .ok (.if_icmp .ge 71, 3) := by decide +kernel
theorem dX2_pairsThatShowTheSame_13 : decode cX2_pairsThatShowTheSame 13 = .ok (.iload_n 2, 1) := by decide +kernel
theorem dX2_pairsThatShowTheSame_14 : decode cX2_pairsThatShowTheSame 14 = .ok (.iconst 1, 1) := by decide +kernel
theorem dX2_pairsThatShowTheSame_15 : decode cX2_pairsThatShowTheSame 15 = .ok (.iadd, 1) := by decide +kernel
theorem dX2_pairsThatShowTheSame_16 : decode cX2_pairsThatShowTheSame 16 = .ok (.istore_n 3, 1) := by decide +kernel
theorem dX2_pairsThatShowTheSame_17 : decode cX2_pairsThatShowTheSame 17 = .ok (.iload_n 3, 1) := by decide +kernel
theorem dX2_pairsThatShowTheSame_18 : decode cX2_pairsThatShowTheSame 18 = .ok (.aload_n 0, 1) := by decide +kernel
theorem dX2_pairsThatShowTheSame_19 : decode cX2_pairsThatShowTheSame 19 = .ok (.getfield 11, 3) := by decide +kernel
theorem dX2_pairsThatShowTheSame_22 : decode cX2_pairsThatShowTheSame 22 = .ok (.arraylength, 1) := by decide +kernel
theorem dX2_pairsThatShowTheSame_23 : decode cX2_pairsThatShowTheSame 23 = .ok (.if_icmp .ge 52, 3) := by decide +kernel
theorem dX2_pairsThatShowTheSame_26 : decode cX2_pairsThatShowTheSame 26 = .ok (.aload_n 0, 1) := by decide +kernel
theorem dX2_pairsThatShowTheSame_27 : decode cX2_pairsThatShowTheSame 27 = .ok (.getfield 11, 3) := by decide +kernel
theorem dX2_pairsThatShowTheSame_30 : decode cX2_pairsThatShowTheSame 30 = .ok (.iload_n 2, 1) := by decide +kernel
theorem dX2_pairsThatShowTheSame_31 : decode cX2_pairsThatShowTheSame 31 = .ok (.aaload, 1) := by decide +kernel
theorem dX2_pairsThatShowTheSame_32 : decode cX2_pairsThatShowTheSame 32 = .ok (.astore 4, 2) := by decide +kernel
theorem dX2_pairsThatShowTheSame_34 : decode cX2_pairsThatShowTheSame 34 = .ok (.aload_n 0, 1) := by decide +kernel
theorem dX2_pairsThatShowTheSame_35 : decode cX2_pairsThatShowTheSame 35 = .ok (.getfield 11, 3) := by decide +kernel
theorem dX2_pairsThatShowTheSame_38 : decode cX2_pairsThatShowTheSame 38 = .ok (.iload_n 3, 1) := by decide +kernel
theorem dX2_pairsThatShowTheSame_39 : decode cX2_pairsThatShowTheSame 39 = .ok (.aaload, 1) := by decide +kernel
theorem dX2_pairsThatShowTheSame_40 : decode cX2_pairsThatShowTheSame 40 = .ok (.astore 5, 2) := by decide +kernel
theorem dX2_pairsThatShowTheSame_42 : decode cX2_pairsThatShowTheSame 42 = .ok (.aload 4, 2) := by decide +kernel
theorem dX2_pairsThatShowTheSame_44 : decode cX2_pairsThatShowTheSame 44 = .ok (.ifnull 25, 3) := by decide +kernel
theorem dX2_pairsThatShowTheSame_47 : decode cX2_pairsThatShowTheSame 47 = .ok (.aload 5, 2) := by decide +kernel
theorem dX2_pairsThatShowTheSame_49 : decode cX2_pairsThatShowTheSame 49 = .ok (.ifnull 20, 3) := by decide +kernel
theorem dX2_pairsThatShowTheSame_52 : decode cX2_pairsThatShowTheSame 52 = .ok (.aload 4, 2) := by decide +kernel
theorem dX2_pairsThatShowTheSame_54 : decode cX2_pairsThatShowTheSame 54 = .ok (.invokevirtual 106, 3) := by decide +kernel
theorem dX2_pairsThatShowTheSame_57 : decode cX2_pairsThatShowTheSame 57 = .ok (.aload 5, 2) := by decide +kernel
theorem dX2_pairsThatShowTheSame_59 : decode cX2_pairsThatShowTheSame 59 = .ok (.invokevirtual 106, 3) := by decide +kernel
theorem dX2_pairsThatShowTheSame_62 : decode cX2_pairsThatShowTheSame 62 = .ok (.lcmp, 1) := by decide +kernel
theorem dX2_pairsThatShowTheSame_63 : decode cX2_pairsThatShowTheSame 63 = .ok (.ifCond .ne 6, 3) := by decide +kernel
theorem dX2_pairsThatShowTheSame_66 : decode cX2_pairsThatShowTheSame 66 = .ok (.iinc 1 1, 3) := by decide +kernel
theorem dX2_pairsThatShowTheSame_69 : decode cX2_pairsThatShowTheSame 69 = .ok (.iinc 3 1, 3) := by decide +kernel
theorem dX2_pairsThatShowTheSame_72 : decode cX2_pairsThatShowTheSame 72 = .ok (.goto (-55), 3) := by decide +kernel
theorem dX2_pairsThatShowTheSame_75 : decode cX2_pairsThatShowTheSame 75 = .ok (.iinc 2 1, 3) := by decide +kernel
theorem dX2_pairsThatShowTheSame_78 : decode cX2_pairsThatShowTheSame 78 = .ok (.goto (-74), 3) := by decide +kernel
theorem dX2_pairsThatShowTheSame_81 : decode cX2_pairsThatShowTheSame 81 = .ok (.iload_n 1, 1) := by decide +kernel
theorem dX2_pairsThatShowTheSame_82 : decode cX2_pairsThatShowTheSame 82 = .ok (.ireturn, 1) := by decide +kernel
theorem dX2_countByAdding_0 : decode cX2_countByAdding 0 = .ok (.aload_n 0, 1) := by decide +kernel
theorem dX2_countByAdding_1 : decode cX2_countByAdding 1 = .ok (.getfield 18, 3) := by decide +kernel
theorem dX2_countByAdding_4 : decode cX2_countByAdding 4 = .ok (.aload_n 1, 1) := by decide +kernel
theorem dX2_countByAdding_5 : decode cX2_countByAdding 5 = .ok (.invokevirtual 241, 3) := by decide +kernel
theorem dX2_countByAdding_8 : decode cX2_countByAdding 8 = .ok (.aload_n 0, 1) := by decide +kernel
theorem dX2_countByAdding_9 : decode cX2_countByAdding 9 = .ok (.getfield 18, 3) := by decide +kernel
theorem dX2_countByAdding_12 : decode cX2_countByAdding 12 = .ok (.iload_n 2, 1) := by decide +kernel
theorem dX2_countByAdding_13 : decode cX2_countByAdding 13 = .ok (.i2l, 1) := by decide +kernel
theorem dX2_countByAdding_14 : decode cX2_countByAdding 14 = .ok (.invokevirtual 98, 3) := by decide +kernel
theorem dX2_countByAdding_17 : decode cX2_countByAdding 17 = .ok (.iload_n 3, 1) := by decide +kernel
theorem dX2_countByAdding_18 : decode cX2_countByAdding 18 = .ok (.tableswitch 65 0 2 #[26, 39, 52], 26) := by decide +kernel
theorem dX2_countByAdding_44 : decode cX2_countByAdding 44 = .ok (.aload_n 0, 1) := by decide +kernel
theorem dX2_countByAdding_45 : decode cX2_countByAdding 45 = .ok (.getfield 18, 3) := by decide +kernel
theorem dX2_countByAdding_48 : decode cX2_countByAdding 48 = .ok (.getfield 84, 3) := by decide +kernel
theorem dX2_countByAdding_51 : decode cX2_countByAdding 51 = .ok (.aload_n 1, 1) := by decide +kernel
theorem dX2_countByAdding_52 : decode cX2_countByAdding 52 = .ok (.getfield 84, 3) := by decide +kernel
theorem dX2_countByAdding_55 : decode cX2_countByAdding 55 = .ok (.isub, 1) := by decide +kernel
theorem dX2_countByAdding_56 : decode cX2_countByAdding 56 = .ok (.ireturn, 1) := by decide +kernel
theorem dX2_countByAdding_57 : decode cX2_countByAdding 57 = .ok (.aload_n 0, 1) := by decide +kernel
theorem dX2_countByAdding_58 : decode cX2_countByAdding 58 = .ok (.getfield 18, 3) := by decide +kernel
theorem dX2_countByAdding_61 : decode cX2_countByAdding 61 = .ok (.getfield 245, 3) := by decide +kernel
theorem dX2_countByAdding_64 : decode cX2_countByAdding 64 = .ok (.aload_n 1, 1) := by decide +kernel
theorem dX2_countByAdding_65 : decode cX2_countByAdding 65 = .ok (.getfield 245, 3) := by decide +kernel
theorem dX2_countByAdding_68 : decode cX2_countByAdding 68 = .ok (.isub, 1) := by decide +kernel
theorem dX2_countByAdding_69 : decode cX2_countByAdding 69 = .ok (.ireturn, 1) := by decide +kernel
theorem dX2_countByAdding_70 : decode cX2_countByAdding 70 = .ok (.aload_n 0, 1) := by decide +kernel
theorem dX2_countByAdding_71 : decode cX2_countByAdding 71 = .ok (.getfield 18, 3) := by decide +kernel
theorem dX2_countByAdding_74 : decode cX2_countByAdding 74 = .ok (.getfield 132, 3) := by decide +kernel
theorem dX2_countByAdding_77 : decode cX2_countByAdding 77 = .ok (.aload_n 1, 1) := by decide +kernel
theorem dX2_countByAdding_78 : decode cX2_countByAdding 78 = .ok (.getfield 132, 3) := by decide +kernel
theorem dX2_countByAdding_81 : decode cX2_countByAdding 81 = .ok (.isub, 1) := by decide +kernel
theorem dX2_countByAdding_82 : decode cX2_countByAdding 82 = .ok (.ireturn, 1) := by decide +kernel
theorem dX2_countByAdding_83 : decode cX2_countByAdding 83 = .ok (.aload_n 0, 1) := by decide +kernel
theorem dX2_countByAdding_84 : decode cX2_countByAdding 84 = .ok (.getfield 18, 3) := by decide +kernel
theorem dX2_countByAdding_87 : decode cX2_countByAdding 87 = .ok (.getfield 115, 3) := by decide +kernel
theorem dX2_countByAdding_90 : decode cX2_countByAdding 90 = .ok (.aload_n 1, 1) := by decide +kernel
theorem dX2_countByAdding_91 : decode cX2_countByAdding 91 = .ok (.getfield 115, 3) := by decide +kernel
theorem dX2_countByAdding_94 : decode cX2_countByAdding 94 = .ok (.isub, 1) := by decide +kernel
theorem dX2_countByAdding_95 : decode cX2_countByAdding 95 = .ok (.ireturn, 1) := by decide +kernel
theorem dX2_secondsByAdding_0 : decode cX2_secondsByAdding 0 = .ok (.aload_n 0, 1) := by decide +kernel
theorem dX2_secondsByAdding_1 : decode cX2_secondsByAdding 1 = .ok (.getfield 18, 3) := by decide +kernel
theorem dX2_secondsByAdding_4 : decode cX2_secondsByAdding 4 = .ok (.aload_n 1, 1) := by decide +kernel
theorem dX2_secondsByAdding_5 : decode cX2_secondsByAdding 5 = .ok (.invokevirtual 241, 3) := by decide +kernel
theorem dX2_secondsByAdding_8 : decode cX2_secondsByAdding 8 = .ok (.aload_n 0, 1) := by decide +kernel
theorem dX2_secondsByAdding_9 : decode cX2_secondsByAdding 9 = .ok (.getfield 18, 3) := by decide +kernel
theorem dX2_secondsByAdding_12 : decode cX2_secondsByAdding 12 = .ok (.iload_n 2, 1) := by decide +kernel
theorem dX2_secondsByAdding_13 : decode cX2_secondsByAdding 13 = .ok (.i2l, 1) := by decide +kernel
theorem dX2_secondsByAdding_14 : decode cX2_secondsByAdding 14 = .ok (.invokevirtual 98, 3) := by decide +kernel
theorem dX2_secondsByAdding_17 : decode cX2_secondsByAdding 17 = .ok (.aload_n 0, 1) := by decide +kernel
theorem dX2_secondsByAdding_18 : decode cX2_secondsByAdding 18 = .ok (.getfield 18, 3) := by decide +kernel
theorem dX2_secondsByAdding_21 : decode cX2_secondsByAdding 21 = .ok (.getfield 169, 3) := by decide +kernel
theorem dX2_secondsByAdding_24 : decode cX2_secondsByAdding 24 = .ok (.f2d, 1) := by decide +kernel
theorem dX2_secondsByAdding_25 : decode cX2_secondsByAdding 25 = .ok (.aload_n 1, 1) := by decide +kernel
theorem dX2_secondsByAdding_26 : decode cX2_secondsByAdding 26 = .ok (.getfield 169, 3) := by decide +kernel
theorem dX2_secondsByAdding_29 : decode cX2_secondsByAdding 29 = .ok (.f2d, 1) := by decide +kernel
theorem dX2_secondsByAdding_30 : decode cX2_secondsByAdding 30 = .ok (.dsub, 1) := by decide +kernel
theorem dX2_secondsByAdding_31 : decode cX2_secondsByAdding 31 = .ok (.dreturn, 1) := by decide +kernel
theorem dX2_quickerToAdd_0 : decode cX2_quickerToAdd 0 = .ok (.aload_n 0, 1) := by decide +kernel
theorem dX2_quickerToAdd_1 : decode cX2_quickerToAdd 1 = .ok (.iload_n 1, 1) := by decide +kernel
theorem dX2_quickerToAdd_2 : decode cX2_quickerToAdd 2 = .ok (.invokevirtual 214, 3) := by decide +kernel
theorem dX2_quickerToAdd_5 : decode cX2_quickerToAdd 5 = .ok (.astore 4, 2) := by decide +kernel
theorem dX2_quickerToAdd_7 : decode cX2_quickerToAdd 7 = .ok (.aload_n 0, 1) := by decide +kernel
theorem dX2_quickerToAdd_8 : decode cX2_quickerToAdd 8 = .ok (.iload_n 2, 1) := by decide +kernel
theorem dX2_quickerToAdd_9 : decode cX2_quickerToAdd 9 = .ok (.invokevirtual 214, 3) := by decide +kernel
theorem dX2_quickerToAdd_12 : decode cX2_quickerToAdd 12 = .ok (.astore 5, 2) := by decide +kernel
theorem dX2_quickerToAdd_14 : decode cX2_quickerToAdd 14 = .ok (.aload 4, 2) := by decide +kernel
theorem dX2_quickerToAdd_16 : decode cX2_quickerToAdd 16 = .ok (.ifnull 8, 3) := by decide +kernel
theorem dX2_quickerToAdd_19 : decode cX2_quickerToAdd 19 = .ok (.aload 5, 2) := by decide +kernel
theorem dX2_quickerToAdd_21 : decode cX2_quickerToAdd 21 = .ok (.ifnonnull 5, 3) := by decide +kernel
theorem dX2_quickerToAdd_24 : decode cX2_quickerToAdd 24 = .ok (.iconst (-1), 1) := by decide +kernel
theorem dX2_quickerToAdd_25 : decode cX2_quickerToAdd 25 = .ok (.ireturn, 1) := by decide +kernel
theorem dX2_quickerToAdd_26 : decode cX2_quickerToAdd 26 = .ok (.aload_n 0, 1) := by decide +kernel
theorem dX2_quickerToAdd_27 : decode cX2_quickerToAdd 27 = .ok (.aload 4, 2) := by decide +kernel
theorem dX2_quickerToAdd_29 : decode cX2_quickerToAdd 29 = .ok (.iload_n 3, 1) := by decide +kernel
theorem dX2_quickerToAdd_30 : decode cX2_quickerToAdd 30 = .ok (.invokevirtual 190, 3) := by decide +kernel
theorem dX2_quickerToAdd_33 : decode cX2_quickerToAdd 33 = .ok (.dstore 6, 2) := by decide +kernel
theorem dX2_quickerToAdd_35 : decode cX2_quickerToAdd 35 = .ok (.aload_n 0, 1) := by decide +kernel
theorem dX2_quickerToAdd_36 : decode cX2_quickerToAdd 36 = .ok (.aload 5, 2) := by decide +kernel
theorem dX2_quickerToAdd_38 : decode cX2_quickerToAdd 38 = .ok (.iload_n 3, 1) := by decide +kernel
theorem dX2_quickerToAdd_39 : decode cX2_quickerToAdd 39 = .ok (.invokevirtual 190, 3) := by decide +kernel
theorem dX2_quickerToAdd_42 : decode cX2_quickerToAdd 42 = .ok (.dstore 8, 2) := by decide +kernel
theorem dX2_quickerToAdd_44 : decode cX2_quickerToAdd 44 = .ok (.dload 6, 2) := by decide +kernel
theorem dX2_quickerToAdd_46 : decode cX2_quickerToAdd 46 = .ok (.dload 8, 2) := by decide +kernel
theorem dX2_quickerToAdd_48 : decode cX2_quickerToAdd 48 = .ok (.dcmp .l, 1) := by decide +kernel
theorem dX2_quickerToAdd_49 : decode cX2_quickerToAdd 49 = .ok (.ifCond .ne 9, 3) := by decide +kernel
theorem dX2_quickerToAdd_52 : decode cX2_quickerToAdd 52 = .ok (.iload_n 1, 1) := by decide +kernel
theorem dX2_quickerToAdd_53 : decode cX2_quickerToAdd 53 = .ok (.iload_n 2, 1) := by decide +kernel
theorem dX2_quickerToAdd_54 : decode cX2_quickerToAdd 54 = .ok (.invokestatic 248, 3) := by decide +kernel
theorem dX2_quickerToAdd_57 : decode cX2_quickerToAdd 57 = .ok (.ireturn, 1) := by decide +kernel
theorem dX2_quickerToAdd_58 : decode cX2_quickerToAdd 58 = .ok (.dload 6, 2) := by decide +kernel
theorem dX2_quickerToAdd_60 : decode cX2_quickerToAdd 60 = .ok (.dload 8, 2) := by decide +kernel
theorem dX2_quickerToAdd_62 : decode cX2_quickerToAdd 62 = .ok (.dcmp .g, 1) := by decide +kernel
theorem dX2_quickerToAdd_63 : decode cX2_quickerToAdd 63 = .ok (.ifCond .ge 7, 3) := by decide +kernel
theorem dX2_quickerToAdd_66 : decode cX2_quickerToAdd 66 = .ok (.iload_n 1, 1) := by decide +kernel
theorem dX2_quickerToAdd_67 : decode cX2_quickerToAdd 67 = .ok (.goto 4, 3) := by decide +kernel
theorem dX2_quickerToAdd_70 : decode cX2_quickerToAdd 70 = .ok (.iload_n 2, 1) := by decide +kernel
theorem dX2_quickerToAdd_71 : decode cX2_quickerToAdd 71 = .ok (.ireturn, 1) := by decide +kernel
theorem dX2_hardestDigit_0 : decode cX2_hardestDigit 0 = .ok (.iconst (-1), 1) := by decide +kernel
theorem dX2_hardestDigit_1 : decode cX2_hardestDigit 1 = .ok (.istore_n 3, 1) := by decide +kernel
theorem dX2_hardestDigit_2 : decode cX2_hardestDigit 2 = .ok (.iconst (-1), 1) := by decide +kernel
theorem dX2_hardestDigit_3 : decode cX2_hardestDigit 3 = .ok (.istore 4, 2) := by decide +kernel
theorem dX2_hardestDigit_5 : decode cX2_hardestDigit 5 = .ok (.iconst 1, 1) := by decide +kernel
theorem dX2_hardestDigit_6 : decode cX2_hardestDigit 6 = .ok (.istore 5, 2) := by decide +kernel
theorem dX2_hardestDigit_8 : decode cX2_hardestDigit 8 = .ok (.iload 5, 2) := by decide +kernel
theorem dX2_hardestDigit_10 : decode cX2_hardestDigit 10 = .ok (.bipush 9, 2) := by decide +kernel
theorem dX2_hardestDigit_12 : decode cX2_hardestDigit 12 = .ok (.if_icmp .gt 55, 3) := by decide +kernel
theorem dX2_hardestDigit_15 : decode cX2_hardestDigit 15 = .ok (.aload_n 0, 1) := by decide +kernel
theorem dX2_hardestDigit_16 : decode cX2_hardestDigit 16 = .ok (.getfield 18, 3) := by decide +kernel
theorem dX2_hardestDigit_19 : decode cX2_hardestDigit 19 = .ok (.aload_n 1, 1) := by decide +kernel
theorem dX2_hardestDigit_20 : decode cX2_hardestDigit 20 = .ok (.invokevirtual 241, 3) := by decide +kernel
theorem dX2_hardestDigit_23 : decode cX2_hardestDigit 23 = .ok (.aload_n 0, 1) := by decide +kernel
theorem dX2_hardestDigit_24 : decode cX2_hardestDigit 24 = .ok (.getfield 18, 3) := by decide +kernel
theorem dX2_hardestDigit_27 : decode cX2_hardestDigit 27 = .ok (.iload_n 2, 1) := by decide +kernel
theorem dX2_hardestDigit_28 : decode cX2_hardestDigit 28 = .ok (.iload 5, 2) := by decide +kernel
theorem dX2_hardestDigit_30 : decode cX2_hardestDigit 30 = .ok (.invokevirtual 253, 3) := by decide +kernel
theorem dX2_hardestDigit_33 : decode cX2_hardestDigit 33 = .ok (.aload_n 0, 1) := by decide +kernel
theorem dX2_hardestDigit_34 : decode cX2_hardestDigit 34 = .ok (.getfield 18, 3) := by decide +kernel
theorem dX2_hardestDigit_37 : decode cX2_hardestDigit 37 = .ok (.getfield 84, 3) := by decide +kernel
theorem dX2_hardestDigit_40 : decode cX2_hardestDigit 40 = .ok (.aload_n 1, 1) := by decide +kernel
theorem dX2_hardestDigit_41 : decode cX2_hardestDigit 41 = .ok (.getfield 84, 3) := by decide +kernel
theorem dX2_hardestDigit_44 : decode cX2_hardestDigit 44 = .ok (.isub, 1) := by decide +kernel
theorem dX2_hardestDigit_45 : decode cX2_hardestDigit 45 = .ok (.istore 6, 2) := by decide +kernel
theorem dX2_hardestDigit_47 : decode cX2_hardestDigit 47 = .ok (.iload 6, 2) := by decide +kernel
theorem dX2_hardestDigit_49 : decode cX2_hardestDigit 49 = .ok (.iload 4, 2) := by decide +kernel
theorem dX2_hardestDigit_51 : decode cX2_hardestDigit 51 = .ok (.if_icmp .le 10, 3) := by decide +kernel
theorem dX2_hardestDigit_54 : decode cX2_hardestDigit 54 = .ok (.iload 6, 2) := by decide +kernel
theorem dX2_hardestDigit_56 : decode cX2_hardestDigit 56 = .ok (.istore 4, 2) := by decide +kernel
theorem dX2_hardestDigit_58 : decode cX2_hardestDigit 58 = .ok (.iload 5, 2) := by decide +kernel
theorem dX2_hardestDigit_60 : decode cX2_hardestDigit 60 = .ok (.istore_n 3, 1) := by decide +kernel
theorem dX2_hardestDigit_61 : decode cX2_hardestDigit 61 = .ok (.iinc 5 1, 3) := by decide +kernel
theorem dX2_hardestDigit_64 : decode cX2_hardestDigit 64 = .ok (.goto (-56), 3) := by decide +kernel
theorem dX2_hardestDigit_67 : decode cX2_hardestDigit 67 = .ok (.iload_n 3, 1) := by decide +kernel
theorem dX2_hardestDigit_68 : decode cX2_hardestDigit 68 = .ok (.ireturn, 1) := by decide +kernel
