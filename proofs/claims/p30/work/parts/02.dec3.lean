-- laid by wip/p30/names.py
theorem dX3_tidy_0 : decode cX3_tidy 0 = .ok (.aload_n 0, 1) := by decide +kernel
theorem dX3_tidy_1 : decode cX3_tidy 1 = .ok (.getfield 15, 3) := by decide +kernel
theorem dX3_tidy_4 : decode cX3_tidy 4 = .ok (.iconst 2, 1) := by decide +kernel
theorem dX3_tidy_5 : decode cX3_tidy 5 = .ok (.iaload, 1) := by decide +kernel
theorem dX3_tidy_6 : decode cX3_tidy 6 = .ok (.istore_n 1, 1) := by decide +kernel
theorem dX3_tidy_7 : decode cX3_tidy 7 = .ok (.aload_n 0, 1) := by decide +kernel
theorem dX3_tidy_8 : decode cX3_tidy 8 = .ok (.invokevirtual 119, 3) := by decide +kernel
theorem dX3_tidy_11 : decode cX3_tidy 11 = .ok (.iconst 0, 1) := by decide +kernel
theorem dX3_tidy_12 : decode cX3_tidy 12 = .ok (.istore_n 2, 1) := by decide +kernel
theorem dX3_tidy_13 : decode cX3_tidy 13 = .ok (.iload_n 2, 1) := by decide +kernel
theorem dX3_tidy_14 : decode cX3_tidy 14 = .ok (.aload_n 0, 1) := by decide +kernel
theorem dX3_tidy_15 : decode cX3_tidy 15 = .ok (.getfield 49, 3) := by decide +kernel
theorem dX3_tidy_18 : decode cX3_tidy 18 = .ok (.arraylength, 1) := by decide +kernel
theorem dX3_tidy_19 : decode cX3_tidy 19 = .ok (.if_icmp .ge 53, 3) := by decide +kernel
theorem dX3_tidy_22 : decode cX3_tidy 22 = .ok (.aload_n 0, 1) := by decide +kernel
theorem dX3_tidy_23 : decode cX3_tidy 23 = .ok (.iload_n 2, 1) := by decide +kernel
theorem dX3_tidy_24 : decode cX3_tidy 24 = .ok (.invokevirtual 71, 3) := by decide +kernel
theorem dX3_tidy_27 : decode cX3_tidy 27 = .ok (.bipush 10, 2) := by decide +kernel
theorem dX3_tidy_29 : decode cX3_tidy 29 = .ok (.if_icmp .ge 6, 3) := by decide +kernel
theorem dX3_tidy_32 : decode cX3_tidy 32 = .ok (.goto 34, 3) := by decide +kernel
theorem dX3_tidy_35 : decode cX3_tidy 35 = .ok (.aload_n 0, 1) := by decide +kernel
theorem dX3_tidy_36 : decode cX3_tidy 36 = .ok (.iload_n 2, 1) := by decide +kernel
theorem dX3_tidy_37 : decode cX3_tidy 37 = .ok (.aload_n 0, 1) := by decide +kernel
theorem dX3_tidy_38 : decode cX3_tidy 38 = .ok (.iload_n 2, 1) := by decide +kernel
theorem dX3_tidy_39 : decode cX3_tidy 39 = .ok (.invokevirtual 71, 3) := by decide +kernel
theorem dX3_tidy_42 : decode cX3_tidy 42 = .ok (.bipush 10, 2) := by decide +kernel
theorem dX3_tidy_44 : decode cX3_tidy 44 = .ok (.isub, 1) := by decide +kernel
theorem dX3_tidy_45 : decode cX3_tidy 45 = .ok (.invokevirtual 105, 3) := by decide +kernel
theorem dX3_tidy_48 : decode cX3_tidy 48 = .ok (.aload_n 0, 1) := by decide +kernel
theorem dX3_tidy_49 : decode cX3_tidy 49 = .ok (.getfield 15, 3) := by decide +kernel
theorem dX3_tidy_52 : decode cX3_tidy 52 = .ok (.iconst 2, 1) := by decide +kernel
theorem dX3_tidy_53 : decode cX3_tidy 53 = .ok (.dup2, 1) := by decide +kernel
theorem dX3_tidy_54 : decode cX3_tidy 54 = .ok (.iaload, 1) := by decide +kernel
theorem dX3_tidy_55 : decode cX3_tidy 55 = .ok (.iconst 1, 1) := by decide +kernel
theorem dX3_tidy_56 : decode cX3_tidy 56 = .ok (.iadd, 1) := by decide +kernel
theorem dX3_tidy_57 : decode cX3_tidy 57 = .ok (.iastore, 1) := by decide +kernel
theorem dX3_tidy_58 : decode cX3_tidy 58 = .ok (.aload_n 0, 1) := by decide +kernel
theorem dX3_tidy_59 : decode cX3_tidy 59 = .ok (.iload_n 2, 1) := by decide +kernel
theorem dX3_tidy_60 : decode cX3_tidy 60 = .ok (.iconst 1, 1) := by decide +kernel
theorem dX3_tidy_61 : decode cX3_tidy 61 = .ok (.iadd, 1) := by decide +kernel
theorem dX3_tidy_62 : decode cX3_tidy 62 = .ok (.iconst 1, 1) := by decide +kernel
theorem dX3_tidy_63 : decode cX3_tidy 63 = .ok (.invokevirtual 113, 3) := by decide +kernel
theorem dX3_tidy_66 : decode cX3_tidy 66 = .ok (.iinc 2 1, 3) := by decide +kernel
theorem dX3_tidy_69 : decode cX3_tidy 69 = .ok (.goto (-56), 3) := by decide +kernel
theorem dX3_tidy_72 : decode cX3_tidy 72 = .ok (.aload_n 0, 1) := by decide +kernel
theorem dX3_tidy_73 : decode cX3_tidy 73 = .ok (.getfield 18, 3) := by decide +kernel
theorem dX3_tidy_76 : decode cX3_tidy 76 = .ok (.aload_n 0, 1) := by decide +kernel
theorem dX3_tidy_77 : decode cX3_tidy 77 = .ok (.getfield 39, 3) := by decide +kernel
theorem dX3_tidy_80 : decode cX3_tidy 80 = .ok (.invokevirtual 151, 3) := by decide +kernel
theorem dX3_tidy_83 : decode cX3_tidy 83 = .ok (.aload_n 0, 1) := by decide +kernel
theorem dX3_tidy_84 : decode cX3_tidy 84 = .ok (.getfield 15, 3) := by decide +kernel
theorem dX3_tidy_87 : decode cX3_tidy 87 = .ok (.iconst 2, 1) := by decide +kernel
theorem dX3_tidy_88 : decode cX3_tidy 88 = .ok (.iaload, 1) := by decide +kernel
theorem dX3_tidy_89 : decode cX3_tidy 89 = .ok (.iload_n 1, 1) := by decide +kernel
theorem dX3_tidy_90 : decode cX3_tidy 90 = .ok (.isub, 1) := by decide +kernel
theorem dX3_tidy_91 : decode cX3_tidy 91 = .ok (.if_icmp .ne 7, 3) := by decide +kernel
theorem dX3_tidy_94 : decode cX3_tidy 94 = .ok (.iconst 1, 1) := by decide +kernel
theorem dX3_tidy_95 : decode cX3_tidy 95 = .ok (.goto 4, 3) := by decide +kernel
theorem dX3_tidy_98 : decode cX3_tidy 98 = .ok (.iconst 0, 1) := by decide +kernel
theorem dX3_tidy_99 : decode cX3_tidy 99 = .ok (.ireturn, 1) := by decide +kernel
theorem dX3_clear_0 : decode cX3_clear 0 = .ok (.aload_n 0, 1) := by decide +kernel
theorem dX3_clear_1 : decode cX3_clear 1 = .ok (.getfield 15, 3) := by decide +kernel
theorem dX3_clear_4 : decode cX3_clear 4 = .ok (.iconst 0, 1) := by decide +kernel
theorem dX3_clear_5 : decode cX3_clear 5 = .ok (.iaload, 1) := by decide +kernel
theorem dX3_clear_6 : decode cX3_clear 6 = .ok (.istore_n 1, 1) := by decide +kernel
theorem dX3_clear_7 : decode cX3_clear 7 = .ok (.aload_n 0, 1) := by decide +kernel
theorem dX3_clear_8 : decode cX3_clear 8 = .ok (.invokevirtual 119, 3) := by decide +kernel
theorem dX3_clear_11 : decode cX3_clear 11 = .ok (.aload_n 0, 1) := by decide +kernel
theorem dX3_clear_12 : decode cX3_clear 12 = .ok (.getfield 49, 3) := by decide +kernel
theorem dX3_clear_15 : decode cX3_clear 15 = .ok (.arraylength, 1) := by decide +kernel
theorem dX3_clear_16 : decode cX3_clear 16 = .ok (.iconst 1, 1) := by decide +kernel
theorem dX3_clear_17 : decode cX3_clear 17 = .ok (.isub, 1) := by decide +kernel
theorem dX3_clear_18 : decode cX3_clear 18 = .ok (.istore_n 2, 1) := by decide +kernel
theorem dX3_clear_19 : decode cX3_clear 19 = .ok (.iload_n 2, 1) := by decide +kernel
theorem dX3_clear_20 : decode cX3_clear 20 = .ok (.ifCond .lt 15, 3) := by decide +kernel
theorem dX3_clear_23 : decode cX3_clear 23 = .ok (.aload_n 0, 1) := by decide +kernel
theorem dX3_clear_24 : decode cX3_clear 24 = .ok (.iload_n 2, 1) := by decide +kernel
theorem dX3_clear_25 : decode cX3_clear 25 = .ok (.iconst 0, 1) := by decide +kernel
theorem dX3_clear_26 : decode cX3_clear 26 = .ok (.invokevirtual 105, 3) := by decide +kernel
theorem dX3_clear_29 : decode cX3_clear 29 = .ok (.iinc 2 (-1), 3) := by decide +kernel
theorem dX3_clear_32 : decode cX3_clear 32 = .ok (.goto (-13), 3) := by decide +kernel
theorem dX3_clear_35 : decode cX3_clear 35 = .ok (.aload_n 0, 1) := by decide +kernel
theorem dX3_clear_36 : decode cX3_clear 36 = .ok (.getfield 18, 3) := by decide +kernel
theorem dX3_clear_39 : decode cX3_clear 39 = .ok (.aload_n 0, 1) := by decide +kernel
theorem dX3_clear_40 : decode cX3_clear 40 = .ok (.getfield 39, 3) := by decide +kernel
theorem dX3_clear_43 : decode cX3_clear 43 = .ok (.invokevirtual 154, 3) := by decide +kernel
theorem dX3_clear_46 : decode cX3_clear 46 = .ok (.aload_n 0, 1) := by decide +kernel
theorem dX3_clear_47 : decode cX3_clear 47 = .ok (.getfield 15, 3) := by decide +kernel
theorem dX3_clear_50 : decode cX3_clear 50 = .ok (.iconst 0, 1) := by decide +kernel
theorem dX3_clear_51 : decode cX3_clear 51 = .ok (.iaload, 1) := by decide +kernel
theorem dX3_clear_52 : decode cX3_clear 52 = .ok (.iload_n 1, 1) := by decide +kernel
theorem dX3_clear_53 : decode cX3_clear 53 = .ok (.isub, 1) := by decide +kernel
theorem dX3_clear_54 : decode cX3_clear 54 = .ok (.if_icmp .ne 7, 3) := by decide +kernel
theorem dX3_clear_57 : decode cX3_clear 57 = .ok (.iconst 1, 1) := by decide +kernel
theorem dX3_clear_58 : decode cX3_clear 58 = .ok (.goto 4, 3) := by decide +kernel
theorem dX3_clear_61 : decode cX3_clear 61 = .ok (.iconst 0, 1) := by decide +kernel
theorem dX3_clear_62 : decode cX3_clear 62 = .ok (.ireturn, 1) := by decide +kernel
theorem dX3_sets_0 : decode cX3_sets 0 = .ok (.aload_n 0, 1) := by decide +kernel
theorem dX3_sets_1 : decode cX3_sets 1 = .ok (.aload_n 0, 1) := by decide +kernel
theorem dX3_sets_2 : decode cX3_sets 2 = .ok (.getfield 49, 3) := by decide +kernel
theorem dX3_sets_5 : decode cX3_sets 5 = .ok (.arraylength, 1) := by decide +kernel
theorem dX3_sets_6 : decode cX3_sets 6 = .ok (.invokevirtual 42, 3) := by decide +kernel
theorem dX3_sets_9 : decode cX3_sets 9 = .ok (.istore_n 1, 1) := by decide +kernel
theorem dX3_sets_10 : decode cX3_sets 10 = .ok (.aload_n 0, 1) := by decide +kernel
theorem dX3_sets_11 : decode cX3_sets 11 = .ok (.aload_n 0, 1) := by decide +kernel
theorem dX3_sets_12 : decode cX3_sets 12 = .ok (.invokevirtual 157, 3) := by decide +kernel
theorem dX3_sets_15 : decode cX3_sets 15 = .ok (.iconst 1, 1) := by decide +kernel
theorem dX3_sets_16 : decode cX3_sets 16 = .ok (.iadd, 1) := by decide +kernel
theorem dX3_sets_17 : decode cX3_sets 17 = .ok (.invokevirtual 42, 3) := by decide +kernel
theorem dX3_sets_20 : decode cX3_sets 20 = .ok (.istore_n 2, 1) := by decide +kernel
theorem dX3_sets_21 : decode cX3_sets 21 = .ok (.aload_n 0, 1) := by decide +kernel
theorem dX3_sets_22 : decode cX3_sets 22 = .ok (.getfield 15, 3) := by decide +kernel
theorem dX3_sets_25 : decode cX3_sets 25 = .ok (.iconst 0, 1) := by decide +kernel
theorem dX3_sets_26 : decode cX3_sets 26 = .ok (.iaload, 1) := by decide +kernel
theorem dX3_sets_27 : decode cX3_sets 27 = .ok (.istore_n 3, 1) := by decide +kernel
theorem dX3_sets_28 : decode cX3_sets 28 = .ok (.aload_n 0, 1) := by decide +kernel
theorem dX3_sets_29 : decode cX3_sets 29 = .ok (.invokevirtual 119, 3) := by decide +kernel
theorem dX3_sets_32 : decode cX3_sets 32 = .ok (.aload_n 0, 1) := by decide +kernel
theorem dX3_sets_33 : decode cX3_sets 33 = .ok (.iload_n 1, 1) := by decide +kernel
theorem dX3_sets_34 : decode cX3_sets 34 = .ok (.iload_n 2, 1) := by decide +kernel
theorem dX3_sets_35 : decode cX3_sets 35 = .ok (.invokevirtual 105, 3) := by decide +kernel
theorem dX3_sets_38 : decode cX3_sets 38 = .ok (.aload_n 0, 1) := by decide +kernel
theorem dX3_sets_39 : decode cX3_sets 39 = .ok (.getfield 18, 3) := by decide +kernel
theorem dX3_sets_42 : decode cX3_sets 42 = .ok (.aload_n 0, 1) := by decide +kernel
theorem dX3_sets_43 : decode cX3_sets 43 = .ok (.getfield 39, 3) := by decide +kernel
theorem dX3_sets_46 : decode cX3_sets 46 = .ok (.iload_n 1, 1) := by decide +kernel
theorem dX3_sets_47 : decode cX3_sets 47 = .ok (.iload_n 2, 1) := by decide +kernel
theorem dX3_sets_48 : decode cX3_sets 48 = .ok (.invokevirtual 160, 3) := by decide +kernel
theorem dX3_sets_51 : decode cX3_sets 51 = .ok (.aload_n 0, 1) := by decide +kernel
theorem dX3_sets_52 : decode cX3_sets 52 = .ok (.getfield 15, 3) := by decide +kernel
theorem dX3_sets_55 : decode cX3_sets 55 = .ok (.iconst 0, 1) := by decide +kernel
theorem dX3_sets_56 : decode cX3_sets 56 = .ok (.iaload, 1) := by decide +kernel
theorem dX3_sets_57 : decode cX3_sets 57 = .ok (.iload_n 3, 1) := by decide +kernel
theorem dX3_sets_58 : decode cX3_sets 58 = .ok (.isub, 1) := by decide +kernel
theorem dX3_sets_59 : decode cX3_sets 59 = .ok (.if_icmp .ne 7, 3) := by decide +kernel
theorem dX3_sets_62 : decode cX3_sets 62 = .ok (.iconst 1, 1) := by decide +kernel
theorem dX3_sets_63 : decode cX3_sets 63 = .ok (.goto 4, 3) := by decide +kernel
theorem dX3_sets_66 : decode cX3_sets 66 = .ok (.iconst 0, 1) := by decide +kernel
theorem dX3_sets_67 : decode cX3_sets 67 = .ok (.ireturn, 1) := by decide +kernel
theorem dX3_push_0 : decode cX3_push 0 = .ok (.aload_n 0, 1) := by decide +kernel
theorem dX3_push_1 : decode cX3_push 1 = .ok (.aload_n 0, 1) := by decide +kernel
theorem dX3_push_2 : decode cX3_push 2 = .ok (.getfield 49, 3) := by decide +kernel
theorem dX3_push_5 : decode cX3_push 5 = .ok (.arraylength, 1) := by decide +kernel
theorem dX3_push_6 : decode cX3_push 6 = .ok (.invokevirtual 42, 3) := by decide +kernel
theorem dX3_push_9 : decode cX3_push 9 = .ok (.istore_n 1, 1) := by decide +kernel
theorem dX3_push_10 : decode cX3_push 10 = .ok (.aload_n 0, 1) := by decide +kernel
theorem dX3_push_11 : decode cX3_push 11 = .ok (.invokevirtual 64, 3) := by decide +kernel
theorem dX3_push_14 : decode cX3_push 14 = .ok (.ifCond .le 15, 3) := by decide +kernel
theorem dX3_push_17 : decode cX3_push 17 = .ok (.aload_n 0, 1) := by decide +kernel
theorem dX3_push_18 : decode cX3_push 18 = .ok (.iconst 2, 1) := by decide +kernel
theorem dX3_push_19 : decode cX3_push 19 = .ok (.invokevirtual 42, 3) := by decide +kernel
theorem dX3_push_22 : decode cX3_push 22 = .ok (.ifCond .ne 7, 3) := by decide +kernel
theorem dX3_push_25 : decode cX3_push 25 = .ok (.iconst 1, 1) := by decide +kernel
theorem dX3_push_26 : decode cX3_push 26 = .ok (.goto 4, 3) := by decide +kernel
theorem dX3_push_29 : decode cX3_push 29 = .ok (.iconst 0, 1) := by decide +kernel
theorem dX3_push_30 : decode cX3_push 30 = .ok (.istore_n 2, 1) := by decide +kernel
theorem dX3_push_31 : decode cX3_push 31 = .ok (.iload_n 2, 1) := by decide +kernel
theorem dX3_push_32 : decode cX3_push 32 = .ok (.ifCond .eq 12, 3) := by decide +kernel
theorem dX3_push_35 : decode cX3_push 35 = .ok (.aload_n 0, 1) := by decide +kernel
theorem dX3_push_36 : decode cX3_push 36 = .ok (.getfield 49, 3) := by decide +kernel
theorem dX3_push_39 : decode cX3_push 39 = .ok (.iload_n 1, 1) := by decide +kernel
theorem dX3_push_40 : decode cX3_push 40 = .ok (.iaload, 1) := by decide +kernel
theorem dX3_push_41 : decode cX3_push 41 = .ok (.goto 9, 3) := by decide +kernel
theorem dX3_push_44 : decode cX3_push 44 = .ok (.aload_n 0, 1) := by decide +kernel
theorem dX3_push_45 : decode cX3_push 45 = .ok (.getfield 52, 3) := by decide +kernel
theorem dX3_push_48 : decode cX3_push 48 = .ok (.iload_n 1, 1) := by decide +kernel
theorem dX3_push_49 : decode cX3_push 49 = .ok (.iaload, 1) := by decide +kernel
theorem dX3_push_50 : decode cX3_push 50 = .ok (.istore_n 3, 1) := by decide +kernel
theorem dX3_push_51 : decode cX3_push 51 = .ok (.aload_n 0, 1) := by decide +kernel
theorem dX3_push_52 : decode cX3_push 52 = .ok (.iload_n 2, 1) := by decide +kernel
theorem dX3_push_53 : decode cX3_push 53 = .ok (.ifCond .eq 10, 3) := by decide +kernel
theorem dX3_push_56 : decode cX3_push 56 = .ok (.aload_n 0, 1) := by decide +kernel
theorem dX3_push_57 : decode cX3_push 57 = .ok (.invokevirtual 64, 3) := by decide +kernel
theorem dX3_push_60 : decode cX3_push 60 = .ok (.goto 7, 3) := by decide +kernel
theorem dX3_push_63 : decode cX3_push 63 = .ok (.aload_n 0, 1) := by decide +kernel
theorem dX3_push_64 : decode cX3_push 64 = .ok (.invokevirtual 68, 3) := by decide +kernel
theorem dX3_push_67 : decode cX3_push 67 = .ok (.iconst 1, 1) := by decide +kernel
theorem dX3_push_68 : decode cX3_push 68 = .ok (.iadd, 1) := by decide +kernel
theorem dX3_push_69 : decode cX3_push 69 = .ok (.invokevirtual 42, 3) := by decide +kernel
theorem dX3_push_72 : decode cX3_push 72 = .ok (.istore 4, 2) := by decide +kernel
theorem dX3_push_74 : decode cX3_push 74 = .ok (.iload 4, 2) := by decide +kernel
theorem dX3_push_76 : decode cX3_push 76 = .ok (.iload_n 3, 1) := by decide +kernel
theorem dX3_push_77 : decode cX3_push 77 = .ok (.if_icmp .ne 5, 3) := by decide +kernel
theorem dX3_push_80 : decode cX3_push 80 = .ok (.iconst 1, 1) := by decide +kernel
theorem dX3_push_81 : decode cX3_push 81 = .ok (.ireturn, 1) := by decide +kernel
theorem dX3_push_82 : decode cX3_push 82 = .ok (.aload_n 0, 1) := by decide +kernel
theorem dX3_push_83 : decode cX3_push 83 = .ok (.invokevirtual 119, 3) := by decide +kernel
theorem dX3_push_86 : decode cX3_push 86 = .ok (.aload_n 0, 1) := by decide +kernel
theorem dX3_push_87 : decode cX3_push 87 = .ok (.iload_n 1, 1) := by decide +kernel
theorem dX3_push_88 : decode cX3_push 88 = .ok (.iload_n 2, 1) := by decide +kernel
theorem dX3_push_89 : decode cX3_push 89 = .ok (.ifCond .eq 7, 3) := by decide +kernel
theorem dX3_push_92 : decode cX3_push 92 = .ok (.iconst 0, 1) := by decide +kernel
theorem dX3_push_93 : decode cX3_push 93 = .ok (.goto 4, 3) := by decide +kernel
theorem dX3_push_96 : decode cX3_push 96 = .ok (.iconst 1, 1) := by decide +kernel
theorem dX3_push_97 : decode cX3_push 97 = .ok (.iload 4, 2) := by decide +kernel
theorem dX3_push_99 : decode cX3_push 99 = .ok (.iload_n 3, 1) := by decide +kernel
theorem dX3_push_100 : decode cX3_push 100 = .ok (.isub, 1) := by decide +kernel
theorem dX3_push_101 : decode cX3_push 101 = .ok (.invokevirtual 101, 3) := by decide +kernel
theorem dX3_push_104 : decode cX3_push 104 = .ok (.aload_n 0, 1) := by decide +kernel
theorem dX3_push_105 : decode cX3_push 105 = .ok (.getfield 18, 3) := by decide +kernel
theorem dX3_push_108 : decode cX3_push 108 = .ok (.aload_n 0, 1) := by decide +kernel
theorem dX3_push_109 : decode cX3_push 109 = .ok (.getfield 39, 3) := by decide +kernel
theorem dX3_push_112 : decode cX3_push 112 = .ok (.iload_n 1, 1) := by decide +kernel
theorem dX3_push_113 : decode cX3_push 113 = .ok (.iload_n 2, 1) := by decide +kernel
theorem dX3_push_114 : decode cX3_push 114 = .ok (.iload 4, 2) := by decide +kernel
theorem dX3_push_116 : decode cX3_push 116 = .ok (.iload_n 3, 1) := by decide +kernel
theorem dX3_push_117 : decode cX3_push 117 = .ok (.isub, 1) := by decide +kernel
theorem dX3_push_118 : decode cX3_push 118 = .ok (.invokevirtual 162, 3) := by decide +kernel
theorem dX3_push_121 : decode cX3_push 121 = .ok (.aload_n 0, 1) := by decide +kernel
theorem dX3_push_122 : decode cX3_push 122 = .ok (.iload_n 1, 1) := by decide +kernel
theorem dX3_push_123 : decode cX3_push 123 = .ok (.invokevirtual 71, 3) := by decide +kernel
theorem dX3_push_126 : decode cX3_push 126 = .ok (.if_icmp .ne 7, 3) := by decide +kernel
theorem dX3_push_129 : decode cX3_push 129 = .ok (.iconst 1, 1) := by decide +kernel
theorem dX3_push_130 : decode cX3_push 130 = .ok (.goto 4, 3) := by decide +kernel
theorem dX3_push_133 : decode cX3_push 133 = .ok (.iconst 0, 1) := by decide +kernel
theorem dX3_push_134 : decode cX3_push 134 = .ok (.ireturn, 1) := by decide +kernel
theorem dX3_back_0 : decode cX3_back 0 = .ok (.aload_n 0, 1) := by decide +kernel
theorem dX3_back_1 : decode cX3_back 1 = .ok (.getfield 9, 3) := by decide +kernel
theorem dX3_back_4 : decode cX3_back 4 = .ok (.arraylength, 1) := by decide +kernel
theorem dX3_back_5 : decode cX3_back 5 = .ok (.ifCond .ne 5, 3) := by decide +kernel
theorem dX3_back_8 : decode cX3_back 8 = .ok (.iconst 1, 1) := by decide +kernel
theorem dX3_back_9 : decode cX3_back 9 = .ok (.ireturn, 1) := by decide +kernel
theorem dX3_back_10 : decode cX3_back 10 = .ok (.aload_n 0, 1) := by decide +kernel
theorem dX3_back_11 : decode cX3_back 11 = .ok (.getfield 9, 3) := by decide +kernel
theorem dX3_back_14 : decode cX3_back 14 = .ok (.aload_n 0, 1) := by decide +kernel
theorem dX3_back_15 : decode cX3_back 15 = .ok (.getfield 9, 3) := by decide +kernel
theorem dX3_back_18 : decode cX3_back 18 = .ok (.arraylength, 1) := by decide +kernel
theorem dX3_back_19 : decode cX3_back 19 = .ok (.iconst 1, 1) := by decide +kernel
theorem dX3_back_20 : decode cX3_back 20 = .ok (.isub, 1) := by decide +kernel
theorem dX3_back_21 : decode cX3_back 21 = .ok (.aaload, 1) := by decide +kernel
theorem dX3_back_22 : decode cX3_back 22 = .ok (.astore_n 1, 1) := by decide +kernel
theorem dX3_back_23 : decode cX3_back 23 = .ok (.aload_n 1, 1) := by decide +kernel
theorem dX3_back_24 : decode cX3_back 24 = .ok (.iconst 0, 1) := by decide +kernel
theorem dX3_back_25 : decode cX3_back 25 = .ok (.aload_n 0, 1) := by decide +kernel
theorem dX3_back_26 : decode cX3_back 26 = .ok (.getfield 49, 3) := by decide +kernel
theorem dX3_back_29 : decode cX3_back 29 = .ok (.iconst 0, 1) := by decide +kernel
theorem dX3_back_30 : decode cX3_back 30 = .ok (.aload_n 0, 1) := by decide +kernel
theorem dX3_back_31 : decode cX3_back 31 = .ok (.getfield 49, 3) := by decide +kernel
theorem dX3_back_34 : decode cX3_back 34 = .ok (.arraylength, 1) := by decide +kernel
theorem dX3_back_35 : decode cX3_back 35 = .ok (.invokestatic 76, 3) := by decide +kernel
theorem dX3_back_38 : decode cX3_back 38 = .ok (.aload_n 1, 1) := by decide +kernel
theorem dX3_back_39 : decode cX3_back 39 = .ok (.aload_n 0, 1) := by decide +kernel
theorem dX3_back_40 : decode cX3_back 40 = .ok (.getfield 49, 3) := by decide +kernel
theorem dX3_back_43 : decode cX3_back 43 = .ok (.arraylength, 1) := by decide +kernel
theorem dX3_back_44 : decode cX3_back 44 = .ok (.aload_n 0, 1) := by decide +kernel
theorem dX3_back_45 : decode cX3_back 45 = .ok (.getfield 52, 3) := by decide +kernel
theorem dX3_back_48 : decode cX3_back 48 = .ok (.iconst 0, 1) := by decide +kernel
theorem dX3_back_49 : decode cX3_back 49 = .ok (.aload_n 0, 1) := by decide +kernel
theorem dX3_back_50 : decode cX3_back 50 = .ok (.getfield 49, 3) := by decide +kernel
theorem dX3_back_53 : decode cX3_back 53 = .ok (.arraylength, 1) := by decide +kernel
theorem dX3_back_54 : decode cX3_back 54 = .ok (.invokestatic 76, 3) := by decide +kernel
theorem dX3_back_57 : decode cX3_back 57 = .ok (.aload_n 0, 1) := by decide +kernel
theorem dX3_back_58 : decode cX3_back 58 = .ok (.getfield 9, 3) := by decide +kernel
theorem dX3_back_61 : decode cX3_back 61 = .ok (.arraylength, 1) := by decide +kernel
theorem dX3_back_62 : decode cX3_back 62 = .ok (.iconst 1, 1) := by decide +kernel
theorem dX3_back_63 : decode cX3_back 63 = .ok (.isub, 1) := by decide +kernel
theorem dX3_back_64 : decode cX3_back 64 = .ok (.anewarray 7, 3) := by decide +kernel
theorem dX3_back_67 : decode cX3_back 67 = .ok (.astore_n 2, 1) := by decide +kernel
theorem dX3_back_68 : decode cX3_back 68 = .ok (.aload_n 0, 1) := by decide +kernel
theorem dX3_back_69 : decode cX3_back 69 = .ok (.getfield 9, 3) := by decide +kernel
theorem dX3_back_72 : decode cX3_back 72 = .ok (.iconst 0, 1) := by decide +kernel
theorem dX3_back_73 : decode cX3_back 73 = .ok (.aload_n 2, 1) := by decide +kernel
theorem dX3_back_74 : decode cX3_back 74 = .ok (.iconst 0, 1) := by decide +kernel
theorem dX3_back_75 : decode cX3_back 75 = .ok (.aload_n 2, 1) := by decide +kernel
theorem dX3_back_76 : decode cX3_back 76 = .ok (.arraylength, 1) := by decide +kernel
theorem dX3_back_77 : decode cX3_back 77 = .ok (.invokestatic 76, 3) := by decide +kernel
theorem dX3_back_80 : decode cX3_back 80 = .ok (.aload_n 0, 1) := by decide +kernel
theorem dX3_back_81 : decode cX3_back 81 = .ok (.aload_n 2, 1) := by decide +kernel
theorem dX3_back_82 : decode cX3_back 82 = .ok (.putfield 9, 3) := by decide +kernel
theorem dX3_back_85 : decode cX3_back 85 = .ok (.aload_n 0, 1) := by decide +kernel
theorem dX3_back_86 : decode cX3_back 86 = .ok (.getfield 18, 3) := by decide +kernel
theorem dX3_back_89 : decode cX3_back 89 = .ok (.aload_n 0, 1) := by decide +kernel
theorem dX3_back_90 : decode cX3_back 90 = .ok (.getfield 39, 3) := by decide +kernel
theorem dX3_back_93 : decode cX3_back 93 = .ok (.invokevirtual 166, 3) := by decide +kernel
theorem dX3_back_96 : decode cX3_back 96 = .ok (.aload_n 2, 1) := by decide +kernel
theorem dX3_back_97 : decode cX3_back 97 = .ok (.arraylength, 1) := by decide +kernel
theorem dX3_back_98 : decode cX3_back 98 = .ok (.if_icmp .ne 7, 3) := by decide +kernel
theorem dX3_back_101 : decode cX3_back 101 = .ok (.iconst 1, 1) := by decide +kernel
theorem dX3_back_102 : decode cX3_back 102 = .ok (.goto 4, 3) := by decide +kernel
theorem dX3_back_105 : decode cX3_back 105 = .ok (.iconst 0, 1) := by decide +kernel
theorem dX3_back_106 : decode cX3_back 106 = .ok (.ireturn, 1) := by decide +kernel
theorem dX3_grease_0 : decode cX3_grease 0 = .ok (.aload_n 0, 1) := by decide +kernel
theorem dX3_grease_1 : decode cX3_grease 1 = .ok (.aload_n 0, 1) := by decide +kernel
theorem dX3_grease_2 : decode cX3_grease 2 = .ok (.getfield 49, 3) := by decide +kernel
theorem dX3_grease_5 : decode cX3_grease 5 = .ok (.arraylength, 1) := by decide +kernel
theorem dX3_grease_6 : decode cX3_grease 6 = .ok (.invokevirtual 42, 3) := by decide +kernel
theorem dX3_grease_9 : decode cX3_grease 9 = .ok (.istore_n 1, 1) := by decide +kernel
theorem dX3_grease_10 : decode cX3_grease 10 = .ok (.aload_n 0, 1) := by decide +kernel
theorem dX3_grease_11 : decode cX3_grease 11 = .ok (.getfield 56, 3) := by decide +kernel
theorem dX3_grease_14 : decode cX3_grease 14 = .ok (.iconst 0, 1) := by decide +kernel
theorem dX3_grease_15 : decode cX3_grease 15 = .ok (.aaload, 1) := by decide +kernel
theorem dX3_grease_16 : decode cX3_grease 16 = .ok (.iload_n 1, 1) := by decide +kernel
theorem dX3_grease_17 : decode cX3_grease 17 = .ok (.iaload, 1) := by decide +kernel
theorem dX3_grease_18 : decode cX3_grease 18 = .ok (.aload_n 0, 1) := by decide +kernel
theorem dX3_grease_19 : decode cX3_grease 19 = .ok (.getfield 56, 3) := by decide +kernel
theorem dX3_grease_22 : decode cX3_grease 22 = .ok (.iconst 1, 1) := by decide +kernel
theorem dX3_grease_23 : decode cX3_grease 23 = .ok (.aaload, 1) := by decide +kernel
theorem dX3_grease_24 : decode cX3_grease 24 = .ok (.iload_n 1, 1) := by decide +kernel
theorem dX3_grease_25 : decode cX3_grease 25 = .ok (.iaload, 1) := by decide +kernel
theorem dX3_grease_26 : decode cX3_grease 26 = .ok (.iadd, 1) := by decide +kernel
theorem dX3_grease_27 : decode cX3_grease 27 = .ok (.istore_n 2, 1) := by decide +kernel
theorem dX3_grease_28 : decode cX3_grease 28 = .ok (.aload_n 0, 1) := by decide +kernel
theorem dX3_grease_29 : decode cX3_grease 29 = .ok (.getfield 56, 3) := by decide +kernel
theorem dX3_grease_32 : decode cX3_grease 32 = .ok (.iconst 0, 1) := by decide +kernel
theorem dX3_grease_33 : decode cX3_grease 33 = .ok (.aaload, 1) := by decide +kernel
theorem dX3_grease_34 : decode cX3_grease 34 = .ok (.iload_n 1, 1) := by decide +kernel
theorem dX3_grease_35 : decode cX3_grease 35 = .ok (.iconst 0, 1) := by decide +kernel
theorem dX3_grease_36 : decode cX3_grease 36 = .ok (.iastore, 1) := by decide +kernel
theorem dX3_grease_37 : decode cX3_grease 37 = .ok (.aload_n 0, 1) := by decide +kernel
theorem dX3_grease_38 : decode cX3_grease 38 = .ok (.getfield 56, 3) := by decide +kernel
theorem dX3_grease_41 : decode cX3_grease 41 = .ok (.iconst 1, 1) := by decide +kernel
theorem dX3_grease_42 : decode cX3_grease 42 = .ok (.aaload, 1) := by decide +kernel
theorem dX3_grease_43 : decode cX3_grease 43 = .ok (.iload_n 1, 1) := by decide +kernel
theorem dX3_grease_44 : decode cX3_grease 44 = .ok (.iconst 0, 1) := by decide +kernel
theorem dX3_grease_45 : decode cX3_grease 45 = .ok (.iastore, 1) := by decide +kernel
theorem dX3_grease_46 : decode cX3_grease 46 = .ok (.aload_n 0, 1) := by decide +kernel
theorem dX3_grease_47 : decode cX3_grease 47 = .ok (.dup, 1) := by decide +kernel
theorem dX3_grease_48 : decode cX3_grease 48 = .ok (.getfield 87, 3) := by decide +kernel
theorem dX3_grease_51 : decode cX3_grease 51 = .ok (.ldc2_w 169, 3) := by decide +kernel
theorem dX3_grease_54 : decode cX3_grease 54 = .ok (.ladd, 1) := by decide +kernel
theorem dX3_grease_55 : decode cX3_grease 55 = .ok (.putfield 87, 3) := by decide +kernel
theorem dX3_grease_58 : decode cX3_grease 58 = .ok (.aload_n 0, 1) := by decide +kernel
theorem dX3_grease_59 : decode cX3_grease 59 = .ok (.getfield 18, 3) := by decide +kernel
theorem dX3_grease_62 : decode cX3_grease 62 = .ok (.aload_n 0, 1) := by decide +kernel
theorem dX3_grease_63 : decode cX3_grease 63 = .ok (.getfield 39, 3) := by decide +kernel
theorem dX3_grease_66 : decode cX3_grease 66 = .ok (.iload_n 1, 1) := by decide +kernel
theorem dX3_grease_67 : decode cX3_grease 67 = .ok (.invokevirtual 171, 3) := by decide +kernel
theorem dX3_grease_70 : decode cX3_grease 70 = .ok (.iload_n 2, 1) := by decide +kernel
theorem dX3_grease_71 : decode cX3_grease 71 = .ok (.if_icmp .ne 7, 3) := by decide +kernel
theorem dX3_grease_74 : decode cX3_grease 74 = .ok (.iconst 1, 1) := by decide +kernel
theorem dX3_grease_75 : decode cX3_grease 75 = .ok (.goto 4, 3) := by decide +kernel
theorem dX3_grease_78 : decode cX3_grease 78 = .ok (.iconst 0, 1) := by decide +kernel
theorem dX3_grease_79 : decode cX3_grease 79 = .ok (.ireturn, 1) := by decide +kernel
theorem dX3_act_0 : decode cX3_act 0 = .ok (.aload_n 0, 1) := by decide +kernel
theorem dX3_act_1 : decode cX3_act 1 = .ok (.bipush 17, 2) := by decide +kernel
theorem dX3_act_3 : decode cX3_act 3 = .ok (.invokevirtual 42, 3) := by decide +kernel
theorem dX3_act_6 : decode cX3_act 6 = .ok (.tableswitch 144 0 15 #[78, 78, 78, 78, 83, 83, 88, 93, 98, 103, 108, 129, 129, 134, 134, 139], 78) := by decide +kernel
theorem dX3_act_84 : decode cX3_act 84 = .ok (.aload_n 0, 1) := by decide +kernel
theorem dX3_act_85 : decode cX3_act 85 = .ok (.invokevirtual 174, 3) := by decide +kernel
theorem dX3_act_88 : decode cX3_act 88 = .ok (.ireturn, 1) := by decide +kernel
theorem dX3_act_89 : decode cX3_act 89 = .ok (.aload_n 0, 1) := by decide +kernel
theorem dX3_act_90 : decode cX3_act 90 = .ok (.invokevirtual 176, 3) := by decide +kernel
theorem dX3_act_93 : decode cX3_act 93 = .ok (.ireturn, 1) := by decide +kernel
theorem dX3_act_94 : decode cX3_act 94 = .ok (.aload_n 0, 1) := by decide +kernel
theorem dX3_act_95 : decode cX3_act 95 = .ok (.invokevirtual 178, 3) := by decide +kernel
theorem dX3_act_98 : decode cX3_act 98 = .ok (.ireturn, 1) := by decide +kernel
theorem dX3_act_99 : decode cX3_act 99 = .ok (.aload_n 0, 1) := by decide +kernel
theorem dX3_act_100 : decode cX3_act 100 = .ok (.invokevirtual 180, 3) := by decide +kernel
theorem dX3_act_103 : decode cX3_act 103 = .ok (.ireturn, 1) := by decide +kernel
theorem dX3_act_104 : decode cX3_act 104 = .ok (.aload_n 0, 1) := by decide +kernel
theorem dX3_act_105 : decode cX3_act 105 = .ok (.invokevirtual 182, 3) := by decide +kernel
theorem dX3_act_108 : decode cX3_act 108 = .ok (.ireturn, 1) := by decide +kernel
theorem dX3_act_109 : decode cX3_act 109 = .ok (.aload_n 0, 1) := by decide +kernel
theorem dX3_act_110 : decode cX3_act 110 = .ok (.invokevirtual 184, 3) := by decide +kernel
theorem dX3_act_113 : decode cX3_act 113 = .ok (.ireturn, 1) := by decide +kernel
theorem dX3_act_114 : decode cX3_act 114 = .ok (.aload_n 0, 1) := by decide +kernel
theorem dX3_act_115 : decode cX3_act 115 = .ok (.iconst 3, 1) := by decide +kernel
theorem dX3_act_116 : decode cX3_act 116 = .ok (.invokevirtual 42, 3) := by decide +kernel
theorem dX3_act_119 : decode cX3_act 119 = .ok (.ifCond .gt 10, 3) := by decide +kernel
theorem dX3_act_122 : decode cX3_act 122 = .ok (.aload_n 0, 1) := by decide +kernel
theorem dX3_act_123 : decode cX3_act 123 = .ok (.invokevirtual 186, 3) := by decide +kernel
theorem dX3_act_126 : decode cX3_act 126 = .ok (.ifCond .eq 7, 3) := by decide +kernel
theorem dX3_act_129 : decode cX3_act 129 = .ok (.iconst 1, 1) := by decide +kernel
theorem dX3_act_130 : decode cX3_act 130 = .ok (.goto 4, 3) := by decide +kernel
theorem dX3_act_133 : decode cX3_act 133 = .ok (.iconst 0, 1) := by decide +kernel
theorem dX3_act_134 : decode cX3_act 134 = .ok (.ireturn, 1) := by decide +kernel
theorem dX3_act_135 : decode cX3_act 135 = .ok (.aload_n 0, 1) := by decide +kernel
theorem dX3_act_136 : decode cX3_act 136 = .ok (.invokevirtual 188, 3) := by decide +kernel
theorem dX3_act_139 : decode cX3_act 139 = .ok (.ireturn, 1) := by decide +kernel
theorem dX3_act_140 : decode cX3_act 140 = .ok (.aload_n 0, 1) := by decide +kernel
theorem dX3_act_141 : decode cX3_act 141 = .ok (.invokevirtual 191, 3) := by decide +kernel
theorem dX3_act_144 : decode cX3_act 144 = .ok (.ireturn, 1) := by decide +kernel
theorem dX3_act_145 : decode cX3_act 145 = .ok (.aload_n 0, 1) := by decide +kernel
theorem dX3_act_146 : decode cX3_act 146 = .ok (.invokevirtual 193, 3) := by decide +kernel
theorem dX3_act_149 : decode cX3_act 149 = .ok (.ireturn, 1) := by decide +kernel
theorem dX3_act_150 : decode cX3_act 150 = .ok (.aload_n 0, 1) := by decide +kernel
theorem dX3_act_151 : decode cX3_act 151 = .ok (.iconst 2, 1) := by decide +kernel
theorem dX3_act_152 : decode cX3_act 152 = .ok (.invokevirtual 42, 3) := by decide +kernel
theorem dX3_act_155 : decode cX3_act 155 = .ok (.ifCond .eq 10, 3) := by decide +kernel
theorem dX3_act_158 : decode cX3_act 158 = .ok (.aload_n 0, 1) := by decide +kernel
theorem dX3_act_159 : decode cX3_act 159 = .ok (.invokevirtual 195, 3) := by decide +kernel
theorem dX3_act_162 : decode cX3_act 162 = .ok (.ifCond .eq 7, 3) := by decide +kernel
theorem dX3_act_165 : decode cX3_act 165 = .ok (.iconst 1, 1) := by decide +kernel
theorem dX3_act_166 : decode cX3_act 166 = .ok (.goto 4, 3) := by decide +kernel
theorem dX3_act_169 : decode cX3_act 169 = .ok (.iconst 0, 1) := by decide +kernel
theorem dX3_act_170 : decode cX3_act 170 = .ok (.ireturn, 1) := by decide +kernel
theorem dJ9_abs_0f7a4_0 : decode cJ9_abs_0f7a4 0 = .ok (.iload_n 0, 1) := by decide +kernel
theorem dJ9_abs_0f7a4_1 : decode cJ9_abs_0f7a4 1 = .ok (.ifCond .ge 8, 3) := by decide +kernel
theorem dJ9_abs_0f7a4_4 : decode cJ9_abs_0f7a4 4 = .ok (.iload_n 0, 1) := by decide +kernel
theorem dJ9_abs_0f7a4_5 : decode cJ9_abs_0f7a4 5 = .ok (.ineg, 1) := by decide +kernel
theorem dJ9_abs_0f7a4_6 : decode cJ9_abs_0f7a4 6 = .ok (.goto 4, 3) := by decide +kernel
theorem dJ9_abs_0f7a4_9 : decode cJ9_abs_0f7a4 9 = .ok (.iload_n 0, 1) := by decide +kernel
theorem dJ9_abs_0f7a4_10 : decode cJ9_abs_0f7a4 10 = .ok (.ireturn, 1) := by decide +kernel
theorem dJ9_min_7cf53_0 : decode cJ9_min_7cf53 0 = .ok (.iload_n 0, 1) := by decide +kernel
theorem dJ9_min_7cf53_1 : decode cJ9_min_7cf53 1 = .ok (.iload_n 1, 1) := by decide +kernel
theorem dJ9_min_7cf53_2 : decode cJ9_min_7cf53 2 = .ok (.if_icmp .gt 7, 3) := by decide +kernel
theorem dJ9_min_7cf53_5 : decode cJ9_min_7cf53 5 = .ok (.iload_n 0, 1) := by decide +kernel
theorem dJ9_min_7cf53_6 : decode cJ9_min_7cf53 6 = .ok (.goto 4, 3) := by decide +kernel
theorem dJ9_min_7cf53_9 : decode cJ9_min_7cf53 9 = .ok (.iload_n 1, 1) := by decide +kernel
theorem dJ9_min_7cf53_10 : decode cJ9_min_7cf53 10 = .ok (.ireturn, 1) := by decide +kernel
theorem dL_below_0 : decode cL_below 0 = .ok (.iload_n 0, 1) := by decide +kernel
theorem dL_below_1 : decode cL_below 1 = .ok (.ldc 7, 2) := by decide +kernel
theorem dL_below_3 : decode cL_below 3 = .ok (.iand, 1) := by decide +kernel
theorem dL_below_4 : decode cL_below 4 = .ok (.iload_n 1, 1) := by decide +kernel
theorem dL_below_5 : decode cL_below 5 = .ok (.irem, 1) := by decide +kernel
theorem dL_below_6 : decode cL_below 6 = .ok (.ireturn, 1) := by decide +kernel
theorem dL_cell_0 : decode cL_cell 0 = .ok (.iload_n 1, 1) := by decide +kernel
theorem dL_cell_1 : decode cL_cell 1 = .ok (.aload_n 0, 1) := by decide +kernel
theorem dL_cell_2 : decode cL_cell 2 = .ok (.arraylength, 1) := by decide +kernel
theorem dL_cell_3 : decode cL_cell 3 = .ok (.if_icmp .ge 9, 3) := by decide +kernel
theorem dL_cell_6 : decode cL_cell 6 = .ok (.aload_n 0, 1) := by decide +kernel
theorem dL_cell_7 : decode cL_cell 7 = .ok (.iload_n 1, 1) := by decide +kernel
theorem dL_cell_8 : decode cL_cell 8 = .ok (.iaload, 1) := by decide +kernel
theorem dL_cell_9 : decode cL_cell 9 = .ok (.goto 9, 3) := by decide +kernel
theorem dL_cell_12 : decode cL_cell 12 = .ok (.ldc 8, 2) := by decide +kernel
theorem dL_cell_14 : decode cL_cell 14 = .ok (.iload_n 1, 1) := by decide +kernel
theorem dL_cell_15 : decode cL_cell 15 = .ok (.iconst 3, 1) := by decide +kernel
theorem dL_cell_16 : decode cL_cell 16 = .ok (.iadd, 1) := by decide +kernel
theorem dL_cell_17 : decode cL_cell 17 = .ok (.imul, 1) := by decide +kernel
theorem dL_cell_18 : decode cL_cell 18 = .ok (.ireturn, 1) := by decide +kernel
theorem dL_law_0 : decode cL_law 0 = .ok (.iconst 0, 1) := by decide +kernel
theorem dL_law_1 : decode cL_law 1 = .ok (.istore_n 1, 1) := by decide +kernel
theorem dL_law_2 : decode cL_law 2 = .ok (.iload_n 1, 1) := by decide +kernel
theorem dL_law_3 : decode cL_law 3 = .ok (.iconst 3, 1) := by decide +kernel
theorem dL_law_4 : decode cL_law 4 = .ok (.if_icmp .ge 581, 3) := by decide +kernel
theorem dL_law_7 : decode cL_law 7 = .ok (.new 9, 3) := by decide +kernel
theorem dL_law_10 : decode cL_law 10 = .ok (.dup, 1) := by decide +kernel
theorem dL_law_11 : decode cL_law 11 = .ok (.invokespecial 11, 3) := by decide +kernel
theorem dL_law_14 : decode cL_law 14 = .ok (.astore_n 2, 1) := by decide +kernel
theorem dL_law_15 : decode cL_law 15 = .ok (.new 12, 3) := by decide +kernel
theorem dL_law_18 : decode cL_law 18 = .ok (.dup, 1) := by decide +kernel
theorem dL_law_19 : decode cL_law 19 = .ok (.aload_n 2, 1) := by decide +kernel
theorem dL_law_20 : decode cL_law 20 = .ok (.aload_n 0, 1) := by decide +kernel
theorem dL_law_21 : decode cL_law 21 = .ok (.bipush 31, 2) := by decide +kernel
theorem dL_law_23 : decode cL_law 23 = .ok (.iload_n 1, 1) := by decide +kernel
theorem dL_law_24 : decode cL_law 24 = .ok (.imul, 1) := by decide +kernel
theorem dL_law_25 : decode cL_law 25 = .ok (.bipush 7, 2) := by decide +kernel
theorem dL_law_27 : decode cL_law 27 = .ok (.iadd, 1) := by decide +kernel
theorem dL_law_28 : decode cL_law 28 = .ok (.invokespecial 14, 3) := by decide +kernel
theorem dL_law_31 : decode cL_law 31 = .ok (.astore_n 3, 1) := by decide +kernel
theorem dL_law_32 : decode cL_law 32 = .ok (.new 12, 3) := by decide +kernel
theorem dL_law_35 : decode cL_law 35 = .ok (.dup, 1) := by decide +kernel
theorem dL_law_36 : decode cL_law 36 = .ok (.aload_n 2, 1) := by decide +kernel
theorem dL_law_37 : decode cL_law 37 = .ok (.aload_n 0, 1) := by decide +kernel
theorem dL_law_38 : decode cL_law 38 = .ok (.bipush 31, 2) := by decide +kernel
theorem dL_law_40 : decode cL_law 40 = .ok (.iload_n 1, 1) := by decide +kernel
theorem dL_law_41 : decode cL_law 41 = .ok (.imul, 1) := by decide +kernel
theorem dL_law_42 : decode cL_law 42 = .ok (.bipush 111, 2) := by decide +kernel
theorem dL_law_44 : decode cL_law 44 = .ok (.iadd, 1) := by decide +kernel
theorem dL_law_45 : decode cL_law 45 = .ok (.invokespecial 14, 3) := by decide +kernel
theorem dL_law_48 : decode cL_law 48 = .ok (.astore 4, 2) := by decide +kernel
theorem dL_law_50 : decode cL_law 50 = .ok (.aload_n 3, 1) := by decide +kernel
theorem dL_law_51 : decode cL_law 51 = .ok (.iconst 0, 1) := by decide +kernel
theorem dL_law_52 : decode cL_law 52 = .ok (.invokevirtual 17, 3) := by decide +kernel
theorem dL_law_55 : decode cL_law 55 = .ok (.ifCond .eq 12, 3) := by decide +kernel
theorem dL_law_58 : decode cL_law 58 = .ok (.aload 4, 2) := by decide +kernel
theorem dL_law_60 : decode cL_law 60 = .ok (.iconst 1, 1) := by decide +kernel
theorem dL_law_61 : decode cL_law 61 = .ok (.invokevirtual 17, 3) := by decide +kernel
theorem dL_law_64 : decode cL_law 64 = .ok (.ifCond .ne 5, 3) := by decide +kernel
theorem dL_law_67 : decode cL_law 67 = .ok (.iconst 0, 1) := by decide +kernel
theorem dL_law_68 : decode cL_law 68 = .ok (.ireturn, 1) := by decide +kernel
theorem dL_law_69 : decode cL_law 69 = .ok (.iconst 0, 1) := by decide +kernel
theorem dL_law_70 : decode cL_law 70 = .ok (.istore 5, 2) := by decide +kernel
theorem dL_law_72 : decode cL_law 72 = .ok (.iload 5, 2) := by decide +kernel
theorem dL_law_74 : decode cL_law 74 = .ok (.iconst 5, 1) := by decide +kernel
theorem dL_law_75 : decode cL_law 75 = .ok (.if_icmp .ge 26, 3) := by decide +kernel
theorem dL_law_78 : decode cL_law 78 = .ok (.aload_n 3, 1) := by decide +kernel
theorem dL_law_79 : decode cL_law 79 = .ok (.invokevirtual 21, 3) := by decide +kernel
theorem dL_law_82 : decode cL_law 82 = .ok (.ifCond .eq 11, 3) := by decide +kernel
theorem dL_law_85 : decode cL_law 85 = .ok (.aload 4, 2) := by decide +kernel
theorem dL_law_87 : decode cL_law 87 = .ok (.invokevirtual 21, 3) := by decide +kernel
theorem dL_law_90 : decode cL_law 90 = .ok (.ifCond .ne 5, 3) := by decide +kernel
theorem dL_law_93 : decode cL_law 93 = .ok (.iconst 0, 1) := by decide +kernel
theorem dL_law_94 : decode cL_law 94 = .ok (.ireturn, 1) := by decide +kernel
theorem dL_law_95 : decode cL_law 95 = .ok (.iinc 5 1, 3) := by decide +kernel
theorem dL_law_98 : decode cL_law 98 = .ok (.goto (-26), 3) := by decide +kernel
theorem dL_law_101 : decode cL_law 101 = .ok (.iconst 0, 1) := by decide +kernel
theorem dL_law_102 : decode cL_law 102 = .ok (.istore 5, 2) := by decide +kernel
theorem dL_law_104 : decode cL_law 104 = .ok (.iload 5, 2) := by decide +kernel
theorem dL_law_106 : decode cL_law 106 = .ok (.iconst 4, 1) := by decide +kernel
theorem dL_law_107 : decode cL_law 107 = .ok (.if_icmp .ge 472, 3) := by decide +kernel
theorem dL_law_110 : decode cL_law 110 = .ok (.aload_n 3, 1) := by decide +kernel
theorem dL_law_111 : decode cL_law 111 = .ok (.iconst 3, 1) := by decide +kernel
theorem dL_law_112 : decode cL_law 112 = .ok (.invokevirtual 25, 3) := by decide +kernel
theorem dL_law_115 : decode cL_law 115 = .ok (.ifCond .ne 12, 3) := by decide +kernel
theorem dL_law_118 : decode cL_law 118 = .ok (.aload_n 3, 1) := by decide +kernel
theorem dL_law_119 : decode cL_law 119 = .ok (.bipush 100, 2) := by decide +kernel
theorem dL_law_121 : decode cL_law 121 = .ok (.invokevirtual 25, 3) := by decide +kernel
theorem dL_law_124 : decode cL_law 124 = .ok (.goto 9, 3) := by decide +kernel
theorem dL_law_127 : decode cL_law 127 = .ok (.aload_n 3, 1) := by decide +kernel
theorem dL_law_128 : decode cL_law 128 = .ok (.bipush 10, 2) := by decide +kernel
theorem dL_law_130 : decode cL_law 130 = .ok (.invokevirtual 25, 3) := by decide +kernel
theorem dL_law_133 : decode cL_law 133 = .ok (.istore 6, 2) := by decide +kernel
theorem dL_law_135 : decode cL_law 135 = .ok (.aload_n 2, 1) := by decide +kernel
theorem dL_law_136 : decode cL_law 136 = .ok (.invokevirtual 29, 3) := by decide +kernel
theorem dL_law_139 : decode cL_law 139 = .ok (.lstore 7, 2) := by decide +kernel
theorem dL_law_141 : decode cL_law 141 = .ok (.aload_n 2, 1) := by decide +kernel
theorem dL_law_142 : decode cL_law 142 = .ok (.iconst 0, 1) := by decide +kernel
theorem dL_law_143 : decode cL_law 143 = .ok (.iconst 1, 1) := by decide +kernel
theorem dL_law_144 : decode cL_law 144 = .ok (.iload 6, 2) := by decide +kernel
theorem dL_law_146 : decode cL_law 146 = .ok (.invokevirtual 33, 3) := by decide +kernel
theorem dL_law_149 : decode cL_law 149 = .ok (.istore 9, 2) := by decide +kernel
theorem dL_law_151 : decode cL_law 151 = .ok (.iconst 2, 1) := by decide +kernel
theorem dL_law_152 : decode cL_law 152 = .ok (.newarray .double, 2) := by decide +kernel
theorem dL_law_154 : decode cL_law 154 = .ok (.dup, 1) := by decide +kernel
theorem dL_law_155 : decode cL_law 155 = .ok (.iconst 0, 1) := by decide +kernel
theorem dL_law_156 : decode cL_law 156 = .ok (.aload_n 2, 1) := by decide +kernel
theorem dL_law_157 : decode cL_law 157 = .ok (.iconst 0, 1) := by decide +kernel
theorem dL_law_158 : decode cL_law 158 = .ok (.iload 6, 2) := by decide +kernel
theorem dL_law_160 : decode cL_law 160 = .ok (.invokevirtual 37, 3) := by decide +kernel
theorem dL_law_163 : decode cL_law 163 = .ok (.dastore, 1) := by decide +kernel
theorem dL_law_164 : decode cL_law 164 = .ok (.dup, 1) := by decide +kernel
theorem dL_law_165 : decode cL_law 165 = .ok (.iconst 1, 1) := by decide +kernel
theorem dL_law_166 : decode cL_law 166 = .ok (.aload_n 2, 1) := by decide +kernel
theorem dL_law_167 : decode cL_law 167 = .ok (.iconst 1, 1) := by decide +kernel
theorem dL_law_168 : decode cL_law 168 = .ok (.iload 6, 2) := by decide +kernel
theorem dL_law_170 : decode cL_law 170 = .ok (.invokevirtual 37, 3) := by decide +kernel
theorem dL_law_173 : decode cL_law 173 = .ok (.dastore, 1) := by decide +kernel
theorem dL_law_174 : decode cL_law 174 = .ok (.astore 10, 2) := by decide +kernel
theorem dL_law_176 : decode cL_law 176 = .ok (.aload_n 3, 1) := by decide +kernel
theorem dL_law_177 : decode cL_law 177 = .ok (.aload_n 3, 1) := by decide +kernel
theorem dL_law_178 : decode cL_law 178 = .ok (.getfield 41, 3) := by decide +kernel
theorem dL_law_181 : decode cL_law 181 = .ok (.arraylength, 1) := by decide +kernel
theorem dL_law_182 : decode cL_law 182 = .ok (.invokevirtual 25, 3) := by decide +kernel
theorem dL_law_185 : decode cL_law 185 = .ok (.istore 11, 2) := by decide +kernel
theorem dL_law_187 : decode cL_law 187 = .ok (.aload_n 2, 1) := by decide +kernel
theorem dL_law_188 : decode cL_law 188 = .ok (.iconst 0, 1) := by decide +kernel
theorem dL_law_189 : decode cL_law 189 = .ok (.iload 11, 2) := by decide +kernel
theorem dL_law_191 : decode cL_law 191 = .ok (.invokevirtual 45, 3) := by decide +kernel
theorem dL_law_194 : decode cL_law 194 = .ok (.istore 12, 2) := by decide +kernel
theorem dL_law_196 : decode cL_law 196 = .ok (.aload_n 2, 1) := by decide +kernel
theorem dL_law_197 : decode cL_law 197 = .ok (.invokevirtual 29, 3) := by decide +kernel
theorem dL_law_200 : decode cL_law 200 = .ok (.lload 7, 2) := by decide +kernel
theorem dL_law_202 : decode cL_law 202 = .ok (.lcmp, 1) := by decide +kernel
theorem dL_law_203 : decode cL_law 203 = .ok (.ifCond .ne 49, 3) := by decide +kernel
theorem dL_law_206 : decode cL_law 206 = .ok (.aload 10, 2) := by decide +kernel
theorem dL_law_208 : decode cL_law 208 = .ok (.iload 9, 2) := by decide +kernel
theorem dL_law_210 : decode cL_law 210 = .ok (.daload, 1) := by decide +kernel
theorem dL_law_211 : decode cL_law 211 = .ok (.aload 10, 2) := by decide +kernel
theorem dL_law_213 : decode cL_law 213 = .ok (.iconst 1, 1) := by decide +kernel
theorem dL_law_214 : decode cL_law 214 = .ok (.iload 9, 2) := by decide +kernel
theorem dL_law_216 : decode cL_law 216 = .ok (.isub, 1) := by decide +kernel
theorem dL_law_217 : decode cL_law 217 = .ok (.daload, 1) := by decide +kernel
theorem dL_law_218 : decode cL_law 218 = .ok (.dcmp .l, 1) := by decide +kernel
theorem dL_law_219 : decode cL_law 219 = .ok (.ifCond .gt 33, 3) := by decide +kernel
theorem dL_law_222 : decode cL_law 222 = .ok (.aload 10, 2) := by decide +kernel
theorem dL_law_224 : decode cL_law 224 = .ok (.iconst 0, 1) := by decide +kernel
theorem dL_law_225 : decode cL_law 225 = .ok (.daload, 1) := by decide +kernel
theorem dL_law_226 : decode cL_law 226 = .ok (.aload 10, 2) := by decide +kernel
theorem dL_law_228 : decode cL_law 228 = .ok (.iconst 1, 1) := by decide +kernel
theorem dL_law_229 : decode cL_law 229 = .ok (.daload, 1) := by decide +kernel
theorem dL_law_230 : decode cL_law 230 = .ok (.dcmp .l, 1) := by decide +kernel
theorem dL_law_231 : decode cL_law 231 = .ok (.ifCond .ne 8, 3) := by decide +kernel
theorem dL_law_234 : decode cL_law 234 = .ok (.iload 9, 2) := by decide +kernel
theorem dL_law_236 : decode cL_law 236 = .ok (.ifCond .ne 16, 3) := by decide +kernel
theorem dL_law_239 : decode cL_law 239 = .ok (.iload 12, 2) := by decide +kernel
theorem dL_law_241 : decode cL_law 241 = .ok (.iconst 1, 1) := by decide +kernel
theorem dL_law_242 : decode cL_law 242 = .ok (.if_icmp .lt 10, 3) := by decide +kernel
theorem dL_law_245 : decode cL_law 245 = .ok (.iload 12, 2) := by decide +kernel
theorem dL_law_247 : decode cL_law 247 = .ok (.bipush 9, 2) := by decide +kernel
theorem dL_law_249 : decode cL_law 249 = .ok (.if_icmp .le 5, 3) := by decide +kernel
theorem dL_law_252 : decode cL_law 252 = .ok (.iconst 0, 1) := by decide +kernel
theorem dL_law_253 : decode cL_law 253 = .ok (.ireturn, 1) := by decide +kernel
theorem dL_law_254 : decode cL_law 254 = .ok (.iconst 0, 1) := by decide +kernel
theorem dL_law_255 : decode cL_law 255 = .ok (.istore 13, 2) := by decide +kernel
theorem dL_law_257 : decode cL_law 257 = .ok (.iload 13, 2) := by decide +kernel
theorem dL_law_259 : decode cL_law 259 = .ok (.iconst 2, 1) := by decide +kernel
theorem dL_law_260 : decode cL_law 260 = .ok (.if_icmp .ge 203, 3) := by decide +kernel
theorem dL_law_263 : decode cL_law 263 = .ok (.aload_n 2, 1) := by decide +kernel
theorem dL_law_264 : decode cL_law 264 = .ok (.iload 13, 2) := by decide +kernel
theorem dL_law_266 : decode cL_law 266 = .ok (.invokevirtual 49, 3) := by decide +kernel
theorem dL_law_269 : decode cL_law 269 = .ok (.dstore 14, 2) := by decide +kernel
theorem dL_law_271 : decode cL_law 271 = .ok (.iconst 4, 1) := by decide +kernel
theorem dL_law_272 : decode cL_law 272 = .ok (.newarray .int, 2) := by decide +kernel
theorem dL_law_274 : decode cL_law 274 = .ok (.dup, 1) := by decide +kernel
theorem dL_law_275 : decode cL_law 275 = .ok (.iconst 0, 1) := by decide +kernel
theorem dL_law_276 : decode cL_law 276 = .ok (.aload_n 2, 1) := by decide +kernel
theorem dL_law_277 : decode cL_law 277 = .ok (.iload 13, 2) := by decide +kernel
theorem dL_law_279 : decode cL_law 279 = .ok (.iload 6, 2) := by decide +kernel
theorem dL_law_281 : decode cL_law 281 = .ok (.iconst 0, 1) := by decide +kernel
theorem dL_law_282 : decode cL_law 282 = .ok (.invokevirtual 53, 3) := by decide +kernel
theorem dL_law_285 : decode cL_law 285 = .ok (.iastore, 1) := by decide +kernel
theorem dL_law_286 : decode cL_law 286 = .ok (.dup, 1) := by decide +kernel
theorem dL_law_287 : decode cL_law 287 = .ok (.iconst 1, 1) := by decide +kernel
theorem dL_law_288 : decode cL_law 288 = .ok (.aload_n 2, 1) := by decide +kernel
theorem dL_law_289 : decode cL_law 289 = .ok (.iload 13, 2) := by decide +kernel
theorem dL_law_291 : decode cL_law 291 = .ok (.iload 6, 2) := by decide +kernel
theorem dL_law_293 : decode cL_law 293 = .ok (.iconst 1, 1) := by decide +kernel
theorem dL_law_294 : decode cL_law 294 = .ok (.invokevirtual 53, 3) := by decide +kernel
theorem dL_law_297 : decode cL_law 297 = .ok (.iastore, 1) := by decide +kernel
theorem dL_law_298 : decode cL_law 298 = .ok (.dup, 1) := by decide +kernel
theorem dL_law_299 : decode cL_law 299 = .ok (.iconst 2, 1) := by decide +kernel
theorem dL_law_300 : decode cL_law 300 = .ok (.aload_n 2, 1) := by decide +kernel
theorem dL_law_301 : decode cL_law 301 = .ok (.iload 13, 2) := by decide +kernel
theorem dL_law_303 : decode cL_law 303 = .ok (.iload 6, 2) := by decide +kernel
theorem dL_law_305 : decode cL_law 305 = .ok (.iconst 2, 1) := by decide +kernel
theorem dL_law_306 : decode cL_law 306 = .ok (.invokevirtual 53, 3) := by decide +kernel
theorem dL_law_309 : decode cL_law 309 = .ok (.iastore, 1) := by decide +kernel
theorem dL_law_310 : decode cL_law 310 = .ok (.dup, 1) := by decide +kernel
theorem dL_law_311 : decode cL_law 311 = .ok (.iconst 3, 1) := by decide +kernel
theorem dL_law_312 : decode cL_law 312 = .ok (.aload_n 2, 1) := by decide +kernel
theorem dL_law_313 : decode cL_law 313 = .ok (.iload 13, 2) := by decide +kernel
theorem dL_law_315 : decode cL_law 315 = .ok (.iload 6, 2) := by decide +kernel
theorem dL_law_317 : decode cL_law 317 = .ok (.iconst 3, 1) := by decide +kernel
theorem dL_law_318 : decode cL_law 318 = .ok (.invokevirtual 53, 3) := by decide +kernel
theorem dL_law_321 : decode cL_law 321 = .ok (.iastore, 1) := by decide +kernel
theorem dL_law_322 : decode cL_law 322 = .ok (.astore 16, 2) := by decide +kernel
theorem dL_law_324 : decode cL_law 324 = .ok (.iconst 4, 1) := by decide +kernel
theorem dL_law_325 : decode cL_law 325 = .ok (.newarray .int, 2) := by decide +kernel
theorem dL_law_327 : decode cL_law 327 = .ok (.dup, 1) := by decide +kernel
theorem dL_law_328 : decode cL_law 328 = .ok (.iconst 0, 1) := by decide +kernel
theorem dL_law_329 : decode cL_law 329 = .ok (.aload_n 2, 1) := by decide +kernel
theorem dL_law_330 : decode cL_law 330 = .ok (.iload 13, 2) := by decide +kernel
theorem dL_law_332 : decode cL_law 332 = .ok (.iconst 2, 1) := by decide +kernel
theorem dL_law_333 : decode cL_law 333 = .ok (.invokevirtual 56, 3) := by decide +kernel
theorem dL_law_336 : decode cL_law 336 = .ok (.iastore, 1) := by decide +kernel
theorem dL_law_337 : decode cL_law 337 = .ok (.dup, 1) := by decide +kernel
theorem dL_law_338 : decode cL_law 338 = .ok (.iconst 1, 1) := by decide +kernel
theorem dL_law_339 : decode cL_law 339 = .ok (.aload_n 2, 1) := by decide +kernel
theorem dL_law_340 : decode cL_law 340 = .ok (.iload 13, 2) := by decide +kernel
theorem dL_law_342 : decode cL_law 342 = .ok (.iconst 3, 1) := by decide +kernel
theorem dL_law_343 : decode cL_law 343 = .ok (.invokevirtual 56, 3) := by decide +kernel
theorem dL_law_346 : decode cL_law 346 = .ok (.iastore, 1) := by decide +kernel
theorem dL_law_347 : decode cL_law 347 = .ok (.dup, 1) := by decide +kernel
theorem dL_law_348 : decode cL_law 348 = .ok (.iconst 2, 1) := by decide +kernel
theorem dL_law_349 : decode cL_law 349 = .ok (.aload_n 2, 1) := by decide +kernel
theorem dL_law_350 : decode cL_law 350 = .ok (.iload 13, 2) := by decide +kernel
theorem dL_law_352 : decode cL_law 352 = .ok (.iconst 4, 1) := by decide +kernel
theorem dL_law_353 : decode cL_law 353 = .ok (.invokevirtual 56, 3) := by decide +kernel
theorem dL_law_356 : decode cL_law 356 = .ok (.iastore, 1) := by decide +kernel
theorem dL_law_357 : decode cL_law 357 = .ok (.dup, 1) := by decide +kernel
theorem dL_law_358 : decode cL_law 358 = .ok (.iconst 3, 1) := by decide +kernel
theorem dL_law_359 : decode cL_law 359 = .ok (.aload_n 2, 1) := by decide +kernel
theorem dL_law_360 : decode cL_law 360 = .ok (.iload 13, 2) := by decide +kernel
theorem dL_law_362 : decode cL_law 362 = .ok (.bipush 6, 2) := by decide +kernel
theorem dL_law_364 : decode cL_law 364 = .ok (.invokevirtual 56, 3) := by decide +kernel
theorem dL_law_367 : decode cL_law 367 = .ok (.iastore, 1) := by decide +kernel
theorem dL_law_368 : decode cL_law 368 = .ok (.astore 17, 2) := by decide +kernel
theorem dL_law_370 : decode cL_law 370 = .ok (.aload_n 2, 1) := by decide +kernel
theorem dL_law_371 : decode cL_law 371 = .ok (.iload 13, 2) := by decide +kernel
theorem dL_law_373 : decode cL_law 373 = .ok (.iload 6, 2) := by decide +kernel
theorem dL_law_375 : decode cL_law 375 = .ok (.invokevirtual 59, 3) := by decide +kernel
theorem dL_law_378 : decode cL_law 378 = .ok (.aload 16, 2) := by decide +kernel
theorem dL_law_380 : decode cL_law 380 = .ok (.iconst 0, 1) := by decide +kernel
theorem dL_law_381 : decode cL_law 381 = .ok (.iaload, 1) := by decide +kernel
theorem dL_law_382 : decode cL_law 382 = .ok (.if_icmp .ne 21, 3) := by decide +kernel
theorem dL_law_385 : decode cL_law 385 = .ok (.aload_n 2, 1) := by decide +kernel
theorem dL_law_386 : decode cL_law 386 = .ok (.iload 13, 2) := by decide +kernel
theorem dL_law_388 : decode cL_law 388 = .ok (.invokevirtual 49, 3) := by decide +kernel
theorem dL_law_391 : decode cL_law 391 = .ok (.dload 14, 2) := by decide +kernel
theorem dL_law_393 : decode cL_law 393 = .ok (.aload 10, 2) := by decide +kernel
theorem dL_law_395 : decode cL_law 395 = .ok (.iload 13, 2) := by decide +kernel
theorem dL_law_397 : decode cL_law 397 = .ok (.daload, 1) := by decide +kernel
theorem dL_law_398 : decode cL_law 398 = .ok (.dadd, 1) := by decide +kernel
theorem dL_law_399 : decode cL_law 399 = .ok (.dcmp .l, 1) := by decide +kernel
theorem dL_law_400 : decode cL_law 400 = .ok (.ifCond .eq 5, 3) := by decide +kernel
theorem dL_law_403 : decode cL_law 403 = .ok (.iconst 0, 1) := by decide +kernel
theorem dL_law_404 : decode cL_law 404 = .ok (.ireturn, 1) := by decide +kernel
theorem dL_law_405 : decode cL_law 405 = .ok (.iconst 0, 1) := by decide +kernel
theorem dL_law_406 : decode cL_law 406 = .ok (.istore 18, 2) := by decide +kernel
theorem dL_law_408 : decode cL_law 408 = .ok (.iload 18, 2) := by decide +kernel
theorem dL_law_410 : decode cL_law 410 = .ok (.iconst 4, 1) := by decide +kernel
theorem dL_law_411 : decode cL_law 411 = .ok (.if_icmp .ge 46, 3) := by decide +kernel
theorem dL_law_414 : decode cL_law 414 = .ok (.aload_n 2, 1) := by decide +kernel
theorem dL_law_415 : decode cL_law 415 = .ok (.iload 13, 2) := by decide +kernel
theorem dL_law_417 : decode cL_law 417 = .ok (.iload 18, 2) := by decide +kernel
theorem dL_law_419 : decode cL_law 419 = .ok (.iconst 3, 1) := by decide +kernel
theorem dL_law_420 : decode cL_law 420 = .ok (.if_icmp .ne 8, 3) := by decide +kernel
theorem dL_law_423 : decode cL_law 423 = .ok (.bipush 6, 2) := by decide +kernel
theorem dL_law_425 : decode cL_law 425 = .ok (.goto 7, 3) := by decide +kernel
theorem dL_law_428 : decode cL_law 428 = .ok (.iconst 2, 1) := by decide +kernel
theorem dL_law_429 : decode cL_law 429 = .ok (.iload 18, 2) := by decide +kernel
theorem dL_law_431 : decode cL_law 431 = .ok (.iadd, 1) := by decide +kernel
theorem dL_law_432 : decode cL_law 432 = .ok (.invokevirtual 56, 3) := by decide +kernel
theorem dL_law_435 : decode cL_law 435 = .ok (.aload 17, 2) := by decide +kernel
theorem dL_law_437 : decode cL_law 437 = .ok (.iload 18, 2) := by decide +kernel
theorem dL_law_439 : decode cL_law 439 = .ok (.iaload, 1) := by decide +kernel
theorem dL_law_440 : decode cL_law 440 = .ok (.aload 16, 2) := by decide +kernel
theorem dL_law_442 : decode cL_law 442 = .ok (.iload 18, 2) := by decide +kernel
theorem dL_law_444 : decode cL_law 444 = .ok (.iaload, 1) := by decide +kernel
theorem dL_law_445 : decode cL_law 445 = .ok (.iadd, 1) := by decide +kernel
theorem dL_law_446 : decode cL_law 446 = .ok (.if_icmp .eq 5, 3) := by decide +kernel
theorem dL_law_449 : decode cL_law 449 = .ok (.iconst 0, 1) := by decide +kernel
theorem dL_law_450 : decode cL_law 450 = .ok (.ireturn, 1) := by decide +kernel
theorem dL_law_451 : decode cL_law 451 = .ok (.iinc 18 1, 3) := by decide +kernel
theorem dL_law_454 : decode cL_law 454 = .ok (.goto (-46), 3) := by decide +kernel
theorem dL_law_457 : decode cL_law 457 = .ok (.iinc 13 1, 3) := by decide +kernel
theorem dL_law_460 : decode cL_law 460 = .ok (.goto (-203), 3) := by decide +kernel
theorem dL_law_463 : decode cL_law 463 = .ok (.iconst 1, 1) := by decide +kernel
theorem dL_law_464 : decode cL_law 464 = .ok (.istore 13, 2) := by decide +kernel
theorem dL_law_466 : decode cL_law 466 = .ok (.iconst 0, 1) := by decide +kernel
theorem dL_law_467 : decode cL_law 467 = .ok (.istore 14, 2) := by decide +kernel
theorem dL_law_469 : decode cL_law 469 = .ok (.iload 14, 2) := by decide +kernel
theorem dL_law_471 : decode cL_law 471 = .ok (.iload 11, 2) := by decide +kernel
theorem dL_law_473 : decode cL_law 473 = .ok (.if_icmp .ge 16, 3) := by decide +kernel
theorem dL_law_476 : decode cL_law 476 = .ok (.iload 13, 2) := by decide +kernel
theorem dL_law_478 : decode cL_law 478 = .ok (.bipush 10, 2) := by decide +kernel
theorem dL_law_480 : decode cL_law 480 = .ok (.imul, 1) := by decide +kernel
theorem dL_law_481 : decode cL_law 481 = .ok (.istore 13, 2) := by decide +kernel
theorem dL_law_483 : decode cL_law 483 = .ok (.iinc 14 1, 3) := by decide +kernel
theorem dL_law_486 : decode cL_law 486 = .ok (.goto (-17), 3) := by decide +kernel
theorem dL_law_489 : decode cL_law 489 = .ok (.aload_n 2, 1) := by decide +kernel
theorem dL_law_490 : decode cL_law 490 = .ok (.iconst 0, 1) := by decide +kernel
theorem dL_law_491 : decode cL_law 491 = .ok (.iload 11, 2) := by decide +kernel
theorem dL_law_493 : decode cL_law 493 = .ok (.invokevirtual 45, 3) := by decide +kernel
theorem dL_law_496 : decode cL_law 496 = .ok (.istore 12, 2) := by decide +kernel
theorem dL_law_498 : decode cL_law 498 = .ok (.aload_n 2, 1) := by decide +kernel
theorem dL_law_499 : decode cL_law 499 = .ok (.iconst 0, 1) := by decide +kernel
theorem dL_law_500 : decode cL_law 500 = .ok (.iload 12, 2) := by decide +kernel
theorem dL_law_502 : decode cL_law 502 = .ok (.iload 13, 2) := by decide +kernel
theorem dL_law_504 : decode cL_law 504 = .ok (.imul, 1) := by decide +kernel
theorem dL_law_505 : decode cL_law 505 = .ok (.iconst 0, 1) := by decide +kernel
theorem dL_law_506 : decode cL_law 506 = .ok (.invokevirtual 53, 3) := by decide +kernel
theorem dL_law_509 : decode cL_law 509 = .ok (.istore 14, 2) := by decide +kernel
theorem dL_law_511 : decode cL_law 511 = .ok (.iconst 1, 1) := by decide +kernel
theorem dL_law_512 : decode cL_law 512 = .ok (.istore 15, 2) := by decide +kernel
theorem dL_law_514 : decode cL_law 514 = .ok (.iload 15, 2) := by decide +kernel
theorem dL_law_516 : decode cL_law 516 = .ok (.bipush 10, 2) := by decide +kernel
theorem dL_law_518 : decode cL_law 518 = .ok (.if_icmp .ge 45, 3) := by decide +kernel
theorem dL_law_521 : decode cL_law 521 = .ok (.aload_n 2, 1) := by decide +kernel
theorem dL_law_522 : decode cL_law 522 = .ok (.iconst 0, 1) := by decide +kernel
theorem dL_law_523 : decode cL_law 523 = .ok (.iload 15, 2) := by decide +kernel
theorem dL_law_525 : decode cL_law 525 = .ok (.iload 13, 2) := by decide +kernel
theorem dL_law_527 : decode cL_law 527 = .ok (.imul, 1) := by decide +kernel
theorem dL_law_528 : decode cL_law 528 = .ok (.iconst 0, 1) := by decide +kernel
theorem dL_law_529 : decode cL_law 529 = .ok (.invokevirtual 53, 3) := by decide +kernel
theorem dL_law_532 : decode cL_law 532 = .ok (.istore 16, 2) := by decide +kernel
theorem dL_law_534 : decode cL_law 534 = .ok (.iload 16, 2) := by decide +kernel
theorem dL_law_536 : decode cL_law 536 = .ok (.iload 14, 2) := by decide +kernel
theorem dL_law_538 : decode cL_law 538 = .ok (.if_icmp .gt 17, 3) := by decide +kernel
theorem dL_law_541 : decode cL_law 541 = .ok (.iload 16, 2) := by decide +kernel
theorem dL_law_543 : decode cL_law 543 = .ok (.iload 14, 2) := by decide +kernel
theorem dL_law_545 : decode cL_law 545 = .ok (.if_icmp .ne 12, 3) := by decide +kernel
theorem dL_law_548 : decode cL_law 548 = .ok (.iload 15, 2) := by decide +kernel
theorem dL_law_550 : decode cL_law 550 = .ok (.iload 12, 2) := by decide +kernel
theorem dL_law_552 : decode cL_law 552 = .ok (.if_icmp .ge 5, 3) := by decide +kernel
theorem dL_law_555 : decode cL_law 555 = .ok (.iconst 0, 1) := by decide +kernel
theorem dL_law_556 : decode cL_law 556 = .ok (.ireturn, 1) := by decide +kernel
theorem dL_law_557 : decode cL_law 557 = .ok (.iinc 15 1, 3) := by decide +kernel
theorem dL_law_560 : decode cL_law 560 = .ok (.goto (-46), 3) := by decide +kernel
theorem dL_law_563 : decode cL_law 563 = .ok (.aload_n 2, 1) := by decide +kernel
theorem dL_law_564 : decode cL_law 564 = .ok (.aload_n 3, 1) := by decide +kernel
theorem dL_law_565 : decode cL_law 565 = .ok (.invokestatic 62, 3) := by decide +kernel
theorem dL_law_568 : decode cL_law 568 = .ok (.ifCond .ne 5, 3) := by decide +kernel
theorem dL_law_571 : decode cL_law 571 = .ok (.iconst 0, 1) := by decide +kernel
theorem dL_law_572 : decode cL_law 572 = .ok (.ireturn, 1) := by decide +kernel
theorem dL_law_573 : decode cL_law 573 = .ok (.iinc 5 1, 3) := by decide +kernel
theorem dL_law_576 : decode cL_law 576 = .ok (.goto (-472), 3) := by decide +kernel
theorem dL_law_579 : decode cL_law 579 = .ok (.iinc 1 1, 3) := by decide +kernel
theorem dL_law_582 : decode cL_law 582 = .ok (.goto (-580), 3) := by decide +kernel
theorem dL_law_585 : decode cL_law 585 = .ok (.iconst 1, 1) := by decide +kernel
theorem dL_law_586 : decode cL_law 586 = .ok (.ireturn, 1) := by decide +kernel
theorem dL_isTogether_0 : decode cL_isTogether 0 = .ok (.aload_n 0, 1) := by decide +kernel
theorem dL_isTogether_1 : decode cL_isTogether 1 = .ok (.iconst 0, 1) := by decide +kernel
theorem dL_isTogether_2 : decode cL_isTogether 2 = .ok (.invokevirtual 68, 3) := by decide +kernel
theorem dL_isTogether_5 : decode cL_isTogether 5 = .ok (.ifCond .lt 20, 3) := by decide +kernel
theorem dL_isTogether_8 : decode cL_isTogether 8 = .ok (.aload_n 0, 1) := by decide +kernel
theorem dL_isTogether_9 : decode cL_isTogether 9 = .ok (.iconst 1, 1) := by decide +kernel
theorem dL_isTogether_10 : decode cL_isTogether 10 = .ok (.invokevirtual 68, 3) := by decide +kernel
theorem dL_isTogether_13 : decode cL_isTogether 13 = .ok (.ifCond .lt 12, 3) := by decide +kernel
theorem dL_isTogether_16 : decode cL_isTogether 16 = .ok (.aload_n 0, 1) := by decide +kernel
theorem dL_isTogether_17 : decode cL_isTogether 17 = .ok (.iconst 4, 1) := by decide +kernel
theorem dL_isTogether_18 : decode cL_isTogether 18 = .ok (.invokevirtual 71, 3) := by decide +kernel
theorem dL_isTogether_21 : decode cL_isTogether 21 = .ok (.iconst 1, 1) := by decide +kernel
theorem dL_isTogether_22 : decode cL_isTogether 22 = .ok (.if_icmp .eq 5, 3) := by decide +kernel
theorem dL_isTogether_25 : decode cL_isTogether 25 = .ok (.iconst 0, 1) := by decide +kernel
theorem dL_isTogether_26 : decode cL_isTogether 26 = .ok (.ireturn, 1) := by decide +kernel
theorem dL_isTogether_27 : decode cL_isTogether 27 = .ok (.aload_n 1, 1) := by decide +kernel
theorem dL_isTogether_28 : decode cL_isTogether 28 = .ok (.bipush 90, 2) := by decide +kernel
theorem dL_isTogether_30 : decode cL_isTogether 30 = .ok (.invokevirtual 25, 3) := by decide +kernel
theorem dL_isTogether_33 : decode cL_isTogether 33 = .ok (.istore_n 2, 1) := by decide +kernel
theorem dL_isTogether_34 : decode cL_isTogether 34 = .ok (.iconst 2, 1) := by decide +kernel
theorem dL_isTogether_35 : decode cL_isTogether 35 = .ok (.aload_n 1, 1) := by decide +kernel
theorem dL_isTogether_36 : decode cL_isTogether 36 = .ok (.bipush 8, 2) := by decide +kernel
theorem dL_isTogether_38 : decode cL_isTogether 38 = .ok (.invokevirtual 25, 3) := by decide +kernel
theorem dL_isTogether_41 : decode cL_isTogether 41 = .ok (.iadd, 1) := by decide +kernel
theorem dL_isTogether_42 : decode cL_isTogether 42 = .ok (.istore_n 3, 1) := by decide +kernel
theorem dL_isTogether_43 : decode cL_isTogether 43 = .ok (.aload_n 0, 1) := by decide +kernel
theorem dL_isTogether_44 : decode cL_isTogether 44 = .ok (.iconst 3, 1) := by decide +kernel
theorem dL_isTogether_45 : decode cL_isTogether 45 = .ok (.invokevirtual 71, 3) := by decide +kernel
theorem dL_isTogether_48 : decode cL_isTogether 48 = .ok (.istore 4, 2) := by decide +kernel
theorem dL_isTogether_50 : decode cL_isTogether 50 = .ok (.aload_n 1, 1) := by decide +kernel
theorem dL_isTogether_51 : decode cL_isTogether 51 = .ok (.iload_n 2, 1) := by decide +kernel
theorem dL_isTogether_52 : decode cL_isTogether 52 = .ok (.iconst 1, 1) := by decide +kernel
theorem dL_isTogether_53 : decode cL_isTogether 53 = .ok (.iadd, 1) := by decide +kernel
theorem dL_isTogether_54 : decode cL_isTogether 54 = .ok (.invokevirtual 25, 3) := by decide +kernel
theorem dL_isTogether_57 : decode cL_isTogether 57 = .ok (.istore 5, 2) := by decide +kernel
theorem dL_isTogether_59 : decode cL_isTogether 59 = .ok (.iconst 0, 1) := by decide +kernel
theorem dL_isTogether_60 : decode cL_isTogether 60 = .ok (.istore 6, 2) := by decide +kernel
theorem dL_isTogether_62 : decode cL_isTogether 62 = .ok (.iload 6, 2) := by decide +kernel
theorem dL_isTogether_64 : decode cL_isTogether 64 = .ok (.iconst 2, 1) := by decide +kernel
theorem dL_isTogether_65 : decode cL_isTogether 65 = .ok (.if_icmp .ge 47, 3) := by decide +kernel
theorem dL_isTogether_68 : decode cL_isTogether 68 = .ok (.aload_n 0, 1) := by decide +kernel
theorem dL_isTogether_69 : decode cL_isTogether 69 = .ok (.iload 6, 2) := by decide +kernel
theorem dL_isTogether_71 : decode cL_isTogether 71 = .ok (.iload_n 2, 1) := by decide +kernel
theorem dL_isTogether_72 : decode cL_isTogether 72 = .ok (.invokevirtual 59, 3) := by decide +kernel
theorem dL_isTogether_75 : decode cL_isTogether 75 = .ok (.ifCond .lt 29, 3) := by decide +kernel
theorem dL_isTogether_78 : decode cL_isTogether 78 = .ok (.aload_n 0, 1) := by decide +kernel
theorem dL_isTogether_79 : decode cL_isTogether 79 = .ok (.iload 6, 2) := by decide +kernel
theorem dL_isTogether_81 : decode cL_isTogether 81 = .ok (.iload 5, 2) := by decide +kernel
theorem dL_isTogether_83 : decode cL_isTogether 83 = .ok (.invokevirtual 74, 3) := by decide +kernel
theorem dL_isTogether_86 : decode cL_isTogether 86 = .ok (.ifCond .lt 18, 3) := by decide +kernel
theorem dL_isTogether_89 : decode cL_isTogether 89 = .ok (.aload_n 0, 1) := by decide +kernel
theorem dL_isTogether_90 : decode cL_isTogether 90 = .ok (.iload 6, 2) := by decide +kernel
theorem dL_isTogether_92 : decode cL_isTogether 92 = .ok (.invokevirtual 77, 3) := by decide +kernel
theorem dL_isTogether_95 : decode cL_isTogether 95 = .ok (.iload_n 2, 1) := by decide +kernel
theorem dL_isTogether_96 : decode cL_isTogether 96 = .ok (.iload 5, 2) := by decide +kernel
theorem dL_isTogether_98 : decode cL_isTogether 98 = .ok (.isub, 1) := by decide +kernel
theorem dL_isTogether_99 : decode cL_isTogether 99 = .ok (.i2l, 1) := by decide +kernel
theorem dL_isTogether_100 : decode cL_isTogether 100 = .ok (.lcmp, 1) := by decide +kernel
theorem dL_isTogether_101 : decode cL_isTogether 101 = .ok (.ifCond .eq 5, 3) := by decide +kernel
theorem dL_isTogether_104 : decode cL_isTogether 104 = .ok (.iconst 0, 1) := by decide +kernel
theorem dL_isTogether_105 : decode cL_isTogether 105 = .ok (.ireturn, 1) := by decide +kernel
theorem dL_isTogether_106 : decode cL_isTogether 106 = .ok (.iinc 6 1, 3) := by decide +kernel
theorem dL_isTogether_109 : decode cL_isTogether 109 = .ok (.goto (-47), 3) := by decide +kernel
theorem dL_isTogether_112 : decode cL_isTogether 112 = .ok (.aload_n 0, 1) := by decide +kernel
theorem dL_isTogether_113 : decode cL_isTogether 113 = .ok (.iconst 0, 1) := by decide +kernel
theorem dL_isTogether_114 : decode cL_isTogether 114 = .ok (.iload_n 3, 1) := by decide +kernel
theorem dL_isTogether_115 : decode cL_isTogether 115 = .ok (.invokevirtual 81, 3) := by decide +kernel
theorem dL_isTogether_118 : decode cL_isTogether 118 = .ok (.istore 6, 2) := by decide +kernel
theorem dL_isTogether_120 : decode cL_isTogether 120 = .ok (.aload_n 0, 1) := by decide +kernel
theorem dL_isTogether_121 : decode cL_isTogether 121 = .ok (.iconst 1, 1) := by decide +kernel
theorem dL_isTogether_122 : decode cL_isTogether 122 = .ok (.iload_n 3, 1) := by decide +kernel
theorem dL_isTogether_123 : decode cL_isTogether 123 = .ok (.invokevirtual 81, 3) := by decide +kernel
theorem dL_isTogether_126 : decode cL_isTogether 126 = .ok (.iload 6, 2) := by decide +kernel
theorem dL_isTogether_128 : decode cL_isTogether 128 = .ok (.if_icmp .ne 49, 3) := by decide +kernel
theorem dL_isTogether_131 : decode cL_isTogether 131 = .ok (.iload 6, 2) := by decide +kernel
theorem dL_isTogether_133 : decode cL_isTogether 133 = .ok (.iload_n 2, 1) := by decide +kernel
theorem dL_isTogether_134 : decode cL_isTogether 134 = .ok (.iload 5, 2) := by decide +kernel
theorem dL_isTogether_136 : decode cL_isTogether 136 = .ok (.isub, 1) := by decide +kernel
theorem dL_isTogether_137 : decode cL_isTogether 137 = .ok (.iload_n 3, 1) := by decide +kernel
theorem dL_isTogether_138 : decode cL_isTogether 138 = .ok (.irem, 1) := by decide +kernel
theorem dL_isTogether_139 : decode cL_isTogether 139 = .ok (.if_icmp .ne 38, 3) := by decide +kernel
theorem dL_isTogether_142 : decode cL_isTogether 142 = .ok (.aload_n 0, 1) := by decide +kernel
theorem dL_isTogether_143 : decode cL_isTogether 143 = .ok (.iconst 0, 1) := by decide +kernel
theorem dL_isTogether_144 : decode cL_isTogether 144 = .ok (.invokevirtual 77, 3) := by decide +kernel
theorem dL_isTogether_147 : decode cL_isTogether 147 = .ok (.iload_n 2, 1) := by decide +kernel
theorem dL_isTogether_148 : decode cL_isTogether 148 = .ok (.iload 5, 2) := by decide +kernel
theorem dL_isTogether_150 : decode cL_isTogether 150 = .ok (.isub, 1) := by decide +kernel
theorem dL_isTogether_151 : decode cL_isTogether 151 = .ok (.iload_n 3, 1) := by decide +kernel
theorem dL_isTogether_152 : decode cL_isTogether 152 = .ok (.idiv, 1) := by decide +kernel
theorem dL_isTogether_153 : decode cL_isTogether 153 = .ok (.i2l, 1) := by decide +kernel
theorem dL_isTogether_154 : decode cL_isTogether 154 = .ok (.lcmp, 1) := by decide +kernel
theorem dL_isTogether_155 : decode cL_isTogether 155 = .ok (.ifCond .ne 22, 3) := by decide +kernel
theorem dL_isTogether_158 : decode cL_isTogether 158 = .ok (.aload_n 0, 1) := by decide +kernel
theorem dL_isTogether_159 : decode cL_isTogether 159 = .ok (.iconst 4, 1) := by decide +kernel
theorem dL_isTogether_160 : decode cL_isTogether 160 = .ok (.invokevirtual 71, 3) := by decide +kernel
theorem dL_isTogether_163 : decode cL_isTogether 163 = .ok (.iconst 1, 1) := by decide +kernel
theorem dL_isTogether_164 : decode cL_isTogether 164 = .ok (.if_icmp .ne 13, 3) := by decide +kernel
theorem dL_isTogether_167 : decode cL_isTogether 167 = .ok (.aload_n 0, 1) := by decide +kernel
theorem dL_isTogether_168 : decode cL_isTogether 168 = .ok (.iconst 3, 1) := by decide +kernel
theorem dL_isTogether_169 : decode cL_isTogether 169 = .ok (.invokevirtual 71, 3) := by decide +kernel
theorem dL_isTogether_172 : decode cL_isTogether 172 = .ok (.iload 4, 2) := by decide +kernel
theorem dL_isTogether_174 : decode cL_isTogether 174 = .ok (.if_icmp .eq 5, 3) := by decide +kernel
theorem dL_isTogether_177 : decode cL_isTogether 177 = .ok (.iconst 0, 1) := by decide +kernel
theorem dL_isTogether_178 : decode cL_isTogether 178 = .ok (.ireturn, 1) := by decide +kernel
theorem dL_isTogether_179 : decode cL_isTogether 179 = .ok (.aload_n 0, 1) := by decide +kernel
theorem dL_isTogether_180 : decode cL_isTogether 180 = .ok (.iconst 0, 1) := by decide +kernel
theorem dL_isTogether_181 : decode cL_isTogether 181 = .ok (.iload_n 3, 1) := by decide +kernel
theorem dL_isTogether_182 : decode cL_isTogether 182 = .ok (.invokevirtual 84, 3) := by decide +kernel
theorem dL_isTogether_185 : decode cL_isTogether 185 = .ok (.ifCond .ne 45, 3) := by decide +kernel
theorem dL_isTogether_188 : decode cL_isTogether 188 = .ok (.aload_n 0, 1) := by decide +kernel
theorem dL_isTogether_189 : decode cL_isTogether 189 = .ok (.iconst 0, 1) := by decide +kernel
theorem dL_isTogether_190 : decode cL_isTogether 190 = .ok (.iload 6, 2) := by decide +kernel
theorem dL_isTogether_192 : decode cL_isTogether 192 = .ok (.invokevirtual 59, 3) := by decide +kernel
theorem dL_isTogether_195 : decode cL_isTogether 195 = .ok (.ifCond .lt 35, 3) := by decide +kernel
theorem dL_isTogether_198 : decode cL_isTogether 198 = .ok (.aload_n 0, 1) := by decide +kernel
theorem dL_isTogether_199 : decode cL_isTogether 199 = .ok (.iconst 0, 1) := by decide +kernel
theorem dL_isTogether_200 : decode cL_isTogether 200 = .ok (.invokevirtual 77, 3) := by decide +kernel
theorem dL_isTogether_203 : decode cL_isTogether 203 = .ok (.iload_n 2, 1) := by decide +kernel
theorem dL_isTogether_204 : decode cL_isTogether 204 = .ok (.iload 5, 2) := by decide +kernel
theorem dL_isTogether_206 : decode cL_isTogether 206 = .ok (.isub, 1) := by decide +kernel
theorem dL_isTogether_207 : decode cL_isTogether 207 = .ok (.i2l, 1) := by decide +kernel
theorem dL_isTogether_208 : decode cL_isTogether 208 = .ok (.lcmp, 1) := by decide +kernel
theorem dL_isTogether_209 : decode cL_isTogether 209 = .ok (.ifCond .ne 21, 3) := by decide +kernel
theorem dL_isTogether_212 : decode cL_isTogether 212 = .ok (.aload_n 0, 1) := by decide +kernel
theorem dL_isTogether_213 : decode cL_isTogether 213 = .ok (.iconst 0, 1) := by decide +kernel
theorem dL_isTogether_214 : decode cL_isTogether 214 = .ok (.iconst 1, 1) := by decide +kernel
theorem dL_isTogether_215 : decode cL_isTogether 215 = .ok (.invokevirtual 87, 3) := by decide +kernel
theorem dL_isTogether_218 : decode cL_isTogether 218 = .ok (.ifCond .lt 12, 3) := by decide +kernel
theorem dL_isTogether_221 : decode cL_isTogether 221 = .ok (.aload_n 0, 1) := by decide +kernel
theorem dL_isTogether_222 : decode cL_isTogether 222 = .ok (.iconst 4, 1) := by decide +kernel
theorem dL_isTogether_223 : decode cL_isTogether 223 = .ok (.invokevirtual 71, 3) := by decide +kernel
theorem dL_isTogether_226 : decode cL_isTogether 226 = .ok (.iconst 1, 1) := by decide +kernel
theorem dL_isTogether_227 : decode cL_isTogether 227 = .ok (.if_icmp .eq 5, 3) := by decide +kernel
theorem dL_isTogether_230 : decode cL_isTogether 230 = .ok (.iconst 0, 1) := by decide +kernel
theorem dL_isTogether_231 : decode cL_isTogether 231 = .ok (.ireturn, 1) := by decide +kernel
theorem dL_isTogether_232 : decode cL_isTogether 232 = .ok (.aload_n 0, 1) := by decide +kernel
theorem dL_isTogether_233 : decode cL_isTogether 233 = .ok (.iconst 0, 1) := by decide +kernel
theorem dL_isTogether_234 : decode cL_isTogether 234 = .ok (.iconst 0, 1) := by decide +kernel
theorem dL_isTogether_235 : decode cL_isTogether 235 = .ok (.invokevirtual 90, 3) := by decide +kernel
theorem dL_isTogether_238 : decode cL_isTogether 238 = .ok (.iload_n 2, 1) := by decide +kernel
theorem dL_isTogether_239 : decode cL_isTogether 239 = .ok (.iload 5, 2) := by decide +kernel
theorem dL_isTogether_241 : decode cL_isTogether 241 = .ok (.isub, 1) := by decide +kernel
theorem dL_isTogether_242 : decode cL_isTogether 242 = .ok (.bipush 10, 2) := by decide +kernel
theorem dL_isTogether_244 : decode cL_isTogether 244 = .ok (.irem, 1) := by decide +kernel
theorem dL_isTogether_245 : decode cL_isTogether 245 = .ok (.if_icmp .ne 39, 3) := by decide +kernel
theorem dL_isTogether_248 : decode cL_isTogether 248 = .ok (.aload_n 0, 1) := by decide +kernel
theorem dL_isTogether_249 : decode cL_isTogether 249 = .ok (.iconst 0, 1) := by decide +kernel
theorem dL_isTogether_250 : decode cL_isTogether 250 = .ok (.invokevirtual 77, 3) := by decide +kernel
theorem dL_isTogether_253 : decode cL_isTogether 253 = .ok (.iload_n 2, 1) := by decide +kernel
theorem dL_isTogether_254 : decode cL_isTogether 254 = .ok (.iload 5, 2) := by decide +kernel
theorem dL_isTogether_256 : decode cL_isTogether 256 = .ok (.isub, 1) := by decide +kernel
theorem dL_isTogether_257 : decode cL_isTogether 257 = .ok (.bipush 10, 2) := by decide +kernel
theorem dL_isTogether_259 : decode cL_isTogether 259 = .ok (.idiv, 1) := by decide +kernel
theorem dL_isTogether_260 : decode cL_isTogether 260 = .ok (.i2l, 1) := by decide +kernel
theorem dL_isTogether_261 : decode cL_isTogether 261 = .ok (.lcmp, 1) := by decide +kernel
theorem dL_isTogether_262 : decode cL_isTogether 262 = .ok (.ifCond .ne 22, 3) := by decide +kernel
theorem dL_isTogether_265 : decode cL_isTogether 265 = .ok (.aload_n 0, 1) := by decide +kernel
theorem dL_isTogether_266 : decode cL_isTogether 266 = .ok (.iconst 0, 1) := by decide +kernel
theorem dL_isTogether_267 : decode cL_isTogether 267 = .ok (.iconst 1, 1) := by decide +kernel
theorem dL_isTogether_268 : decode cL_isTogether 268 = .ok (.invokevirtual 90, 3) := by decide +kernel
theorem dL_isTogether_271 : decode cL_isTogether 271 = .ok (.ifCond .ne 13, 3) := by decide +kernel
theorem dL_isTogether_274 : decode cL_isTogether 274 = .ok (.aload_n 0, 1) := by decide +kernel
theorem dL_isTogether_275 : decode cL_isTogether 275 = .ok (.iconst 3, 1) := by decide +kernel
theorem dL_isTogether_276 : decode cL_isTogether 276 = .ok (.invokevirtual 71, 3) := by decide +kernel
theorem dL_isTogether_279 : decode cL_isTogether 279 = .ok (.iload 4, 2) := by decide +kernel
theorem dL_isTogether_281 : decode cL_isTogether 281 = .ok (.if_icmp .eq 5, 3) := by decide +kernel
theorem dL_isTogether_284 : decode cL_isTogether 284 = .ok (.iconst 0, 1) := by decide +kernel
theorem dL_isTogether_285 : decode cL_isTogether 285 = .ok (.ireturn, 1) := by decide +kernel
theorem dL_isTogether_286 : decode cL_isTogether 286 = .ok (.aload_n 0, 1) := by decide +kernel
theorem dL_isTogether_287 : decode cL_isTogether 287 = .ok (.iconst 0, 1) := by decide +kernel
theorem dL_isTogether_288 : decode cL_isTogether 288 = .ok (.invokevirtual 77, 3) := by decide +kernel
theorem dL_isTogether_291 : decode cL_isTogether 291 = .ok (.iload_n 2, 1) := by decide +kernel
theorem dL_isTogether_292 : decode cL_isTogether 292 = .ok (.iload 5, 2) := by decide +kernel
theorem dL_isTogether_294 : decode cL_isTogether 294 = .ok (.isub, 1) := by decide +kernel
theorem dL_isTogether_295 : decode cL_isTogether 295 = .ok (.bipush 10, 2) := by decide +kernel
theorem dL_isTogether_297 : decode cL_isTogether 297 = .ok (.idiv, 1) := by decide +kernel
theorem dL_isTogether_298 : decode cL_isTogether 298 = .ok (.bipush 10, 2) := by decide +kernel
theorem dL_isTogether_300 : decode cL_isTogether 300 = .ok (.imul, 1) := by decide +kernel
theorem dL_isTogether_301 : decode cL_isTogether 301 = .ok (.i2l, 1) := by decide +kernel
theorem dL_isTogether_302 : decode cL_isTogether 302 = .ok (.lcmp, 1) := by decide +kernel
theorem dL_isTogether_303 : decode cL_isTogether 303 = .ok (.ifCond .ne 7, 3) := by decide +kernel
theorem dL_isTogether_306 : decode cL_isTogether 306 = .ok (.iconst 1, 1) := by decide +kernel
theorem dL_isTogether_307 : decode cL_isTogether 307 = .ok (.goto 4, 3) := by decide +kernel
theorem dL_isTogether_310 : decode cL_isTogether 310 = .ok (.iconst 0, 1) := by decide +kernel
theorem dL_isTogether_311 : decode cL_isTogether 311 = .ok (.ireturn, 1) := by decide +kernel
