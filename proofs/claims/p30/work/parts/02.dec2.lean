-- laid by wip/p30/names.py
theorem dX2_mixed_0 : decode cX2_mixed 0 = .ok (.lload_n 0, 1) := by decide +kernel
theorem dX2_mixed_1 : decode cX2_mixed 1 = .ok (.ldc2_w 256, 3) := by decide +kernel
theorem dX2_mixed_4 : decode cX2_mixed 4 = .ok (.lmul, 1) := by decide +kernel
theorem dX2_mixed_5 : decode cX2_mixed 5 = .ok (.lload_n 2, 1) := by decide +kernel
theorem dX2_mixed_6 : decode cX2_mixed 6 = .ok (.ladd, 1) := by decide +kernel
theorem dX2_mixed_7 : decode cX2_mixed 7 = .ok (.lreturn, 1) := by decide +kernel
theorem dX2_mixedWithFrame_0 : decode cX2_mixedWithFrame 0 = .ok (.lload_n 1, 1) := by decide +kernel
theorem dX2_mixedWithFrame_1 : decode cX2_mixedWithFrame 1 = .ok (.lstore 4, 2) := by decide +kernel
theorem dX2_mixedWithFrame_3 : decode cX2_mixedWithFrame 3 = .ok (.iconst 0, 1) := by decide +kernel
theorem dX2_mixedWithFrame_4 : decode cX2_mixedWithFrame 4 = .ok (.istore 6, 2) := by decide +kernel
theorem dX2_mixedWithFrame_6 : decode cX2_mixedWithFrame 6 = .ok (.iload 6, 2) := by decide +kernel
theorem dX2_mixedWithFrame_8 : decode cX2_mixedWithFrame 8 = .ok (.bipush 13, 2) := by decide +kernel
theorem dX2_mixedWithFrame_10 : decode cX2_mixedWithFrame 10 = .ok (.if_icmp .ge 23, 3) := by decide +kernel
theorem dX2_mixedWithFrame_13 : decode cX2_mixedWithFrame 13 = .ok (.lload 4, 2) := by decide +kernel
theorem dX2_mixedWithFrame_15 : decode cX2_mixedWithFrame 15 = .ok (.aload_n 3, 1) := by decide +kernel
theorem dX2_mixedWithFrame_16 : decode cX2_mixedWithFrame 16 = .ok (.iload 6, 2) := by decide +kernel
theorem dX2_mixedWithFrame_18 : decode cX2_mixedWithFrame 18 = .ok (.invokevirtual 166, 3) := by decide +kernel
theorem dX2_mixedWithFrame_21 : decode cX2_mixedWithFrame 21 = .ok (.i2l, 1) := by decide +kernel
theorem dX2_mixedWithFrame_22 : decode cX2_mixedWithFrame 22 = .ok (.invokestatic 206, 3) := by decide +kernel
theorem dX2_mixedWithFrame_25 : decode cX2_mixedWithFrame 25 = .ok (.lstore 4, 2) := by decide +kernel
theorem dX2_mixedWithFrame_27 : decode cX2_mixedWithFrame 27 = .ok (.iinc 6 1, 3) := by decide +kernel
theorem dX2_mixedWithFrame_30 : decode cX2_mixedWithFrame 30 = .ok (.goto (-24), 3) := by decide +kernel
theorem dX2_mixedWithFrame_33 : decode cX2_mixedWithFrame 33 = .ok (.lload 4, 2) := by decide +kernel
theorem dX2_mixedWithFrame_35 : decode cX2_mixedWithFrame 35 = .ok (.aload_n 3, 1) := by decide +kernel
theorem dX2_mixedWithFrame_36 : decode cX2_mixedWithFrame 36 = .ok (.invokevirtual 106, 3) := by decide +kernel
theorem dX2_mixedWithFrame_39 : decode cX2_mixedWithFrame 39 = .ok (.invokestatic 206, 3) := by decide +kernel
theorem dX2_mixedWithFrame_42 : decode cX2_mixedWithFrame 42 = .ok (.lstore 4, 2) := by decide +kernel
theorem dX2_mixedWithFrame_44 : decode cX2_mixedWithFrame 44 = .ok (.lload 4, 2) := by decide +kernel
theorem dX2_mixedWithFrame_46 : decode cX2_mixedWithFrame 46 = .ok (.ldc2_w 258, 3) := by decide +kernel
theorem dX2_mixedWithFrame_49 : decode cX2_mixedWithFrame 49 = .ok (.aload_n 3, 1) := by decide +kernel
theorem dX2_mixedWithFrame_50 : decode cX2_mixedWithFrame 50 = .ok (.getfield 169, 3) := by decide +kernel
theorem dX2_mixedWithFrame_53 : decode cX2_mixedWithFrame 53 = .ok (.f2d, 1) := by decide +kernel
theorem dX2_mixedWithFrame_54 : decode cX2_mixedWithFrame 54 = .ok (.dmul, 1) := by decide +kernel
theorem dX2_mixedWithFrame_55 : decode cX2_mixedWithFrame 55 = .ok (.d2l, 1) := by decide +kernel
theorem dX2_mixedWithFrame_56 : decode cX2_mixedWithFrame 56 = .ok (.invokestatic 206, 3) := by decide +kernel
theorem dX2_mixedWithFrame_59 : decode cX2_mixedWithFrame 59 = .ok (.lstore 4, 2) := by decide +kernel
theorem dX2_mixedWithFrame_61 : decode cX2_mixedWithFrame 61 = .ok (.lload 4, 2) := by decide +kernel
theorem dX2_mixedWithFrame_63 : decode cX2_mixedWithFrame 63 = .ok (.aload_n 3, 1) := by decide +kernel
theorem dX2_mixedWithFrame_64 : decode cX2_mixedWithFrame 64 = .ok (.invokevirtual 180, 3) := by decide +kernel
theorem dX2_mixedWithFrame_67 : decode cX2_mixedWithFrame 67 = .ok (.invokestatic 206, 3) := by decide +kernel
theorem dX2_mixedWithFrame_70 : decode cX2_mixedWithFrame 70 = .ok (.lstore 4, 2) := by decide +kernel
theorem dX2_mixedWithFrame_72 : decode cX2_mixedWithFrame 72 = .ok (.lload 4, 2) := by decide +kernel
theorem dX2_mixedWithFrame_74 : decode cX2_mixedWithFrame 74 = .ok (.aload_n 3, 1) := by decide +kernel
theorem dX2_mixedWithFrame_75 : decode cX2_mixedWithFrame 75 = .ok (.invokevirtual 183, 3) := by decide +kernel
theorem dX2_mixedWithFrame_78 : decode cX2_mixedWithFrame 78 = .ok (.i2l, 1) := by decide +kernel
theorem dX2_mixedWithFrame_79 : decode cX2_mixedWithFrame 79 = .ok (.invokestatic 206, 3) := by decide +kernel
theorem dX2_mixedWithFrame_82 : decode cX2_mixedWithFrame 82 = .ok (.lstore 4, 2) := by decide +kernel
theorem dX2_mixedWithFrame_84 : decode cX2_mixedWithFrame 84 = .ok (.iconst 0, 1) := by decide +kernel
theorem dX2_mixedWithFrame_85 : decode cX2_mixedWithFrame 85 = .ok (.istore 6, 2) := by decide +kernel
theorem dX2_mixedWithFrame_87 : decode cX2_mixedWithFrame 87 = .ok (.iload 6, 2) := by decide +kernel
theorem dX2_mixedWithFrame_89 : decode cX2_mixedWithFrame 89 = .ok (.iconst 4, 1) := by decide +kernel
theorem dX2_mixedWithFrame_90 : decode cX2_mixedWithFrame 90 = .ok (.if_icmp .ge 26, 3) := by decide +kernel
theorem dX2_mixedWithFrame_93 : decode cX2_mixedWithFrame 93 = .ok (.lload 4, 2) := by decide +kernel
theorem dX2_mixedWithFrame_95 : decode cX2_mixedWithFrame 95 = .ok (.aload_n 0, 1) := by decide +kernel
theorem dX2_mixedWithFrame_96 : decode cX2_mixedWithFrame 96 = .ok (.aload_n 3, 1) := by decide +kernel
theorem dX2_mixedWithFrame_97 : decode cX2_mixedWithFrame 97 = .ok (.bipush 7, 2) := by decide +kernel
theorem dX2_mixedWithFrame_99 : decode cX2_mixedWithFrame 99 = .ok (.iload 6, 2) := by decide +kernel
theorem dX2_mixedWithFrame_101 : decode cX2_mixedWithFrame 101 = .ok (.invokevirtual 186, 3) := by decide +kernel
theorem dX2_mixedWithFrame_104 : decode cX2_mixedWithFrame 104 = .ok (.i2l, 1) := by decide +kernel
theorem dX2_mixedWithFrame_105 : decode cX2_mixedWithFrame 105 = .ok (.invokestatic 206, 3) := by decide +kernel
theorem dX2_mixedWithFrame_108 : decode cX2_mixedWithFrame 108 = .ok (.lstore 4, 2) := by decide +kernel
theorem dX2_mixedWithFrame_110 : decode cX2_mixedWithFrame 110 = .ok (.iinc 6 1, 3) := by decide +kernel
theorem dX2_mixedWithFrame_113 : decode cX2_mixedWithFrame 113 = .ok (.goto (-26), 3) := by decide +kernel
theorem dX2_mixedWithFrame_116 : decode cX2_mixedWithFrame 116 = .ok (.lload 4, 2) := by decide +kernel
theorem dX2_mixedWithFrame_118 : decode cX2_mixedWithFrame 118 = .ok (.ldc2_w 258, 3) := by decide +kernel
theorem dX2_mixedWithFrame_121 : decode cX2_mixedWithFrame 121 = .ok (.aload_n 0, 1) := by decide +kernel
theorem dX2_mixedWithFrame_122 : decode cX2_mixedWithFrame 122 = .ok (.aload_n 3, 1) := by decide +kernel
theorem dX2_mixedWithFrame_123 : decode cX2_mixedWithFrame 123 = .ok (.bipush 7, 2) := by decide +kernel
theorem dX2_mixedWithFrame_125 : decode cX2_mixedWithFrame 125 = .ok (.invokevirtual 190, 3) := by decide +kernel
theorem dX2_mixedWithFrame_128 : decode cX2_mixedWithFrame 128 = .ok (.dmul, 1) := by decide +kernel
theorem dX2_mixedWithFrame_129 : decode cX2_mixedWithFrame 129 = .ok (.d2l, 1) := by decide +kernel
theorem dX2_mixedWithFrame_130 : decode cX2_mixedWithFrame 130 = .ok (.invokestatic 206, 3) := by decide +kernel
theorem dX2_mixedWithFrame_133 : decode cX2_mixedWithFrame 133 = .ok (.lstore 4, 2) := by decide +kernel
theorem dX2_mixedWithFrame_135 : decode cX2_mixedWithFrame 135 = .ok (.iconst 0, 1) := by decide +kernel
theorem dX2_mixedWithFrame_136 : decode cX2_mixedWithFrame 136 = .ok (.istore 6, 2) := by decide +kernel
theorem dX2_mixedWithFrame_138 : decode cX2_mixedWithFrame 138 = .ok (.iload 6, 2) := by decide +kernel
theorem dX2_mixedWithFrame_140 : decode cX2_mixedWithFrame 140 = .ok (.aload_n 3, 1) := by decide +kernel
theorem dX2_mixedWithFrame_141 : decode cX2_mixedWithFrame 141 = .ok (.getfield 260, 3) := by decide +kernel
theorem dX2_mixedWithFrame_144 : decode cX2_mixedWithFrame 144 = .ok (.if_icmp .ge 56, 3) := by decide +kernel
theorem dX2_mixedWithFrame_147 : decode cX2_mixedWithFrame 147 = .ok (.iconst 0, 1) := by decide +kernel
theorem dX2_mixedWithFrame_148 : decode cX2_mixedWithFrame 148 = .ok (.istore 7, 2) := by decide +kernel
theorem dX2_mixedWithFrame_150 : decode cX2_mixedWithFrame 150 = .ok (.iload 7, 2) := by decide +kernel
theorem dX2_mixedWithFrame_152 : decode cX2_mixedWithFrame 152 = .ok (.bipush 6, 2) := by decide +kernel
theorem dX2_mixedWithFrame_154 : decode cX2_mixedWithFrame 154 = .ok (.if_icmp .ge 25, 3) := by decide +kernel
theorem dX2_mixedWithFrame_157 : decode cX2_mixedWithFrame 157 = .ok (.lload 4, 2) := by decide +kernel
theorem dX2_mixedWithFrame_159 : decode cX2_mixedWithFrame 159 = .ok (.aload_n 3, 1) := by decide +kernel
theorem dX2_mixedWithFrame_160 : decode cX2_mixedWithFrame 160 = .ok (.iload 6, 2) := by decide +kernel
theorem dX2_mixedWithFrame_162 : decode cX2_mixedWithFrame 162 = .ok (.iload 7, 2) := by decide +kernel
theorem dX2_mixedWithFrame_164 : decode cX2_mixedWithFrame 164 = .ok (.invokevirtual 162, 3) := by decide +kernel
theorem dX2_mixedWithFrame_167 : decode cX2_mixedWithFrame 167 = .ok (.i2l, 1) := by decide +kernel
theorem dX2_mixedWithFrame_168 : decode cX2_mixedWithFrame 168 = .ok (.invokestatic 206, 3) := by decide +kernel
theorem dX2_mixedWithFrame_171 : decode cX2_mixedWithFrame 171 = .ok (.lstore 4, 2) := by decide +kernel
theorem dX2_mixedWithFrame_173 : decode cX2_mixedWithFrame 173 = .ok (.iinc 7 1, 3) := by decide +kernel
theorem dX2_mixedWithFrame_176 : decode cX2_mixedWithFrame 176 = .ok (.goto (-26), 3) := by decide +kernel
theorem dX2_mixedWithFrame_179 : decode cX2_mixedWithFrame 179 = .ok (.lload 4, 2) := by decide +kernel
theorem dX2_mixedWithFrame_181 : decode cX2_mixedWithFrame 181 = .ok (.aload_n 0, 1) := by decide +kernel
theorem dX2_mixedWithFrame_182 : decode cX2_mixedWithFrame 182 = .ok (.aload_n 3, 1) := by decide +kernel
theorem dX2_mixedWithFrame_183 : decode cX2_mixedWithFrame 183 = .ok (.iload 6, 2) := by decide +kernel
theorem dX2_mixedWithFrame_185 : decode cX2_mixedWithFrame 185 = .ok (.invokevirtual 200, 3) := by decide +kernel
theorem dX2_mixedWithFrame_188 : decode cX2_mixedWithFrame 188 = .ok (.i2l, 1) := by decide +kernel
theorem dX2_mixedWithFrame_189 : decode cX2_mixedWithFrame 189 = .ok (.invokestatic 206, 3) := by decide +kernel
theorem dX2_mixedWithFrame_192 : decode cX2_mixedWithFrame 192 = .ok (.lstore 4, 2) := by decide +kernel
theorem dX2_mixedWithFrame_194 : decode cX2_mixedWithFrame 194 = .ok (.iinc 6 1, 3) := by decide +kernel
theorem dX2_mixedWithFrame_197 : decode cX2_mixedWithFrame 197 = .ok (.goto (-59), 3) := by decide +kernel
theorem dX2_mixedWithFrame_200 : decode cX2_mixedWithFrame 200 = .ok (.lload 4, 2) := by decide +kernel
theorem dX2_mixedWithFrame_202 : decode cX2_mixedWithFrame 202 = .ok (.lreturn, 1) := by decide +kernel
theorem dX3_init_0 : decode cX3_init 0 = .ok (.aload_n 0, 1) := by decide +kernel
theorem dX3_init_1 : decode cX3_init 1 = .ok (.invokespecial 1, 3) := by decide +kernel
theorem dX3_init_4 : decode cX3_init 4 = .ok (.aload_n 0, 1) := by decide +kernel
theorem dX3_init_5 : decode cX3_init 5 = .ok (.iconst 0, 1) := by decide +kernel
theorem dX3_init_6 : decode cX3_init 6 = .ok (.anewarray 7, 3) := by decide +kernel
theorem dX3_init_9 : decode cX3_init 9 = .ok (.putfield 9, 3) := by decide +kernel
theorem dX3_init_12 : decode cX3_init 12 = .ok (.aload_n 0, 1) := by decide +kernel
theorem dX3_init_13 : decode cX3_init 13 = .ok (.iconst 5, 1) := by decide +kernel
theorem dX3_init_14 : decode cX3_init 14 = .ok (.newarray .int, 2) := by decide +kernel
theorem dX3_init_16 : decode cX3_init 16 = .ok (.putfield 15, 3) := by decide +kernel
theorem dX3_init_19 : decode cX3_init 19 = .ok (.aload_n 0, 1) := by decide +kernel
theorem dX3_init_20 : decode cX3_init 20 = .ok (.aload_n 1, 1) := by decide +kernel
theorem dX3_init_21 : decode cX3_init 21 = .ok (.putfield 18, 3) := by decide +kernel
theorem dX3_init_24 : decode cX3_init 24 = .ok (.aload_n 0, 1) := by decide +kernel
theorem dX3_init_25 : decode cX3_init 25 = .ok (.aload_n 2, 1) := by decide +kernel
theorem dX3_init_26 : decode cX3_init 26 = .ok (.putfield 22, 3) := by decide +kernel
theorem dX3_init_29 : decode cX3_init 29 = .ok (.aload_n 0, 1) := by decide +kernel
theorem dX3_init_30 : decode cX3_init 30 = .ok (.iload_n 3, 1) := by decide +kernel
theorem dX3_init_31 : decode cX3_init 31 = .ok (.putfield 25, 3) := by decide +kernel
theorem dX3_init_34 : decode cX3_init 34 = .ok (.return_, 1) := by decide +kernel
theorem dX3_draw_0 : decode cX3_draw 0 = .ok (.aload_n 0, 1) := by decide +kernel
theorem dX3_draw_1 : decode cX3_draw 1 = .ok (.getfield 22, 3) := by decide +kernel
theorem dX3_draw_4 : decode cX3_draw 4 = .ok (.aload_n 0, 1) := by decide +kernel
theorem dX3_draw_5 : decode cX3_draw 5 = .ok (.getfield 25, 3) := by decide +kernel
theorem dX3_draw_8 : decode cX3_draw 8 = .ok (.bipush 24, 2) := by decide +kernel
theorem dX3_draw_10 : decode cX3_draw 10 = .ok (.irem, 1) := by decide +kernel
theorem dX3_draw_11 : decode cX3_draw 11 = .ok (.invokestatic 29, 3) := by decide +kernel
theorem dX3_draw_14 : decode cX3_draw 14 = .ok (.aload_n 0, 1) := by decide +kernel
theorem dX3_draw_15 : decode cX3_draw 15 = .ok (.getfield 25, 3) := by decide +kernel
theorem dX3_draw_18 : decode cX3_draw 18 = .ok (.bipush 24, 2) := by decide +kernel
theorem dX3_draw_20 : decode cX3_draw 20 = .ok (.idiv, 1) := by decide +kernel
theorem dX3_draw_21 : decode cX3_draw 21 = .ok (.bipush 8, 2) := by decide +kernel
theorem dX3_draw_23 : decode cX3_draw 23 = .ok (.irem, 1) := by decide +kernel
theorem dX3_draw_24 : decode cX3_draw 24 = .ok (.ishr, 1) := by decide +kernel
theorem dX3_draw_25 : decode cX3_draw 25 = .ok (.sipush 439, 3) := by decide +kernel
theorem dX3_draw_28 : decode cX3_draw 28 = .ok (.aload_n 0, 1) := by decide +kernel
theorem dX3_draw_29 : decode cX3_draw 29 = .ok (.getfield 25, 3) := by decide +kernel
theorem dX3_draw_32 : decode cX3_draw 32 = .ok (.imul, 1) := by decide +kernel
theorem dX3_draw_33 : decode cX3_draw 33 = .ok (.iadd, 1) := by decide +kernel
theorem dX3_draw_34 : decode cX3_draw 34 = .ok (.iload_n 1, 1) := by decide +kernel
theorem dX3_draw_35 : decode cX3_draw 35 = .ok (.invokestatic 35, 3) := by decide +kernel
theorem dX3_draw_38 : decode cX3_draw 38 = .ok (.istore_n 2, 1) := by decide +kernel
theorem dX3_draw_39 : decode cX3_draw 39 = .ok (.aload_n 0, 1) := by decide +kernel
theorem dX3_draw_40 : decode cX3_draw 40 = .ok (.dup, 1) := by decide +kernel
theorem dX3_draw_41 : decode cX3_draw 41 = .ok (.getfield 25, 3) := by decide +kernel
theorem dX3_draw_44 : decode cX3_draw 44 = .ok (.iconst 1, 1) := by decide +kernel
theorem dX3_draw_45 : decode cX3_draw 45 = .ok (.iadd, 1) := by decide +kernel
theorem dX3_draw_46 : decode cX3_draw 46 = .ok (.putfield 25, 3) := by decide +kernel
theorem dX3_draw_49 : decode cX3_draw 49 = .ok (.iload_n 2, 1) := by decide +kernel
theorem dX3_draw_50 : decode cX3_draw 50 = .ok (.ireturn, 1) := by decide +kernel
theorem dX3_frame_0 : decode cX3_frame 0 = .ok (.aload_n 0, 1) := by decide +kernel
theorem dX3_frame_1 : decode cX3_frame 1 = .ok (.iload_n 1, 1) := by decide +kernel
theorem dX3_frame_2 : decode cX3_frame 2 = .ok (.putfield 39, 3) := by decide +kernel
theorem dX3_frame_5 : decode cX3_frame 5 = .ok (.aload_n 0, 1) := by decide +kernel
theorem dX3_frame_6 : decode cX3_frame 6 = .ok (.aload_n 0, 1) := by decide +kernel
theorem dX3_frame_7 : decode cX3_frame 7 = .ok (.iconst 3, 1) := by decide +kernel
theorem dX3_frame_8 : decode cX3_frame 8 = .ok (.invokevirtual 42, 3) := by decide +kernel
theorem dX3_frame_11 : decode cX3_frame 11 = .ok (.putfield 46, 3) := by decide +kernel
theorem dX3_frame_14 : decode cX3_frame 14 = .ok (.iconst 2, 1) := by decide +kernel
theorem dX3_frame_15 : decode cX3_frame 15 = .ok (.aload_n 0, 1) := by decide +kernel
theorem dX3_frame_16 : decode cX3_frame 16 = .ok (.bipush 7, 2) := by decide +kernel
theorem dX3_frame_18 : decode cX3_frame 18 = .ok (.invokevirtual 42, 3) := by decide +kernel
theorem dX3_frame_21 : decode cX3_frame 21 = .ok (.iadd, 1) := by decide +kernel
theorem dX3_frame_22 : decode cX3_frame 22 = .ok (.istore_n 2, 1) := by decide +kernel
theorem dX3_frame_23 : decode cX3_frame 23 = .ok (.aload_n 0, 1) := by decide +kernel
theorem dX3_frame_24 : decode cX3_frame 24 = .ok (.iload_n 2, 1) := by decide +kernel
theorem dX3_frame_25 : decode cX3_frame 25 = .ok (.newarray .int, 2) := by decide +kernel
theorem dX3_frame_27 : decode cX3_frame 27 = .ok (.putfield 49, 3) := by decide +kernel
theorem dX3_frame_30 : decode cX3_frame 30 = .ok (.aload_n 0, 1) := by decide +kernel
theorem dX3_frame_31 : decode cX3_frame 31 = .ok (.iload_n 2, 1) := by decide +kernel
theorem dX3_frame_32 : decode cX3_frame 32 = .ok (.newarray .int, 2) := by decide +kernel
theorem dX3_frame_34 : decode cX3_frame 34 = .ok (.putfield 52, 3) := by decide +kernel
theorem dX3_frame_37 : decode cX3_frame 37 = .ok (.aload_n 0, 1) := by decide +kernel
theorem dX3_frame_38 : decode cX3_frame 38 = .ok (.iconst 2, 1) := by decide +kernel
theorem dX3_frame_39 : decode cX3_frame 39 = .ok (.iload_n 2, 1) := by decide +kernel
theorem dX3_frame_40 : decode cX3_frame 40 = .ok (.multianewarray 55 2, 4) := by decide +kernel
theorem dX3_frame_44 : decode cX3_frame 44 = .ok (.putfield 56, 3) := by decide +kernel
theorem dX3_frame_47 : decode cX3_frame 47 = .ok (.aload_n 0, 1) := by decide +kernel
theorem dX3_frame_48 : decode cX3_frame 48 = .ok (.getfield 18, 3) := by decide +kernel
theorem dX3_frame_51 : decode cX3_frame 51 = .ok (.aload_n 0, 1) := by decide +kernel
theorem dX3_frame_52 : decode cX3_frame 52 = .ok (.getfield 46, 3) := by decide +kernel
theorem dX3_frame_55 : decode cX3_frame 55 = .ok (.iload_n 2, 1) := by decide +kernel
theorem dX3_frame_56 : decode cX3_frame 56 = .ok (.invokevirtual 59, 3) := by decide +kernel
theorem dX3_frame_59 : decode cX3_frame 59 = .ok (.iload_n 1, 1) := by decide +kernel
theorem dX3_frame_60 : decode cX3_frame 60 = .ok (.if_icmp .ne 7, 3) := by decide +kernel
theorem dX3_frame_63 : decode cX3_frame 63 = .ok (.iconst 1, 1) := by decide +kernel
theorem dX3_frame_64 : decode cX3_frame 64 = .ok (.goto 4, 3) := by decide +kernel
theorem dX3_frame_67 : decode cX3_frame 67 = .ok (.iconst 0, 1) := by decide +kernel
theorem dX3_frame_68 : decode cX3_frame 68 = .ok (.ireturn, 1) := by decide +kernel
theorem dX3_ups_0 : decode cX3_ups 0 = .ok (.aload_n 0, 1) := by decide +kernel
theorem dX3_ups_1 : decode cX3_ups 1 = .ok (.getfield 46, 3) := by decide +kernel
theorem dX3_ups_4 : decode cX3_ups 4 = .ok (.ifCond .ne 7, 3) := by decide +kernel
theorem dX3_ups_7 : decode cX3_ups 7 = .ok (.iconst 1, 1) := by decide +kernel
theorem dX3_ups_8 : decode cX3_ups 8 = .ok (.goto 16, 3) := by decide +kernel
theorem dX3_ups_11 : decode cX3_ups 11 = .ok (.aload_n 0, 1) := by decide +kernel
theorem dX3_ups_12 : decode cX3_ups 12 = .ok (.getfield 46, 3) := by decide +kernel
theorem dX3_ups_15 : decode cX3_ups 15 = .ok (.iconst 1, 1) := by decide +kernel
theorem dX3_ups_16 : decode cX3_ups 16 = .ok (.if_icmp .ne 7, 3) := by decide +kernel
theorem dX3_ups_19 : decode cX3_ups 19 = .ok (.iconst 2, 1) := by decide +kernel
theorem dX3_ups_20 : decode cX3_ups 20 = .ok (.goto 4, 3) := by decide +kernel
theorem dX3_ups_23 : decode cX3_ups 23 = .ok (.iconst 0, 1) := by decide +kernel
theorem dX3_ups_24 : decode cX3_ups 24 = .ok (.ireturn, 1) := by decide +kernel
theorem dX3_downs_0 : decode cX3_downs 0 = .ok (.aload_n 0, 1) := by decide +kernel
theorem dX3_downs_1 : decode cX3_downs 1 = .ok (.getfield 46, 3) := by decide +kernel
theorem dX3_downs_4 : decode cX3_downs 4 = .ok (.ifCond .ne 7, 3) := by decide +kernel
theorem dX3_downs_7 : decode cX3_downs 7 = .ok (.iconst 4, 1) := by decide +kernel
theorem dX3_downs_8 : decode cX3_downs 8 = .ok (.goto 17, 3) := by decide +kernel
theorem dX3_downs_11 : decode cX3_downs 11 = .ok (.aload_n 0, 1) := by decide +kernel
theorem dX3_downs_12 : decode cX3_downs 12 = .ok (.getfield 46, 3) := by decide +kernel
theorem dX3_downs_15 : decode cX3_downs 15 = .ok (.iconst 1, 1) := by decide +kernel
theorem dX3_downs_16 : decode cX3_downs 16 = .ok (.if_icmp .ne 7, 3) := by decide +kernel
theorem dX3_downs_19 : decode cX3_downs 19 = .ok (.iconst 5, 1) := by decide +kernel
theorem dX3_downs_20 : decode cX3_downs 20 = .ok (.goto 5, 3) := by decide +kernel
theorem dX3_downs_23 : decode cX3_downs 23 = .ok (.bipush 10, 2) := by decide +kernel
theorem dX3_downs_25 : decode cX3_downs 25 = .ok (.ireturn, 1) := by decide +kernel
theorem dX3_most_0 : decode cX3_most 0 = .ok (.aload_n 0, 1) := by decide +kernel
theorem dX3_most_1 : decode cX3_most 1 = .ok (.invokevirtual 64, 3) := by decide +kernel
theorem dX3_most_4 : decode cX3_most 4 = .ok (.iconst 5, 1) := by decide +kernel
theorem dX3_most_5 : decode cX3_most 5 = .ok (.imul, 1) := by decide +kernel
theorem dX3_most_6 : decode cX3_most 6 = .ok (.aload_n 0, 1) := by decide +kernel
theorem dX3_most_7 : decode cX3_most 7 = .ok (.invokevirtual 68, 3) := by decide +kernel
theorem dX3_most_10 : decode cX3_most 10 = .ok (.iadd, 1) := by decide +kernel
theorem dX3_most_11 : decode cX3_most 11 = .ok (.ireturn, 1) := by decide +kernel
theorem dX3_value_0 : decode cX3_value 0 = .ok (.aload_n 0, 1) := by decide +kernel
theorem dX3_value_1 : decode cX3_value 1 = .ok (.getfield 49, 3) := by decide +kernel
theorem dX3_value_4 : decode cX3_value 4 = .ok (.iload_n 1, 1) := by decide +kernel
theorem dX3_value_5 : decode cX3_value 5 = .ok (.iaload, 1) := by decide +kernel
theorem dX3_value_6 : decode cX3_value 6 = .ok (.iconst 5, 1) := by decide +kernel
theorem dX3_value_7 : decode cX3_value 7 = .ok (.imul, 1) := by decide +kernel
theorem dX3_value_8 : decode cX3_value 8 = .ok (.aload_n 0, 1) := by decide +kernel
theorem dX3_value_9 : decode cX3_value 9 = .ok (.getfield 52, 3) := by decide +kernel
theorem dX3_value_12 : decode cX3_value 12 = .ok (.iload_n 1, 1) := by decide +kernel
theorem dX3_value_13 : decode cX3_value 13 = .ok (.iaload, 1) := by decide +kernel
theorem dX3_value_14 : decode cX3_value 14 = .ok (.iadd, 1) := by decide +kernel
theorem dX3_value_15 : decode cX3_value 15 = .ok (.ireturn, 1) := by decide +kernel
theorem dX3_total_0 : decode cX3_total 0 = .ok (.lconst 0, 1) := by decide +kernel
theorem dX3_total_1 : decode cX3_total 1 = .ok (.lstore_n 1, 1) := by decide +kernel
theorem dX3_total_2 : decode cX3_total 2 = .ok (.lconst 1, 1) := by decide +kernel
theorem dX3_total_3 : decode cX3_total 3 = .ok (.lstore_n 3, 1) := by decide +kernel
theorem dX3_total_4 : decode cX3_total 4 = .ok (.iconst 0, 1) := by decide +kernel
theorem dX3_total_5 : decode cX3_total 5 = .ok (.istore 5, 2) := by decide +kernel
theorem dX3_total_7 : decode cX3_total 7 = .ok (.iload 5, 2) := by decide +kernel
theorem dX3_total_9 : decode cX3_total 9 = .ok (.aload_n 0, 1) := by decide +kernel
theorem dX3_total_10 : decode cX3_total 10 = .ok (.getfield 49, 3) := by decide +kernel
theorem dX3_total_13 : decode cX3_total 13 = .ok (.arraylength, 1) := by decide +kernel
theorem dX3_total_14 : decode cX3_total 14 = .ok (.if_icmp .ge 27, 3) := by decide +kernel
theorem dX3_total_17 : decode cX3_total 17 = .ok (.lload_n 1, 1) := by decide +kernel
theorem dX3_total_18 : decode cX3_total 18 = .ok (.lload_n 3, 1) := by decide +kernel
theorem dX3_total_19 : decode cX3_total 19 = .ok (.aload_n 0, 1) := by decide +kernel
theorem dX3_total_20 : decode cX3_total 20 = .ok (.iload 5, 2) := by decide +kernel
theorem dX3_total_22 : decode cX3_total 22 = .ok (.invokevirtual 71, 3) := by decide +kernel
theorem dX3_total_25 : decode cX3_total 25 = .ok (.i2l, 1) := by decide +kernel
theorem dX3_total_26 : decode cX3_total 26 = .ok (.lmul, 1) := by decide +kernel
theorem dX3_total_27 : decode cX3_total 27 = .ok (.ladd, 1) := by decide +kernel
theorem dX3_total_28 : decode cX3_total 28 = .ok (.lstore_n 1, 1) := by decide +kernel
theorem dX3_total_29 : decode cX3_total 29 = .ok (.iinc 5 1, 3) := by decide +kernel
theorem dX3_total_32 : decode cX3_total 32 = .ok (.lload_n 3, 1) := by decide +kernel
theorem dX3_total_33 : decode cX3_total 33 = .ok (.ldc2_w 74, 3) := by decide +kernel
theorem dX3_total_36 : decode cX3_total 36 = .ok (.lmul, 1) := by decide +kernel
theorem dX3_total_37 : decode cX3_total 37 = .ok (.lstore_n 3, 1) := by decide +kernel
theorem dX3_total_38 : decode cX3_total 38 = .ok (.goto (-31), 3) := by decide +kernel
theorem dX3_total_41 : decode cX3_total 41 = .ok (.lload_n 1, 1) := by decide +kernel
theorem dX3_total_42 : decode cX3_total 42 = .ok (.lreturn, 1) := by decide +kernel
theorem dX3_isTidy_0 : decode cX3_isTidy 0 = .ok (.iconst 1, 1) := by decide +kernel
theorem dX3_isTidy_1 : decode cX3_isTidy 1 = .ok (.istore_n 1, 1) := by decide +kernel
theorem dX3_isTidy_2 : decode cX3_isTidy 2 = .ok (.iconst 0, 1) := by decide +kernel
theorem dX3_isTidy_3 : decode cX3_isTidy 3 = .ok (.istore_n 2, 1) := by decide +kernel
theorem dX3_isTidy_4 : decode cX3_isTidy 4 = .ok (.iload_n 2, 1) := by decide +kernel
theorem dX3_isTidy_5 : decode cX3_isTidy 5 = .ok (.aload_n 0, 1) := by decide +kernel
theorem dX3_isTidy_6 : decode cX3_isTidy 6 = .ok (.getfield 49, 3) := by decide +kernel
theorem dX3_isTidy_9 : decode cX3_isTidy 9 = .ok (.arraylength, 1) := by decide +kernel
theorem dX3_isTidy_10 : decode cX3_isTidy 10 = .ok (.if_icmp .ge 27, 3) := by decide +kernel
theorem dX3_isTidy_13 : decode cX3_isTidy 13 = .ok (.iload_n 1, 1) := by decide +kernel
theorem dX3_isTidy_14 : decode cX3_isTidy 14 = .ok (.aload_n 0, 1) := by decide +kernel
theorem dX3_isTidy_15 : decode cX3_isTidy 15 = .ok (.iload_n 2, 1) := by decide +kernel
theorem dX3_isTidy_16 : decode cX3_isTidy 16 = .ok (.invokevirtual 71, 3) := by decide +kernel
theorem dX3_isTidy_19 : decode cX3_isTidy 19 = .ok (.bipush 10, 2) := by decide +kernel
theorem dX3_isTidy_21 : decode cX3_isTidy 21 = .ok (.if_icmp .ge 7, 3) := by decide +kernel
theorem dX3_isTidy_24 : decode cX3_isTidy 24 = .ok (.iconst 1, 1) := by decide +kernel
theorem dX3_isTidy_25 : decode cX3_isTidy 25 = .ok (.goto 4, 3) := by decide +kernel
theorem dX3_isTidy_28 : decode cX3_isTidy 28 = .ok (.iconst 0, 1) := by decide +kernel
theorem dX3_isTidy_29 : decode cX3_isTidy 29 = .ok (.iand, 1) := by decide +kernel
theorem dX3_isTidy_30 : decode cX3_isTidy 30 = .ok (.istore_n 1, 1) := by decide +kernel
theorem dX3_isTidy_31 : decode cX3_isTidy 31 = .ok (.iinc 2 1, 3) := by decide +kernel
theorem dX3_isTidy_34 : decode cX3_isTidy 34 = .ok (.goto (-30), 3) := by decide +kernel
theorem dX3_isTidy_37 : decode cX3_isTidy 37 = .ok (.iload_n 1, 1) := by decide +kernel
theorem dX3_isTidy_38 : decode cX3_isTidy 38 = .ok (.ireturn, 1) := by decide +kernel
theorem dX3_keep_0 : decode cX3_keep 0 = .ok (.iconst 2, 1) := by decide +kernel
theorem dX3_keep_1 : decode cX3_keep 1 = .ok (.aload_n 0, 1) := by decide +kernel
theorem dX3_keep_2 : decode cX3_keep 2 = .ok (.getfield 49, 3) := by decide +kernel
theorem dX3_keep_5 : decode cX3_keep 5 = .ok (.arraylength, 1) := by decide +kernel
theorem dX3_keep_6 : decode cX3_keep 6 = .ok (.imul, 1) := by decide +kernel
theorem dX3_keep_7 : decode cX3_keep 7 = .ok (.newarray .int, 2) := by decide +kernel
theorem dX3_keep_9 : decode cX3_keep 9 = .ok (.astore_n 1, 1) := by decide +kernel
theorem dX3_keep_10 : decode cX3_keep 10 = .ok (.aload_n 0, 1) := by decide +kernel
theorem dX3_keep_11 : decode cX3_keep 11 = .ok (.getfield 49, 3) := by decide +kernel
theorem dX3_keep_14 : decode cX3_keep 14 = .ok (.iconst 0, 1) := by decide +kernel
theorem dX3_keep_15 : decode cX3_keep 15 = .ok (.aload_n 1, 1) := by decide +kernel
theorem dX3_keep_16 : decode cX3_keep 16 = .ok (.iconst 0, 1) := by decide +kernel
theorem dX3_keep_17 : decode cX3_keep 17 = .ok (.aload_n 0, 1) := by decide +kernel
theorem dX3_keep_18 : decode cX3_keep 18 = .ok (.getfield 49, 3) := by decide +kernel
theorem dX3_keep_21 : decode cX3_keep 21 = .ok (.arraylength, 1) := by decide +kernel
theorem dX3_keep_22 : decode cX3_keep 22 = .ok (.invokestatic 76, 3) := by decide +kernel
theorem dX3_keep_25 : decode cX3_keep 25 = .ok (.aload_n 0, 1) := by decide +kernel
theorem dX3_keep_26 : decode cX3_keep 26 = .ok (.getfield 52, 3) := by decide +kernel
theorem dX3_keep_29 : decode cX3_keep 29 = .ok (.iconst 0, 1) := by decide +kernel
theorem dX3_keep_30 : decode cX3_keep 30 = .ok (.aload_n 1, 1) := by decide +kernel
theorem dX3_keep_31 : decode cX3_keep 31 = .ok (.aload_n 0, 1) := by decide +kernel
theorem dX3_keep_32 : decode cX3_keep 32 = .ok (.getfield 49, 3) := by decide +kernel
theorem dX3_keep_35 : decode cX3_keep 35 = .ok (.arraylength, 1) := by decide +kernel
theorem dX3_keep_36 : decode cX3_keep 36 = .ok (.aload_n 0, 1) := by decide +kernel
theorem dX3_keep_37 : decode cX3_keep 37 = .ok (.getfield 49, 3) := by decide +kernel
theorem dX3_keep_40 : decode cX3_keep 40 = .ok (.arraylength, 1) := by decide +kernel
theorem dX3_keep_41 : decode cX3_keep 41 = .ok (.invokestatic 76, 3) := by decide +kernel
theorem dX3_keep_44 : decode cX3_keep 44 = .ok (.aload_n 0, 1) := by decide +kernel
theorem dX3_keep_45 : decode cX3_keep 45 = .ok (.getfield 9, 3) := by decide +kernel
theorem dX3_keep_48 : decode cX3_keep 48 = .ok (.arraylength, 1) := by decide +kernel
theorem dX3_keep_49 : decode cX3_keep 49 = .ok (.bipush 12, 2) := by decide +kernel
theorem dX3_keep_51 : decode cX3_keep 51 = .ok (.if_icmp .ne 7, 3) := by decide +kernel
theorem dX3_keep_54 : decode cX3_keep 54 = .ok (.iconst 1, 1) := by decide +kernel
theorem dX3_keep_55 : decode cX3_keep 55 = .ok (.goto 4, 3) := by decide +kernel
theorem dX3_keep_58 : decode cX3_keep 58 = .ok (.iconst 0, 1) := by decide +kernel
theorem dX3_keep_59 : decode cX3_keep 59 = .ok (.istore_n 2, 1) := by decide +kernel
theorem dX3_keep_60 : decode cX3_keep 60 = .ok (.aload_n 0, 1) := by decide +kernel
theorem dX3_keep_61 : decode cX3_keep 61 = .ok (.getfield 9, 3) := by decide +kernel
theorem dX3_keep_64 : decode cX3_keep 64 = .ok (.arraylength, 1) := by decide +kernel
theorem dX3_keep_65 : decode cX3_keep 65 = .ok (.iload_n 2, 1) := by decide +kernel
theorem dX3_keep_66 : decode cX3_keep 66 = .ok (.isub, 1) := by decide +kernel
theorem dX3_keep_67 : decode cX3_keep 67 = .ok (.iconst 1, 1) := by decide +kernel
theorem dX3_keep_68 : decode cX3_keep 68 = .ok (.iadd, 1) := by decide +kernel
theorem dX3_keep_69 : decode cX3_keep 69 = .ok (.anewarray 7, 3) := by decide +kernel
theorem dX3_keep_72 : decode cX3_keep 72 = .ok (.astore_n 3, 1) := by decide +kernel
theorem dX3_keep_73 : decode cX3_keep 73 = .ok (.aload_n 0, 1) := by decide +kernel
theorem dX3_keep_74 : decode cX3_keep 74 = .ok (.getfield 9, 3) := by decide +kernel
theorem dX3_keep_77 : decode cX3_keep 77 = .ok (.iload_n 2, 1) := by decide +kernel
theorem dX3_keep_78 : decode cX3_keep 78 = .ok (.aload_n 3, 1) := by decide +kernel
theorem dX3_keep_79 : decode cX3_keep 79 = .ok (.iconst 0, 1) := by decide +kernel
theorem dX3_keep_80 : decode cX3_keep 80 = .ok (.aload_n 0, 1) := by decide +kernel
theorem dX3_keep_81 : decode cX3_keep 81 = .ok (.getfield 9, 3) := by decide +kernel
theorem dX3_keep_84 : decode cX3_keep 84 = .ok (.arraylength, 1) := by decide +kernel
theorem dX3_keep_85 : decode cX3_keep 85 = .ok (.iload_n 2, 1) := by decide +kernel
theorem dX3_keep_86 : decode cX3_keep 86 = .ok (.isub, 1) := by decide +kernel
theorem dX3_keep_87 : decode cX3_keep 87 = .ok (.invokestatic 76, 3) := by decide +kernel
theorem dX3_keep_90 : decode cX3_keep 90 = .ok (.aload_n 3, 1) := by decide +kernel
theorem dX3_keep_91 : decode cX3_keep 91 = .ok (.aload_n 3, 1) := by decide +kernel
theorem dX3_keep_92 : decode cX3_keep 92 = .ok (.arraylength, 1) := by decide +kernel
theorem dX3_keep_93 : decode cX3_keep 93 = .ok (.iconst 1, 1) := by decide +kernel
theorem dX3_keep_94 : decode cX3_keep 94 = .ok (.isub, 1) := by decide +kernel
theorem dX3_keep_95 : decode cX3_keep 95 = .ok (.aload_n 1, 1) := by decide +kernel
theorem dX3_keep_96 : decode cX3_keep 96 = .ok (.aastore, 1) := by decide +kernel
theorem dX3_keep_97 : decode cX3_keep 97 = .ok (.aload_n 0, 1) := by decide +kernel
theorem dX3_keep_98 : decode cX3_keep 98 = .ok (.aload_n 3, 1) := by decide +kernel
theorem dX3_keep_99 : decode cX3_keep 99 = .ok (.putfield 9, 3) := by decide +kernel
theorem dX3_keep_102 : decode cX3_keep 102 = .ok (.return_, 1) := by decide +kernel
theorem dX3_move_0 : decode cX3_move 0 = .ok (.iload_n 3, 1) := by decide +kernel
theorem dX3_move_1 : decode cX3_move 1 = .ok (.ifCond .ne 4, 3) := by decide +kernel
theorem dX3_move_4 : decode cX3_move 4 = .ok (.return_, 1) := by decide +kernel
theorem dX3_move_5 : decode cX3_move 5 = .ok (.iload_n 3, 1) := by decide +kernel
theorem dX3_move_6 : decode cX3_move 6 = .ok (.invokestatic 82, 3) := by decide +kernel
theorem dX3_move_9 : decode cX3_move 9 = .ok (.istore 4, 2) := by decide +kernel
theorem dX3_move_11 : decode cX3_move 11 = .ok (.aload_n 0, 1) := by decide +kernel
theorem dX3_move_12 : decode cX3_move 12 = .ok (.dup, 1) := by decide +kernel
theorem dX3_move_13 : decode cX3_move 13 = .ok (.getfield 87, 3) := by decide +kernel
theorem dX3_move_16 : decode cX3_move 16 = .ok (.iconst 2, 1) := by decide +kernel
theorem dX3_move_17 : decode cX3_move 17 = .ok (.aload_n 0, 1) := by decide +kernel
theorem dX3_move_18 : decode cX3_move 18 = .ok (.getfield 91, 3) := by decide +kernel
theorem dX3_move_21 : decode cX3_move 21 = .ok (.iload_n 1, 1) := by decide +kernel
theorem dX3_move_22 : decode cX3_move 22 = .ok (.isub, 1) := by decide +kernel
theorem dX3_move_23 : decode cX3_move 23 = .ok (.invokestatic 82, 3) := by decide +kernel
theorem dX3_move_26 : decode cX3_move 26 = .ok (.imul, 1) := by decide +kernel
theorem dX3_move_27 : decode cX3_move 27 = .ok (.iconst 4, 1) := by decide +kernel
theorem dX3_move_28 : decode cX3_move 28 = .ok (.iload 4, 2) := by decide +kernel
theorem dX3_move_30 : decode cX3_move 30 = .ok (.iadd, 1) := by decide +kernel
theorem dX3_move_31 : decode cX3_move 31 = .ok (.aload_n 0, 1) := by decide +kernel
theorem dX3_move_32 : decode cX3_move 32 = .ok (.getfield 56, 3) := by decide +kernel
theorem dX3_move_35 : decode cX3_move 35 = .ok (.iload_n 2, 1) := by decide +kernel
theorem dX3_move_36 : decode cX3_move 36 = .ok (.aaload, 1) := by decide +kernel
theorem dX3_move_37 : decode cX3_move 37 = .ok (.iload_n 1, 1) := by decide +kernel
theorem dX3_move_38 : decode cX3_move 38 = .ok (.iaload, 1) := by decide +kernel
theorem dX3_move_39 : decode cX3_move 39 = .ok (.bipush 40, 2) := by decide +kernel
theorem dX3_move_41 : decode cX3_move 41 = .ok (.if_icmp .lt 7, 3) := by decide +kernel
theorem dX3_move_44 : decode cX3_move 44 = .ok (.iconst 2, 1) := by decide +kernel
theorem dX3_move_45 : decode cX3_move 45 = .ok (.goto 4, 3) := by decide +kernel
theorem dX3_move_48 : decode cX3_move 48 = .ok (.iconst 1, 1) := by decide +kernel
theorem dX3_move_49 : decode cX3_move 49 = .ok (.imul, 1) := by decide +kernel
theorem dX3_move_50 : decode cX3_move 50 = .ok (.iadd, 1) := by decide +kernel
theorem dX3_move_51 : decode cX3_move 51 = .ok (.i2l, 1) := by decide +kernel
theorem dX3_move_52 : decode cX3_move 52 = .ok (.ladd, 1) := by decide +kernel
theorem dX3_move_53 : decode cX3_move 53 = .ok (.putfield 87, 3) := by decide +kernel
theorem dX3_move_56 : decode cX3_move 56 = .ok (.aload_n 0, 1) := by decide +kernel
theorem dX3_move_57 : decode cX3_move 57 = .ok (.iload_n 1, 1) := by decide +kernel
theorem dX3_move_58 : decode cX3_move 58 = .ok (.putfield 91, 3) := by decide +kernel
theorem dX3_move_61 : decode cX3_move 61 = .ok (.aload_n 0, 1) := by decide +kernel
theorem dX3_move_62 : decode cX3_move 62 = .ok (.getfield 56, 3) := by decide +kernel
theorem dX3_move_65 : decode cX3_move 65 = .ok (.iload_n 2, 1) := by decide +kernel
theorem dX3_move_66 : decode cX3_move 66 = .ok (.aaload, 1) := by decide +kernel
theorem dX3_move_67 : decode cX3_move 67 = .ok (.iload_n 1, 1) := by decide +kernel
theorem dX3_move_68 : decode cX3_move 68 = .ok (.dup2, 1) := by decide +kernel
theorem dX3_move_69 : decode cX3_move 69 = .ok (.iaload, 1) := by decide +kernel
theorem dX3_move_70 : decode cX3_move 70 = .ok (.iload 4, 2) := by decide +kernel
theorem dX3_move_72 : decode cX3_move 72 = .ok (.iadd, 1) := by decide +kernel
theorem dX3_move_73 : decode cX3_move 73 = .ok (.iastore, 1) := by decide +kernel
theorem dX3_move_74 : decode cX3_move 74 = .ok (.aload_n 0, 1) := by decide +kernel
theorem dX3_move_75 : decode cX3_move 75 = .ok (.getfield 15, 3) := by decide +kernel
theorem dX3_move_78 : decode cX3_move 78 = .ok (.iconst 0, 1) := by decide +kernel
theorem dX3_move_79 : decode cX3_move 79 = .ok (.dup2, 1) := by decide +kernel
theorem dX3_move_80 : decode cX3_move 80 = .ok (.iaload, 1) := by decide +kernel
theorem dX3_move_81 : decode cX3_move 81 = .ok (.iconst 1, 1) := by decide +kernel
theorem dX3_move_82 : decode cX3_move 82 = .ok (.iadd, 1) := by decide +kernel
theorem dX3_move_83 : decode cX3_move 83 = .ok (.iastore, 1) := by decide +kernel
theorem dX3_move_84 : decode cX3_move 84 = .ok (.aload_n 0, 1) := by decide +kernel
theorem dX3_move_85 : decode cX3_move 85 = .ok (.getfield 15, 3) := by decide +kernel
theorem dX3_move_88 : decode cX3_move 88 = .ok (.iconst 1, 1) := by decide +kernel
theorem dX3_move_89 : decode cX3_move 89 = .ok (.dup2, 1) := by decide +kernel
theorem dX3_move_90 : decode cX3_move 90 = .ok (.iaload, 1) := by decide +kernel
theorem dX3_move_91 : decode cX3_move 91 = .ok (.iload 4, 2) := by decide +kernel
theorem dX3_move_93 : decode cX3_move 93 = .ok (.iadd, 1) := by decide +kernel
theorem dX3_move_94 : decode cX3_move 94 = .ok (.iastore, 1) := by decide +kernel
theorem dX3_move_95 : decode cX3_move 95 = .ok (.iload_n 2, 1) := by decide +kernel
theorem dX3_move_96 : decode cX3_move 96 = .ok (.ifCond .ne 16, 3) := by decide +kernel
theorem dX3_move_99 : decode cX3_move 99 = .ok (.aload_n 0, 1) := by decide +kernel
theorem dX3_move_100 : decode cX3_move 100 = .ok (.getfield 49, 3) := by decide +kernel
theorem dX3_move_103 : decode cX3_move 103 = .ok (.iload_n 1, 1) := by decide +kernel
theorem dX3_move_104 : decode cX3_move 104 = .ok (.dup2, 1) := by decide +kernel
theorem dX3_move_105 : decode cX3_move 105 = .ok (.iaload, 1) := by decide +kernel
theorem dX3_move_106 : decode cX3_move 106 = .ok (.iload_n 3, 1) := by decide +kernel
theorem dX3_move_107 : decode cX3_move 107 = .ok (.iadd, 1) := by decide +kernel
theorem dX3_move_108 : decode cX3_move 108 = .ok (.iastore, 1) := by decide +kernel
theorem dX3_move_109 : decode cX3_move 109 = .ok (.goto 13, 3) := by decide +kernel
theorem dX3_move_112 : decode cX3_move 112 = .ok (.aload_n 0, 1) := by decide +kernel
theorem dX3_move_113 : decode cX3_move 113 = .ok (.getfield 52, 3) := by decide +kernel
theorem dX3_move_116 : decode cX3_move 116 = .ok (.iload_n 1, 1) := by decide +kernel
theorem dX3_move_117 : decode cX3_move 117 = .ok (.dup2, 1) := by decide +kernel
theorem dX3_move_118 : decode cX3_move 118 = .ok (.iaload, 1) := by decide +kernel
theorem dX3_move_119 : decode cX3_move 119 = .ok (.iload_n 3, 1) := by decide +kernel
theorem dX3_move_120 : decode cX3_move 120 = .ok (.iadd, 1) := by decide +kernel
theorem dX3_move_121 : decode cX3_move 121 = .ok (.iastore, 1) := by decide +kernel
theorem dX3_move_122 : decode cX3_move 122 = .ok (.return_, 1) := by decide +kernel
theorem dX3_set_0 : decode cX3_set 0 = .ok (.iconst (-1), 1) := by decide +kernel
theorem dX3_set_1 : decode cX3_set 1 = .ok (.istore_n 3, 1) := by decide +kernel
theorem dX3_set_2 : decode cX3_set 2 = .ok (.aload_n 0, 1) := by decide +kernel
theorem dX3_set_3 : decode cX3_set 3 = .ok (.invokevirtual 64, 3) := by decide +kernel
theorem dX3_set_6 : decode cX3_set 6 = .ok (.istore 4, 2) := by decide +kernel
theorem dX3_set_8 : decode cX3_set 8 = .ok (.iload 4, 2) := by decide +kernel
theorem dX3_set_10 : decode cX3_set 10 = .ok (.ifCond .lt 110, 3) := by decide +kernel
theorem dX3_set_13 : decode cX3_set 13 = .ok (.iload_n 2, 1) := by decide +kernel
theorem dX3_set_14 : decode cX3_set 14 = .ok (.iconst 5, 1) := by decide +kernel
theorem dX3_set_15 : decode cX3_set 15 = .ok (.iload 4, 2) := by decide +kernel
theorem dX3_set_17 : decode cX3_set 17 = .ok (.imul, 1) := by decide +kernel
theorem dX3_set_18 : decode cX3_set 18 = .ok (.isub, 1) := by decide +kernel
theorem dX3_set_19 : decode cX3_set 19 = .ok (.istore 5, 2) := by decide +kernel
theorem dX3_set_21 : decode cX3_set 21 = .ok (.iload 5, 2) := by decide +kernel
theorem dX3_set_23 : decode cX3_set 23 = .ok (.ifCond .lt 91, 3) := by decide +kernel
theorem dX3_set_26 : decode cX3_set 26 = .ok (.iload 5, 2) := by decide +kernel
theorem dX3_set_28 : decode cX3_set 28 = .ok (.aload_n 0, 1) := by decide +kernel
theorem dX3_set_29 : decode cX3_set 29 = .ok (.invokevirtual 68, 3) := by decide +kernel
theorem dX3_set_32 : decode cX3_set 32 = .ok (.if_icmp .le 6, 3) := by decide +kernel
theorem dX3_set_35 : decode cX3_set 35 = .ok (.goto 79, 3) := by decide +kernel
theorem dX3_set_38 : decode cX3_set 38 = .ok (.iload_n 3, 1) := by decide +kernel
theorem dX3_set_39 : decode cX3_set 39 = .ok (.ifCond .lt 72, 3) := by decide +kernel
theorem dX3_set_42 : decode cX3_set 42 = .ok (.aload_n 0, 1) := by decide +kernel
theorem dX3_set_43 : decode cX3_set 43 = .ok (.iload_n 1, 1) := by decide +kernel
theorem dX3_set_44 : decode cX3_set 44 = .ok (.iload 4, 2) := by decide +kernel
theorem dX3_set_46 : decode cX3_set 46 = .ok (.iload 5, 2) := by decide +kernel
theorem dX3_set_48 : decode cX3_set 48 = .ok (.invokevirtual 94, 3) := by decide +kernel
theorem dX3_set_51 : decode cX3_set 51 = .ok (.aload_n 0, 1) := by decide +kernel
theorem dX3_set_52 : decode cX3_set 52 = .ok (.iload_n 1, 1) := by decide +kernel
theorem dX3_set_53 : decode cX3_set 53 = .ok (.iload_n 3, 1) := by decide +kernel
theorem dX3_set_54 : decode cX3_set 54 = .ok (.iload_n 2, 1) := by decide +kernel
theorem dX3_set_55 : decode cX3_set 55 = .ok (.iconst 5, 1) := by decide +kernel
theorem dX3_set_56 : decode cX3_set 56 = .ok (.iload_n 3, 1) := by decide +kernel
theorem dX3_set_57 : decode cX3_set 57 = .ok (.imul, 1) := by decide +kernel
theorem dX3_set_58 : decode cX3_set 58 = .ok (.isub, 1) := by decide +kernel
theorem dX3_set_59 : decode cX3_set 59 = .ok (.invokevirtual 94, 3) := by decide +kernel
theorem dX3_set_62 : decode cX3_set 62 = .ok (.if_icmp .lt 49, 3) := by decide +kernel
theorem dX3_set_65 : decode cX3_set 65 = .ok (.aload_n 0, 1) := by decide +kernel
theorem dX3_set_66 : decode cX3_set 66 = .ok (.iload_n 1, 1) := by decide +kernel
theorem dX3_set_67 : decode cX3_set 67 = .ok (.iload 4, 2) := by decide +kernel
theorem dX3_set_69 : decode cX3_set 69 = .ok (.iload 5, 2) := by decide +kernel
theorem dX3_set_71 : decode cX3_set 71 = .ok (.invokevirtual 94, 3) := by decide +kernel
theorem dX3_set_74 : decode cX3_set 74 = .ok (.aload_n 0, 1) := by decide +kernel
theorem dX3_set_75 : decode cX3_set 75 = .ok (.iload_n 1, 1) := by decide +kernel
theorem dX3_set_76 : decode cX3_set 76 = .ok (.iload_n 3, 1) := by decide +kernel
theorem dX3_set_77 : decode cX3_set 77 = .ok (.iload_n 2, 1) := by decide +kernel
theorem dX3_set_78 : decode cX3_set 78 = .ok (.iconst 5, 1) := by decide +kernel
theorem dX3_set_79 : decode cX3_set 79 = .ok (.iload_n 3, 1) := by decide +kernel
theorem dX3_set_80 : decode cX3_set 80 = .ok (.imul, 1) := by decide +kernel
theorem dX3_set_81 : decode cX3_set 81 = .ok (.isub, 1) := by decide +kernel
theorem dX3_set_82 : decode cX3_set 82 = .ok (.invokevirtual 94, 3) := by decide +kernel
theorem dX3_set_85 : decode cX3_set 85 = .ok (.if_icmp .ne 29, 3) := by decide +kernel
theorem dX3_set_88 : decode cX3_set 88 = .ok (.aload_n 0, 1) := by decide +kernel
theorem dX3_set_89 : decode cX3_set 89 = .ok (.iload_n 1, 1) := by decide +kernel
theorem dX3_set_90 : decode cX3_set 90 = .ok (.iload 4, 2) := by decide +kernel
theorem dX3_set_92 : decode cX3_set 92 = .ok (.iload 5, 2) := by decide +kernel
theorem dX3_set_94 : decode cX3_set 94 = .ok (.invokevirtual 98, 3) := by decide +kernel
theorem dX3_set_97 : decode cX3_set 97 = .ok (.aload_n 0, 1) := by decide +kernel
theorem dX3_set_98 : decode cX3_set 98 = .ok (.iload_n 1, 1) := by decide +kernel
theorem dX3_set_99 : decode cX3_set 99 = .ok (.iload_n 3, 1) := by decide +kernel
theorem dX3_set_100 : decode cX3_set 100 = .ok (.iload_n 2, 1) := by decide +kernel
theorem dX3_set_101 : decode cX3_set 101 = .ok (.iconst 5, 1) := by decide +kernel
theorem dX3_set_102 : decode cX3_set 102 = .ok (.iload_n 3, 1) := by decide +kernel
theorem dX3_set_103 : decode cX3_set 103 = .ok (.imul, 1) := by decide +kernel
theorem dX3_set_104 : decode cX3_set 104 = .ok (.isub, 1) := by decide +kernel
theorem dX3_set_105 : decode cX3_set 105 = .ok (.invokevirtual 98, 3) := by decide +kernel
theorem dX3_set_108 : decode cX3_set 108 = .ok (.if_icmp .ge 6, 3) := by decide +kernel
theorem dX3_set_111 : decode cX3_set 111 = .ok (.iload 4, 2) := by decide +kernel
theorem dX3_set_113 : decode cX3_set 113 = .ok (.istore_n 3, 1) := by decide +kernel
theorem dX3_set_114 : decode cX3_set 114 = .ok (.iinc 4 (-1), 3) := by decide +kernel
theorem dX3_set_117 : decode cX3_set 117 = .ok (.goto (-109), 3) := by decide +kernel
theorem dX3_set_120 : decode cX3_set 120 = .ok (.iload_n 2, 1) := by decide +kernel
theorem dX3_set_121 : decode cX3_set 121 = .ok (.iconst 5, 1) := by decide +kernel
theorem dX3_set_122 : decode cX3_set 122 = .ok (.iload_n 3, 1) := by decide +kernel
theorem dX3_set_123 : decode cX3_set 123 = .ok (.imul, 1) := by decide +kernel
theorem dX3_set_124 : decode cX3_set 124 = .ok (.isub, 1) := by decide +kernel
theorem dX3_set_125 : decode cX3_set 125 = .ok (.istore 4, 2) := by decide +kernel
theorem dX3_set_127 : decode cX3_set 127 = .ok (.aload_n 0, 1) := by decide +kernel
theorem dX3_set_128 : decode cX3_set 128 = .ok (.iload_n 1, 1) := by decide +kernel
theorem dX3_set_129 : decode cX3_set 129 = .ok (.iconst 0, 1) := by decide +kernel
theorem dX3_set_130 : decode cX3_set 130 = .ok (.iload_n 3, 1) := by decide +kernel
theorem dX3_set_131 : decode cX3_set 131 = .ok (.aload_n 0, 1) := by decide +kernel
theorem dX3_set_132 : decode cX3_set 132 = .ok (.getfield 49, 3) := by decide +kernel
theorem dX3_set_135 : decode cX3_set 135 = .ok (.iload_n 1, 1) := by decide +kernel
theorem dX3_set_136 : decode cX3_set 136 = .ok (.iaload, 1) := by decide +kernel
theorem dX3_set_137 : decode cX3_set 137 = .ok (.isub, 1) := by decide +kernel
theorem dX3_set_138 : decode cX3_set 138 = .ok (.invokevirtual 101, 3) := by decide +kernel
theorem dX3_set_141 : decode cX3_set 141 = .ok (.aload_n 0, 1) := by decide +kernel
theorem dX3_set_142 : decode cX3_set 142 = .ok (.iload_n 1, 1) := by decide +kernel
theorem dX3_set_143 : decode cX3_set 143 = .ok (.iconst 1, 1) := by decide +kernel
theorem dX3_set_144 : decode cX3_set 144 = .ok (.iload 4, 2) := by decide +kernel
theorem dX3_set_146 : decode cX3_set 146 = .ok (.aload_n 0, 1) := by decide +kernel
theorem dX3_set_147 : decode cX3_set 147 = .ok (.getfield 52, 3) := by decide +kernel
theorem dX3_set_150 : decode cX3_set 150 = .ok (.iload_n 1, 1) := by decide +kernel
theorem dX3_set_151 : decode cX3_set 151 = .ok (.iaload, 1) := by decide +kernel
theorem dX3_set_152 : decode cX3_set 152 = .ok (.isub, 1) := by decide +kernel
theorem dX3_set_153 : decode cX3_set 153 = .ok (.invokevirtual 101, 3) := by decide +kernel
theorem dX3_set_156 : decode cX3_set 156 = .ok (.return_, 1) := by decide +kernel
theorem dX3_pushes_0 : decode cX3_pushes 0 = .ok (.iload_n 2, 1) := by decide +kernel
theorem dX3_pushes_1 : decode cX3_pushes 1 = .ok (.aload_n 0, 1) := by decide +kernel
theorem dX3_pushes_2 : decode cX3_pushes 2 = .ok (.getfield 49, 3) := by decide +kernel
theorem dX3_pushes_5 : decode cX3_pushes 5 = .ok (.iload_n 1, 1) := by decide +kernel
theorem dX3_pushes_6 : decode cX3_pushes 6 = .ok (.iaload, 1) := by decide +kernel
theorem dX3_pushes_7 : decode cX3_pushes 7 = .ok (.if_icmp .ne 7, 3) := by decide +kernel
theorem dX3_pushes_10 : decode cX3_pushes 10 = .ok (.iconst 0, 1) := by decide +kernel
theorem dX3_pushes_11 : decode cX3_pushes 11 = .ok (.goto 4, 3) := by decide +kernel
theorem dX3_pushes_14 : decode cX3_pushes 14 = .ok (.iconst 1, 1) := by decide +kernel
theorem dX3_pushes_15 : decode cX3_pushes 15 = .ok (.iload_n 3, 1) := by decide +kernel
theorem dX3_pushes_16 : decode cX3_pushes 16 = .ok (.aload_n 0, 1) := by decide +kernel
theorem dX3_pushes_17 : decode cX3_pushes 17 = .ok (.getfield 52, 3) := by decide +kernel
theorem dX3_pushes_20 : decode cX3_pushes 20 = .ok (.iload_n 1, 1) := by decide +kernel
theorem dX3_pushes_21 : decode cX3_pushes 21 = .ok (.iaload, 1) := by decide +kernel
theorem dX3_pushes_22 : decode cX3_pushes 22 = .ok (.if_icmp .ne 7, 3) := by decide +kernel
theorem dX3_pushes_25 : decode cX3_pushes 25 = .ok (.iconst 0, 1) := by decide +kernel
theorem dX3_pushes_26 : decode cX3_pushes 26 = .ok (.goto 4, 3) := by decide +kernel
theorem dX3_pushes_29 : decode cX3_pushes 29 = .ok (.iconst 1, 1) := by decide +kernel
theorem dX3_pushes_30 : decode cX3_pushes 30 = .ok (.iadd, 1) := by decide +kernel
theorem dX3_pushes_31 : decode cX3_pushes 31 = .ok (.ireturn, 1) := by decide +kernel
theorem dX3_beads_0 : decode cX3_beads 0 = .ok (.iload_n 2, 1) := by decide +kernel
theorem dX3_beads_1 : decode cX3_beads 1 = .ok (.aload_n 0, 1) := by decide +kernel
theorem dX3_beads_2 : decode cX3_beads 2 = .ok (.getfield 49, 3) := by decide +kernel
theorem dX3_beads_5 : decode cX3_beads 5 = .ok (.iload_n 1, 1) := by decide +kernel
theorem dX3_beads_6 : decode cX3_beads 6 = .ok (.iaload, 1) := by decide +kernel
theorem dX3_beads_7 : decode cX3_beads 7 = .ok (.isub, 1) := by decide +kernel
theorem dX3_beads_8 : decode cX3_beads 8 = .ok (.invokestatic 82, 3) := by decide +kernel
theorem dX3_beads_11 : decode cX3_beads 11 = .ok (.iload_n 3, 1) := by decide +kernel
theorem dX3_beads_12 : decode cX3_beads 12 = .ok (.aload_n 0, 1) := by decide +kernel
theorem dX3_beads_13 : decode cX3_beads 13 = .ok (.getfield 52, 3) := by decide +kernel
theorem dX3_beads_16 : decode cX3_beads 16 = .ok (.iload_n 1, 1) := by decide +kernel
theorem dX3_beads_17 : decode cX3_beads 17 = .ok (.iaload, 1) := by decide +kernel
theorem dX3_beads_18 : decode cX3_beads 18 = .ok (.isub, 1) := by decide +kernel
theorem dX3_beads_19 : decode cX3_beads 19 = .ok (.invokestatic 82, 3) := by decide +kernel
theorem dX3_beads_22 : decode cX3_beads 22 = .ok (.iadd, 1) := by decide +kernel
theorem dX3_beads_23 : decode cX3_beads 23 = .ok (.ireturn, 1) := by decide +kernel
theorem dX3_bring_0 : decode cX3_bring 0 = .ok (.iload_n 2, 1) := by decide +kernel
theorem dX3_bring_1 : decode cX3_bring 1 = .ok (.istore_n 3, 1) := by decide +kernel
theorem dX3_bring_2 : decode cX3_bring 2 = .ok (.iload_n 1, 1) := by decide +kernel
theorem dX3_bring_3 : decode cX3_bring 3 = .ok (.istore 4, 2) := by decide +kernel
theorem dX3_bring_5 : decode cX3_bring 5 = .ok (.iload_n 3, 1) := by decide +kernel
theorem dX3_bring_6 : decode cX3_bring 6 = .ok (.ifCond .le 76, 3) := by decide +kernel
theorem dX3_bring_9 : decode cX3_bring 9 = .ok (.iload 4, 2) := by decide +kernel
theorem dX3_bring_11 : decode cX3_bring 11 = .ok (.aload_n 0, 1) := by decide +kernel
theorem dX3_bring_12 : decode cX3_bring 12 = .ok (.getfield 49, 3) := by decide +kernel
theorem dX3_bring_15 : decode cX3_bring 15 = .ok (.arraylength, 1) := by decide +kernel
theorem dX3_bring_16 : decode cX3_bring 16 = .ok (.if_icmp .lt 14, 3) := by decide +kernel
theorem dX3_bring_19 : decode cX3_bring 19 = .ok (.aload_n 0, 1) := by decide +kernel
theorem dX3_bring_20 : decode cX3_bring 20 = .ok (.getfield 15, 3) := by decide +kernel
theorem dX3_bring_23 : decode cX3_bring 23 = .ok (.iconst 4, 1) := by decide +kernel
theorem dX3_bring_24 : decode cX3_bring 24 = .ok (.dup2, 1) := by decide +kernel
theorem dX3_bring_25 : decode cX3_bring 25 = .ok (.iaload, 1) := by decide +kernel
theorem dX3_bring_26 : decode cX3_bring 26 = .ok (.iload_n 3, 1) := by decide +kernel
theorem dX3_bring_27 : decode cX3_bring 27 = .ok (.iadd, 1) := by decide +kernel
theorem dX3_bring_28 : decode cX3_bring 28 = .ok (.iastore, 1) := by decide +kernel
theorem dX3_bring_29 : decode cX3_bring 29 = .ok (.return_, 1) := by decide +kernel
theorem dX3_bring_30 : decode cX3_bring 30 = .ok (.aload_n 0, 1) := by decide +kernel
theorem dX3_bring_31 : decode cX3_bring 31 = .ok (.iload 4, 2) := by decide +kernel
theorem dX3_bring_33 : decode cX3_bring 33 = .ok (.invokevirtual 71, 3) := by decide +kernel
theorem dX3_bring_36 : decode cX3_bring 36 = .ok (.iload_n 3, 1) := by decide +kernel
theorem dX3_bring_37 : decode cX3_bring 37 = .ok (.iadd, 1) := by decide +kernel
theorem dX3_bring_38 : decode cX3_bring 38 = .ok (.istore 5, 2) := by decide +kernel
theorem dX3_bring_40 : decode cX3_bring 40 = .ok (.iload 5, 2) := by decide +kernel
theorem dX3_bring_42 : decode cX3_bring 42 = .ok (.bipush 9, 2) := by decide +kernel
theorem dX3_bring_44 : decode cX3_bring 44 = .ok (.if_icmp .le 7, 3) := by decide +kernel
theorem dX3_bring_47 : decode cX3_bring 47 = .ok (.iconst 1, 1) := by decide +kernel
theorem dX3_bring_48 : decode cX3_bring 48 = .ok (.goto 4, 3) := by decide +kernel
theorem dX3_bring_51 : decode cX3_bring 51 = .ok (.iconst 0, 1) := by decide +kernel
theorem dX3_bring_52 : decode cX3_bring 52 = .ok (.istore_n 3, 1) := by decide +kernel
theorem dX3_bring_53 : decode cX3_bring 53 = .ok (.aload_n 0, 1) := by decide +kernel
theorem dX3_bring_54 : decode cX3_bring 54 = .ok (.iload 4, 2) := by decide +kernel
theorem dX3_bring_56 : decode cX3_bring 56 = .ok (.iload 5, 2) := by decide +kernel
theorem dX3_bring_58 : decode cX3_bring 58 = .ok (.bipush 10, 2) := by decide +kernel
theorem dX3_bring_60 : decode cX3_bring 60 = .ok (.iload_n 3, 1) := by decide +kernel
theorem dX3_bring_61 : decode cX3_bring 61 = .ok (.imul, 1) := by decide +kernel
theorem dX3_bring_62 : decode cX3_bring 62 = .ok (.isub, 1) := by decide +kernel
theorem dX3_bring_63 : decode cX3_bring 63 = .ok (.invokevirtual 105, 3) := by decide +kernel
theorem dX3_bring_66 : decode cX3_bring 66 = .ok (.aload_n 0, 1) := by decide +kernel
theorem dX3_bring_67 : decode cX3_bring 67 = .ok (.getfield 15, 3) := by decide +kernel
theorem dX3_bring_70 : decode cX3_bring 70 = .ok (.iconst 2, 1) := by decide +kernel
theorem dX3_bring_71 : decode cX3_bring 71 = .ok (.dup2, 1) := by decide +kernel
theorem dX3_bring_72 : decode cX3_bring 72 = .ok (.iaload, 1) := by decide +kernel
theorem dX3_bring_73 : decode cX3_bring 73 = .ok (.iload_n 3, 1) := by decide +kernel
theorem dX3_bring_74 : decode cX3_bring 74 = .ok (.iadd, 1) := by decide +kernel
theorem dX3_bring_75 : decode cX3_bring 75 = .ok (.iastore, 1) := by decide +kernel
theorem dX3_bring_76 : decode cX3_bring 76 = .ok (.iinc 4 1, 3) := by decide +kernel
theorem dX3_bring_79 : decode cX3_bring 79 = .ok (.goto (-74), 3) := by decide +kernel
theorem dX3_bring_82 : decode cX3_bring 82 = .ok (.return_, 1) := by decide +kernel
theorem dX3_digits_0 : decode cX3_digits 0 = .ok (.iload_n 2, 1) := by decide +kernel
theorem dX3_digits_1 : decode cX3_digits 1 = .ok (.newarray .int, 2) := by decide +kernel
theorem dX3_digits_3 : decode cX3_digits 3 = .ok (.astore_n 3, 1) := by decide +kernel
theorem dX3_digits_4 : decode cX3_digits 4 = .ok (.lload_n 0, 1) := by decide +kernel
theorem dX3_digits_5 : decode cX3_digits 5 = .ok (.lstore 4, 2) := by decide +kernel
theorem dX3_digits_7 : decode cX3_digits 7 = .ok (.iconst 0, 1) := by decide +kernel
theorem dX3_digits_8 : decode cX3_digits 8 = .ok (.istore 6, 2) := by decide +kernel
theorem dX3_digits_10 : decode cX3_digits 10 = .ok (.iload 6, 2) := by decide +kernel
theorem dX3_digits_12 : decode cX3_digits 12 = .ok (.iload_n 2, 1) := by decide +kernel
theorem dX3_digits_13 : decode cX3_digits 13 = .ok (.if_icmp .ge 28, 3) := by decide +kernel
theorem dX3_digits_16 : decode cX3_digits 16 = .ok (.aload_n 3, 1) := by decide +kernel
theorem dX3_digits_17 : decode cX3_digits 17 = .ok (.iload 6, 2) := by decide +kernel
theorem dX3_digits_19 : decode cX3_digits 19 = .ok (.lload 4, 2) := by decide +kernel
theorem dX3_digits_21 : decode cX3_digits 21 = .ok (.ldc2_w 74, 3) := by decide +kernel
theorem dX3_digits_24 : decode cX3_digits 24 = .ok (.lrem, 1) := by decide +kernel
theorem dX3_digits_25 : decode cX3_digits 25 = .ok (.l2i, 1) := by decide +kernel
theorem dX3_digits_26 : decode cX3_digits 26 = .ok (.iastore, 1) := by decide +kernel
theorem dX3_digits_27 : decode cX3_digits 27 = .ok (.iinc 6 1, 3) := by decide +kernel
theorem dX3_digits_30 : decode cX3_digits 30 = .ok (.lload 4, 2) := by decide +kernel
theorem dX3_digits_32 : decode cX3_digits 32 = .ok (.ldc2_w 74, 3) := by decide +kernel
theorem dX3_digits_35 : decode cX3_digits 35 = .ok (.ldiv, 1) := by decide +kernel
theorem dX3_digits_36 : decode cX3_digits 36 = .ok (.lstore 4, 2) := by decide +kernel
theorem dX3_digits_38 : decode cX3_digits 38 = .ok (.goto (-28), 3) := by decide +kernel
theorem dX3_digits_41 : decode cX3_digits 41 = .ok (.aload_n 3, 1) := by decide +kernel
theorem dX3_digits_42 : decode cX3_digits 42 = .ok (.areturn, 1) := by decide +kernel
theorem dX3_adds_0 : decode cX3_adds 0 = .ok (.iload_n 1, 1) := by decide +kernel
theorem dX3_adds_1 : decode cX3_adds 1 = .ok (.i2l, 1) := by decide +kernel
theorem dX3_adds_2 : decode cX3_adds 2 = .ok (.aload_n 0, 1) := by decide +kernel
theorem dX3_adds_3 : decode cX3_adds 3 = .ok (.getfield 49, 3) := by decide +kernel
theorem dX3_adds_6 : decode cX3_adds 6 = .ok (.arraylength, 1) := by decide +kernel
theorem dX3_adds_7 : decode cX3_adds 7 = .ok (.invokestatic 109, 3) := by decide +kernel
theorem dX3_adds_10 : decode cX3_adds 10 = .ok (.astore_n 2, 1) := by decide +kernel
theorem dX3_adds_11 : decode cX3_adds 11 = .ok (.aload_n 0, 1) := by decide +kernel
theorem dX3_adds_12 : decode cX3_adds 12 = .ok (.getfield 49, 3) := by decide +kernel
theorem dX3_adds_15 : decode cX3_adds 15 = .ok (.arraylength, 1) := by decide +kernel
theorem dX3_adds_16 : decode cX3_adds 16 = .ok (.iconst 1, 1) := by decide +kernel
theorem dX3_adds_17 : decode cX3_adds 17 = .ok (.isub, 1) := by decide +kernel
theorem dX3_adds_18 : decode cX3_adds 18 = .ok (.istore_n 3, 1) := by decide +kernel
theorem dX3_adds_19 : decode cX3_adds 19 = .ok (.iload_n 3, 1) := by decide +kernel
theorem dX3_adds_20 : decode cX3_adds 20 = .ok (.ifCond .lt 17, 3) := by decide +kernel
theorem dX3_adds_23 : decode cX3_adds 23 = .ok (.aload_n 0, 1) := by decide +kernel
theorem dX3_adds_24 : decode cX3_adds 24 = .ok (.iload_n 3, 1) := by decide +kernel
theorem dX3_adds_25 : decode cX3_adds 25 = .ok (.aload_n 2, 1) := by decide +kernel
theorem dX3_adds_26 : decode cX3_adds 26 = .ok (.iload_n 3, 1) := by decide +kernel
theorem dX3_adds_27 : decode cX3_adds 27 = .ok (.iaload, 1) := by decide +kernel
theorem dX3_adds_28 : decode cX3_adds 28 = .ok (.invokevirtual 113, 3) := by decide +kernel
theorem dX3_adds_31 : decode cX3_adds 31 = .ok (.iinc 3 (-1), 3) := by decide +kernel
theorem dX3_adds_34 : decode cX3_adds 34 = .ok (.goto (-15), 3) := by decide +kernel
theorem dX3_adds_37 : decode cX3_adds 37 = .ok (.return_, 1) := by decide +kernel
theorem dX3_some_0 : decode cX3_some 0 = .ok (.iconst 1, 1) := by decide +kernel
theorem dX3_some_1 : decode cX3_some 1 = .ok (.aload_n 0, 1) := by decide +kernel
theorem dX3_some_2 : decode cX3_some 2 = .ok (.aload_n 0, 1) := by decide +kernel
theorem dX3_some_3 : decode cX3_some 3 = .ok (.getfield 49, 3) := by decide +kernel
theorem dX3_some_6 : decode cX3_some 6 = .ok (.arraylength, 1) := by decide +kernel
theorem dX3_some_7 : decode cX3_some 7 = .ok (.invokevirtual 42, 3) := by decide +kernel
theorem dX3_some_10 : decode cX3_some 10 = .ok (.iadd, 1) := by decide +kernel
theorem dX3_some_11 : decode cX3_some 11 = .ok (.istore_n 1, 1) := by decide +kernel
theorem dX3_some_12 : decode cX3_some 12 = .ok (.iconst 0, 1) := by decide +kernel
theorem dX3_some_13 : decode cX3_some 13 = .ok (.istore_n 2, 1) := by decide +kernel
theorem dX3_some_14 : decode cX3_some 14 = .ok (.iconst 0, 1) := by decide +kernel
theorem dX3_some_15 : decode cX3_some 15 = .ok (.istore_n 3, 1) := by decide +kernel
theorem dX3_some_16 : decode cX3_some 16 = .ok (.iload_n 3, 1) := by decide +kernel
theorem dX3_some_17 : decode cX3_some 17 = .ok (.iload_n 1, 1) := by decide +kernel
theorem dX3_some_18 : decode cX3_some 18 = .ok (.if_icmp .ge 33, 3) := by decide +kernel
theorem dX3_some_21 : decode cX3_some 21 = .ok (.bipush 10, 2) := by decide +kernel
theorem dX3_some_23 : decode cX3_some 23 = .ok (.iload_n 2, 1) := by decide +kernel
theorem dX3_some_24 : decode cX3_some 24 = .ok (.imul, 1) := by decide +kernel
theorem dX3_some_25 : decode cX3_some 25 = .ok (.aload_n 0, 1) := by decide +kernel
theorem dX3_some_26 : decode cX3_some 26 = .ok (.aload_n 0, 1) := by decide +kernel
theorem dX3_some_27 : decode cX3_some 27 = .ok (.iconst 3, 1) := by decide +kernel
theorem dX3_some_28 : decode cX3_some 28 = .ok (.invokevirtual 42, 3) := by decide +kernel
theorem dX3_some_31 : decode cX3_some 31 = .ok (.ifCond .ne 7, 3) := by decide +kernel
theorem dX3_some_34 : decode cX3_some 34 = .ok (.iconst 3, 1) := by decide +kernel
theorem dX3_some_35 : decode cX3_some 35 = .ok (.goto 5, 3) := by decide +kernel
theorem dX3_some_38 : decode cX3_some 38 = .ok (.bipush 10, 2) := by decide +kernel
theorem dX3_some_40 : decode cX3_some 40 = .ok (.invokevirtual 42, 3) := by decide +kernel
theorem dX3_some_43 : decode cX3_some 43 = .ok (.iadd, 1) := by decide +kernel
theorem dX3_some_44 : decode cX3_some 44 = .ok (.istore_n 2, 1) := by decide +kernel
theorem dX3_some_45 : decode cX3_some 45 = .ok (.iinc 3 1, 3) := by decide +kernel
theorem dX3_some_48 : decode cX3_some 48 = .ok (.goto (-32), 3) := by decide +kernel
theorem dX3_some_51 : decode cX3_some 51 = .ok (.iload_n 2, 1) := by decide +kernel
theorem dX3_some_52 : decode cX3_some 52 = .ok (.ireturn, 1) := by decide +kernel
theorem dX3_add_0 : decode cX3_add 0 = .ok (.aload_n 0, 1) := by decide +kernel
theorem dX3_add_1 : decode cX3_add 1 = .ok (.invokevirtual 116, 3) := by decide +kernel
theorem dX3_add_4 : decode cX3_add 4 = .ok (.istore_n 1, 1) := by decide +kernel
theorem dX3_add_5 : decode cX3_add 5 = .ok (.aload_n 0, 1) := by decide +kernel
theorem dX3_add_6 : decode cX3_add 6 = .ok (.getfield 15, 3) := by decide +kernel
theorem dX3_add_9 : decode cX3_add 9 = .ok (.iconst 0, 1) := by decide +kernel
theorem dX3_add_10 : decode cX3_add 10 = .ok (.iaload, 1) := by decide +kernel
theorem dX3_add_11 : decode cX3_add 11 = .ok (.istore_n 2, 1) := by decide +kernel
theorem dX3_add_12 : decode cX3_add 12 = .ok (.aload_n 0, 1) := by decide +kernel
theorem dX3_add_13 : decode cX3_add 13 = .ok (.invokevirtual 119, 3) := by decide +kernel
theorem dX3_add_16 : decode cX3_add 16 = .ok (.aload_n 0, 1) := by decide +kernel
theorem dX3_add_17 : decode cX3_add 17 = .ok (.iload_n 1, 1) := by decide +kernel
theorem dX3_add_18 : decode cX3_add 18 = .ok (.invokevirtual 122, 3) := by decide +kernel
theorem dX3_add_21 : decode cX3_add 21 = .ok (.aload_n 0, 1) := by decide +kernel
theorem dX3_add_22 : decode cX3_add 22 = .ok (.getfield 18, 3) := by decide +kernel
theorem dX3_add_25 : decode cX3_add 25 = .ok (.aload_n 0, 1) := by decide +kernel
theorem dX3_add_26 : decode cX3_add 26 = .ok (.getfield 39, 3) := by decide +kernel
theorem dX3_add_29 : decode cX3_add 29 = .ok (.iload_n 1, 1) := by decide +kernel
theorem dX3_add_30 : decode cX3_add 30 = .ok (.invokevirtual 126, 3) := by decide +kernel
theorem dX3_add_33 : decode cX3_add 33 = .ok (.aload_n 0, 1) := by decide +kernel
theorem dX3_add_34 : decode cX3_add 34 = .ok (.getfield 15, 3) := by decide +kernel
theorem dX3_add_37 : decode cX3_add 37 = .ok (.iconst 0, 1) := by decide +kernel
theorem dX3_add_38 : decode cX3_add 38 = .ok (.iaload, 1) := by decide +kernel
theorem dX3_add_39 : decode cX3_add 39 = .ok (.iload_n 2, 1) := by decide +kernel
theorem dX3_add_40 : decode cX3_add 40 = .ok (.isub, 1) := by decide +kernel
theorem dX3_add_41 : decode cX3_add 41 = .ok (.if_icmp .ne 7, 3) := by decide +kernel
theorem dX3_add_44 : decode cX3_add 44 = .ok (.iconst 1, 1) := by decide +kernel
theorem dX3_add_45 : decode cX3_add 45 = .ok (.goto 4, 3) := by decide +kernel
theorem dX3_add_48 : decode cX3_add 48 = .ok (.iconst 0, 1) := by decide +kernel
theorem dX3_add_49 : decode cX3_add 49 = .ok (.ireturn, 1) := by decide +kernel
theorem dX3_off_0 : decode cX3_off 0 = .ok (.aload_n 0, 1) := by decide +kernel
theorem dX3_off_1 : decode cX3_off 1 = .ok (.iconst 2, 1) := by decide +kernel
theorem dX3_off_2 : decode cX3_off 2 = .ok (.invokevirtual 42, 3) := by decide +kernel
theorem dX3_off_5 : decode cX3_off 5 = .ok (.ifCond .ne 10, 3) := by decide +kernel
theorem dX3_off_8 : decode cX3_off 8 = .ok (.aload_n 0, 1) := by decide +kernel
theorem dX3_off_9 : decode cX3_off 9 = .ok (.invokevirtual 116, 3) := by decide +kernel
theorem dX3_off_12 : decode cX3_off 12 = .ok (.goto 18, 3) := by decide +kernel
theorem dX3_off_15 : decode cX3_off 15 = .ok (.aload_n 0, 1) := by decide +kernel
theorem dX3_off_16 : decode cX3_off 16 = .ok (.invokevirtual 129, 3) := by decide +kernel
theorem dX3_off_19 : decode cX3_off 19 = .ok (.iconst 1, 1) := by decide +kernel
theorem dX3_off_20 : decode cX3_off 20 = .ok (.aload_n 0, 1) := by decide +kernel
theorem dX3_off_21 : decode cX3_off 21 = .ok (.bipush 9, 2) := by decide +kernel
theorem dX3_off_23 : decode cX3_off 23 = .ok (.invokevirtual 42, 3) := by decide +kernel
theorem dX3_off_26 : decode cX3_off 26 = .ok (.iadd, 1) := by decide +kernel
theorem dX3_off_27 : decode cX3_off 27 = .ok (.i2l, 1) := by decide +kernel
theorem dX3_off_28 : decode cX3_off 28 = .ok (.ldiv, 1) := by decide +kernel
theorem dX3_off_29 : decode cX3_off 29 = .ok (.l2i, 1) := by decide +kernel
theorem dX3_off_30 : decode cX3_off 30 = .ok (.istore_n 1, 1) := by decide +kernel
theorem dX3_off_31 : decode cX3_off 31 = .ok (.iload_n 1, 1) := by decide +kernel
theorem dX3_off_32 : decode cX3_off 32 = .ok (.ldc 133, 2) := by decide +kernel
theorem dX3_off_34 : decode cX3_off 34 = .ok (.if_icmp .gt 19, 3) := by decide +kernel
theorem dX3_off_37 : decode cX3_off 37 = .ok (.iload_n 1, 1) := by decide +kernel
theorem dX3_off_38 : decode cX3_off 38 = .ok (.i2l, 1) := by decide +kernel
theorem dX3_off_39 : decode cX3_off 39 = .ok (.bipush 10, 2) := by decide +kernel
theorem dX3_off_41 : decode cX3_off 41 = .ok (.invokestatic 109, 3) := by decide +kernel
theorem dX3_off_44 : decode cX3_off 44 = .ok (.aload_n 0, 1) := by decide +kernel
theorem dX3_off_45 : decode cX3_off 45 = .ok (.getfield 49, 3) := by decide +kernel
theorem dX3_off_48 : decode cX3_off 48 = .ok (.arraylength, 1) := by decide +kernel
theorem dX3_off_49 : decode cX3_off 49 = .ok (.iaload, 1) := by decide +kernel
theorem dX3_off_50 : decode cX3_off 50 = .ok (.ifCond .le 5, 3) := by decide +kernel
theorem dX3_off_53 : decode cX3_off 53 = .ok (.iconst 1, 1) := by decide +kernel
theorem dX3_off_54 : decode cX3_off 54 = .ok (.ireturn, 1) := by decide +kernel
theorem dX3_off_55 : decode cX3_off 55 = .ok (.aload_n 0, 1) := by decide +kernel
theorem dX3_off_56 : decode cX3_off 56 = .ok (.invokevirtual 134, 3) := by decide +kernel
theorem dX3_off_59 : decode cX3_off 59 = .ok (.ifCond .eq 13, 3) := by decide +kernel
theorem dX3_off_62 : decode cX3_off 62 = .ok (.iload_n 1, 1) := by decide +kernel
theorem dX3_off_63 : decode cX3_off 63 = .ok (.i2l, 1) := by decide +kernel
theorem dX3_off_64 : decode cX3_off 64 = .ok (.aload_n 0, 1) := by decide +kernel
theorem dX3_off_65 : decode cX3_off 65 = .ok (.invokevirtual 129, 3) := by decide +kernel
theorem dX3_off_68 : decode cX3_off 68 = .ok (.lcmp, 1) := by decide +kernel
theorem dX3_off_69 : decode cX3_off 69 = .ok (.ifCond .le 26, 3) := by decide +kernel
theorem dX3_off_72 : decode cX3_off 72 = .ok (.aload_n 0, 1) := by decide +kernel
theorem dX3_off_73 : decode cX3_off 73 = .ok (.getfield 18, 3) := by decide +kernel
theorem dX3_off_76 : decode cX3_off 76 = .ok (.aload_n 0, 1) := by decide +kernel
theorem dX3_off_77 : decode cX3_off 77 = .ok (.getfield 39, 3) := by decide +kernel
theorem dX3_off_80 : decode cX3_off 80 = .ok (.iload_n 1, 1) := by decide +kernel
theorem dX3_off_81 : decode cX3_off 81 = .ok (.invokevirtual 138, 3) := by decide +kernel
theorem dX3_off_84 : decode cX3_off 84 = .ok (.bipush (-2), 2) := by decide +kernel
theorem dX3_off_86 : decode cX3_off 86 = .ok (.if_icmp .ne 7, 3) := by decide +kernel
theorem dX3_off_89 : decode cX3_off 89 = .ok (.iconst 1, 1) := by decide +kernel
theorem dX3_off_90 : decode cX3_off 90 = .ok (.goto 4, 3) := by decide +kernel
theorem dX3_off_93 : decode cX3_off 93 = .ok (.iconst 0, 1) := by decide +kernel
theorem dX3_off_94 : decode cX3_off 94 = .ok (.ireturn, 1) := by decide +kernel
theorem dX3_off_95 : decode cX3_off 95 = .ok (.aload_n 0, 1) := by decide +kernel
theorem dX3_off_96 : decode cX3_off 96 = .ok (.getfield 15, 3) := by decide +kernel
theorem dX3_off_99 : decode cX3_off 99 = .ok (.iconst 0, 1) := by decide +kernel
theorem dX3_off_100 : decode cX3_off 100 = .ok (.iaload, 1) := by decide +kernel
theorem dX3_off_101 : decode cX3_off 101 = .ok (.istore_n 2, 1) := by decide +kernel
theorem dX3_off_102 : decode cX3_off 102 = .ok (.aload_n 0, 1) := by decide +kernel
theorem dX3_off_103 : decode cX3_off 103 = .ok (.invokevirtual 119, 3) := by decide +kernel
theorem dX3_off_106 : decode cX3_off 106 = .ok (.iload_n 1, 1) := by decide +kernel
theorem dX3_off_107 : decode cX3_off 107 = .ok (.i2l, 1) := by decide +kernel
theorem dX3_off_108 : decode cX3_off 108 = .ok (.aload_n 0, 1) := by decide +kernel
theorem dX3_off_109 : decode cX3_off 109 = .ok (.getfield 49, 3) := by decide +kernel
theorem dX3_off_112 : decode cX3_off 112 = .ok (.arraylength, 1) := by decide +kernel
theorem dX3_off_113 : decode cX3_off 113 = .ok (.invokestatic 109, 3) := by decide +kernel
theorem dX3_off_116 : decode cX3_off 116 = .ok (.astore_n 3, 1) := by decide +kernel
theorem dX3_off_117 : decode cX3_off 117 = .ok (.aload_n 0, 1) := by decide +kernel
theorem dX3_off_118 : decode cX3_off 118 = .ok (.getfield 49, 3) := by decide +kernel
theorem dX3_off_121 : decode cX3_off 121 = .ok (.arraylength, 1) := by decide +kernel
theorem dX3_off_122 : decode cX3_off 122 = .ok (.iconst 1, 1) := by decide +kernel
theorem dX3_off_123 : decode cX3_off 123 = .ok (.isub, 1) := by decide +kernel
theorem dX3_off_124 : decode cX3_off 124 = .ok (.istore 4, 2) := by decide +kernel
theorem dX3_off_126 : decode cX3_off 126 = .ok (.iload 4, 2) := by decide +kernel
theorem dX3_off_128 : decode cX3_off 128 = .ok (.ifCond .lt 110, 3) := by decide +kernel
theorem dX3_off_131 : decode cX3_off 131 = .ok (.aload_n 0, 1) := by decide +kernel
theorem dX3_off_132 : decode cX3_off 132 = .ok (.iload 4, 2) := by decide +kernel
theorem dX3_off_134 : decode cX3_off 134 = .ok (.invokevirtual 71, 3) := by decide +kernel
theorem dX3_off_137 : decode cX3_off 137 = .ok (.aload_n 3, 1) := by decide +kernel
theorem dX3_off_138 : decode cX3_off 138 = .ok (.iload 4, 2) := by decide +kernel
theorem dX3_off_140 : decode cX3_off 140 = .ok (.iaload, 1) := by decide +kernel
theorem dX3_off_141 : decode cX3_off 141 = .ok (.isub, 1) := by decide +kernel
theorem dX3_off_142 : decode cX3_off 142 = .ok (.istore 5, 2) := by decide +kernel
theorem dX3_off_144 : decode cX3_off 144 = .ok (.iload 5, 2) := by decide +kernel
theorem dX3_off_146 : decode cX3_off 146 = .ok (.ifCond .ge 78, 3) := by decide +kernel
theorem dX3_off_149 : decode cX3_off 149 = .ok (.iload 4, 2) := by decide +kernel
theorem dX3_off_151 : decode cX3_off 151 = .ok (.iconst 1, 1) := by decide +kernel
theorem dX3_off_152 : decode cX3_off 152 = .ok (.iadd, 1) := by decide +kernel
theorem dX3_off_153 : decode cX3_off 153 = .ok (.istore 6, 2) := by decide +kernel
theorem dX3_off_155 : decode cX3_off 155 = .ok (.aload_n 0, 1) := by decide +kernel
theorem dX3_off_156 : decode cX3_off 156 = .ok (.iload 6, 2) := by decide +kernel
theorem dX3_off_158 : decode cX3_off 158 = .ok (.invokevirtual 71, 3) := by decide +kernel
theorem dX3_off_161 : decode cX3_off 161 = .ok (.ifCond .ne 9, 3) := by decide +kernel
theorem dX3_off_164 : decode cX3_off 164 = .ok (.iinc 6 1, 3) := by decide +kernel
theorem dX3_off_167 : decode cX3_off 167 = .ok (.goto (-12), 3) := by decide +kernel
theorem dX3_off_170 : decode cX3_off 170 = .ok (.aload_n 0, 1) := by decide +kernel
theorem dX3_off_171 : decode cX3_off 171 = .ok (.iload 6, 2) := by decide +kernel
theorem dX3_off_173 : decode cX3_off 173 = .ok (.aload_n 0, 1) := by decide +kernel
theorem dX3_off_174 : decode cX3_off 174 = .ok (.iload 6, 2) := by decide +kernel
theorem dX3_off_176 : decode cX3_off 176 = .ok (.invokevirtual 71, 3) := by decide +kernel
theorem dX3_off_179 : decode cX3_off 179 = .ok (.iconst 1, 1) := by decide +kernel
theorem dX3_off_180 : decode cX3_off 180 = .ok (.isub, 1) := by decide +kernel
theorem dX3_off_181 : decode cX3_off 181 = .ok (.invokevirtual 105, 3) := by decide +kernel
theorem dX3_off_184 : decode cX3_off 184 = .ok (.iload 6, 2) := by decide +kernel
theorem dX3_off_186 : decode cX3_off 186 = .ok (.iconst 1, 1) := by decide +kernel
theorem dX3_off_187 : decode cX3_off 187 = .ok (.isub, 1) := by decide +kernel
theorem dX3_off_188 : decode cX3_off 188 = .ok (.istore 7, 2) := by decide +kernel
theorem dX3_off_190 : decode cX3_off 190 = .ok (.iload 7, 2) := by decide +kernel
theorem dX3_off_192 : decode cX3_off 192 = .ok (.iload 4, 2) := by decide +kernel
theorem dX3_off_194 : decode cX3_off 194 = .ok (.if_icmp .le 17, 3) := by decide +kernel
theorem dX3_off_197 : decode cX3_off 197 = .ok (.aload_n 0, 1) := by decide +kernel
theorem dX3_off_198 : decode cX3_off 198 = .ok (.iload 7, 2) := by decide +kernel
theorem dX3_off_200 : decode cX3_off 200 = .ok (.bipush 9, 2) := by decide +kernel
theorem dX3_off_202 : decode cX3_off 202 = .ok (.invokevirtual 105, 3) := by decide +kernel
theorem dX3_off_205 : decode cX3_off 205 = .ok (.iinc 7 (-1), 3) := by decide +kernel
theorem dX3_off_208 : decode cX3_off 208 = .ok (.goto (-18), 3) := by decide +kernel
theorem dX3_off_211 : decode cX3_off 211 = .ok (.iinc 5 10, 3) := by decide +kernel
theorem dX3_off_214 : decode cX3_off 214 = .ok (.aload_n 0, 1) := by decide +kernel
theorem dX3_off_215 : decode cX3_off 215 = .ok (.getfield 15, 3) := by decide +kernel
theorem dX3_off_218 : decode cX3_off 218 = .ok (.iconst 3, 1) := by decide +kernel
theorem dX3_off_219 : decode cX3_off 219 = .ok (.dup2, 1) := by decide +kernel
theorem dX3_off_220 : decode cX3_off 220 = .ok (.iaload, 1) := by decide +kernel
theorem dX3_off_221 : decode cX3_off 221 = .ok (.iconst 1, 1) := by decide +kernel
theorem dX3_off_222 : decode cX3_off 222 = .ok (.iadd, 1) := by decide +kernel
theorem dX3_off_223 : decode cX3_off 223 = .ok (.iastore, 1) := by decide +kernel
theorem dX3_off_224 : decode cX3_off 224 = .ok (.aload_n 0, 1) := by decide +kernel
theorem dX3_off_225 : decode cX3_off 225 = .ok (.iload 4, 2) := by decide +kernel
theorem dX3_off_227 : decode cX3_off 227 = .ok (.iload 5, 2) := by decide +kernel
theorem dX3_off_229 : decode cX3_off 229 = .ok (.invokevirtual 105, 3) := by decide +kernel
theorem dX3_off_232 : decode cX3_off 232 = .ok (.iinc 4 (-1), 3) := by decide +kernel
theorem dX3_off_235 : decode cX3_off 235 = .ok (.goto (-109), 3) := by decide +kernel
theorem dX3_off_238 : decode cX3_off 238 = .ok (.aload_n 0, 1) := by decide +kernel
theorem dX3_off_239 : decode cX3_off 239 = .ok (.getfield 18, 3) := by decide +kernel
theorem dX3_off_242 : decode cX3_off 242 = .ok (.aload_n 0, 1) := by decide +kernel
theorem dX3_off_243 : decode cX3_off 243 = .ok (.getfield 39, 3) := by decide +kernel
theorem dX3_off_246 : decode cX3_off 246 = .ok (.iload_n 1, 1) := by decide +kernel
theorem dX3_off_247 : decode cX3_off 247 = .ok (.invokevirtual 138, 3) := by decide +kernel
theorem dX3_off_250 : decode cX3_off 250 = .ok (.aload_n 0, 1) := by decide +kernel
theorem dX3_off_251 : decode cX3_off 251 = .ok (.getfield 15, 3) := by decide +kernel
theorem dX3_off_254 : decode cX3_off 254 = .ok (.iconst 0, 1) := by decide +kernel
theorem dX3_off_255 : decode cX3_off 255 = .ok (.iaload, 1) := by decide +kernel
theorem dX3_off_256 : decode cX3_off 256 = .ok (.iload_n 2, 1) := by decide +kernel
theorem dX3_off_257 : decode cX3_off 257 = .ok (.isub, 1) := by decide +kernel
theorem dX3_off_258 : decode cX3_off 258 = .ok (.if_icmp .ne 7, 3) := by decide +kernel
theorem dX3_off_261 : decode cX3_off 261 = .ok (.iconst 1, 1) := by decide +kernel
theorem dX3_off_262 : decode cX3_off 262 = .ok (.goto 4, 3) := by decide +kernel
theorem dX3_off_265 : decode cX3_off 265 = .ok (.iconst 0, 1) := by decide +kernel
theorem dX3_off_266 : decode cX3_off 266 = .ok (.ireturn, 1) := by decide +kernel
theorem dX3_times_0 : decode cX3_times 0 = .ok (.aload_n 0, 1) := by decide +kernel
theorem dX3_times_1 : decode cX3_times 1 = .ok (.bipush 10, 2) := by decide +kernel
theorem dX3_times_3 : decode cX3_times 3 = .ok (.invokevirtual 42, 3) := by decide +kernel
theorem dX3_times_6 : decode cX3_times 6 = .ok (.istore_n 1, 1) := by decide +kernel
theorem dX3_times_7 : decode cX3_times 7 = .ok (.aload_n 0, 1) := by decide +kernel
theorem dX3_times_8 : decode cX3_times 8 = .ok (.getfield 15, 3) := by decide +kernel
theorem dX3_times_11 : decode cX3_times 11 = .ok (.iconst 4, 1) := by decide +kernel
theorem dX3_times_12 : decode cX3_times 12 = .ok (.iaload, 1) := by decide +kernel
theorem dX3_times_13 : decode cX3_times 13 = .ok (.istore_n 2, 1) := by decide +kernel
theorem dX3_times_14 : decode cX3_times 14 = .ok (.aload_n 0, 1) := by decide +kernel
theorem dX3_times_15 : decode cX3_times 15 = .ok (.invokevirtual 119, 3) := by decide +kernel
theorem dX3_times_18 : decode cX3_times 18 = .ok (.aload_n 0, 1) := by decide +kernel
theorem dX3_times_19 : decode cX3_times 19 = .ok (.getfield 49, 3) := by decide +kernel
theorem dX3_times_22 : decode cX3_times 22 = .ok (.arraylength, 1) := by decide +kernel
theorem dX3_times_23 : decode cX3_times 23 = .ok (.iconst 1, 1) := by decide +kernel
theorem dX3_times_24 : decode cX3_times 24 = .ok (.isub, 1) := by decide +kernel
theorem dX3_times_25 : decode cX3_times 25 = .ok (.istore_n 3, 1) := by decide +kernel
theorem dX3_times_26 : decode cX3_times 26 = .ok (.iload_n 3, 1) := by decide +kernel
theorem dX3_times_27 : decode cX3_times 27 = .ok (.ifCond .lt 57, 3) := by decide +kernel
theorem dX3_times_30 : decode cX3_times 30 = .ok (.iload_n 1, 1) := by decide +kernel
theorem dX3_times_31 : decode cX3_times 31 = .ok (.aload_n 0, 1) := by decide +kernel
theorem dX3_times_32 : decode cX3_times 32 = .ok (.iload_n 3, 1) := by decide +kernel
theorem dX3_times_33 : decode cX3_times 33 = .ok (.invokevirtual 71, 3) := by decide +kernel
theorem dX3_times_36 : decode cX3_times 36 = .ok (.imul, 1) := by decide +kernel
theorem dX3_times_37 : decode cX3_times 37 = .ok (.i2l, 1) := by decide +kernel
theorem dX3_times_38 : decode cX3_times 38 = .ok (.iconst 3, 1) := by decide +kernel
theorem dX3_times_39 : decode cX3_times 39 = .ok (.invokestatic 109, 3) := by decide +kernel
theorem dX3_times_42 : decode cX3_times 42 = .ok (.astore 4, 2) := by decide +kernel
theorem dX3_times_44 : decode cX3_times 44 = .ok (.aload_n 0, 1) := by decide +kernel
theorem dX3_times_45 : decode cX3_times 45 = .ok (.iload_n 3, 1) := by decide +kernel
theorem dX3_times_46 : decode cX3_times 46 = .ok (.iconst 0, 1) := by decide +kernel
theorem dX3_times_47 : decode cX3_times 47 = .ok (.invokevirtual 105, 3) := by decide +kernel
theorem dX3_times_50 : decode cX3_times 50 = .ok (.iconst 0, 1) := by decide +kernel
theorem dX3_times_51 : decode cX3_times 51 = .ok (.istore 5, 2) := by decide +kernel
theorem dX3_times_53 : decode cX3_times 53 = .ok (.iload 5, 2) := by decide +kernel
theorem dX3_times_55 : decode cX3_times 55 = .ok (.iconst 3, 1) := by decide +kernel
theorem dX3_times_56 : decode cX3_times 56 = .ok (.if_icmp .ge 22, 3) := by decide +kernel
theorem dX3_times_59 : decode cX3_times 59 = .ok (.aload_n 0, 1) := by decide +kernel
theorem dX3_times_60 : decode cX3_times 60 = .ok (.iload_n 3, 1) := by decide +kernel
theorem dX3_times_61 : decode cX3_times 61 = .ok (.iload 5, 2) := by decide +kernel
theorem dX3_times_63 : decode cX3_times 63 = .ok (.iadd, 1) := by decide +kernel
theorem dX3_times_64 : decode cX3_times 64 = .ok (.aload 4, 2) := by decide +kernel
theorem dX3_times_66 : decode cX3_times 66 = .ok (.iload 5, 2) := by decide +kernel
theorem dX3_times_68 : decode cX3_times 68 = .ok (.iaload, 1) := by decide +kernel
theorem dX3_times_69 : decode cX3_times 69 = .ok (.invokevirtual 113, 3) := by decide +kernel
theorem dX3_times_72 : decode cX3_times 72 = .ok (.iinc 5 1, 3) := by decide +kernel
theorem dX3_times_75 : decode cX3_times 75 = .ok (.goto (-22), 3) := by decide +kernel
theorem dX3_times_78 : decode cX3_times 78 = .ok (.iinc 3 (-1), 3) := by decide +kernel
theorem dX3_times_81 : decode cX3_times 81 = .ok (.goto (-55), 3) := by decide +kernel
theorem dX3_times_84 : decode cX3_times 84 = .ok (.aload_n 0, 1) := by decide +kernel
theorem dX3_times_85 : decode cX3_times 85 = .ok (.getfield 18, 3) := by decide +kernel
theorem dX3_times_88 : decode cX3_times 88 = .ok (.aload_n 0, 1) := by decide +kernel
theorem dX3_times_89 : decode cX3_times 89 = .ok (.getfield 39, 3) := by decide +kernel
theorem dX3_times_92 : decode cX3_times 92 = .ok (.iload_n 1, 1) := by decide +kernel
theorem dX3_times_93 : decode cX3_times 93 = .ok (.invokevirtual 141, 3) := by decide +kernel
theorem dX3_times_96 : decode cX3_times 96 = .ok (.aload_n 0, 1) := by decide +kernel
theorem dX3_times_97 : decode cX3_times 97 = .ok (.getfield 15, 3) := by decide +kernel
theorem dX3_times_100 : decode cX3_times 100 = .ok (.iconst 4, 1) := by decide +kernel
theorem dX3_times_101 : decode cX3_times 101 = .ok (.iaload, 1) := by decide +kernel
theorem dX3_times_102 : decode cX3_times 102 = .ok (.iload_n 2, 1) := by decide +kernel
theorem dX3_times_103 : decode cX3_times 103 = .ok (.isub, 1) := by decide +kernel
theorem dX3_times_104 : decode cX3_times 104 = .ok (.if_icmp .ne 7, 3) := by decide +kernel
theorem dX3_times_107 : decode cX3_times 107 = .ok (.iconst 1, 1) := by decide +kernel
theorem dX3_times_108 : decode cX3_times 108 = .ok (.goto 4, 3) := by decide +kernel
theorem dX3_times_111 : decode cX3_times 111 = .ok (.iconst 0, 1) := by decide +kernel
theorem dX3_times_112 : decode cX3_times 112 = .ok (.ireturn, 1) := by decide +kernel
theorem dX3_divide_0 : decode cX3_divide 0 = .ok (.iconst 1, 1) := by decide +kernel
theorem dX3_divide_1 : decode cX3_divide 1 = .ok (.aload_n 0, 1) := by decide +kernel
theorem dX3_divide_2 : decode cX3_divide 2 = .ok (.bipush 9, 2) := by decide +kernel
theorem dX3_divide_4 : decode cX3_divide 4 = .ok (.invokevirtual 42, 3) := by decide +kernel
theorem dX3_divide_7 : decode cX3_divide 7 = .ok (.iadd, 1) := by decide +kernel
theorem dX3_divide_8 : decode cX3_divide 8 = .ok (.istore_n 1, 1) := by decide +kernel
theorem dX3_divide_9 : decode cX3_divide 9 = .ok (.iconst 0, 1) := by decide +kernel
theorem dX3_divide_10 : decode cX3_divide 10 = .ok (.istore_n 2, 1) := by decide +kernel
theorem dX3_divide_11 : decode cX3_divide 11 = .ok (.aload_n 0, 1) := by decide +kernel
theorem dX3_divide_12 : decode cX3_divide 12 = .ok (.invokevirtual 119, 3) := by decide +kernel
theorem dX3_divide_15 : decode cX3_divide 15 = .ok (.aload_n 0, 1) := by decide +kernel
theorem dX3_divide_16 : decode cX3_divide 16 = .ok (.getfield 49, 3) := by decide +kernel
theorem dX3_divide_19 : decode cX3_divide 19 = .ok (.arraylength, 1) := by decide +kernel
theorem dX3_divide_20 : decode cX3_divide 20 = .ok (.iconst 1, 1) := by decide +kernel
theorem dX3_divide_21 : decode cX3_divide 21 = .ok (.isub, 1) := by decide +kernel
theorem dX3_divide_22 : decode cX3_divide 22 = .ok (.istore_n 3, 1) := by decide +kernel
theorem dX3_divide_23 : decode cX3_divide 23 = .ok (.iload_n 3, 1) := by decide +kernel
theorem dX3_divide_24 : decode cX3_divide 24 = .ok (.ifCond .lt 40, 3) := by decide +kernel
theorem dX3_divide_27 : decode cX3_divide 27 = .ok (.bipush 10, 2) := by decide +kernel
theorem dX3_divide_29 : decode cX3_divide 29 = .ok (.iload_n 2, 1) := by decide +kernel
theorem dX3_divide_30 : decode cX3_divide 30 = .ok (.imul, 1) := by decide +kernel
theorem dX3_divide_31 : decode cX3_divide 31 = .ok (.aload_n 0, 1) := by decide +kernel
theorem dX3_divide_32 : decode cX3_divide 32 = .ok (.iload_n 3, 1) := by decide +kernel
theorem dX3_divide_33 : decode cX3_divide 33 = .ok (.invokevirtual 71, 3) := by decide +kernel
theorem dX3_divide_36 : decode cX3_divide 36 = .ok (.iadd, 1) := by decide +kernel
theorem dX3_divide_37 : decode cX3_divide 37 = .ok (.istore 4, 2) := by decide +kernel
theorem dX3_divide_39 : decode cX3_divide 39 = .ok (.aload_n 0, 1) := by decide +kernel
theorem dX3_divide_40 : decode cX3_divide 40 = .ok (.iload_n 3, 1) := by decide +kernel
theorem dX3_divide_41 : decode cX3_divide 41 = .ok (.iload 4, 2) := by decide +kernel
theorem dX3_divide_43 : decode cX3_divide 43 = .ok (.iload_n 1, 1) := by decide +kernel
theorem dX3_divide_44 : decode cX3_divide 44 = .ok (.idiv, 1) := by decide +kernel
theorem dX3_divide_45 : decode cX3_divide 45 = .ok (.invokevirtual 105, 3) := by decide +kernel
theorem dX3_divide_48 : decode cX3_divide 48 = .ok (.iload 4, 2) := by decide +kernel
theorem dX3_divide_50 : decode cX3_divide 50 = .ok (.iload 4, 2) := by decide +kernel
theorem dX3_divide_52 : decode cX3_divide 52 = .ok (.iload_n 1, 1) := by decide +kernel
theorem dX3_divide_53 : decode cX3_divide 53 = .ok (.idiv, 1) := by decide +kernel
theorem dX3_divide_54 : decode cX3_divide 54 = .ok (.iload_n 1, 1) := by decide +kernel
theorem dX3_divide_55 : decode cX3_divide 55 = .ok (.imul, 1) := by decide +kernel
theorem dX3_divide_56 : decode cX3_divide 56 = .ok (.isub, 1) := by decide +kernel
theorem dX3_divide_57 : decode cX3_divide 57 = .ok (.istore_n 2, 1) := by decide +kernel
theorem dX3_divide_58 : decode cX3_divide 58 = .ok (.iinc 3 (-1), 3) := by decide +kernel
theorem dX3_divide_61 : decode cX3_divide 61 = .ok (.goto (-38), 3) := by decide +kernel
theorem dX3_divide_64 : decode cX3_divide 64 = .ok (.aload_n 0, 1) := by decide +kernel
theorem dX3_divide_65 : decode cX3_divide 65 = .ok (.getfield 18, 3) := by decide +kernel
theorem dX3_divide_68 : decode cX3_divide 68 = .ok (.aload_n 0, 1) := by decide +kernel
theorem dX3_divide_69 : decode cX3_divide 69 = .ok (.getfield 39, 3) := by decide +kernel
theorem dX3_divide_72 : decode cX3_divide 72 = .ok (.iload_n 1, 1) := by decide +kernel
theorem dX3_divide_73 : decode cX3_divide 73 = .ok (.invokevirtual 144, 3) := by decide +kernel
theorem dX3_divide_76 : decode cX3_divide 76 = .ok (.iload_n 2, 1) := by decide +kernel
theorem dX3_divide_77 : decode cX3_divide 77 = .ok (.if_icmp .ne 7, 3) := by decide +kernel
theorem dX3_divide_80 : decode cX3_divide 80 = .ok (.iconst 1, 1) := by decide +kernel
theorem dX3_divide_81 : decode cX3_divide 81 = .ok (.goto 4, 3) := by decide +kernel
theorem dX3_divide_84 : decode cX3_divide 84 = .ok (.iconst 0, 1) := by decide +kernel
theorem dX3_divide_85 : decode cX3_divide 85 = .ok (.ireturn, 1) := by decide +kernel
theorem dX3_shift_0 : decode cX3_shift 0 = .ok (.aload_n 0, 1) := by decide +kernel
theorem dX3_shift_1 : decode cX3_shift 1 = .ok (.iconst 2, 1) := by decide +kernel
theorem dX3_shift_2 : decode cX3_shift 2 = .ok (.invokevirtual 42, 3) := by decide +kernel
theorem dX3_shift_5 : decode cX3_shift 5 = .ok (.ifCond .ne 7, 3) := by decide +kernel
theorem dX3_shift_8 : decode cX3_shift 8 = .ok (.iconst 1, 1) := by decide +kernel
theorem dX3_shift_9 : decode cX3_shift 9 = .ok (.goto 4, 3) := by decide +kernel
theorem dX3_shift_12 : decode cX3_shift 12 = .ok (.iconst 0, 1) := by decide +kernel
theorem dX3_shift_13 : decode cX3_shift 13 = .ok (.istore_n 1, 1) := by decide +kernel
theorem dX3_shift_14 : decode cX3_shift 14 = .ok (.aload_n 0, 1) := by decide +kernel
theorem dX3_shift_15 : decode cX3_shift 15 = .ok (.getfield 49, 3) := by decide +kernel
theorem dX3_shift_18 : decode cX3_shift 18 = .ok (.arraylength, 1) := by decide +kernel
theorem dX3_shift_19 : decode cX3_shift 19 = .ok (.newarray .int, 2) := by decide +kernel
theorem dX3_shift_21 : decode cX3_shift 21 = .ok (.astore_n 2, 1) := by decide +kernel
theorem dX3_shift_22 : decode cX3_shift 22 = .ok (.iconst 0, 1) := by decide +kernel
theorem dX3_shift_23 : decode cX3_shift 23 = .ok (.istore_n 3, 1) := by decide +kernel
theorem dX3_shift_24 : decode cX3_shift 24 = .ok (.iload_n 3, 1) := by decide +kernel
theorem dX3_shift_25 : decode cX3_shift 25 = .ok (.aload_n 2, 1) := by decide +kernel
theorem dX3_shift_26 : decode cX3_shift 26 = .ok (.arraylength, 1) := by decide +kernel
theorem dX3_shift_27 : decode cX3_shift 27 = .ok (.if_icmp .ge 17, 3) := by decide +kernel
theorem dX3_shift_30 : decode cX3_shift 30 = .ok (.aload_n 2, 1) := by decide +kernel
theorem dX3_shift_31 : decode cX3_shift 31 = .ok (.iload_n 3, 1) := by decide +kernel
theorem dX3_shift_32 : decode cX3_shift 32 = .ok (.aload_n 0, 1) := by decide +kernel
theorem dX3_shift_33 : decode cX3_shift 33 = .ok (.iload_n 3, 1) := by decide +kernel
theorem dX3_shift_34 : decode cX3_shift 34 = .ok (.invokevirtual 71, 3) := by decide +kernel
theorem dX3_shift_37 : decode cX3_shift 37 = .ok (.iastore, 1) := by decide +kernel
theorem dX3_shift_38 : decode cX3_shift 38 = .ok (.iinc 3 1, 3) := by decide +kernel
theorem dX3_shift_41 : decode cX3_shift 41 = .ok (.goto (-17), 3) := by decide +kernel
theorem dX3_shift_44 : decode cX3_shift 44 = .ok (.aload_n 0, 1) := by decide +kernel
theorem dX3_shift_45 : decode cX3_shift 45 = .ok (.invokevirtual 119, 3) := by decide +kernel
theorem dX3_shift_48 : decode cX3_shift 48 = .ok (.aload_n 2, 1) := by decide +kernel
theorem dX3_shift_49 : decode cX3_shift 49 = .ok (.arraylength, 1) := by decide +kernel
theorem dX3_shift_50 : decode cX3_shift 50 = .ok (.iconst 1, 1) := by decide +kernel
theorem dX3_shift_51 : decode cX3_shift 51 = .ok (.isub, 1) := by decide +kernel
theorem dX3_shift_52 : decode cX3_shift 52 = .ok (.istore_n 3, 1) := by decide +kernel
theorem dX3_shift_53 : decode cX3_shift 53 = .ok (.iload_n 3, 1) := by decide +kernel
theorem dX3_shift_54 : decode cX3_shift 54 = .ok (.istore 4, 2) := by decide +kernel
theorem dX3_shift_56 : decode cX3_shift 56 = .ok (.iload 4, 2) := by decide +kernel
theorem dX3_shift_58 : decode cX3_shift 58 = .ok (.ifCond .lt 34, 3) := by decide +kernel
theorem dX3_shift_61 : decode cX3_shift 61 = .ok (.iload_n 1, 1) := by decide +kernel
theorem dX3_shift_62 : decode cX3_shift 62 = .ok (.ifCond .eq 30, 3) := by decide +kernel
theorem dX3_shift_65 : decode cX3_shift 65 = .ok (.aload_n 0, 1) := by decide +kernel
theorem dX3_shift_66 : decode cX3_shift 66 = .ok (.iload 4, 2) := by decide +kernel
theorem dX3_shift_68 : decode cX3_shift 68 = .ok (.iload 4, 2) := by decide +kernel
theorem dX3_shift_70 : decode cX3_shift 70 = .ok (.ifCond .ne 7, 3) := by decide +kernel
theorem dX3_shift_73 : decode cX3_shift 73 = .ok (.iconst 0, 1) := by decide +kernel
theorem dX3_shift_74 : decode cX3_shift 74 = .ok (.goto 9, 3) := by decide +kernel
theorem dX3_shift_77 : decode cX3_shift 77 = .ok (.aload_n 2, 1) := by decide +kernel
theorem dX3_shift_78 : decode cX3_shift 78 = .ok (.iload 4, 2) := by decide +kernel
theorem dX3_shift_80 : decode cX3_shift 80 = .ok (.iconst 1, 1) := by decide +kernel
theorem dX3_shift_81 : decode cX3_shift 81 = .ok (.isub, 1) := by decide +kernel
theorem dX3_shift_82 : decode cX3_shift 82 = .ok (.iaload, 1) := by decide +kernel
theorem dX3_shift_83 : decode cX3_shift 83 = .ok (.invokevirtual 105, 3) := by decide +kernel
theorem dX3_shift_86 : decode cX3_shift 86 = .ok (.iinc 4 (-1), 3) := by decide +kernel
theorem dX3_shift_89 : decode cX3_shift 89 = .ok (.goto (-33), 3) := by decide +kernel
theorem dX3_shift_92 : decode cX3_shift 92 = .ok (.iconst 0, 1) := by decide +kernel
theorem dX3_shift_93 : decode cX3_shift 93 = .ok (.istore 4, 2) := by decide +kernel
theorem dX3_shift_95 : decode cX3_shift 95 = .ok (.iload 4, 2) := by decide +kernel
theorem dX3_shift_97 : decode cX3_shift 97 = .ok (.iload_n 3, 1) := by decide +kernel
theorem dX3_shift_98 : decode cX3_shift 98 = .ok (.if_icmp .gt 35, 3) := by decide +kernel
theorem dX3_shift_101 : decode cX3_shift 101 = .ok (.iload_n 1, 1) := by decide +kernel
theorem dX3_shift_102 : decode cX3_shift 102 = .ok (.ifCond .ne 31, 3) := by decide +kernel
theorem dX3_shift_105 : decode cX3_shift 105 = .ok (.aload_n 0, 1) := by decide +kernel
theorem dX3_shift_106 : decode cX3_shift 106 = .ok (.iload 4, 2) := by decide +kernel
theorem dX3_shift_108 : decode cX3_shift 108 = .ok (.iload 4, 2) := by decide +kernel
theorem dX3_shift_110 : decode cX3_shift 110 = .ok (.iload_n 3, 1) := by decide +kernel
theorem dX3_shift_111 : decode cX3_shift 111 = .ok (.if_icmp .ne 7, 3) := by decide +kernel
theorem dX3_shift_114 : decode cX3_shift 114 = .ok (.iconst 0, 1) := by decide +kernel
theorem dX3_shift_115 : decode cX3_shift 115 = .ok (.goto 9, 3) := by decide +kernel
theorem dX3_shift_118 : decode cX3_shift 118 = .ok (.aload_n 2, 1) := by decide +kernel
theorem dX3_shift_119 : decode cX3_shift 119 = .ok (.iload 4, 2) := by decide +kernel
theorem dX3_shift_121 : decode cX3_shift 121 = .ok (.iconst 1, 1) := by decide +kernel
theorem dX3_shift_122 : decode cX3_shift 122 = .ok (.iadd, 1) := by decide +kernel
theorem dX3_shift_123 : decode cX3_shift 123 = .ok (.iaload, 1) := by decide +kernel
theorem dX3_shift_124 : decode cX3_shift 124 = .ok (.invokevirtual 105, 3) := by decide +kernel
theorem dX3_shift_127 : decode cX3_shift 127 = .ok (.iinc 4 1, 3) := by decide +kernel
theorem dX3_shift_130 : decode cX3_shift 130 = .ok (.goto (-35), 3) := by decide +kernel
theorem dX3_shift_133 : decode cX3_shift 133 = .ok (.aload_n 0, 1) := by decide +kernel
theorem dX3_shift_134 : decode cX3_shift 134 = .ok (.getfield 15, 3) := by decide +kernel
theorem dX3_shift_137 : decode cX3_shift 137 = .ok (.iconst 4, 1) := by decide +kernel
theorem dX3_shift_138 : decode cX3_shift 138 = .ok (.dup2, 1) := by decide +kernel
theorem dX3_shift_139 : decode cX3_shift 139 = .ok (.iaload, 1) := by decide +kernel
theorem dX3_shift_140 : decode cX3_shift 140 = .ok (.iload_n 1, 1) := by decide +kernel
theorem dX3_shift_141 : decode cX3_shift 141 = .ok (.ifCond .eq 9, 3) := by decide +kernel
theorem dX3_shift_144 : decode cX3_shift 144 = .ok (.aload_n 2, 1) := by decide +kernel
theorem dX3_shift_145 : decode cX3_shift 145 = .ok (.iload_n 3, 1) := by decide +kernel
theorem dX3_shift_146 : decode cX3_shift 146 = .ok (.iaload, 1) := by decide +kernel
theorem dX3_shift_147 : decode cX3_shift 147 = .ok (.goto 4, 3) := by decide +kernel
theorem dX3_shift_150 : decode cX3_shift 150 = .ok (.iconst 0, 1) := by decide +kernel
theorem dX3_shift_151 : decode cX3_shift 151 = .ok (.iadd, 1) := by decide +kernel
theorem dX3_shift_152 : decode cX3_shift 152 = .ok (.iastore, 1) := by decide +kernel
theorem dX3_shift_153 : decode cX3_shift 153 = .ok (.aload_n 0, 1) := by decide +kernel
theorem dX3_shift_154 : decode cX3_shift 154 = .ok (.getfield 18, 3) := by decide +kernel
theorem dX3_shift_157 : decode cX3_shift 157 = .ok (.aload_n 0, 1) := by decide +kernel
theorem dX3_shift_158 : decode cX3_shift 158 = .ok (.getfield 39, 3) := by decide +kernel
theorem dX3_shift_161 : decode cX3_shift 161 = .ok (.iload_n 1, 1) := by decide +kernel
theorem dX3_shift_162 : decode cX3_shift 162 = .ok (.invokevirtual 147, 3) := by decide +kernel
theorem dX3_shift_165 : decode cX3_shift 165 = .ok (.iload_n 1, 1) := by decide +kernel
theorem dX3_shift_166 : decode cX3_shift 166 = .ok (.ifCond .eq 9, 3) := by decide +kernel
theorem dX3_shift_169 : decode cX3_shift 169 = .ok (.aload_n 2, 1) := by decide +kernel
theorem dX3_shift_170 : decode cX3_shift 170 = .ok (.iload_n 3, 1) := by decide +kernel
theorem dX3_shift_171 : decode cX3_shift 171 = .ok (.iaload, 1) := by decide +kernel
theorem dX3_shift_172 : decode cX3_shift 172 = .ok (.goto 6, 3) := by decide +kernel
theorem dX3_shift_175 : decode cX3_shift 175 = .ok (.aload_n 2, 1) := by decide +kernel
theorem dX3_shift_176 : decode cX3_shift 176 = .ok (.iconst 0, 1) := by decide +kernel
theorem dX3_shift_177 : decode cX3_shift 177 = .ok (.iaload, 1) := by decide +kernel
theorem dX3_shift_178 : decode cX3_shift 178 = .ok (.if_icmp .ne 7, 3) := by decide +kernel
theorem dX3_shift_181 : decode cX3_shift 181 = .ok (.iconst 1, 1) := by decide +kernel
theorem dX3_shift_182 : decode cX3_shift 182 = .ok (.goto 4, 3) := by decide +kernel
theorem dX3_shift_185 : decode cX3_shift 185 = .ok (.iconst 0, 1) := by decide +kernel
theorem dX3_shift_186 : decode cX3_shift 186 = .ok (.ireturn, 1) := by decide +kernel
