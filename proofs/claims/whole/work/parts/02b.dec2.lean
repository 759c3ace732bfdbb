theorem dX12_init_0 : decode cX12_init 0 = .ok (.aload_n 0, 1) := by decide +kernel
theorem dX12_init_1 : decode cX12_init 1 = .ok (.invokespecial 1, 3) := by decide +kernel
theorem dX12_init_4 : decode cX12_init 4 = .ok (.aload_n 0, 1) := by decide +kernel
theorem dX12_init_5 : decode cX12_init 5 = .ok (.sipush 600, 3) := by decide +kernel
theorem dX12_init_8 : decode cX12_init 8 = .ok (.newarray .int, 2) := by decide +kernel
theorem dX12_init_10 : decode cX12_init 10 = .ok (.putfield 7, 3) := by decide +kernel
theorem dX12_init_13 : decode cX12_init 13 = .ok (.aload_n 0, 1) := by decide +kernel
theorem dX12_init_14 : decode cX12_init 14 = .ok (.iconst (-1), 1) := by decide +kernel
theorem dX12_init_15 : decode cX12_init 15 = .ok (.putfield 13, 3) := by decide +kernel
theorem dX12_init_18 : decode cX12_init 18 = .ok (.aload_n 0, 1) := by decide +kernel
theorem dX12_init_19 : decode cX12_init 19 = .ok (.iconst (-1), 1) := by decide +kernel
theorem dX12_init_20 : decode cX12_init 20 = .ok (.putfield 17, 3) := by decide +kernel
theorem dX12_init_23 : decode cX12_init 23 = .ok (.aload_n 0, 1) := by decide +kernel
theorem dX12_init_24 : decode cX12_init 24 = .ok (.sipush 196, 3) := by decide +kernel
theorem dX12_init_27 : decode cX12_init 27 = .ok (.newarray .int, 2) := by decide +kernel
theorem dX12_init_29 : decode cX12_init 29 = .ok (.putfield 20, 3) := by decide +kernel
theorem dX12_init_32 : decode cX12_init 32 = .ok (.aload_n 0, 1) := by decide +kernel
theorem dX12_init_33 : decode cX12_init 33 = .ok (.sipush 196, 3) := by decide +kernel
theorem dX12_init_36 : decode cX12_init 36 = .ok (.newarray .int, 2) := by decide +kernel
theorem dX12_init_38 : decode cX12_init 38 = .ok (.putfield 23, 3) := by decide +kernel
theorem dX12_init_41 : decode cX12_init 41 = .ok (.aload_n 0, 1) := by decide +kernel
theorem dX12_init_42 : decode cX12_init 42 = .ok (.sipush 196, 3) := by decide +kernel
theorem dX12_init_45 : decode cX12_init 45 = .ok (.newarray .int, 2) := by decide +kernel
theorem dX12_init_47 : decode cX12_init 47 = .ok (.putfield 26, 3) := by decide +kernel
theorem dX12_init_50 : decode cX12_init 50 = .ok (.aload_n 0, 1) := by decide +kernel
theorem dX12_init_51 : decode cX12_init 51 = .ok (.sipush 196, 3) := by decide +kernel
theorem dX12_init_54 : decode cX12_init 54 = .ok (.newarray .int, 2) := by decide +kernel
theorem dX12_init_56 : decode cX12_init 56 = .ok (.putfield 29, 3) := by decide +kernel
theorem dX12_init_59 : decode cX12_init 59 = .ok (.aload_n 0, 1) := by decide +kernel
theorem dX12_init_60 : decode cX12_init 60 = .ok (.sipush 1176, 3) := by decide +kernel
theorem dX12_init_63 : decode cX12_init 63 = .ok (.newarray .int, 2) := by decide +kernel
theorem dX12_init_65 : decode cX12_init 65 = .ok (.putfield 32, 3) := by decide +kernel
theorem dX12_init_68 : decode cX12_init 68 = .ok (.aload_n 0, 1) := by decide +kernel
theorem dX12_init_69 : decode cX12_init 69 = .ok (.bipush 8, 2) := by decide +kernel
theorem dX12_init_71 : decode cX12_init 71 = .ok (.newarray .long, 2) := by decide +kernel
theorem dX12_init_73 : decode cX12_init 73 = .ok (.putfield 35, 3) := by decide +kernel
theorem dX12_init_76 : decode cX12_init 76 = .ok (.aload_n 0, 1) := by decide +kernel
theorem dX12_init_77 : decode cX12_init 77 = .ok (.bipush 8, 2) := by decide +kernel
theorem dX12_init_79 : decode cX12_init 79 = .ok (.newarray .long, 2) := by decide +kernel
theorem dX12_init_81 : decode cX12_init 81 = .ok (.putfield 39, 3) := by decide +kernel
theorem dX12_init_84 : decode cX12_init 84 = .ok (.aload_n 0, 1) := by decide +kernel
theorem dX12_init_85 : decode cX12_init 85 = .ok (.bipush 8, 2) := by decide +kernel
theorem dX12_init_87 : decode cX12_init 87 = .ok (.newarray .long, 2) := by decide +kernel
theorem dX12_init_89 : decode cX12_init 89 = .ok (.putfield 42, 3) := by decide +kernel
theorem dX12_init_92 : decode cX12_init 92 = .ok (.aload_n 0, 1) := by decide +kernel
theorem dX12_init_93 : decode cX12_init 93 = .ok (.sipush 9648, 3) := by decide +kernel
theorem dX12_init_96 : decode cX12_init 96 = .ok (.newarray .int, 2) := by decide +kernel
theorem dX12_init_98 : decode cX12_init 98 = .ok (.putfield 45, 3) := by decide +kernel
theorem dX12_init_101 : decode cX12_init 101 = .ok (.aload_n 0, 1) := by decide +kernel
theorem dX12_init_102 : decode cX12_init 102 = .ok (.bipush 60, 2) := by decide +kernel
theorem dX12_init_104 : decode cX12_init 104 = .ok (.newarray .int, 2) := by decide +kernel
theorem dX12_init_106 : decode cX12_init 106 = .ok (.putfield 48, 3) := by decide +kernel
theorem dX12_init_109 : decode cX12_init 109 = .ok (.aload_n 0, 1) := by decide +kernel
theorem dX12_init_110 : decode cX12_init 110 = .ok (.bipush 60, 2) := by decide +kernel
theorem dX12_init_112 : decode cX12_init 112 = .ok (.newarray .int, 2) := by decide +kernel
theorem dX12_init_114 : decode cX12_init 114 = .ok (.putfield 51, 3) := by decide +kernel
theorem dX12_init_117 : decode cX12_init 117 = .ok (.aload_n 0, 1) := by decide +kernel
theorem dX12_init_118 : decode cX12_init 118 = .ok (.bipush 60, 2) := by decide +kernel
theorem dX12_init_120 : decode cX12_init 120 = .ok (.newarray .int, 2) := by decide +kernel
theorem dX12_init_122 : decode cX12_init 122 = .ok (.putfield 54, 3) := by decide +kernel
theorem dX12_init_125 : decode cX12_init 125 = .ok (.aload_n 0, 1) := by decide +kernel
theorem dX12_init_126 : decode cX12_init 126 = .ok (.bipush 60, 2) := by decide +kernel
theorem dX12_init_128 : decode cX12_init 128 = .ok (.newarray .int, 2) := by decide +kernel
theorem dX12_init_130 : decode cX12_init 130 = .ok (.putfield 57, 3) := by decide +kernel
theorem dX12_init_133 : decode cX12_init 133 = .ok (.aload_n 0, 1) := by decide +kernel
theorem dX12_init_134 : decode cX12_init 134 = .ok (.bipush 60, 2) := by decide +kernel
theorem dX12_init_136 : decode cX12_init 136 = .ok (.newarray .int, 2) := by decide +kernel
theorem dX12_init_138 : decode cX12_init 138 = .ok (.putfield 60, 3) := by decide +kernel
theorem dX12_init_141 : decode cX12_init 141 = .ok (.aload_n 0, 1) := by decide +kernel
theorem dX12_init_142 : decode cX12_init 142 = .ok (.iconst 2, 1) := by decide +kernel
theorem dX12_init_143 : decode cX12_init 143 = .ok (.newarray .int, 2) := by decide +kernel
theorem dX12_init_145 : decode cX12_init 145 = .ok (.putfield 63, 3) := by decide +kernel
theorem dX12_init_148 : decode cX12_init 148 = .ok (.aload_n 0, 1) := by decide +kernel
theorem dX12_init_149 : decode cX12_init 149 = .ok (.iconst 2, 1) := by decide +kernel
theorem dX12_init_150 : decode cX12_init 150 = .ok (.newarray .int, 2) := by decide +kernel
theorem dX12_init_152 : decode cX12_init 152 = .ok (.putfield 66, 3) := by decide +kernel
theorem dX12_init_155 : decode cX12_init 155 = .ok (.aload_n 0, 1) := by decide +kernel
theorem dX12_init_156 : decode cX12_init 156 = .ok (.sipush 200, 3) := by decide +kernel
theorem dX12_init_159 : decode cX12_init 159 = .ok (.newarray .int, 2) := by decide +kernel
theorem dX12_init_161 : decode cX12_init 161 = .ok (.putfield 69, 3) := by decide +kernel
theorem dX12_init_164 : decode cX12_init 164 = .ok (.aload_n 0, 1) := by decide +kernel
theorem dX12_init_165 : decode cX12_init 165 = .ok (.invokevirtual 72, 3) := by decide +kernel
theorem dX12_init_168 : decode cX12_init 168 = .ok (.return_, 1) := by decide +kernel
theorem dX12_thrown_0 : decode cX12_thrown 0 = .ok (.aload_n 0, 1) := by decide +kernel
theorem dX12_thrown_1 : decode cX12_thrown 1 = .ok (.getfield 75, 3) := by decide +kernel
theorem dX12_thrown_4 : decode cX12_thrown 4 = .ok (.ireturn, 1) := by decide +kernel
theorem dX12_isIn_0 : decode cX12_isIn 0 = .ok (.lload_n 0, 1) := by decide +kernel
theorem dX12_isIn_1 : decode cX12_isIn 1 = .ok (.lload_n 2, 1) := by decide +kernel
theorem dX12_isIn_2 : decode cX12_isIn 2 = .ok (.lcmp, 1) := by decide +kernel
theorem dX12_isIn_3 : decode cX12_isIn 3 = .ok (.ifCond .lt 14, 3) := by decide +kernel
theorem dX12_isIn_6 : decode cX12_isIn 6 = .ok (.lload_n 0, 1) := by decide +kernel
theorem dX12_isIn_7 : decode cX12_isIn 7 = .ok (.lload 4, 2) := by decide +kernel
theorem dX12_isIn_9 : decode cX12_isIn 9 = .ok (.lcmp, 1) := by decide +kernel
theorem dX12_isIn_10 : decode cX12_isIn 10 = .ok (.ifCond .gt 7, 3) := by decide +kernel
theorem dX12_isIn_13 : decode cX12_isIn 13 = .ok (.iconst 1, 1) := by decide +kernel
theorem dX12_isIn_14 : decode cX12_isIn 14 = .ok (.goto 4, 3) := by decide +kernel
theorem dX12_isIn_17 : decode cX12_isIn 17 = .ok (.iconst 0, 1) := by decide +kernel
theorem dX12_isIn_18 : decode cX12_isIn 18 = .ok (.ireturn, 1) := by decide +kernel
theorem dX12_truth_0 : decode cX12_truth 0 = .ok (.iload_n 0, 1) := by decide +kernel
theorem dX12_truth_1 : decode cX12_truth 1 = .ok (.ifCond .eq 7, 3) := by decide +kernel
theorem dX12_truth_4 : decode cX12_truth 4 = .ok (.iconst 1, 1) := by decide +kernel
theorem dX12_truth_5 : decode cX12_truth 5 = .ok (.goto 4, 3) := by decide +kernel
theorem dX12_truth_8 : decode cX12_truth 8 = .ok (.iconst 0, 1) := by decide +kernel
theorem dX12_truth_9 : decode cX12_truth 9 = .ok (.ireturn, 1) := by decide +kernel
theorem dX12_goes_0 : decode cX12_goes 0 = .ok (.aload_n 0, 1) := by decide +kernel
theorem dX12_goes_1 : decode cX12_goes 1 = .ok (.iload_n 1, 1) := by decide +kernel
theorem dX12_goes_2 : decode cX12_goes 2 = .ok (.ifCond .ne 7, 3) := by decide +kernel
theorem dX12_goes_5 : decode cX12_goes 5 = .ok (.iconst 1, 1) := by decide +kernel
theorem dX12_goes_6 : decode cX12_goes 6 = .ok (.goto 4, 3) := by decide +kernel
theorem dX12_goes_9 : decode cX12_goes 9 = .ok (.iconst 0, 1) := by decide +kernel
theorem dX12_goes_10 : decode cX12_goes 10 = .ok (.invokestatic 78, 3) := by decide +kernel
theorem dX12_goes_13 : decode cX12_goes 13 = .ok (.putfield 75, 3) := by decide +kernel
theorem dX12_goes_16 : decode cX12_goes 16 = .ok (.iload_n 1, 1) := by decide +kernel
theorem dX12_goes_17 : decode cX12_goes 17 = .ok (.ireturn, 1) := by decide +kernel
theorem dX12_goesBoth_0 : decode cX12_goesBoth 0 = .ok (.aload_n 0, 1) := by decide +kernel
theorem dX12_goesBoth_1 : decode cX12_goesBoth 1 = .ok (.iload_n 1, 1) := by decide +kernel
theorem dX12_goesBoth_2 : decode cX12_goesBoth 2 = .ok (.ifCond .ne 7, 3) := by decide +kernel
theorem dX12_goesBoth_5 : decode cX12_goesBoth 5 = .ok (.iconst 1, 1) := by decide +kernel
theorem dX12_goesBoth_6 : decode cX12_goesBoth 6 = .ok (.goto 12, 3) := by decide +kernel
theorem dX12_goesBoth_9 : decode cX12_goesBoth 9 = .ok (.iload_n 2, 1) := by decide +kernel
theorem dX12_goesBoth_10 : decode cX12_goesBoth 10 = .ok (.ifCond .ne 7, 3) := by decide +kernel
theorem dX12_goesBoth_13 : decode cX12_goesBoth 13 = .ok (.iconst 2, 1) := by decide +kernel
theorem dX12_goesBoth_14 : decode cX12_goesBoth 14 = .ok (.goto 4, 3) := by decide +kernel
theorem dX12_goesBoth_17 : decode cX12_goesBoth 17 = .ok (.iconst 0, 1) := by decide +kernel
theorem dX12_goesBoth_18 : decode cX12_goesBoth 18 = .ok (.putfield 75, 3) := by decide +kernel
theorem dX12_goesBoth_21 : decode cX12_goesBoth 21 = .ok (.aload_n 0, 1) := by decide +kernel
theorem dX12_goesBoth_22 : decode cX12_goesBoth 22 = .ok (.getfield 75, 3) := by decide +kernel
theorem dX12_goesBoth_25 : decode cX12_goesBoth 25 = .ok (.ifCond .ne 7, 3) := by decide +kernel
theorem dX12_goesBoth_28 : decode cX12_goesBoth 28 = .ok (.iconst 1, 1) := by decide +kernel
theorem dX12_goesBoth_29 : decode cX12_goesBoth 29 = .ok (.goto 4, 3) := by decide +kernel
theorem dX12_goesBoth_32 : decode cX12_goesBoth 32 = .ok (.iconst 0, 1) := by decide +kernel
theorem dX12_goesBoth_33 : decode cX12_goesBoth 33 = .ok (.ireturn, 1) := by decide +kernel
theorem dX12_feed_0 : decode cX12_feed 0 = .ok (.aload_n 0, 1) := by decide +kernel
theorem dX12_feed_1 : decode cX12_feed 1 = .ok (.aload_n 0, 1) := by decide +kernel
theorem dX12_feed_2 : decode cX12_feed 2 = .ok (.getfield 82, 3) := by decide +kernel
theorem dX12_feed_5 : decode cX12_feed 5 = .ok (.bipush 20, 2) := by decide +kernel
theorem dX12_feed_7 : decode cX12_feed 7 = .ok (.iadd, 1) := by decide +kernel
theorem dX12_feed_8 : decode cX12_feed 8 = .ok (.sipush 600, 3) := by decide +kernel
theorem dX12_feed_11 : decode cX12_feed 11 = .ok (.if_icmp .gt 7, 3) := by decide +kernel
theorem dX12_feed_14 : decode cX12_feed 14 = .ok (.iconst 1, 1) := by decide +kernel
theorem dX12_feed_15 : decode cX12_feed 15 = .ok (.goto 4, 3) := by decide +kernel
theorem dX12_feed_18 : decode cX12_feed 18 = .ok (.iconst 0, 1) := by decide +kernel
theorem dX12_feed_19 : decode cX12_feed 19 = .ok (.invokevirtual 85, 3) := by decide +kernel
theorem dX12_feed_22 : decode cX12_feed 22 = .ok (.ifCond .ne 5, 3) := by decide +kernel
theorem dX12_feed_25 : decode cX12_feed 25 = .ok (.iconst 0, 1) := by decide +kernel
theorem dX12_feed_26 : decode cX12_feed 26 = .ok (.ireturn, 1) := by decide +kernel
theorem dX12_feed_27 : decode cX12_feed 27 = .ok (.aload_n 0, 1) := by decide +kernel
theorem dX12_feed_28 : decode cX12_feed 28 = .ok (.iload_n 1, 1) := by decide +kernel
theorem dX12_feed_29 : decode cX12_feed 29 = .ok (.invokevirtual 89, 3) := by decide +kernel
theorem dX12_feed_32 : decode cX12_feed 32 = .ok (.aload_n 0, 1) := by decide +kernel
theorem dX12_feed_33 : decode cX12_feed 33 = .ok (.iload_n 2, 1) := by decide +kernel
theorem dX12_feed_34 : decode cX12_feed 34 = .ok (.invokevirtual 89, 3) := by decide +kernel
theorem dX12_feed_37 : decode cX12_feed 37 = .ok (.aload_n 0, 1) := by decide +kernel
theorem dX12_feed_38 : decode cX12_feed 38 = .ok (.iload_n 3, 1) := by decide +kernel
theorem dX12_feed_39 : decode cX12_feed 39 = .ok (.invokevirtual 89, 3) := by decide +kernel
theorem dX12_feed_42 : decode cX12_feed 42 = .ok (.aload_n 0, 1) := by decide +kernel
theorem dX12_feed_43 : decode cX12_feed 43 = .ok (.iload 4, 2) := by decide +kernel
theorem dX12_feed_45 : decode cX12_feed 45 = .ok (.invokevirtual 89, 3) := by decide +kernel
theorem dX12_feed_48 : decode cX12_feed 48 = .ok (.aload_n 0, 1) := by decide +kernel
theorem dX12_feed_49 : decode cX12_feed 49 = .ok (.iload 5, 2) := by decide +kernel
theorem dX12_feed_51 : decode cX12_feed 51 = .ok (.invokevirtual 89, 3) := by decide +kernel
theorem dX12_feed_54 : decode cX12_feed 54 = .ok (.aload_n 0, 1) := by decide +kernel
theorem dX12_feed_55 : decode cX12_feed 55 = .ok (.getfield 82, 3) := by decide +kernel
theorem dX12_feed_58 : decode cX12_feed 58 = .ok (.ireturn, 1) := by decide +kernel
theorem dX12_four_0 : decode cX12_four 0 = .ok (.bipush 24, 2) := by decide +kernel
theorem dX12_four_2 : decode cX12_four 2 = .ok (.istore_n 2, 1) := by decide +kernel
theorem dX12_four_3 : decode cX12_four 3 = .ok (.iload_n 2, 1) := by decide +kernel
theorem dX12_four_4 : decode cX12_four 4 = .ok (.ifCond .lt 35, 3) := by decide +kernel
theorem dX12_four_7 : decode cX12_four 7 = .ok (.aload_n 0, 1) := by decide +kernel
theorem dX12_four_8 : decode cX12_four 8 = .ok (.getfield 7, 3) := by decide +kernel
theorem dX12_four_11 : decode cX12_four 11 = .ok (.aload_n 0, 1) := by decide +kernel
theorem dX12_four_12 : decode cX12_four 12 = .ok (.getfield 82, 3) := by decide +kernel
theorem dX12_four_15 : decode cX12_four 15 = .ok (.iload_n 1, 1) := by decide +kernel
theorem dX12_four_16 : decode cX12_four 16 = .ok (.iload_n 2, 1) := by decide +kernel
theorem dX12_four_17 : decode cX12_four 17 = .ok (.ishr, 1) := by decide +kernel
theorem dX12_four_18 : decode cX12_four 18 = .ok (.sipush 255, 3) := by decide +kernel
theorem dX12_four_21 : decode cX12_four 21 = .ok (.iand, 1) := by decide +kernel
theorem dX12_four_22 : decode cX12_four 22 = .ok (.iastore, 1) := by decide +kernel
theorem dX12_four_23 : decode cX12_four 23 = .ok (.aload_n 0, 1) := by decide +kernel
theorem dX12_four_24 : decode cX12_four 24 = .ok (.dup, 1) := by decide +kernel
theorem dX12_four_25 : decode cX12_four 25 = .ok (.getfield 82, 3) := by decide +kernel
theorem dX12_four_28 : decode cX12_four 28 = .ok (.iconst 1, 1) := by decide +kernel
theorem dX12_four_29 : decode cX12_four 29 = .ok (.iadd, 1) := by decide +kernel
theorem dX12_four_30 : decode cX12_four 30 = .ok (.putfield 82, 3) := by decide +kernel
theorem dX12_four_33 : decode cX12_four 33 = .ok (.iinc 2 (-8), 3) := by decide +kernel
theorem dX12_four_36 : decode cX12_four 36 = .ok (.goto (-33), 3) := by decide +kernel
theorem dX12_four_39 : decode cX12_four 39 = .ok (.return_, 1) := by decide +kernel
theorem dX12_truncate_0 : decode cX12_truncate 0 = .ok (.aload_n 0, 1) := by decide +kernel
theorem dX12_truncate_1 : decode cX12_truncate 1 = .ok (.iload_n 1, 1) := by decide +kernel
theorem dX12_truncate_2 : decode cX12_truncate 2 = .ok (.i2l, 1) := by decide +kernel
theorem dX12_truncate_3 : decode cX12_truncate 3 = .ok (.lconst 0, 1) := by decide +kernel
theorem dX12_truncate_4 : decode cX12_truncate 4 = .ok (.aload_n 0, 1) := by decide +kernel
theorem dX12_truncate_5 : decode cX12_truncate 5 = .ok (.getfield 82, 3) := by decide +kernel
theorem dX12_truncate_8 : decode cX12_truncate 8 = .ok (.i2l, 1) := by decide +kernel
theorem dX12_truncate_9 : decode cX12_truncate 9 = .ok (.invokestatic 92, 3) := by decide +kernel
theorem dX12_truncate_12 : decode cX12_truncate 12 = .ok (.invokevirtual 85, 3) := by decide +kernel
theorem dX12_truncate_15 : decode cX12_truncate 15 = .ok (.ifCond .ne 5, 3) := by decide +kernel
theorem dX12_truncate_18 : decode cX12_truncate 18 = .ok (.iconst 0, 1) := by decide +kernel
theorem dX12_truncate_19 : decode cX12_truncate 19 = .ok (.ireturn, 1) := by decide +kernel
theorem dX12_truncate_20 : decode cX12_truncate 20 = .ok (.aload_n 0, 1) := by decide +kernel
theorem dX12_truncate_21 : decode cX12_truncate 21 = .ok (.iload_n 1, 1) := by decide +kernel
theorem dX12_truncate_22 : decode cX12_truncate 22 = .ok (.putfield 82, 3) := by decide +kernel
theorem dX12_truncate_25 : decode cX12_truncate 25 = .ok (.iload_n 1, 1) := by decide +kernel
theorem dX12_truncate_26 : decode cX12_truncate 26 = .ok (.ireturn, 1) := by decide +kernel
theorem dX12_here_0 : decode cX12_here 0 = .ok (.aload_n 0, 1) := by decide +kernel
theorem dX12_here_1 : decode cX12_here 1 = .ok (.getfield 96, 3) := by decide +kernel
theorem dX12_here_4 : decode cX12_here 4 = .ok (.iload_n 1, 1) := by decide +kernel
theorem dX12_here_5 : decode cX12_here 5 = .ok (.iadd, 1) := by decide +kernel
theorem dX12_here_6 : decode cX12_here 6 = .ok (.aload_n 0, 1) := by decide +kernel
theorem dX12_here_7 : decode cX12_here 7 = .ok (.getfield 99, 3) := by decide +kernel
theorem dX12_here_10 : decode cX12_here 10 = .ok (.if_icmp .ge 17, 3) := by decide +kernel
theorem dX12_here_13 : decode cX12_here 13 = .ok (.aload_n 0, 1) := by decide +kernel
theorem dX12_here_14 : decode cX12_here 14 = .ok (.getfield 7, 3) := by decide +kernel
theorem dX12_here_17 : decode cX12_here 17 = .ok (.aload_n 0, 1) := by decide +kernel
theorem dX12_here_18 : decode cX12_here 18 = .ok (.getfield 96, 3) := by decide +kernel
theorem dX12_here_21 : decode cX12_here 21 = .ok (.iload_n 1, 1) := by decide +kernel
theorem dX12_here_22 : decode cX12_here 22 = .ok (.iadd, 1) := by decide +kernel
theorem dX12_here_23 : decode cX12_here 23 = .ok (.iaload, 1) := by decide +kernel
theorem dX12_here_24 : decode cX12_here 24 = .ok (.goto 4, 3) := by decide +kernel
theorem dX12_here_27 : decode cX12_here 27 = .ok (.iconst (-1), 1) := by decide +kernel
theorem dX12_here_28 : decode cX12_here 28 = .ok (.ireturn, 1) := by decide +kernel
theorem dX12_isLetter_0 : decode cX12_isLetter 0 = .ok (.iload_n 0, 1) := by decide +kernel
theorem dX12_isLetter_1 : decode cX12_isLetter 1 = .ok (.bipush 97, 2) := by decide +kernel
theorem dX12_isLetter_3 : decode cX12_isLetter 3 = .ok (.if_icmp .lt 13, 3) := by decide +kernel
theorem dX12_isLetter_6 : decode cX12_isLetter 6 = .ok (.iload_n 0, 1) := by decide +kernel
theorem dX12_isLetter_7 : decode cX12_isLetter 7 = .ok (.bipush 122, 2) := by decide +kernel
theorem dX12_isLetter_9 : decode cX12_isLetter 9 = .ok (.if_icmp .gt 7, 3) := by decide +kernel
theorem dX12_isLetter_12 : decode cX12_isLetter 12 = .ok (.iconst 1, 1) := by decide +kernel
theorem dX12_isLetter_13 : decode cX12_isLetter 13 = .ok (.goto 4, 3) := by decide +kernel
theorem dX12_isLetter_16 : decode cX12_isLetter 16 = .ok (.iconst 0, 1) := by decide +kernel
theorem dX12_isLetter_17 : decode cX12_isLetter 17 = .ok (.ireturn, 1) := by decide +kernel
theorem dX12_isDigit_0 : decode cX12_isDigit 0 = .ok (.iload_n 0, 1) := by decide +kernel
theorem dX12_isDigit_1 : decode cX12_isDigit 1 = .ok (.bipush 48, 2) := by decide +kernel
theorem dX12_isDigit_3 : decode cX12_isDigit 3 = .ok (.if_icmp .lt 13, 3) := by decide +kernel
theorem dX12_isDigit_6 : decode cX12_isDigit 6 = .ok (.iload_n 0, 1) := by decide +kernel
theorem dX12_isDigit_7 : decode cX12_isDigit 7 = .ok (.bipush 57, 2) := by decide +kernel
theorem dX12_isDigit_9 : decode cX12_isDigit 9 = .ok (.if_icmp .gt 7, 3) := by decide +kernel
theorem dX12_isDigit_12 : decode cX12_isDigit 12 = .ok (.iconst 1, 1) := by decide +kernel
theorem dX12_isDigit_13 : decode cX12_isDigit 13 = .ok (.goto 4, 3) := by decide +kernel
theorem dX12_isDigit_16 : decode cX12_isDigit 16 = .ok (.iconst 0, 1) := by decide +kernel
theorem dX12_isDigit_17 : decode cX12_isDigit 17 = .ok (.ireturn, 1) := by decide +kernel
theorem dX12_goOn_0 : decode cX12_goOn 0 = .ok (.aload_n 0, 1) := by decide +kernel
theorem dX12_goOn_1 : decode cX12_goOn 1 = .ok (.iconst 0, 1) := by decide +kernel
theorem dX12_goOn_2 : decode cX12_goOn 2 = .ok (.invokevirtual 102, 3) := by decide +kernel
theorem dX12_goOn_5 : decode cX12_goOn 5 = .ok (.bipush 32, 2) := by decide +kernel
theorem dX12_goOn_7 : decode cX12_goOn 7 = .ok (.if_icmp .eq 13, 3) := by decide +kernel
theorem dX12_goOn_10 : decode cX12_goOn 10 = .ok (.aload_n 0, 1) := by decide +kernel
theorem dX12_goOn_11 : decode cX12_goOn 11 = .ok (.iconst 0, 1) := by decide +kernel
theorem dX12_goOn_12 : decode cX12_goOn 12 = .ok (.invokevirtual 102, 3) := by decide +kernel
theorem dX12_goOn_15 : decode cX12_goOn 15 = .ok (.bipush 10, 2) := by decide +kernel
theorem dX12_goOn_17 : decode cX12_goOn 17 = .ok (.if_icmp .ne 16, 3) := by decide +kernel
theorem dX12_goOn_20 : decode cX12_goOn 20 = .ok (.aload_n 0, 1) := by decide +kernel
theorem dX12_goOn_21 : decode cX12_goOn 21 = .ok (.dup, 1) := by decide +kernel
theorem dX12_goOn_22 : decode cX12_goOn 22 = .ok (.getfield 96, 3) := by decide +kernel
theorem dX12_goOn_25 : decode cX12_goOn 25 = .ok (.iconst 1, 1) := by decide +kernel
theorem dX12_goOn_26 : decode cX12_goOn 26 = .ok (.iadd, 1) := by decide +kernel
theorem dX12_goOn_27 : decode cX12_goOn 27 = .ok (.putfield 96, 3) := by decide +kernel
theorem dX12_goOn_30 : decode cX12_goOn 30 = .ok (.goto (-30), 3) := by decide +kernel
theorem dX12_goOn_33 : decode cX12_goOn 33 = .ok (.aload_n 0, 1) := by decide +kernel
theorem dX12_goOn_34 : decode cX12_goOn 34 = .ok (.aload_n 0, 1) := by decide +kernel
theorem dX12_goOn_35 : decode cX12_goOn 35 = .ok (.getfield 96, 3) := by decide +kernel
theorem dX12_goOn_38 : decode cX12_goOn 38 = .ok (.putfield 106, 3) := by decide +kernel
theorem dX12_goOn_41 : decode cX12_goOn 41 = .ok (.aload_n 0, 1) := by decide +kernel
theorem dX12_goOn_42 : decode cX12_goOn 42 = .ok (.lconst 0, 1) := by decide +kernel
theorem dX12_goOn_43 : decode cX12_goOn 43 = .ok (.putfield 109, 3) := by decide +kernel
theorem dX12_goOn_46 : decode cX12_goOn 46 = .ok (.aload_n 0, 1) := by decide +kernel
theorem dX12_goOn_47 : decode cX12_goOn 47 = .ok (.iconst 0, 1) := by decide +kernel
theorem dX12_goOn_48 : decode cX12_goOn 48 = .ok (.putfield 113, 3) := by decide +kernel
theorem dX12_goOn_51 : decode cX12_goOn 51 = .ok (.aload_n 0, 1) := by decide +kernel
theorem dX12_goOn_52 : decode cX12_goOn 52 = .ok (.iconst 0, 1) := by decide +kernel
theorem dX12_goOn_53 : decode cX12_goOn 53 = .ok (.invokevirtual 102, 3) := by decide +kernel
theorem dX12_goOn_56 : decode cX12_goOn 56 = .ok (.istore_n 1, 1) := by decide +kernel
theorem dX12_goOn_57 : decode cX12_goOn 57 = .ok (.iconst 0, 1) := by decide +kernel
theorem dX12_goOn_58 : decode cX12_goOn 58 = .ok (.istore_n 2, 1) := by decide +kernel
theorem dX12_goOn_59 : decode cX12_goOn 59 = .ok (.iload_n 1, 1) := by decide +kernel
theorem dX12_goOn_60 : decode cX12_goOn 60 = .ok (.ifCond .ge 9, 3) := by decide +kernel
theorem dX12_goOn_63 : decode cX12_goOn 63 = .ok (.aload_n 0, 1) := by decide +kernel
theorem dX12_goOn_64 : decode cX12_goOn 64 = .ok (.iconst 0, 1) := by decide +kernel
theorem dX12_goOn_65 : decode cX12_goOn 65 = .ok (.putfield 116, 3) := by decide +kernel
theorem dX12_goOn_68 : decode cX12_goOn 68 = .ok (.return_, 1) := by decide +kernel
theorem dX12_goOn_69 : decode cX12_goOn 69 = .ok (.iload_n 1, 1) := by decide +kernel
theorem dX12_goOn_70 : decode cX12_goOn 70 = .ok (.invokestatic 119, 3) := by decide +kernel
theorem dX12_goOn_73 : decode cX12_goOn 73 = .ok (.ifCond .eq 66, 3) := by decide +kernel
theorem dX12_goOn_76 : decode cX12_goOn 76 = .ok (.aload_n 0, 1) := by decide +kernel
theorem dX12_goOn_77 : decode cX12_goOn 77 = .ok (.iload_n 2, 1) := by decide +kernel
theorem dX12_goOn_78 : decode cX12_goOn 78 = .ok (.invokevirtual 102, 3) := by decide +kernel
theorem dX12_goOn_81 : decode cX12_goOn 81 = .ok (.invokestatic 119, 3) := by decide +kernel
theorem dX12_goOn_84 : decode cX12_goOn 84 = .ok (.ifCond .eq 37, 3) := by decide +kernel
theorem dX12_goOn_87 : decode cX12_goOn 87 = .ok (.iload_n 2, 1) := by decide +kernel
theorem dX12_goOn_88 : decode cX12_goOn 88 = .ok (.bipush 8, 2) := by decide +kernel
theorem dX12_goOn_90 : decode cX12_goOn 90 = .ok (.if_icmp .ge 25, 3) := by decide +kernel
theorem dX12_goOn_93 : decode cX12_goOn 93 = .ok (.aload_n 0, 1) := by decide +kernel
theorem dX12_goOn_94 : decode cX12_goOn 94 = .ok (.aload_n 0, 1) := by decide +kernel
theorem dX12_goOn_95 : decode cX12_goOn 95 = .ok (.getfield 109, 3) := by decide +kernel
theorem dX12_goOn_98 : decode cX12_goOn 98 = .ok (.iconst 5, 1) := by decide +kernel
theorem dX12_goOn_99 : decode cX12_goOn 99 = .ok (.lshl, 1) := by decide +kernel
theorem dX12_goOn_100 : decode cX12_goOn 100 = .ok (.aload_n 0, 1) := by decide +kernel
theorem dX12_goOn_101 : decode cX12_goOn 101 = .ok (.iload_n 2, 1) := by decide +kernel
theorem dX12_goOn_102 : decode cX12_goOn 102 = .ok (.invokevirtual 102, 3) := by decide +kernel
theorem dX12_goOn_105 : decode cX12_goOn 105 = .ok (.bipush 97, 2) := by decide +kernel
theorem dX12_goOn_107 : decode cX12_goOn 107 = .ok (.isub, 1) := by decide +kernel
theorem dX12_goOn_108 : decode cX12_goOn 108 = .ok (.iconst 1, 1) := by decide +kernel
theorem dX12_goOn_109 : decode cX12_goOn 109 = .ok (.iadd, 1) := by decide +kernel
theorem dX12_goOn_110 : decode cX12_goOn 110 = .ok (.i2l, 1) := by decide +kernel
theorem dX12_goOn_111 : decode cX12_goOn 111 = .ok (.lor, 1) := by decide +kernel
theorem dX12_goOn_112 : decode cX12_goOn 112 = .ok (.putfield 109, 3) := by decide +kernel
theorem dX12_goOn_115 : decode cX12_goOn 115 = .ok (.iinc 2 1, 3) := by decide +kernel
theorem dX12_goOn_118 : decode cX12_goOn 118 = .ok (.goto (-42), 3) := by decide +kernel
theorem dX12_goOn_121 : decode cX12_goOn 121 = .ok (.aload_n 0, 1) := by decide +kernel
theorem dX12_goOn_122 : decode cX12_goOn 122 = .ok (.iload_n 2, 1) := by decide +kernel
theorem dX12_goOn_123 : decode cX12_goOn 123 = .ok (.bipush 8, 2) := by decide +kernel
theorem dX12_goOn_125 : decode cX12_goOn 125 = .ok (.if_icmp .le 7, 3) := by decide +kernel
theorem dX12_goOn_128 : decode cX12_goOn 128 = .ok (.iconst 4, 1) := by decide +kernel
theorem dX12_goOn_129 : decode cX12_goOn 129 = .ok (.goto 4, 3) := by decide +kernel
theorem dX12_goOn_132 : decode cX12_goOn 132 = .ok (.iconst 1, 1) := by decide +kernel
theorem dX12_goOn_133 : decode cX12_goOn 133 = .ok (.putfield 116, 3) := by decide +kernel
theorem dX12_goOn_136 : decode cX12_goOn 136 = .ok (.goto 103, 3) := by decide +kernel
theorem dX12_goOn_139 : decode cX12_goOn 139 = .ok (.iload_n 1, 1) := by decide +kernel
theorem dX12_goOn_140 : decode cX12_goOn 140 = .ok (.invokestatic 123, 3) := by decide +kernel
theorem dX12_goOn_143 : decode cX12_goOn 143 = .ok (.ifCond .eq 62, 3) := by decide +kernel
theorem dX12_goOn_146 : decode cX12_goOn 146 = .ok (.aload_n 0, 1) := by decide +kernel
theorem dX12_goOn_147 : decode cX12_goOn 147 = .ok (.iload_n 2, 1) := by decide +kernel
theorem dX12_goOn_148 : decode cX12_goOn 148 = .ok (.invokevirtual 102, 3) := by decide +kernel
theorem dX12_goOn_151 : decode cX12_goOn 151 = .ok (.invokestatic 123, 3) := by decide +kernel
theorem dX12_goOn_154 : decode cX12_goOn 154 = .ok (.ifCond .eq 34, 3) := by decide +kernel
theorem dX12_goOn_157 : decode cX12_goOn 157 = .ok (.iload_n 2, 1) := by decide +kernel
theorem dX12_goOn_158 : decode cX12_goOn 158 = .ok (.iconst 3, 1) := by decide +kernel
theorem dX12_goOn_159 : decode cX12_goOn 159 = .ok (.if_icmp .ge 23, 3) := by decide +kernel
theorem dX12_goOn_162 : decode cX12_goOn 162 = .ok (.aload_n 0, 1) := by decide +kernel
theorem dX12_goOn_163 : decode cX12_goOn 163 = .ok (.bipush 10, 2) := by decide +kernel
theorem dX12_goOn_165 : decode cX12_goOn 165 = .ok (.aload_n 0, 1) := by decide +kernel
theorem dX12_goOn_166 : decode cX12_goOn 166 = .ok (.getfield 113, 3) := by decide +kernel
theorem dX12_goOn_169 : decode cX12_goOn 169 = .ok (.imul, 1) := by decide +kernel
theorem dX12_goOn_170 : decode cX12_goOn 170 = .ok (.aload_n 0, 1) := by decide +kernel
theorem dX12_goOn_171 : decode cX12_goOn 171 = .ok (.iload_n 2, 1) := by decide +kernel
theorem dX12_goOn_172 : decode cX12_goOn 172 = .ok (.invokevirtual 102, 3) := by decide +kernel
theorem dX12_goOn_175 : decode cX12_goOn 175 = .ok (.iadd, 1) := by decide +kernel
theorem dX12_goOn_176 : decode cX12_goOn 176 = .ok (.bipush 48, 2) := by decide +kernel
theorem dX12_goOn_178 : decode cX12_goOn 178 = .ok (.isub, 1) := by decide +kernel
theorem dX12_goOn_179 : decode cX12_goOn 179 = .ok (.putfield 113, 3) := by decide +kernel
theorem dX12_goOn_182 : decode cX12_goOn 182 = .ok (.iinc 2 1, 3) := by decide +kernel
theorem dX12_goOn_185 : decode cX12_goOn 185 = .ok (.goto (-39), 3) := by decide +kernel
theorem dX12_goOn_188 : decode cX12_goOn 188 = .ok (.aload_n 0, 1) := by decide +kernel
theorem dX12_goOn_189 : decode cX12_goOn 189 = .ok (.iload_n 2, 1) := by decide +kernel
theorem dX12_goOn_190 : decode cX12_goOn 190 = .ok (.iconst 3, 1) := by decide +kernel
theorem dX12_goOn_191 : decode cX12_goOn 191 = .ok (.if_icmp .le 7, 3) := by decide +kernel
theorem dX12_goOn_194 : decode cX12_goOn 194 = .ok (.iconst 4, 1) := by decide +kernel
theorem dX12_goOn_195 : decode cX12_goOn 195 = .ok (.goto 4, 3) := by decide +kernel
theorem dX12_goOn_198 : decode cX12_goOn 198 = .ok (.iconst 2, 1) := by decide +kernel
theorem dX12_goOn_199 : decode cX12_goOn 199 = .ok (.putfield 116, 3) := by decide +kernel
theorem dX12_goOn_202 : decode cX12_goOn 202 = .ok (.goto 37, 3) := by decide +kernel
theorem dX12_goOn_205 : decode cX12_goOn 205 = .ok (.aload_n 0, 1) := by decide +kernel
theorem dX12_goOn_206 : decode cX12_goOn 206 = .ok (.iload_n 1, 1) := by decide +kernel
theorem dX12_goOn_207 : decode cX12_goOn 207 = .ok (.bipush 59, 2) := by decide +kernel
theorem dX12_goOn_209 : decode cX12_goOn 209 = .ok (.if_icmp .eq 15, 3) := by decide +kernel
theorem dX12_goOn_212 : decode cX12_goOn 212 = .ok (.iload_n 1, 1) := by decide +kernel
theorem dX12_goOn_213 : decode cX12_goOn 213 = .ok (.bipush 40, 2) := by decide +kernel
theorem dX12_goOn_215 : decode cX12_goOn 215 = .ok (.if_icmp .eq 9, 3) := by decide +kernel
theorem dX12_goOn_218 : decode cX12_goOn 218 = .ok (.iload_n 1, 1) := by decide +kernel
theorem dX12_goOn_219 : decode cX12_goOn 219 = .ok (.bipush 41, 2) := by decide +kernel
theorem dX12_goOn_221 : decode cX12_goOn 221 = .ok (.if_icmp .ne 7, 3) := by decide +kernel
theorem dX12_goOn_224 : decode cX12_goOn 224 = .ok (.iconst 3, 1) := by decide +kernel
theorem dX12_goOn_225 : decode cX12_goOn 225 = .ok (.goto 4, 3) := by decide +kernel
theorem dX12_goOn_228 : decode cX12_goOn 228 = .ok (.iconst 4, 1) := by decide +kernel
theorem dX12_goOn_229 : decode cX12_goOn 229 = .ok (.putfield 116, 3) := by decide +kernel
theorem dX12_goOn_232 : decode cX12_goOn 232 = .ok (.aload_n 0, 1) := by decide +kernel
theorem dX12_goOn_233 : decode cX12_goOn 233 = .ok (.iload_n 1, 1) := by decide +kernel
theorem dX12_goOn_234 : decode cX12_goOn 234 = .ok (.putfield 113, 3) := by decide +kernel
theorem dX12_goOn_237 : decode cX12_goOn 237 = .ok (.iconst 1, 1) := by decide +kernel
theorem dX12_goOn_238 : decode cX12_goOn 238 = .ok (.istore_n 2, 1) := by decide +kernel
theorem dX12_goOn_239 : decode cX12_goOn 239 = .ok (.aload_n 0, 1) := by decide +kernel
theorem dX12_goOn_240 : decode cX12_goOn 240 = .ok (.dup, 1) := by decide +kernel
theorem dX12_goOn_241 : decode cX12_goOn 241 = .ok (.getfield 96, 3) := by decide +kernel
theorem dX12_goOn_244 : decode cX12_goOn 244 = .ok (.iload_n 2, 1) := by decide +kernel
theorem dX12_goOn_245 : decode cX12_goOn 245 = .ok (.iadd, 1) := by decide +kernel
theorem dX12_goOn_246 : decode cX12_goOn 246 = .ok (.putfield 96, 3) := by decide +kernel
theorem dX12_goOn_249 : decode cX12_goOn 249 = .ok (.return_, 1) := by decide +kernel
theorem dX12_wrong_0 : decode cX12_wrong 0 = .ok (.aload_n 0, 1) := by decide +kernel
theorem dX12_wrong_1 : decode cX12_wrong 1 = .ok (.getfield 126, 3) := by decide +kernel
theorem dX12_wrong_4 : decode cX12_wrong 4 = .ok (.ifCond .le 4, 3) := by decide +kernel
theorem dX12_wrong_7 : decode cX12_wrong 7 = .ok (.return_, 1) := by decide +kernel
theorem dX12_wrong_8 : decode cX12_wrong 8 = .ok (.aload_n 0, 1) := by decide +kernel
theorem dX12_wrong_9 : decode cX12_wrong 9 = .ok (.aload_n 0, 1) := by decide +kernel
theorem dX12_wrong_10 : decode cX12_wrong 10 = .ok (.getfield 116, 3) := by decide +kernel
theorem dX12_wrong_13 : decode cX12_wrong 13 = .ok (.iconst 4, 1) := by decide +kernel
theorem dX12_wrong_14 : decode cX12_wrong 14 = .ok (.if_icmp .ne 7, 3) := by decide +kernel
theorem dX12_wrong_17 : decode cX12_wrong 17 = .ok (.iconst 1, 1) := by decide +kernel
theorem dX12_wrong_18 : decode cX12_wrong 18 = .ok (.goto 4, 3) := by decide +kernel
theorem dX12_wrong_21 : decode cX12_wrong 21 = .ok (.iload_n 1, 1) := by decide +kernel
theorem dX12_wrong_22 : decode cX12_wrong 22 = .ok (.putfield 126, 3) := by decide +kernel
theorem dX12_wrong_25 : decode cX12_wrong 25 = .ok (.aload_n 0, 1) := by decide +kernel
theorem dX12_wrong_26 : decode cX12_wrong 26 = .ok (.aload_n 0, 1) := by decide +kernel
theorem dX12_wrong_27 : decode cX12_wrong 27 = .ok (.getfield 106, 3) := by decide +kernel
theorem dX12_wrong_30 : decode cX12_wrong 30 = .ok (.putfield 13, 3) := by decide +kernel
theorem dX12_wrong_33 : decode cX12_wrong 33 = .ok (.return_, 1) := by decide +kernel
theorem dX12_isGood_0 : decode cX12_isGood 0 = .ok (.aload_n 0, 1) := by decide +kernel
theorem dX12_isGood_1 : decode cX12_isGood 1 = .ok (.getfield 126, 3) := by decide +kernel
theorem dX12_isGood_4 : decode cX12_isGood 4 = .ok (.ifCond .ne 7, 3) := by decide +kernel
theorem dX12_isGood_7 : decode cX12_isGood 7 = .ok (.iconst 1, 1) := by decide +kernel
theorem dX12_isGood_8 : decode cX12_isGood 8 = .ok (.goto 4, 3) := by decide +kernel
theorem dX12_isGood_11 : decode cX12_isGood 11 = .ok (.iconst 0, 1) := by decide +kernel
theorem dX12_isGood_12 : decode cX12_isGood 12 = .ok (.ireturn, 1) := by decide +kernel
theorem dX12_isWord_0 : decode cX12_isWord 0 = .ok (.aload_n 0, 1) := by decide +kernel
theorem dX12_isWord_1 : decode cX12_isWord 1 = .ok (.getfield 126, 3) := by decide +kernel
theorem dX12_isWord_4 : decode cX12_isWord 4 = .ok (.ifCond .ne 24, 3) := by decide +kernel
theorem dX12_isWord_7 : decode cX12_isWord 7 = .ok (.aload_n 0, 1) := by decide +kernel
theorem dX12_isWord_8 : decode cX12_isWord 8 = .ok (.getfield 116, 3) := by decide +kernel
theorem dX12_isWord_11 : decode cX12_isWord 11 = .ok (.iconst 1, 1) := by decide +kernel
theorem dX12_isWord_12 : decode cX12_isWord 12 = .ok (.if_icmp .ne 16, 3) := by decide +kernel
theorem dX12_isWord_15 : decode cX12_isWord 15 = .ok (.aload_n 0, 1) := by decide +kernel
theorem dX12_isWord_16 : decode cX12_isWord 16 = .ok (.getfield 109, 3) := by decide +kernel
theorem dX12_isWord_19 : decode cX12_isWord 19 = .ok (.lload_n 1, 1) := by decide +kernel
theorem dX12_isWord_20 : decode cX12_isWord 20 = .ok (.lcmp, 1) := by decide +kernel
theorem dX12_isWord_21 : decode cX12_isWord 21 = .ok (.ifCond .ne 7, 3) := by decide +kernel
theorem dX12_isWord_24 : decode cX12_isWord 24 = .ok (.iconst 1, 1) := by decide +kernel
theorem dX12_isWord_25 : decode cX12_isWord 25 = .ok (.goto 4, 3) := by decide +kernel
theorem dX12_isWord_28 : decode cX12_isWord 28 = .ok (.iconst 0, 1) := by decide +kernel
theorem dX12_isWord_29 : decode cX12_isWord 29 = .ok (.ireturn, 1) := by decide +kernel
theorem dX12_isSign_0 : decode cX12_isSign 0 = .ok (.aload_n 0, 1) := by decide +kernel
theorem dX12_isSign_1 : decode cX12_isSign 1 = .ok (.getfield 126, 3) := by decide +kernel
theorem dX12_isSign_4 : decode cX12_isSign 4 = .ok (.ifCond .ne 23, 3) := by decide +kernel
theorem dX12_isSign_7 : decode cX12_isSign 7 = .ok (.aload_n 0, 1) := by decide +kernel
theorem dX12_isSign_8 : decode cX12_isSign 8 = .ok (.getfield 116, 3) := by decide +kernel
theorem dX12_isSign_11 : decode cX12_isSign 11 = .ok (.iconst 3, 1) := by decide +kernel
theorem dX12_isSign_12 : decode cX12_isSign 12 = .ok (.if_icmp .ne 15, 3) := by decide +kernel
theorem dX12_isSign_15 : decode cX12_isSign 15 = .ok (.aload_n 0, 1) := by decide +kernel
theorem dX12_isSign_16 : decode cX12_isSign 16 = .ok (.getfield 113, 3) := by decide +kernel
theorem dX12_isSign_19 : decode cX12_isSign 19 = .ok (.iload_n 1, 1) := by decide +kernel
theorem dX12_isSign_20 : decode cX12_isSign 20 = .ok (.if_icmp .ne 7, 3) := by decide +kernel
theorem dX12_isSign_23 : decode cX12_isSign 23 = .ok (.iconst 1, 1) := by decide +kernel
theorem dX12_isSign_24 : decode cX12_isSign 24 = .ok (.goto 4, 3) := by decide +kernel
theorem dX12_isSign_27 : decode cX12_isSign 27 = .ok (.iconst 0, 1) := by decide +kernel
theorem dX12_isSign_28 : decode cX12_isSign 28 = .ok (.ireturn, 1) := by decide +kernel
theorem dX12_mustSign_0 : decode cX12_mustSign 0 = .ok (.aload_n 0, 1) := by decide +kernel
theorem dX12_mustSign_1 : decode cX12_mustSign 1 = .ok (.invokevirtual 129, 3) := by decide +kernel
theorem dX12_mustSign_4 : decode cX12_mustSign 4 = .ok (.ifCond .eq 16, 3) := by decide +kernel
theorem dX12_mustSign_7 : decode cX12_mustSign 7 = .ok (.aload_n 0, 1) := by decide +kernel
theorem dX12_mustSign_8 : decode cX12_mustSign 8 = .ok (.iload_n 1, 1) := by decide +kernel
theorem dX12_mustSign_9 : decode cX12_mustSign 9 = .ok (.invokevirtual 133, 3) := by decide +kernel
theorem dX12_mustSign_12 : decode cX12_mustSign 12 = .ok (.ifCond .ne 8, 3) := by decide +kernel
theorem dX12_mustSign_15 : decode cX12_mustSign 15 = .ok (.aload_n 0, 1) := by decide +kernel
theorem dX12_mustSign_16 : decode cX12_mustSign 16 = .ok (.iconst 1, 1) := by decide +kernel
theorem dX12_mustSign_17 : decode cX12_mustSign 17 = .ok (.invokevirtual 136, 3) := by decide +kernel
theorem dX12_mustSign_20 : decode cX12_mustSign 20 = .ok (.aload_n 0, 1) := by decide +kernel
theorem dX12_mustSign_21 : decode cX12_mustSign 21 = .ok (.invokevirtual 129, 3) := by decide +kernel
theorem dX12_mustSign_24 : decode cX12_mustSign 24 = .ok (.ifCond .eq 7, 3) := by decide +kernel
theorem dX12_mustSign_27 : decode cX12_mustSign 27 = .ok (.aload_n 0, 1) := by decide +kernel
theorem dX12_mustSign_28 : decode cX12_mustSign 28 = .ok (.invokevirtual 139, 3) := by decide +kernel
theorem dX12_mustSign_31 : decode cX12_mustSign 31 = .ok (.return_, 1) := by decide +kernel
theorem dX12_mustWord_0 : decode cX12_mustWord 0 = .ok (.aload_n 0, 1) := by decide +kernel
theorem dX12_mustWord_1 : decode cX12_mustWord 1 = .ok (.invokevirtual 129, 3) := by decide +kernel
theorem dX12_mustWord_4 : decode cX12_mustWord 4 = .ok (.ifCond .eq 16, 3) := by decide +kernel
theorem dX12_mustWord_7 : decode cX12_mustWord 7 = .ok (.aload_n 0, 1) := by decide +kernel
theorem dX12_mustWord_8 : decode cX12_mustWord 8 = .ok (.lload_n 1, 1) := by decide +kernel
theorem dX12_mustWord_9 : decode cX12_mustWord 9 = .ok (.invokevirtual 142, 3) := by decide +kernel
theorem dX12_mustWord_12 : decode cX12_mustWord 12 = .ok (.ifCond .ne 8, 3) := by decide +kernel
theorem dX12_mustWord_15 : decode cX12_mustWord 15 = .ok (.aload_n 0, 1) := by decide +kernel
theorem dX12_mustWord_16 : decode cX12_mustWord 16 = .ok (.iconst 1, 1) := by decide +kernel
theorem dX12_mustWord_17 : decode cX12_mustWord 17 = .ok (.invokevirtual 136, 3) := by decide +kernel
theorem dX12_mustWord_20 : decode cX12_mustWord 20 = .ok (.aload_n 0, 1) := by decide +kernel
theorem dX12_mustWord_21 : decode cX12_mustWord 21 = .ok (.invokevirtual 129, 3) := by decide +kernel
theorem dX12_mustWord_24 : decode cX12_mustWord 24 = .ok (.ifCond .eq 7, 3) := by decide +kernel
theorem dX12_mustWord_27 : decode cX12_mustWord 27 = .ok (.aload_n 0, 1) := by decide +kernel
theorem dX12_mustWord_28 : decode cX12_mustWord 28 = .ok (.invokevirtual 139, 3) := by decide +kernel
theorem dX12_mustWord_31 : decode cX12_mustWord 31 = .ok (.return_, 1) := by decide +kernel
theorem dX12_looks_0 : decode cX12_looks 0 = .ok (.aload_n 0, 1) := by decide +kernel
theorem dX12_looks_1 : decode cX12_looks 1 = .ok (.invokevirtual 129, 3) := by decide +kernel
theorem dX12_looks_4 : decode cX12_looks 4 = .ok (.ifCond .eq 16, 3) := by decide +kernel
theorem dX12_looks_7 : decode cX12_looks 7 = .ok (.aload_n 0, 1) := by decide +kernel
theorem dX12_looks_8 : decode cX12_looks 8 = .ok (.getfield 116, 3) := by decide +kernel
theorem dX12_looks_11 : decode cX12_looks 11 = .ok (.iconst 2, 1) := by decide +kernel
theorem dX12_looks_12 : decode cX12_looks 12 = .ok (.if_icmp .eq 8, 3) := by decide +kernel
theorem dX12_looks_15 : decode cX12_looks 15 = .ok (.aload_n 0, 1) := by decide +kernel
theorem dX12_looks_16 : decode cX12_looks 16 = .ok (.iconst 1, 1) := by decide +kernel
theorem dX12_looks_17 : decode cX12_looks 17 = .ok (.invokevirtual 136, 3) := by decide +kernel
theorem dX12_looks_20 : decode cX12_looks 20 = .ok (.aload_n 0, 1) := by decide +kernel
theorem dX12_looks_21 : decode cX12_looks 21 = .ok (.invokevirtual 129, 3) := by decide +kernel
theorem dX12_looks_24 : decode cX12_looks 24 = .ok (.ifCond .eq 23, 3) := by decide +kernel
theorem dX12_looks_27 : decode cX12_looks 27 = .ok (.aload_n 0, 1) := by decide +kernel
theorem dX12_looks_28 : decode cX12_looks 28 = .ok (.getfield 113, 3) := by decide +kernel
theorem dX12_looks_31 : decode cX12_looks 31 = .ok (.i2l, 1) := by decide +kernel
theorem dX12_looks_32 : decode cX12_looks 32 = .ok (.iload_n 1, 1) := by decide +kernel
theorem dX12_looks_33 : decode cX12_looks 33 = .ok (.i2l, 1) := by decide +kernel
theorem dX12_looks_34 : decode cX12_looks 34 = .ok (.iload_n 2, 1) := by decide +kernel
theorem dX12_looks_35 : decode cX12_looks 35 = .ok (.i2l, 1) := by decide +kernel
theorem dX12_looks_36 : decode cX12_looks 36 = .ok (.invokestatic 92, 3) := by decide +kernel
theorem dX12_looks_39 : decode cX12_looks 39 = .ok (.ifCond .ne 8, 3) := by decide +kernel
theorem dX12_looks_42 : decode cX12_looks 42 = .ok (.aload_n 0, 1) := by decide +kernel
theorem dX12_looks_43 : decode cX12_looks 43 = .ok (.iconst 2, 1) := by decide +kernel
theorem dX12_looks_44 : decode cX12_looks 44 = .ok (.invokevirtual 136, 3) := by decide +kernel
theorem dX12_looks_47 : decode cX12_looks 47 = .ok (.aload_n 0, 1) := by decide +kernel
theorem dX12_looks_48 : decode cX12_looks 48 = .ok (.getfield 113, 3) := by decide +kernel
theorem dX12_looks_51 : decode cX12_looks 51 = .ok (.ireturn, 1) := by decide +kernel
theorem dX12_number_0 : decode cX12_number 0 = .ok (.aload_n 0, 1) := by decide +kernel
theorem dX12_number_1 : decode cX12_number 1 = .ok (.iload_n 1, 1) := by decide +kernel
theorem dX12_number_2 : decode cX12_number 2 = .ok (.iload_n 2, 1) := by decide +kernel
theorem dX12_number_3 : decode cX12_number 3 = .ok (.invokevirtual 146, 3) := by decide +kernel
theorem dX12_number_6 : decode cX12_number 6 = .ok (.istore_n 3, 1) := by decide +kernel
theorem dX12_number_7 : decode cX12_number 7 = .ok (.aload_n 0, 1) := by decide +kernel
theorem dX12_number_8 : decode cX12_number 8 = .ok (.invokevirtual 129, 3) := by decide +kernel
theorem dX12_number_11 : decode cX12_number 11 = .ok (.ifCond .eq 7, 3) := by decide +kernel
theorem dX12_number_14 : decode cX12_number 14 = .ok (.aload_n 0, 1) := by decide +kernel
theorem dX12_number_15 : decode cX12_number 15 = .ok (.invokevirtual 139, 3) := by decide +kernel
theorem dX12_number_18 : decode cX12_number 18 = .ok (.iload_n 3, 1) := by decide +kernel
theorem dX12_number_19 : decode cX12_number 19 = .ok (.ireturn, 1) := by decide +kernel
theorem dX12_beginsText_0 : decode cX12_beginsText 0 = .ok (.aload_n 0, 1) := by decide +kernel
theorem dX12_beginsText_1 : decode cX12_beginsText 1 = .ok (.aload_n 0, 1) := by decide +kernel
theorem dX12_beginsText_2 : decode cX12_beginsText 2 = .ok (.getfield 82, 3) := by decide +kernel
theorem dX12_beginsText_5 : decode cX12_beginsText 5 = .ok (.putfield 99, 3) := by decide +kernel
theorem dX12_beginsText_8 : decode cX12_beginsText 8 = .ok (.aload_n 0, 1) := by decide +kernel
theorem dX12_beginsText_9 : decode cX12_beginsText 9 = .ok (.iconst 0, 1) := by decide +kernel
theorem dX12_beginsText_10 : decode cX12_beginsText 10 = .ok (.putfield 82, 3) := by decide +kernel
theorem dX12_beginsText_13 : decode cX12_beginsText 13 = .ok (.aload_n 0, 1) := by decide +kernel
theorem dX12_beginsText_14 : decode cX12_beginsText 14 = .ok (.iconst 0, 1) := by decide +kernel
theorem dX12_beginsText_15 : decode cX12_beginsText 15 = .ok (.putfield 96, 3) := by decide +kernel
theorem dX12_beginsText_18 : decode cX12_beginsText 18 = .ok (.aload_n 0, 1) := by decide +kernel
theorem dX12_beginsText_19 : decode cX12_beginsText 19 = .ok (.iconst 0, 1) := by decide +kernel
theorem dX12_beginsText_20 : decode cX12_beginsText 20 = .ok (.putfield 126, 3) := by decide +kernel
theorem dX12_beginsText_23 : decode cX12_beginsText 23 = .ok (.aload_n 0, 1) := by decide +kernel
theorem dX12_beginsText_24 : decode cX12_beginsText 24 = .ok (.iconst (-1), 1) := by decide +kernel
theorem dX12_beginsText_25 : decode cX12_beginsText 25 = .ok (.putfield 13, 3) := by decide +kernel
theorem dX12_beginsText_28 : decode cX12_beginsText 28 = .ok (.aload_n 0, 1) := by decide +kernel
theorem dX12_beginsText_29 : decode cX12_beginsText 29 = .ok (.invokevirtual 139, 3) := by decide +kernel
theorem dX12_beginsText_32 : decode cX12_beginsText 32 = .ok (.return_, 1) := by decide +kernel
theorem dX12_endsText_0 : decode cX12_endsText 0 = .ok (.aload_n 0, 1) := by decide +kernel
theorem dX12_endsText_1 : decode cX12_endsText 1 = .ok (.aload_n 0, 1) := by decide +kernel
theorem dX12_endsText_2 : decode cX12_endsText 2 = .ok (.getfield 126, 3) := by decide +kernel
theorem dX12_endsText_5 : decode cX12_endsText 5 = .ok (.putfield 150, 3) := by decide +kernel
theorem dX12_endsText_8 : decode cX12_endsText 8 = .ok (.aload_n 0, 1) := by decide +kernel
theorem dX12_endsText_9 : decode cX12_endsText 9 = .ok (.aload_n 0, 1) := by decide +kernel
theorem dX12_endsText_10 : decode cX12_endsText 10 = .ok (.getfield 13, 3) := by decide +kernel
theorem dX12_endsText_13 : decode cX12_endsText 13 = .ok (.putfield 17, 3) := by decide +kernel
theorem dX12_endsText_16 : decode cX12_endsText 16 = .ok (.aload_n 0, 1) := by decide +kernel
theorem dX12_endsText_17 : decode cX12_endsText 17 = .ok (.aload_n 0, 1) := by decide +kernel
theorem dX12_endsText_18 : decode cX12_endsText 18 = .ok (.getfield 126, 3) := by decide +kernel
theorem dX12_endsText_21 : decode cX12_endsText 21 = .ok (.ifCond .ne 7, 3) := by decide +kernel
theorem dX12_endsText_24 : decode cX12_endsText 24 = .ok (.iconst 1, 1) := by decide +kernel
theorem dX12_endsText_25 : decode cX12_endsText 25 = .ok (.goto 4, 3) := by decide +kernel
theorem dX12_endsText_28 : decode cX12_endsText 28 = .ok (.iconst 0, 1) := by decide +kernel
theorem dX12_endsText_29 : decode cX12_endsText 29 = .ok (.invokevirtual 85, 3) := by decide +kernel
theorem dX12_endsText_32 : decode cX12_endsText 32 = .ok (.ireturn, 1) := by decide +kernel
theorem dX12_errorCode_0 : decode cX12_errorCode 0 = .ok (.aload_n 0, 1) := by decide +kernel
theorem dX12_errorCode_1 : decode cX12_errorCode 1 = .ok (.iconst 0, 1) := by decide +kernel
theorem dX12_errorCode_2 : decode cX12_errorCode 2 = .ok (.putfield 75, 3) := by decide +kernel
theorem dX12_errorCode_5 : decode cX12_errorCode 5 = .ok (.aload_n 0, 1) := by decide +kernel
theorem dX12_errorCode_6 : decode cX12_errorCode 6 = .ok (.getfield 150, 3) := by decide +kernel
theorem dX12_errorCode_9 : decode cX12_errorCode 9 = .ok (.ireturn, 1) := by decide +kernel
theorem dX12_errorPosition_0 : decode cX12_errorPosition 0 = .ok (.aload_n 0, 1) := by decide +kernel
theorem dX12_errorPosition_1 : decode cX12_errorPosition 1 = .ok (.iconst 0, 1) := by decide +kernel
theorem dX12_errorPosition_2 : decode cX12_errorPosition 2 = .ok (.putfield 75, 3) := by decide +kernel
theorem dX12_errorPosition_5 : decode cX12_errorPosition 5 = .ok (.aload_n 0, 1) := by decide +kernel
theorem dX12_errorPosition_6 : decode cX12_errorPosition 6 = .ok (.getfield 17, 3) := by decide +kernel
theorem dX12_errorPosition_9 : decode cX12_errorPosition 9 = .ok (.ireturn, 1) := by decide +kernel
theorem dX12_copiesRow_0 : decode cX12_copiesRow 0 = .ok (.iconst 0, 1) := by decide +kernel
theorem dX12_copiesRow_1 : decode cX12_copiesRow 1 = .ok (.istore 4, 2) := by decide +kernel
theorem dX12_copiesRow_3 : decode cX12_copiesRow 3 = .ok (.iload 4, 2) := by decide +kernel
theorem dX12_copiesRow_5 : decode cX12_copiesRow 5 = .ok (.sipush 196, 3) := by decide +kernel
theorem dX12_copiesRow_8 : decode cX12_copiesRow 8 = .ok (.if_icmp .ge 21, 3) := by decide +kernel
theorem dX12_copiesRow_11 : decode cX12_copiesRow 11 = .ok (.aload_n 2, 1) := by decide +kernel
theorem dX12_copiesRow_12 : decode cX12_copiesRow 12 = .ok (.iload_n 3, 1) := by decide +kernel
theorem dX12_copiesRow_13 : decode cX12_copiesRow 13 = .ok (.iload 4, 2) := by decide +kernel
theorem dX12_copiesRow_15 : decode cX12_copiesRow 15 = .ok (.iadd, 1) := by decide +kernel
theorem dX12_copiesRow_16 : decode cX12_copiesRow 16 = .ok (.aload_n 0, 1) := by decide +kernel
theorem dX12_copiesRow_17 : decode cX12_copiesRow 17 = .ok (.iload_n 1, 1) := by decide +kernel
theorem dX12_copiesRow_18 : decode cX12_copiesRow 18 = .ok (.iload 4, 2) := by decide +kernel
theorem dX12_copiesRow_20 : decode cX12_copiesRow 20 = .ok (.iadd, 1) := by decide +kernel
theorem dX12_copiesRow_21 : decode cX12_copiesRow 21 = .ok (.iaload, 1) := by decide +kernel
theorem dX12_copiesRow_22 : decode cX12_copiesRow 22 = .ok (.iastore, 1) := by decide +kernel
theorem dX12_copiesRow_23 : decode cX12_copiesRow 23 = .ok (.iinc 4 1, 3) := by decide +kernel
theorem dX12_copiesRow_26 : decode cX12_copiesRow 26 = .ok (.goto (-23), 3) := by decide +kernel
theorem dX12_copiesRow_29 : decode cX12_copiesRow 29 = .ok (.return_, 1) := by decide +kernel
theorem dX12_copiesNames_0 : decode cX12_copiesNames 0 = .ok (.iconst 0, 1) := by decide +kernel
theorem dX12_copiesNames_1 : decode cX12_copiesNames 1 = .ok (.istore_n 2, 1) := by decide +kernel
theorem dX12_copiesNames_2 : decode cX12_copiesNames 2 = .ok (.iload_n 2, 1) := by decide +kernel
theorem dX12_copiesNames_3 : decode cX12_copiesNames 3 = .ok (.bipush 8, 2) := by decide +kernel
theorem dX12_copiesNames_5 : decode cX12_copiesNames 5 = .ok (.if_icmp .ge 15, 3) := by decide +kernel
theorem dX12_copiesNames_8 : decode cX12_copiesNames 8 = .ok (.aload_n 1, 1) := by decide +kernel
theorem dX12_copiesNames_9 : decode cX12_copiesNames 9 = .ok (.iload_n 2, 1) := by decide +kernel
theorem dX12_copiesNames_10 : decode cX12_copiesNames 10 = .ok (.aload_n 0, 1) := by decide +kernel
theorem dX12_copiesNames_11 : decode cX12_copiesNames 11 = .ok (.iload_n 2, 1) := by decide +kernel
theorem dX12_copiesNames_12 : decode cX12_copiesNames 12 = .ok (.laload, 1) := by decide +kernel
theorem dX12_copiesNames_13 : decode cX12_copiesNames 13 = .ok (.lastore, 1) := by decide +kernel
theorem dX12_copiesNames_14 : decode cX12_copiesNames 14 = .ok (.iinc 2 1, 3) := by decide +kernel
theorem dX12_copiesNames_17 : decode cX12_copiesNames 17 = .ok (.goto (-15), 3) := by decide +kernel
theorem dX12_copiesNames_20 : decode cX12_copiesNames 20 = .ok (.return_, 1) := by decide +kernel
theorem dX12_clears_0 : decode cX12_clears 0 = .ok (.iconst 0, 1) := by decide +kernel
theorem dX12_clears_1 : decode cX12_clears 1 = .ok (.istore_n 1, 1) := by decide +kernel
theorem dX12_clears_2 : decode cX12_clears 2 = .ok (.iload_n 1, 1) := by decide +kernel
theorem dX12_clears_3 : decode cX12_clears 3 = .ok (.sipush 196, 3) := by decide +kernel
theorem dX12_clears_6 : decode cX12_clears 6 = .ok (.if_icmp .ge 16, 3) := by decide +kernel
theorem dX12_clears_9 : decode cX12_clears 9 = .ok (.aload_n 0, 1) := by decide +kernel
theorem dX12_clears_10 : decode cX12_clears 10 = .ok (.getfield 20, 3) := by decide +kernel
theorem dX12_clears_13 : decode cX12_clears 13 = .ok (.iload_n 1, 1) := by decide +kernel
theorem dX12_clears_14 : decode cX12_clears 14 = .ok (.iconst 0, 1) := by decide +kernel
theorem dX12_clears_15 : decode cX12_clears 15 = .ok (.iastore, 1) := by decide +kernel
theorem dX12_clears_16 : decode cX12_clears 16 = .ok (.iinc 1 1, 3) := by decide +kernel
theorem dX12_clears_19 : decode cX12_clears 19 = .ok (.goto (-17), 3) := by decide +kernel
theorem dX12_clears_22 : decode cX12_clears 22 = .ok (.iconst 0, 1) := by decide +kernel
theorem dX12_clears_23 : decode cX12_clears 23 = .ok (.istore_n 1, 1) := by decide +kernel
theorem dX12_clears_24 : decode cX12_clears 24 = .ok (.iload_n 1, 1) := by decide +kernel
theorem dX12_clears_25 : decode cX12_clears 25 = .ok (.bipush 8, 2) := by decide +kernel
theorem dX12_clears_27 : decode cX12_clears 27 = .ok (.if_icmp .ge 16, 3) := by decide +kernel
theorem dX12_clears_30 : decode cX12_clears 30 = .ok (.aload_n 0, 1) := by decide +kernel
theorem dX12_clears_31 : decode cX12_clears 31 = .ok (.getfield 35, 3) := by decide +kernel
theorem dX12_clears_34 : decode cX12_clears 34 = .ok (.iload_n 1, 1) := by decide +kernel
theorem dX12_clears_35 : decode cX12_clears 35 = .ok (.lconst 0, 1) := by decide +kernel
theorem dX12_clears_36 : decode cX12_clears 36 = .ok (.lastore, 1) := by decide +kernel
theorem dX12_clears_37 : decode cX12_clears 37 = .ok (.iinc 1 1, 3) := by decide +kernel
theorem dX12_clears_40 : decode cX12_clears 40 = .ok (.goto (-16), 3) := by decide +kernel
theorem dX12_clears_43 : decode cX12_clears 43 = .ok (.aload_n 0, 1) := by decide +kernel
theorem dX12_clears_44 : decode cX12_clears 44 = .ok (.getfield 20, 3) := by decide +kernel
theorem dX12_clears_47 : decode cX12_clears 47 = .ok (.iconst 1, 1) := by decide +kernel
theorem dX12_clears_48 : decode cX12_clears 48 = .ok (.sipush 300, 3) := by decide +kernel
theorem dX12_clears_51 : decode cX12_clears 51 = .ok (.iastore, 1) := by decide +kernel
theorem dX12_clears_52 : decode cX12_clears 52 = .ok (.return_, 1) := by decide +kernel
theorem dX12_laysAside_0 : decode cX12_laysAside 0 = .ok (.aload_n 0, 1) := by decide +kernel
theorem dX12_laysAside_1 : decode cX12_laysAside 1 = .ok (.getfield 20, 3) := by decide +kernel
theorem dX12_laysAside_4 : decode cX12_laysAside 4 = .ok (.iconst 0, 1) := by decide +kernel
theorem dX12_laysAside_5 : decode cX12_laysAside 5 = .ok (.aload_n 0, 1) := by decide +kernel
theorem dX12_laysAside_6 : decode cX12_laysAside 6 = .ok (.getfield 26, 3) := by decide +kernel
theorem dX12_laysAside_9 : decode cX12_laysAside 9 = .ok (.iconst 0, 1) := by decide +kernel
theorem dX12_laysAside_10 : decode cX12_laysAside 10 = .ok (.invokestatic 153, 3) := by decide +kernel
theorem dX12_laysAside_13 : decode cX12_laysAside 13 = .ok (.return_, 1) := by decide +kernel
theorem dX12_keeps_0 : decode cX12_keeps 0 = .ok (.aload_n 0, 1) := by decide +kernel
theorem dX12_keeps_1 : decode cX12_keeps 1 = .ok (.getfield 157, 3) := by decide +kernel
theorem dX12_keeps_4 : decode cX12_keeps 4 = .ok (.bipush 6, 2) := by decide +kernel
theorem dX12_keeps_6 : decode cX12_keeps 6 = .ok (.if_icmp .ne 49, 3) := by decide +kernel
theorem dX12_keeps_9 : decode cX12_keeps 9 = .ok (.aload_n 0, 1) := by decide +kernel
theorem dX12_keeps_10 : decode cX12_keeps 10 = .ok (.dup, 1) := by decide +kernel
theorem dX12_keeps_11 : decode cX12_keeps 11 = .ok (.getfield 157, 3) := by decide +kernel
theorem dX12_keeps_14 : decode cX12_keeps 14 = .ok (.iconst 1, 1) := by decide +kernel
theorem dX12_keeps_15 : decode cX12_keeps 15 = .ok (.isub, 1) := by decide +kernel
theorem dX12_keeps_16 : decode cX12_keeps 16 = .ok (.putfield 157, 3) := by decide +kernel
theorem dX12_keeps_19 : decode cX12_keeps 19 = .ok (.iconst 0, 1) := by decide +kernel
theorem dX12_keeps_20 : decode cX12_keeps 20 = .ok (.istore_n 1, 1) := by decide +kernel
theorem dX12_keeps_21 : decode cX12_keeps 21 = .ok (.iload_n 1, 1) := by decide +kernel
theorem dX12_keeps_22 : decode cX12_keeps 22 = .ok (.sipush 196, 3) := by decide +kernel
theorem dX12_keeps_25 : decode cX12_keeps 25 = .ok (.aload_n 0, 1) := by decide +kernel
theorem dX12_keeps_26 : decode cX12_keeps 26 = .ok (.getfield 157, 3) := by decide +kernel
theorem dX12_keeps_29 : decode cX12_keeps 29 = .ok (.imul, 1) := by decide +kernel
theorem dX12_keeps_30 : decode cX12_keeps 30 = .ok (.if_icmp .ge 25, 3) := by decide +kernel
theorem dX12_keeps_33 : decode cX12_keeps 33 = .ok (.aload_n 0, 1) := by decide +kernel
theorem dX12_keeps_34 : decode cX12_keeps 34 = .ok (.getfield 32, 3) := by decide +kernel
theorem dX12_keeps_37 : decode cX12_keeps 37 = .ok (.iload_n 1, 1) := by decide +kernel
theorem dX12_keeps_38 : decode cX12_keeps 38 = .ok (.aload_n 0, 1) := by decide +kernel
theorem dX12_keeps_39 : decode cX12_keeps 39 = .ok (.getfield 32, 3) := by decide +kernel
theorem dX12_keeps_42 : decode cX12_keeps 42 = .ok (.iload_n 1, 1) := by decide +kernel
theorem dX12_keeps_43 : decode cX12_keeps 43 = .ok (.sipush 196, 3) := by decide +kernel
theorem dX12_keeps_46 : decode cX12_keeps 46 = .ok (.iadd, 1) := by decide +kernel
theorem dX12_keeps_47 : decode cX12_keeps 47 = .ok (.iaload, 1) := by decide +kernel
theorem dX12_keeps_48 : decode cX12_keeps 48 = .ok (.iastore, 1) := by decide +kernel
theorem dX12_keeps_49 : decode cX12_keeps 49 = .ok (.iinc 1 1, 3) := by decide +kernel
theorem dX12_keeps_52 : decode cX12_keeps 52 = .ok (.goto (-31), 3) := by decide +kernel
theorem dX12_keeps_55 : decode cX12_keeps 55 = .ok (.aload_n 0, 1) := by decide +kernel
theorem dX12_keeps_56 : decode cX12_keeps 56 = .ok (.getfield 26, 3) := by decide +kernel
theorem dX12_keeps_59 : decode cX12_keeps 59 = .ok (.iconst 0, 1) := by decide +kernel
theorem dX12_keeps_60 : decode cX12_keeps 60 = .ok (.aload_n 0, 1) := by decide +kernel
theorem dX12_keeps_61 : decode cX12_keeps 61 = .ok (.getfield 32, 3) := by decide +kernel
theorem dX12_keeps_64 : decode cX12_keeps 64 = .ok (.sipush 196, 3) := by decide +kernel
theorem dX12_keeps_67 : decode cX12_keeps 67 = .ok (.aload_n 0, 1) := by decide +kernel
theorem dX12_keeps_68 : decode cX12_keeps 68 = .ok (.getfield 157, 3) := by decide +kernel
theorem dX12_keeps_71 : decode cX12_keeps 71 = .ok (.imul, 1) := by decide +kernel
theorem dX12_keeps_72 : decode cX12_keeps 72 = .ok (.invokestatic 153, 3) := by decide +kernel
theorem dX12_keeps_75 : decode cX12_keeps 75 = .ok (.aload_n 0, 1) := by decide +kernel
theorem dX12_keeps_76 : decode cX12_keeps 76 = .ok (.dup, 1) := by decide +kernel
theorem dX12_keeps_77 : decode cX12_keeps 77 = .ok (.getfield 157, 3) := by decide +kernel
theorem dX12_keeps_80 : decode cX12_keeps 80 = .ok (.iconst 1, 1) := by decide +kernel
theorem dX12_keeps_81 : decode cX12_keeps 81 = .ok (.iadd, 1) := by decide +kernel
theorem dX12_keeps_82 : decode cX12_keeps 82 = .ok (.putfield 157, 3) := by decide +kernel
theorem dX12_keeps_85 : decode cX12_keeps 85 = .ok (.return_, 1) := by decide +kernel
theorem dX12_kept_0 : decode cX12_kept 0 = .ok (.aload_n 0, 1) := by decide +kernel
theorem dX12_kept_1 : decode cX12_kept 1 = .ok (.invokevirtual 160, 3) := by decide +kernel
theorem dX12_kept_4 : decode cX12_kept 4 = .ok (.iload_n 1, 1) := by decide +kernel
theorem dX12_kept_5 : decode cX12_kept 5 = .ok (.ireturn, 1) := by decide +kernel
theorem dX12_undo_0 : decode cX12_undo 0 = .ok (.aload_n 0, 1) := by decide +kernel
theorem dX12_undo_1 : decode cX12_undo 1 = .ok (.iconst 0, 1) := by decide +kernel
theorem dX12_undo_2 : decode cX12_undo 2 = .ok (.putfield 75, 3) := by decide +kernel
theorem dX12_undo_5 : decode cX12_undo 5 = .ok (.aload_n 0, 1) := by decide +kernel
theorem dX12_undo_6 : decode cX12_undo 6 = .ok (.getfield 157, 3) := by decide +kernel
theorem dX12_undo_9 : decode cX12_undo 9 = .ok (.ifCond .ne 5, 3) := by decide +kernel
theorem dX12_undo_12 : decode cX12_undo 12 = .ok (.iconst (-1), 1) := by decide +kernel
theorem dX12_undo_13 : decode cX12_undo 13 = .ok (.ireturn, 1) := by decide +kernel
theorem dX12_undo_14 : decode cX12_undo 14 = .ok (.aload_n 0, 1) := by decide +kernel
theorem dX12_undo_15 : decode cX12_undo 15 = .ok (.dup, 1) := by decide +kernel
theorem dX12_undo_16 : decode cX12_undo 16 = .ok (.getfield 157, 3) := by decide +kernel
theorem dX12_undo_19 : decode cX12_undo 19 = .ok (.iconst 1, 1) := by decide +kernel
theorem dX12_undo_20 : decode cX12_undo 20 = .ok (.isub, 1) := by decide +kernel
theorem dX12_undo_21 : decode cX12_undo 21 = .ok (.putfield 157, 3) := by decide +kernel
theorem dX12_undo_24 : decode cX12_undo 24 = .ok (.aload_n 0, 1) := by decide +kernel
theorem dX12_undo_25 : decode cX12_undo 25 = .ok (.getfield 32, 3) := by decide +kernel
theorem dX12_undo_28 : decode cX12_undo 28 = .ok (.sipush 196, 3) := by decide +kernel
theorem dX12_undo_31 : decode cX12_undo 31 = .ok (.aload_n 0, 1) := by decide +kernel
theorem dX12_undo_32 : decode cX12_undo 32 = .ok (.getfield 157, 3) := by decide +kernel
theorem dX12_undo_35 : decode cX12_undo 35 = .ok (.imul, 1) := by decide +kernel
theorem dX12_undo_36 : decode cX12_undo 36 = .ok (.aload_n 0, 1) := by decide +kernel
theorem dX12_undo_37 : decode cX12_undo 37 = .ok (.getfield 20, 3) := by decide +kernel
theorem dX12_undo_40 : decode cX12_undo 40 = .ok (.iconst 0, 1) := by decide +kernel
theorem dX12_undo_41 : decode cX12_undo 41 = .ok (.invokestatic 153, 3) := by decide +kernel
theorem dX12_undo_44 : decode cX12_undo 44 = .ok (.aload_n 0, 1) := by decide +kernel
theorem dX12_undo_45 : decode cX12_undo 45 = .ok (.getfield 157, 3) := by decide +kernel
theorem dX12_undo_48 : decode cX12_undo 48 = .ok (.ireturn, 1) := by decide +kernel
theorem dX12_save_0 : decode cX12_save 0 = .ok (.aload_n 0, 1) := by decide +kernel
theorem dX12_save_1 : decode cX12_save 1 = .ok (.iconst 0, 1) := by decide +kernel
theorem dX12_save_2 : decode cX12_save 2 = .ok (.putfield 75, 3) := by decide +kernel
theorem dX12_save_5 : decode cX12_save 5 = .ok (.aload_n 0, 1) := by decide +kernel
theorem dX12_save_6 : decode cX12_save 6 = .ok (.getfield 20, 3) := by decide +kernel
theorem dX12_save_9 : decode cX12_save 9 = .ok (.iconst 0, 1) := by decide +kernel
theorem dX12_save_10 : decode cX12_save 10 = .ok (.aload_n 0, 1) := by decide +kernel
theorem dX12_save_11 : decode cX12_save 11 = .ok (.getfield 23, 3) := by decide +kernel
theorem dX12_save_14 : decode cX12_save 14 = .ok (.iconst 0, 1) := by decide +kernel
theorem dX12_save_15 : decode cX12_save 15 = .ok (.invokestatic 153, 3) := by decide +kernel
theorem dX12_save_18 : decode cX12_save 18 = .ok (.aload_n 0, 1) := by decide +kernel
theorem dX12_save_19 : decode cX12_save 19 = .ok (.getfield 35, 3) := by decide +kernel
theorem dX12_save_22 : decode cX12_save 22 = .ok (.aload_n 0, 1) := by decide +kernel
theorem dX12_save_23 : decode cX12_save 23 = .ok (.getfield 39, 3) := by decide +kernel
theorem dX12_save_26 : decode cX12_save 26 = .ok (.invokestatic 163, 3) := by decide +kernel
theorem dX12_save_29 : decode cX12_save 29 = .ok (.aload_n 0, 1) := by decide +kernel
theorem dX12_save_30 : decode cX12_save 30 = .ok (.iconst 1, 1) := by decide +kernel
theorem dX12_save_31 : decode cX12_save 31 = .ok (.putfield 167, 3) := by decide +kernel
theorem dX12_save_34 : decode cX12_save 34 = .ok (.aload_n 0, 1) := by decide +kernel
theorem dX12_save_35 : decode cX12_save 35 = .ok (.getfield 20, 3) := by decide +kernel
theorem dX12_save_38 : decode cX12_save 38 = .ok (.iconst 2, 1) := by decide +kernel
theorem dX12_save_39 : decode cX12_save 39 = .ok (.iaload, 1) := by decide +kernel
theorem dX12_save_40 : decode cX12_save 40 = .ok (.ireturn, 1) := by decide +kernel
theorem dX12_restore_0 : decode cX12_restore 0 = .ok (.aload_n 0, 1) := by decide +kernel
theorem dX12_restore_1 : decode cX12_restore 1 = .ok (.aload_n 0, 1) := by decide +kernel
theorem dX12_restore_2 : decode cX12_restore 2 = .ok (.getfield 167, 3) := by decide +kernel
theorem dX12_restore_5 : decode cX12_restore 5 = .ok (.invokevirtual 85, 3) := by decide +kernel
theorem dX12_restore_8 : decode cX12_restore 8 = .ok (.ifCond .ne 5, 3) := by decide +kernel
theorem dX12_restore_11 : decode cX12_restore 11 = .ok (.iconst 0, 1) := by decide +kernel
theorem dX12_restore_12 : decode cX12_restore 12 = .ok (.ireturn, 1) := by decide +kernel
theorem dX12_restore_13 : decode cX12_restore 13 = .ok (.aload_n 0, 1) := by decide +kernel
theorem dX12_restore_14 : decode cX12_restore 14 = .ok (.getfield 23, 3) := by decide +kernel
theorem dX12_restore_17 : decode cX12_restore 17 = .ok (.iconst 0, 1) := by decide +kernel
theorem dX12_restore_18 : decode cX12_restore 18 = .ok (.aload_n 0, 1) := by decide +kernel
theorem dX12_restore_19 : decode cX12_restore 19 = .ok (.getfield 20, 3) := by decide +kernel
theorem dX12_restore_22 : decode cX12_restore 22 = .ok (.iconst 0, 1) := by decide +kernel
theorem dX12_restore_23 : decode cX12_restore 23 = .ok (.invokestatic 153, 3) := by decide +kernel
theorem dX12_restore_26 : decode cX12_restore 26 = .ok (.aload_n 0, 1) := by decide +kernel
theorem dX12_restore_27 : decode cX12_restore 27 = .ok (.getfield 39, 3) := by decide +kernel
theorem dX12_restore_30 : decode cX12_restore 30 = .ok (.aload_n 0, 1) := by decide +kernel
theorem dX12_restore_31 : decode cX12_restore 31 = .ok (.getfield 35, 3) := by decide +kernel
theorem dX12_restore_34 : decode cX12_restore 34 = .ok (.invokestatic 163, 3) := by decide +kernel
theorem dX12_restore_37 : decode cX12_restore 37 = .ok (.aload_n 0, 1) := by decide +kernel
theorem dX12_restore_38 : decode cX12_restore 38 = .ok (.iconst 0, 1) := by decide +kernel
theorem dX12_restore_39 : decode cX12_restore 39 = .ok (.putfield 157, 3) := by decide +kernel
theorem dX12_restore_42 : decode cX12_restore 42 = .ok (.aload_n 0, 1) := by decide +kernel
theorem dX12_restore_43 : decode cX12_restore 43 = .ok (.getfield 20, 3) := by decide +kernel
theorem dX12_restore_46 : decode cX12_restore 46 = .ok (.iconst 2, 1) := by decide +kernel
theorem dX12_restore_47 : decode cX12_restore 47 = .ok (.iaload, 1) := by decide +kernel
theorem dX12_restore_48 : decode cX12_restore 48 = .ok (.ireturn, 1) := by decide +kernel
theorem dX12_cellOf_0 : decode cX12_cellOf 0 = .ok (.iconst 4, 1) := by decide +kernel
theorem dX12_cellOf_1 : decode cX12_cellOf 1 = .ok (.bipush 12, 2) := by decide +kernel
theorem dX12_cellOf_3 : decode cX12_cellOf 3 = .ok (.iload_n 0, 1) := by decide +kernel
theorem dX12_cellOf_4 : decode cX12_cellOf 4 = .ok (.imul, 1) := by decide +kernel
theorem dX12_cellOf_5 : decode cX12_cellOf 5 = .ok (.iadd, 1) := by decide +kernel
theorem dX12_cellOf_6 : decode cX12_cellOf 6 = .ok (.iload_n 1, 1) := by decide +kernel
theorem dX12_cellOf_7 : decode cX12_cellOf 7 = .ok (.iadd, 1) := by decide +kernel
theorem dX12_cellOf_8 : decode cX12_cellOf 8 = .ok (.ireturn, 1) := by decide +kernel
theorem dX12_of_0 : decode cX12_of 0 = .ok (.aload_n 0, 1) := by decide +kernel
theorem dX12_of_1 : decode cX12_of 1 = .ok (.getfield 20, 3) := by decide +kernel
theorem dX12_of_4 : decode cX12_of 4 = .ok (.iload_n 1, 1) := by decide +kernel
theorem dX12_of_5 : decode cX12_of 5 = .ok (.iload_n 2, 1) := by decide +kernel
theorem dX12_of_6 : decode cX12_of 6 = .ok (.invokestatic 171, 3) := by decide +kernel
theorem dX12_of_9 : decode cX12_of 9 = .ok (.iaload, 1) := by decide +kernel
theorem dX12_of_10 : decode cX12_of 10 = .ok (.ireturn, 1) := by decide +kernel
theorem dX12_sets_0 : decode cX12_sets 0 = .ok (.aload_n 0, 1) := by decide +kernel
theorem dX12_sets_1 : decode cX12_sets 1 = .ok (.getfield 20, 3) := by decide +kernel
theorem dX12_sets_4 : decode cX12_sets 4 = .ok (.iload_n 1, 1) := by decide +kernel
theorem dX12_sets_5 : decode cX12_sets 5 = .ok (.iload_n 2, 1) := by decide +kernel
theorem dX12_sets_6 : decode cX12_sets 6 = .ok (.invokestatic 171, 3) := by decide +kernel
theorem dX12_sets_9 : decode cX12_sets 9 = .ok (.iload_n 3, 1) := by decide +kernel
theorem dX12_sets_10 : decode cX12_sets 10 = .ok (.iastore, 1) := by decide +kernel
theorem dX12_sets_11 : decode cX12_sets 11 = .ok (.return_, 1) := by decide +kernel
theorem dX12_mustBeWord_0 : decode cX12_mustBeWord 0 = .ok (.aload_n 0, 1) := by decide +kernel
theorem dX12_mustBeWord_1 : decode cX12_mustBeWord 1 = .ok (.invokevirtual 129, 3) := by decide +kernel
theorem dX12_mustBeWord_4 : decode cX12_mustBeWord 4 = .ok (.ifCond .eq 16, 3) := by decide +kernel
theorem dX12_mustBeWord_7 : decode cX12_mustBeWord 7 = .ok (.aload_n 0, 1) := by decide +kernel
theorem dX12_mustBeWord_8 : decode cX12_mustBeWord 8 = .ok (.getfield 116, 3) := by decide +kernel
theorem dX12_mustBeWord_11 : decode cX12_mustBeWord 11 = .ok (.iconst 1, 1) := by decide +kernel
theorem dX12_mustBeWord_12 : decode cX12_mustBeWord 12 = .ok (.if_icmp .eq 8, 3) := by decide +kernel
theorem dX12_mustBeWord_15 : decode cX12_mustBeWord 15 = .ok (.aload_n 0, 1) := by decide +kernel
theorem dX12_mustBeWord_16 : decode cX12_mustBeWord 16 = .ok (.iconst 1, 1) := by decide +kernel
theorem dX12_mustBeWord_17 : decode cX12_mustBeWord 17 = .ok (.invokevirtual 136, 3) := by decide +kernel
theorem dX12_mustBeWord_20 : decode cX12_mustBeWord 20 = .ok (.return_, 1) := by decide +kernel
theorem dX12_named_0 : decode cX12_named 0 = .ok (.iconst (-1), 1) := by decide +kernel
theorem dX12_named_1 : decode cX12_named 1 = .ok (.istore_n 1, 1) := by decide +kernel
theorem dX12_named_2 : decode cX12_named 2 = .ok (.iconst 0, 1) := by decide +kernel
theorem dX12_named_3 : decode cX12_named 3 = .ok (.istore_n 2, 1) := by decide +kernel
theorem dX12_named_4 : decode cX12_named 4 = .ok (.iload_n 2, 1) := by decide +kernel
theorem dX12_named_5 : decode cX12_named 5 = .ok (.aload_n 0, 1) := by decide +kernel
theorem dX12_named_6 : decode cX12_named 6 = .ok (.getfield 20, 3) := by decide +kernel
theorem dX12_named_9 : decode cX12_named 9 = .ok (.iconst 0, 1) := by decide +kernel
theorem dX12_named_10 : decode cX12_named 10 = .ok (.iaload, 1) := by decide +kernel
theorem dX12_named_11 : decode cX12_named 11 = .ok (.if_icmp .ge 29, 3) := by decide +kernel
theorem dX12_named_14 : decode cX12_named 14 = .ok (.aload_n 0, 1) := by decide +kernel
theorem dX12_named_15 : decode cX12_named 15 = .ok (.getfield 35, 3) := by decide +kernel
theorem dX12_named_18 : decode cX12_named 18 = .ok (.iload_n 2, 1) := by decide +kernel
theorem dX12_named_19 : decode cX12_named 19 = .ok (.laload, 1) := by decide +kernel
theorem dX12_named_20 : decode cX12_named 20 = .ok (.aload_n 0, 1) := by decide +kernel
theorem dX12_named_21 : decode cX12_named 21 = .ok (.getfield 109, 3) := by decide +kernel
theorem dX12_named_24 : decode cX12_named 24 = .ok (.lcmp, 1) := by decide +kernel
theorem dX12_named_25 : decode cX12_named 25 = .ok (.ifCond .ne 7, 3) := by decide +kernel
theorem dX12_named_28 : decode cX12_named 28 = .ok (.iload_n 2, 1) := by decide +kernel
theorem dX12_named_29 : decode cX12_named 29 = .ok (.goto 4, 3) := by decide +kernel
theorem dX12_named_32 : decode cX12_named 32 = .ok (.iload_n 1, 1) := by decide +kernel
theorem dX12_named_33 : decode cX12_named 33 = .ok (.istore_n 1, 1) := by decide +kernel
theorem dX12_named_34 : decode cX12_named 34 = .ok (.iinc 2 1, 3) := by decide +kernel
theorem dX12_named_37 : decode cX12_named 37 = .ok (.goto (-33), 3) := by decide +kernel
theorem dX12_named_40 : decode cX12_named 40 = .ok (.iload_n 1, 1) := by decide +kernel
theorem dX12_named_41 : decode cX12_named 41 = .ok (.ireturn, 1) := by decide +kernel
theorem dX12_kindHere_0 : decode cX12_kindHere 0 = .ok (.aload_n 0, 1) := by decide +kernel
theorem dX12_kindHere_1 : decode cX12_kindHere 1 = .ok (.ldc2_w 174, 3) := by decide +kernel
theorem dX12_kindHere_4 : decode cX12_kindHere 4 = .ok (.invokevirtual 142, 3) := by decide +kernel
theorem dX12_kindHere_7 : decode cX12_kindHere 7 = .ok (.ifCond .eq 5, 3) := by decide +kernel
theorem dX12_kindHere_10 : decode cX12_kindHere 10 = .ok (.iconst 0, 1) := by decide +kernel
theorem dX12_kindHere_11 : decode cX12_kindHere 11 = .ok (.ireturn, 1) := by decide +kernel
theorem dX12_kindHere_12 : decode cX12_kindHere 12 = .ok (.aload_n 0, 1) := by decide +kernel
theorem dX12_kindHere_13 : decode cX12_kindHere 13 = .ok (.ldc2_w 176, 3) := by decide +kernel
theorem dX12_kindHere_16 : decode cX12_kindHere 16 = .ok (.invokevirtual 142, 3) := by decide +kernel
theorem dX12_kindHere_19 : decode cX12_kindHere 19 = .ok (.ifCond .eq 5, 3) := by decide +kernel
theorem dX12_kindHere_22 : decode cX12_kindHere 22 = .ok (.iconst 1, 1) := by decide +kernel
theorem dX12_kindHere_23 : decode cX12_kindHere 23 = .ok (.ireturn, 1) := by decide +kernel
theorem dX12_kindHere_24 : decode cX12_kindHere 24 = .ok (.aload_n 0, 1) := by decide +kernel
theorem dX12_kindHere_25 : decode cX12_kindHere 25 = .ok (.ldc2_w 178, 3) := by decide +kernel
theorem dX12_kindHere_28 : decode cX12_kindHere 28 = .ok (.invokevirtual 142, 3) := by decide +kernel
theorem dX12_kindHere_31 : decode cX12_kindHere 31 = .ok (.ifCond .eq 5, 3) := by decide +kernel
theorem dX12_kindHere_34 : decode cX12_kindHere 34 = .ok (.iconst 2, 1) := by decide +kernel
theorem dX12_kindHere_35 : decode cX12_kindHere 35 = .ok (.ireturn, 1) := by decide +kernel
theorem dX12_kindHere_36 : decode cX12_kindHere 36 = .ok (.aload_n 0, 1) := by decide +kernel
theorem dX12_kindHere_37 : decode cX12_kindHere 37 = .ok (.ldc2_w 180, 3) := by decide +kernel
theorem dX12_kindHere_40 : decode cX12_kindHere 40 = .ok (.invokevirtual 142, 3) := by decide +kernel
theorem dX12_kindHere_43 : decode cX12_kindHere 43 = .ok (.ifCond .eq 5, 3) := by decide +kernel
theorem dX12_kindHere_46 : decode cX12_kindHere 46 = .ok (.iconst 3, 1) := by decide +kernel
theorem dX12_kindHere_47 : decode cX12_kindHere 47 = .ok (.ireturn, 1) := by decide +kernel
theorem dX12_kindHere_48 : decode cX12_kindHere 48 = .ok (.aload_n 0, 1) := by decide +kernel
theorem dX12_kindHere_49 : decode cX12_kindHere 49 = .ok (.ldc2_w 182, 3) := by decide +kernel
theorem dX12_kindHere_52 : decode cX12_kindHere 52 = .ok (.invokevirtual 142, 3) := by decide +kernel
theorem dX12_kindHere_55 : decode cX12_kindHere 55 = .ok (.ifCond .eq 5, 3) := by decide +kernel
theorem dX12_kindHere_58 : decode cX12_kindHere 58 = .ok (.iconst 4, 1) := by decide +kernel
theorem dX12_kindHere_59 : decode cX12_kindHere 59 = .ok (.ireturn, 1) := by decide +kernel
theorem dX12_kindHere_60 : decode cX12_kindHere 60 = .ok (.aload_n 0, 1) := by decide +kernel
theorem dX12_kindHere_61 : decode cX12_kindHere 61 = .ok (.ldc2_w 184, 3) := by decide +kernel
theorem dX12_kindHere_64 : decode cX12_kindHere 64 = .ok (.invokevirtual 142, 3) := by decide +kernel
theorem dX12_kindHere_67 : decode cX12_kindHere 67 = .ok (.ifCond .eq 5, 3) := by decide +kernel
theorem dX12_kindHere_70 : decode cX12_kindHere 70 = .ok (.iconst 5, 1) := by decide +kernel
theorem dX12_kindHere_71 : decode cX12_kindHere 71 = .ok (.ireturn, 1) := by decide +kernel
theorem dX12_kindHere_72 : decode cX12_kindHere 72 = .ok (.aload_n 0, 1) := by decide +kernel
theorem dX12_kindHere_73 : decode cX12_kindHere 73 = .ok (.ldc2_w 186, 3) := by decide +kernel
theorem dX12_kindHere_76 : decode cX12_kindHere 76 = .ok (.invokevirtual 142, 3) := by decide +kernel
theorem dX12_kindHere_79 : decode cX12_kindHere 79 = .ok (.ifCond .eq 8, 3) := by decide +kernel
theorem dX12_kindHere_82 : decode cX12_kindHere 82 = .ok (.bipush 6, 2) := by decide +kernel
theorem dX12_kindHere_84 : decode cX12_kindHere 84 = .ok (.goto 4, 3) := by decide +kernel
theorem dX12_kindHere_87 : decode cX12_kindHere 87 = .ok (.iconst (-1), 1) := by decide +kernel
theorem dX12_kindHere_88 : decode cX12_kindHere 88 = .ok (.ireturn, 1) := by decide +kernel
theorem dX12_mostOf_0 : decode cX12_mostOf 0 = .ok (.iload_n 0, 1) := by decide +kernel
theorem dX12_mostOf_1 : decode cX12_mostOf 1 = .ok (.iconst 1, 1) := by decide +kernel
theorem dX12_mostOf_2 : decode cX12_mostOf 2 = .ok (.if_icmp .eq 8, 3) := by decide +kernel
theorem dX12_mostOf_5 : decode cX12_mostOf 5 = .ok (.iload_n 0, 1) := by decide +kernel
theorem dX12_mostOf_6 : decode cX12_mostOf 6 = .ok (.iconst 2, 1) := by decide +kernel
theorem dX12_mostOf_7 : decode cX12_mostOf 7 = .ok (.if_icmp .ne 7, 3) := by decide +kernel
theorem dX12_mostOf_10 : decode cX12_mostOf 10 = .ok (.sipush 999, 3) := by decide +kernel
theorem dX12_mostOf_13 : decode cX12_mostOf 13 = .ok (.ireturn, 1) := by decide +kernel
theorem dX12_mostOf_14 : decode cX12_mostOf 14 = .ok (.iload_n 0, 1) := by decide +kernel
theorem dX12_mostOf_15 : decode cX12_mostOf 15 = .ok (.iconst 4, 1) := by decide +kernel
theorem dX12_mostOf_16 : decode cX12_mostOf 16 = .ok (.if_icmp .ne 7, 3) := by decide +kernel
theorem dX12_mostOf_19 : decode cX12_mostOf 19 = .ok (.iconst 3, 1) := by decide +kernel
theorem dX12_mostOf_20 : decode cX12_mostOf 20 = .ok (.goto 5, 3) := by decide +kernel
theorem dX12_mostOf_23 : decode cX12_mostOf 23 = .ok (.bipush 99, 2) := by decide +kernel
theorem dX12_mostOf_25 : decode cX12_mostOf 25 = .ok (.ireturn, 1) := by decide +kernel
theorem dX12_readsAct_0 : decode cX12_readsAct 0 = .ok (.aload_n 0, 1) := by decide +kernel
theorem dX12_readsAct_1 : decode cX12_readsAct 1 = .ok (.invokevirtual 188, 3) := by decide +kernel
theorem dX12_readsAct_4 : decode cX12_readsAct 4 = .ok (.istore_n 2, 1) := by decide +kernel
theorem dX12_readsAct_5 : decode cX12_readsAct 5 = .ok (.aload_n 0, 1) := by decide +kernel
theorem dX12_readsAct_6 : decode cX12_readsAct 6 = .ok (.iload_n 1, 1) := by decide +kernel
theorem dX12_readsAct_7 : decode cX12_readsAct 7 = .ok (.bipush 8, 2) := by decide +kernel
theorem dX12_readsAct_9 : decode cX12_readsAct 9 = .ok (.invokevirtual 192, 3) := by decide +kernel
theorem dX12_readsAct_12 : decode cX12_readsAct 12 = .ok (.istore_n 3, 1) := by decide +kernel
theorem dX12_readsAct_13 : decode cX12_readsAct 13 = .ok (.aload_n 0, 1) := by decide +kernel
theorem dX12_readsAct_14 : decode cX12_readsAct 14 = .ok (.invokevirtual 129, 3) := by decide +kernel
theorem dX12_readsAct_17 : decode cX12_readsAct 17 = .ok (.ifCond .eq 13, 3) := by decide +kernel
theorem dX12_readsAct_20 : decode cX12_readsAct 20 = .ok (.iload_n 2, 1) := by decide +kernel
theorem dX12_readsAct_21 : decode cX12_readsAct 21 = .ok (.iconst (-1), 1) := by decide +kernel
theorem dX12_readsAct_22 : decode cX12_readsAct 22 = .ok (.if_icmp .ne 8, 3) := by decide +kernel
theorem dX12_readsAct_25 : decode cX12_readsAct 25 = .ok (.aload_n 0, 1) := by decide +kernel
theorem dX12_readsAct_26 : decode cX12_readsAct 26 = .ok (.iconst 1, 1) := by decide +kernel
theorem dX12_readsAct_27 : decode cX12_readsAct 27 = .ok (.invokevirtual 136, 3) := by decide +kernel
theorem dX12_readsAct_30 : decode cX12_readsAct 30 = .ok (.aload_n 0, 1) := by decide +kernel
theorem dX12_readsAct_31 : decode cX12_readsAct 31 = .ok (.invokevirtual 129, 3) := by decide +kernel
theorem dX12_readsAct_34 : decode cX12_readsAct 34 = .ok (.ifCond .eq 14, 3) := by decide +kernel
theorem dX12_readsAct_37 : decode cX12_readsAct 37 = .ok (.iload_n 3, 1) := by decide +kernel
theorem dX12_readsAct_38 : decode cX12_readsAct 38 = .ok (.bipush 6, 2) := by decide +kernel
theorem dX12_readsAct_40 : decode cX12_readsAct 40 = .ok (.if_icmp .ne 8, 3) := by decide +kernel
theorem dX12_readsAct_43 : decode cX12_readsAct 43 = .ok (.aload_n 0, 1) := by decide +kernel
theorem dX12_readsAct_44 : decode cX12_readsAct 44 = .ok (.iconst 5, 1) := by decide +kernel
theorem dX12_readsAct_45 : decode cX12_readsAct 45 = .ok (.invokevirtual 136, 3) := by decide +kernel
theorem dX12_readsAct_48 : decode cX12_readsAct 48 = .ok (.aload_n 0, 1) := by decide +kernel
theorem dX12_readsAct_49 : decode cX12_readsAct 49 = .ok (.invokevirtual 129, 3) := by decide +kernel
theorem dX12_readsAct_52 : decode cX12_readsAct 52 = .ok (.ifCond .eq 7, 3) := by decide +kernel
theorem dX12_readsAct_55 : decode cX12_readsAct 55 = .ok (.aload_n 0, 1) := by decide +kernel
theorem dX12_readsAct_56 : decode cX12_readsAct 56 = .ok (.invokevirtual 139, 3) := by decide +kernel
theorem dX12_readsAct_59 : decode cX12_readsAct 59 = .ok (.aload_n 0, 1) := by decide +kernel
theorem dX12_readsAct_60 : decode cX12_readsAct 60 = .ok (.iconst 1, 1) := by decide +kernel
theorem dX12_readsAct_61 : decode cX12_readsAct 61 = .ok (.iload_n 2, 1) := by decide +kernel
theorem dX12_readsAct_62 : decode cX12_readsAct 62 = .ok (.invokestatic 195, 3) := by decide +kernel
theorem dX12_readsAct_65 : decode cX12_readsAct 65 = .ok (.invokevirtual 198, 3) := by decide +kernel
theorem dX12_readsAct_68 : decode cX12_readsAct 68 = .ok (.istore 4, 2) := by decide +kernel
theorem dX12_readsAct_70 : decode cX12_readsAct 70 = .ok (.aload_n 0, 1) := by decide +kernel
theorem dX12_readsAct_71 : decode cX12_readsAct 71 = .ok (.invokevirtual 129, 3) := by decide +kernel
theorem dX12_readsAct_74 : decode cX12_readsAct 74 = .ok (.ifCond .ne 4, 3) := by decide +kernel
theorem dX12_readsAct_77 : decode cX12_readsAct 77 = .ok (.return_, 1) := by decide +kernel
theorem dX12_readsAct_78 : decode cX12_readsAct 78 = .ok (.aload_n 0, 1) := by decide +kernel
theorem dX12_readsAct_79 : decode cX12_readsAct 79 = .ok (.getfield 20, 3) := by decide +kernel
theorem dX12_readsAct_82 : decode cX12_readsAct 82 = .ok (.bipush 100, 2) := by decide +kernel
theorem dX12_readsAct_84 : decode cX12_readsAct 84 = .ok (.bipush 6, 2) := by decide +kernel
theorem dX12_readsAct_86 : decode cX12_readsAct 86 = .ok (.iload_n 1, 1) := by decide +kernel
theorem dX12_readsAct_87 : decode cX12_readsAct 87 = .ok (.imul, 1) := by decide +kernel
theorem dX12_readsAct_88 : decode cX12_readsAct 88 = .ok (.iadd, 1) := by decide +kernel
theorem dX12_readsAct_89 : decode cX12_readsAct 89 = .ok (.iload_n 3, 1) := by decide +kernel
theorem dX12_readsAct_90 : decode cX12_readsAct 90 = .ok (.iadd, 1) := by decide +kernel
theorem dX12_readsAct_91 : decode cX12_readsAct 91 = .ok (.iload_n 2, 1) := by decide +kernel
theorem dX12_readsAct_92 : decode cX12_readsAct 92 = .ok (.iastore, 1) := by decide +kernel
theorem dX12_readsAct_93 : decode cX12_readsAct 93 = .ok (.aload_n 0, 1) := by decide +kernel
theorem dX12_readsAct_94 : decode cX12_readsAct 94 = .ok (.getfield 20, 3) := by decide +kernel
theorem dX12_readsAct_97 : decode cX12_readsAct 97 = .ok (.sipush 148, 3) := by decide +kernel
theorem dX12_readsAct_100 : decode cX12_readsAct 100 = .ok (.bipush 6, 2) := by decide +kernel
theorem dX12_readsAct_102 : decode cX12_readsAct 102 = .ok (.iload_n 1, 1) := by decide +kernel
theorem dX12_readsAct_103 : decode cX12_readsAct 103 = .ok (.imul, 1) := by decide +kernel
theorem dX12_readsAct_104 : decode cX12_readsAct 104 = .ok (.iadd, 1) := by decide +kernel
theorem dX12_readsAct_105 : decode cX12_readsAct 105 = .ok (.iload_n 3, 1) := by decide +kernel
theorem dX12_readsAct_106 : decode cX12_readsAct 106 = .ok (.iadd, 1) := by decide +kernel
theorem dX12_readsAct_107 : decode cX12_readsAct 107 = .ok (.iload 4, 2) := by decide +kernel
theorem dX12_readsAct_109 : decode cX12_readsAct 109 = .ok (.iastore, 1) := by decide +kernel
theorem dX12_readsAct_110 : decode cX12_readsAct 110 = .ok (.aload_n 0, 1) := by decide +kernel
theorem dX12_readsAct_111 : decode cX12_readsAct 111 = .ok (.iload_n 1, 1) := by decide +kernel
theorem dX12_readsAct_112 : decode cX12_readsAct 112 = .ok (.bipush 8, 2) := by decide +kernel
theorem dX12_readsAct_114 : decode cX12_readsAct 114 = .ok (.iload_n 3, 1) := by decide +kernel
theorem dX12_readsAct_115 : decode cX12_readsAct 115 = .ok (.iconst 1, 1) := by decide +kernel
theorem dX12_readsAct_116 : decode cX12_readsAct 116 = .ok (.iadd, 1) := by decide +kernel
theorem dX12_readsAct_117 : decode cX12_readsAct 117 = .ok (.invokevirtual 201, 3) := by decide +kernel
theorem dX12_readsAct_120 : decode cX12_readsAct 120 = .ok (.return_, 1) := by decide +kernel
theorem dX12_after_0 : decode cX12_after 0 = .ok (.aload_n 0, 1) := by decide +kernel
theorem dX12_after_1 : decode cX12_after 1 = .ok (.lload_n 1, 1) := by decide +kernel
theorem dX12_after_2 : decode cX12_after 2 = .ok (.invokevirtual 205, 3) := by decide +kernel
theorem dX12_after_5 : decode cX12_after 5 = .ok (.aload_n 0, 1) := by decide +kernel
theorem dX12_after_6 : decode cX12_after 6 = .ok (.iload_n 3, 1) := by decide +kernel
theorem dX12_after_7 : decode cX12_after 7 = .ok (.iload 4, 2) := by decide +kernel
theorem dX12_after_9 : decode cX12_after 9 = .ok (.invokevirtual 198, 3) := by decide +kernel
theorem dX12_after_12 : decode cX12_after 12 = .ok (.ireturn, 1) := by decide +kernel
theorem dX12_side_0 : decode cX12_side 0 = .ok (.aload_n 0, 1) := by decide +kernel
theorem dX12_side_1 : decode cX12_side 1 = .ok (.ldc2_w 209, 3) := by decide +kernel
theorem dX12_side_4 : decode cX12_side 4 = .ok (.invokevirtual 142, 3) := by decide +kernel
theorem dX12_side_7 : decode cX12_side 7 = .ok (.istore_n 1, 1) := by decide +kernel
theorem dX12_side_8 : decode cX12_side 8 = .ok (.aload_n 0, 1) := by decide +kernel
theorem dX12_side_9 : decode cX12_side 9 = .ok (.invokevirtual 129, 3) := by decide +kernel
theorem dX12_side_12 : decode cX12_side 12 = .ok (.ifCond .eq 22, 3) := by decide +kernel
theorem dX12_side_15 : decode cX12_side 15 = .ok (.iload_n 1, 1) := by decide +kernel
theorem dX12_side_16 : decode cX12_side 16 = .ok (.ifCond .ne 18, 3) := by decide +kernel
theorem dX12_side_19 : decode cX12_side 19 = .ok (.aload_n 0, 1) := by decide +kernel
theorem dX12_side_20 : decode cX12_side 20 = .ok (.ldc2_w 211, 3) := by decide +kernel
theorem dX12_side_23 : decode cX12_side 23 = .ok (.invokevirtual 142, 3) := by decide +kernel
theorem dX12_side_26 : decode cX12_side 26 = .ok (.ifCond .ne 8, 3) := by decide +kernel
theorem dX12_side_29 : decode cX12_side 29 = .ok (.aload_n 0, 1) := by decide +kernel
theorem dX12_side_30 : decode cX12_side 30 = .ok (.iconst 1, 1) := by decide +kernel
theorem dX12_side_31 : decode cX12_side 31 = .ok (.invokevirtual 136, 3) := by decide +kernel
theorem dX12_side_34 : decode cX12_side 34 = .ok (.aload_n 0, 1) := by decide +kernel
theorem dX12_side_35 : decode cX12_side 35 = .ok (.invokevirtual 129, 3) := by decide +kernel
theorem dX12_side_38 : decode cX12_side 38 = .ok (.ifCond .eq 7, 3) := by decide +kernel
theorem dX12_side_41 : decode cX12_side 41 = .ok (.aload_n 0, 1) := by decide +kernel
theorem dX12_side_42 : decode cX12_side 42 = .ok (.invokevirtual 139, 3) := by decide +kernel
theorem dX12_side_45 : decode cX12_side 45 = .ok (.iload_n 1, 1) := by decide +kernel
theorem dX12_side_46 : decode cX12_side 46 = .ok (.invokestatic 78, 3) := by decide +kernel
theorem dX12_side_49 : decode cX12_side 49 = .ok (.ireturn, 1) := by decide +kernel
theorem dX12_readsFighter_0 : decode cX12_readsFighter 0 = .ok (.aload_n 0, 1) := by decide +kernel
theorem dX12_readsFighter_1 : decode cX12_readsFighter 1 = .ok (.getfield 20, 3) := by decide +kernel
theorem dX12_readsFighter_4 : decode cX12_readsFighter 4 = .ok (.iconst 0, 1) := by decide +kernel
theorem dX12_readsFighter_5 : decode cX12_readsFighter 5 = .ok (.iaload, 1) := by decide +kernel
theorem dX12_readsFighter_6 : decode cX12_readsFighter 6 = .ok (.istore_n 1, 1) := by decide +kernel
theorem dX12_readsFighter_7 : decode cX12_readsFighter 7 = .ok (.iload_n 1, 1) := by decide +kernel
theorem dX12_readsFighter_8 : decode cX12_readsFighter 8 = .ok (.bipush 8, 2) := by decide +kernel
theorem dX12_readsFighter_10 : decode cX12_readsFighter 10 = .ok (.if_icmp .ne 8, 3) := by decide +kernel
theorem dX12_readsFighter_13 : decode cX12_readsFighter 13 = .ok (.aload_n 0, 1) := by decide +kernel
theorem dX12_readsFighter_14 : decode cX12_readsFighter 14 = .ok (.iconst 5, 1) := by decide +kernel
theorem dX12_readsFighter_15 : decode cX12_readsFighter 15 = .ok (.invokevirtual 136, 3) := by decide +kernel
theorem dX12_readsFighter_18 : decode cX12_readsFighter 18 = .ok (.aload_n 0, 1) := by decide +kernel
theorem dX12_readsFighter_19 : decode cX12_readsFighter 19 = .ok (.invokevirtual 129, 3) := by decide +kernel
theorem dX12_readsFighter_22 : decode cX12_readsFighter 22 = .ok (.ifCond .eq 7, 3) := by decide +kernel
theorem dX12_readsFighter_25 : decode cX12_readsFighter 25 = .ok (.aload_n 0, 1) := by decide +kernel
theorem dX12_readsFighter_26 : decode cX12_readsFighter 26 = .ok (.invokevirtual 139, 3) := by decide +kernel
theorem dX12_readsFighter_29 : decode cX12_readsFighter 29 = .ok (.aload_n 0, 1) := by decide +kernel
theorem dX12_readsFighter_30 : decode cX12_readsFighter 30 = .ok (.invokevirtual 213, 3) := by decide +kernel
theorem dX12_readsFighter_33 : decode cX12_readsFighter 33 = .ok (.aload_n 0, 1) := by decide +kernel
theorem dX12_readsFighter_34 : decode cX12_readsFighter 34 = .ok (.invokevirtual 129, 3) := by decide +kernel
theorem dX12_readsFighter_37 : decode cX12_readsFighter 37 = .ok (.ifCond .eq 16, 3) := by decide +kernel
theorem dX12_readsFighter_40 : decode cX12_readsFighter 40 = .ok (.aload_n 0, 1) := by decide +kernel
theorem dX12_readsFighter_41 : decode cX12_readsFighter 41 = .ok (.invokevirtual 216, 3) := by decide +kernel
theorem dX12_readsFighter_44 : decode cX12_readsFighter 44 = .ok (.iconst (-1), 1) := by decide +kernel
theorem dX12_readsFighter_45 : decode cX12_readsFighter 45 = .ok (.if_icmp .eq 8, 3) := by decide +kernel
theorem dX12_readsFighter_48 : decode cX12_readsFighter 48 = .ok (.aload_n 0, 1) := by decide +kernel
theorem dX12_readsFighter_49 : decode cX12_readsFighter 49 = .ok (.iconst 3, 1) := by decide +kernel
theorem dX12_readsFighter_50 : decode cX12_readsFighter 50 = .ok (.invokevirtual 136, 3) := by decide +kernel
theorem dX12_readsFighter_53 : decode cX12_readsFighter 53 = .ok (.aload_n 0, 1) := by decide +kernel
theorem dX12_readsFighter_54 : decode cX12_readsFighter 54 = .ok (.invokevirtual 129, 3) := by decide +kernel
theorem dX12_readsFighter_57 : decode cX12_readsFighter 57 = .ok (.ifCond .ne 4, 3) := by decide +kernel
theorem dX12_readsFighter_60 : decode cX12_readsFighter 60 = .ok (.return_, 1) := by decide +kernel
theorem dX12_readsFighter_61 : decode cX12_readsFighter 61 = .ok (.aload_n 0, 1) := by decide +kernel
theorem dX12_readsFighter_62 : decode cX12_readsFighter 62 = .ok (.getfield 35, 3) := by decide +kernel
theorem dX12_readsFighter_65 : decode cX12_readsFighter 65 = .ok (.iload_n 1, 1) := by decide +kernel
theorem dX12_readsFighter_66 : decode cX12_readsFighter 66 = .ok (.aload_n 0, 1) := by decide +kernel
theorem dX12_readsFighter_67 : decode cX12_readsFighter 67 = .ok (.getfield 109, 3) := by decide +kernel
theorem dX12_readsFighter_70 : decode cX12_readsFighter 70 = .ok (.lastore, 1) := by decide +kernel
theorem dX12_readsFighter_71 : decode cX12_readsFighter 71 = .ok (.aload_n 0, 1) := by decide +kernel
theorem dX12_readsFighter_72 : decode cX12_readsFighter 72 = .ok (.invokevirtual 139, 3) := by decide +kernel
theorem dX12_readsFighter_75 : decode cX12_readsFighter 75 = .ok (.aload_n 0, 1) := by decide +kernel
theorem dX12_readsFighter_76 : decode cX12_readsFighter 76 = .ok (.iload_n 1, 1) := by decide +kernel
theorem dX12_readsFighter_77 : decode cX12_readsFighter 77 = .ok (.iconst 0, 1) := by decide +kernel
theorem dX12_readsFighter_78 : decode cX12_readsFighter 78 = .ok (.aload_n 0, 1) := by decide +kernel
theorem dX12_readsFighter_79 : decode cX12_readsFighter 79 = .ok (.invokevirtual 219, 3) := by decide +kernel
theorem dX12_readsFighter_82 : decode cX12_readsFighter 82 = .ok (.invokevirtual 201, 3) := by decide +kernel
theorem dX12_readsFighter_85 : decode cX12_readsFighter 85 = .ok (.aload_n 0, 1) := by decide +kernel
theorem dX12_readsFighter_86 : decode cX12_readsFighter 86 = .ok (.iload_n 1, 1) := by decide +kernel
theorem dX12_readsFighter_87 : decode cX12_readsFighter 87 = .ok (.iconst 1, 1) := by decide +kernel
theorem dX12_readsFighter_88 : decode cX12_readsFighter 88 = .ok (.aload_n 0, 1) := by decide +kernel
theorem dX12_readsFighter_89 : decode cX12_readsFighter 89 = .ok (.ldc2_w 184, 3) := by decide +kernel
theorem dX12_readsFighter_92 : decode cX12_readsFighter 92 = .ok (.iconst 1, 1) := by decide +kernel
theorem dX12_readsFighter_93 : decode cX12_readsFighter 93 = .ok (.bipush 99, 2) := by decide +kernel
theorem dX12_readsFighter_95 : decode cX12_readsFighter 95 = .ok (.invokevirtual 222, 3) := by decide +kernel
theorem dX12_readsFighter_98 : decode cX12_readsFighter 98 = .ok (.invokevirtual 201, 3) := by decide +kernel
theorem dX12_readsFighter_101 : decode cX12_readsFighter 101 = .ok (.aload_n 0, 1) := by decide +kernel
theorem dX12_readsFighter_102 : decode cX12_readsFighter 102 = .ok (.iload_n 1, 1) := by decide +kernel
theorem dX12_readsFighter_103 : decode cX12_readsFighter 103 = .ok (.iconst 2, 1) := by decide +kernel
theorem dX12_readsFighter_104 : decode cX12_readsFighter 104 = .ok (.aload_n 0, 1) := by decide +kernel
theorem dX12_readsFighter_105 : decode cX12_readsFighter 105 = .ok (.ldc2_w 226, 3) := by decide +kernel
theorem dX12_readsFighter_108 : decode cX12_readsFighter 108 = .ok (.iconst 1, 1) := by decide +kernel
theorem dX12_readsFighter_109 : decode cX12_readsFighter 109 = .ok (.sipush 999, 3) := by decide +kernel
theorem dX12_readsFighter_112 : decode cX12_readsFighter 112 = .ok (.invokevirtual 222, 3) := by decide +kernel
theorem dX12_readsFighter_115 : decode cX12_readsFighter 115 = .ok (.invokevirtual 201, 3) := by decide +kernel
theorem dX12_readsFighter_118 : decode cX12_readsFighter 118 = .ok (.aload_n 0, 1) := by decide +kernel
theorem dX12_readsFighter_119 : decode cX12_readsFighter 119 = .ok (.ldc2_w 228, 3) := by decide +kernel
theorem dX12_readsFighter_122 : decode cX12_readsFighter 122 = .ok (.invokevirtual 142, 3) := by decide +kernel
theorem dX12_readsFighter_125 : decode cX12_readsFighter 125 = .ok (.istore_n 2, 1) := by decide +kernel
theorem dX12_readsFighter_126 : decode cX12_readsFighter 126 = .ok (.iload_n 2, 1) := by decide +kernel
theorem dX12_readsFighter_127 : decode cX12_readsFighter 127 = .ok (.ifCond .eq 7, 3) := by decide +kernel
theorem dX12_readsFighter_130 : decode cX12_readsFighter 130 = .ok (.aload_n 0, 1) := by decide +kernel
theorem dX12_readsFighter_131 : decode cX12_readsFighter 131 = .ok (.invokevirtual 139, 3) := by decide +kernel
theorem dX12_readsFighter_134 : decode cX12_readsFighter 134 = .ok (.aload_n 0, 1) := by decide +kernel
theorem dX12_readsFighter_135 : decode cX12_readsFighter 135 = .ok (.iload_n 1, 1) := by decide +kernel
theorem dX12_readsFighter_136 : decode cX12_readsFighter 136 = .ok (.iconst 3, 1) := by decide +kernel
theorem dX12_readsFighter_137 : decode cX12_readsFighter 137 = .ok (.iload_n 2, 1) := by decide +kernel
theorem dX12_readsFighter_138 : decode cX12_readsFighter 138 = .ok (.ifCond .eq 13, 3) := by decide +kernel
theorem dX12_readsFighter_141 : decode cX12_readsFighter 141 = .ok (.aload_n 0, 1) := by decide +kernel
theorem dX12_readsFighter_142 : decode cX12_readsFighter 142 = .ok (.iconst 0, 1) := by decide +kernel
theorem dX12_readsFighter_143 : decode cX12_readsFighter 143 = .ok (.bipush 9, 2) := by decide +kernel
theorem dX12_readsFighter_145 : decode cX12_readsFighter 145 = .ok (.invokevirtual 198, 3) := by decide +kernel
theorem dX12_readsFighter_148 : decode cX12_readsFighter 148 = .ok (.goto 4, 3) := by decide +kernel
theorem dX12_readsFighter_151 : decode cX12_readsFighter 151 = .ok (.iconst 0, 1) := by decide +kernel
theorem dX12_readsFighter_152 : decode cX12_readsFighter 152 = .ok (.invokevirtual 201, 3) := by decide +kernel
theorem dX12_readsFighter_155 : decode cX12_readsFighter 155 = .ok (.aload_n 0, 1) := by decide +kernel
theorem dX12_readsFighter_156 : decode cX12_readsFighter 156 = .ok (.ldc2_w 230, 3) := by decide +kernel
theorem dX12_readsFighter_159 : decode cX12_readsFighter 159 = .ok (.invokevirtual 205, 3) := by decide +kernel
theorem dX12_readsFighter_162 : decode cX12_readsFighter 162 = .ok (.aload_n 0, 1) := by decide +kernel
theorem dX12_readsFighter_163 : decode cX12_readsFighter 163 = .ok (.iload_n 1, 1) := by decide +kernel
theorem dX12_readsFighter_164 : decode cX12_readsFighter 164 = .ok (.invokevirtual 232, 3) := by decide +kernel
theorem dX12_readsFighter_167 : decode cX12_readsFighter 167 = .ok (.aload_n 0, 1) := by decide +kernel
theorem dX12_readsFighter_168 : decode cX12_readsFighter 168 = .ok (.invokevirtual 129, 3) := by decide +kernel
theorem dX12_readsFighter_171 : decode cX12_readsFighter 171 = .ok (.ifCond .eq 19, 3) := by decide +kernel
theorem dX12_readsFighter_174 : decode cX12_readsFighter 174 = .ok (.aload_n 0, 1) := by decide +kernel
theorem dX12_readsFighter_175 : decode cX12_readsFighter 175 = .ok (.getfield 116, 3) := by decide +kernel
theorem dX12_readsFighter_178 : decode cX12_readsFighter 178 = .ok (.iconst 1, 1) := by decide +kernel
theorem dX12_readsFighter_179 : decode cX12_readsFighter 179 = .ok (.if_icmp .ne 11, 3) := by decide +kernel
theorem dX12_readsFighter_182 : decode cX12_readsFighter 182 = .ok (.aload_n 0, 1) := by decide +kernel
theorem dX12_readsFighter_183 : decode cX12_readsFighter 183 = .ok (.iload_n 1, 1) := by decide +kernel
theorem dX12_readsFighter_184 : decode cX12_readsFighter 184 = .ok (.invokevirtual 232, 3) := by decide +kernel
theorem dX12_readsFighter_187 : decode cX12_readsFighter 187 = .ok (.goto (-20), 3) := by decide +kernel
theorem dX12_readsFighter_190 : decode cX12_readsFighter 190 = .ok (.aload_n 0, 1) := by decide +kernel
theorem dX12_readsFighter_191 : decode cX12_readsFighter 191 = .ok (.invokevirtual 129, 3) := by decide +kernel
theorem dX12_readsFighter_194 : decode cX12_readsFighter 194 = .ok (.ifCond .eq 13, 3) := by decide +kernel
theorem dX12_readsFighter_197 : decode cX12_readsFighter 197 = .ok (.aload_n 0, 1) := by decide +kernel
theorem dX12_readsFighter_198 : decode cX12_readsFighter 198 = .ok (.getfield 20, 3) := by decide +kernel
theorem dX12_readsFighter_201 : decode cX12_readsFighter 201 = .ok (.iconst 0, 1) := by decide +kernel
theorem dX12_readsFighter_202 : decode cX12_readsFighter 202 = .ok (.dup2, 1) := by decide +kernel
theorem dX12_readsFighter_203 : decode cX12_readsFighter 203 = .ok (.iaload, 1) := by decide +kernel
theorem dX12_readsFighter_204 : decode cX12_readsFighter 204 = .ok (.iconst 1, 1) := by decide +kernel
theorem dX12_readsFighter_205 : decode cX12_readsFighter 205 = .ok (.iadd, 1) := by decide +kernel
theorem dX12_readsFighter_206 : decode cX12_readsFighter 206 = .ok (.iastore, 1) := by decide +kernel
theorem dX12_readsFighter_207 : decode cX12_readsFighter 207 = .ok (.return_, 1) := by decide +kernel
theorem dX12_readsWheel_0 : decode cX12_readsWheel 0 = .ok (.aload_n 0, 1) := by decide +kernel
theorem dX12_readsWheel_1 : decode cX12_readsWheel 1 = .ok (.getfield 235, 3) := by decide +kernel
theorem dX12_readsWheel_4 : decode cX12_readsWheel 4 = .ok (.ifCond .eq 8, 3) := by decide +kernel
theorem dX12_readsWheel_7 : decode cX12_readsWheel 7 = .ok (.aload_n 0, 1) := by decide +kernel
theorem dX12_readsWheel_8 : decode cX12_readsWheel 8 = .ok (.iconst 3, 1) := by decide +kernel
theorem dX12_readsWheel_9 : decode cX12_readsWheel 9 = .ok (.invokevirtual 136, 3) := by decide +kernel
theorem dX12_readsWheel_12 : decode cX12_readsWheel 12 = .ok (.aload_n 0, 1) := by decide +kernel
theorem dX12_readsWheel_13 : decode cX12_readsWheel 13 = .ok (.iconst 1, 1) := by decide +kernel
theorem dX12_readsWheel_14 : decode cX12_readsWheel 14 = .ok (.putfield 235, 3) := by decide +kernel
theorem dX12_readsWheel_17 : decode cX12_readsWheel 17 = .ok (.aload_n 0, 1) := by decide +kernel
theorem dX12_readsWheel_18 : decode cX12_readsWheel 18 = .ok (.invokevirtual 129, 3) := by decide +kernel
theorem dX12_readsWheel_21 : decode cX12_readsWheel 21 = .ok (.ifCond .eq 7, 3) := by decide +kernel
theorem dX12_readsWheel_24 : decode cX12_readsWheel 24 = .ok (.aload_n 0, 1) := by decide +kernel
theorem dX12_readsWheel_25 : decode cX12_readsWheel 25 = .ok (.invokevirtual 139, 3) := by decide +kernel
theorem dX12_readsWheel_28 : decode cX12_readsWheel 28 = .ok (.aload_n 0, 1) := by decide +kernel
theorem dX12_readsWheel_29 : decode cX12_readsWheel 29 = .ok (.bipush 100, 2) := by decide +kernel
theorem dX12_readsWheel_31 : decode cX12_readsWheel 31 = .ok (.sipush 999, 3) := by decide +kernel
theorem dX12_readsWheel_34 : decode cX12_readsWheel 34 = .ok (.invokevirtual 198, 3) := by decide +kernel
theorem dX12_readsWheel_37 : decode cX12_readsWheel 37 = .ok (.istore_n 1, 1) := by decide +kernel
theorem dX12_readsWheel_38 : decode cX12_readsWheel 38 = .ok (.aload_n 0, 1) := by decide +kernel
theorem dX12_readsWheel_39 : decode cX12_readsWheel 39 = .ok (.invokevirtual 129, 3) := by decide +kernel
theorem dX12_readsWheel_42 : decode cX12_readsWheel 42 = .ok (.ifCond .eq 10, 3) := by decide +kernel
theorem dX12_readsWheel_45 : decode cX12_readsWheel 45 = .ok (.aload_n 0, 1) := by decide +kernel
theorem dX12_readsWheel_46 : decode cX12_readsWheel 46 = .ok (.getfield 20, 3) := by decide +kernel
theorem dX12_readsWheel_49 : decode cX12_readsWheel 49 = .ok (.iconst 1, 1) := by decide +kernel
theorem dX12_readsWheel_50 : decode cX12_readsWheel 50 = .ok (.iload_n 1, 1) := by decide +kernel
theorem dX12_readsWheel_51 : decode cX12_readsWheel 51 = .ok (.iastore, 1) := by decide +kernel
theorem dX12_readsWheel_52 : decode cX12_readsWheel 52 = .ok (.return_, 1) := by decide +kernel
theorem dX12_statement_0 : decode cX12_statement 0 = .ok (.aload_n 0, 1) := by decide +kernel
theorem dX12_statement_1 : decode cX12_statement 1 = .ok (.ldc2_w 238, 3) := by decide +kernel
theorem dX12_statement_4 : decode cX12_statement 4 = .ok (.invokevirtual 142, 3) := by decide +kernel
theorem dX12_statement_7 : decode cX12_statement 7 = .ok (.ifCond .eq 10, 3) := by decide +kernel
theorem dX12_statement_10 : decode cX12_statement 10 = .ok (.aload_n 0, 1) := by decide +kernel
theorem dX12_statement_11 : decode cX12_statement 11 = .ok (.invokevirtual 240, 3) := by decide +kernel
theorem dX12_statement_14 : decode cX12_statement 14 = .ok (.goto 25, 3) := by decide +kernel
theorem dX12_statement_17 : decode cX12_statement 17 = .ok (.aload_n 0, 1) := by decide +kernel
theorem dX12_statement_18 : decode cX12_statement 18 = .ok (.ldc2_w 243, 3) := by decide +kernel
theorem dX12_statement_21 : decode cX12_statement 21 = .ok (.invokevirtual 142, 3) := by decide +kernel
theorem dX12_statement_24 : decode cX12_statement 24 = .ok (.ifCond .eq 10, 3) := by decide +kernel
theorem dX12_statement_27 : decode cX12_statement 27 = .ok (.aload_n 0, 1) := by decide +kernel
theorem dX12_statement_28 : decode cX12_statement 28 = .ok (.invokevirtual 245, 3) := by decide +kernel
theorem dX12_statement_31 : decode cX12_statement 31 = .ok (.goto 8, 3) := by decide +kernel
theorem dX12_statement_34 : decode cX12_statement 34 = .ok (.aload_n 0, 1) := by decide +kernel
theorem dX12_statement_35 : decode cX12_statement 35 = .ok (.iconst 1, 1) := by decide +kernel
theorem dX12_statement_36 : decode cX12_statement 36 = .ok (.invokevirtual 136, 3) := by decide +kernel
theorem dX12_statement_39 : decode cX12_statement 39 = .ok (.aload_n 0, 1) := by decide +kernel
theorem dX12_statement_40 : decode cX12_statement 40 = .ok (.bipush 59, 2) := by decide +kernel
theorem dX12_statement_42 : decode cX12_statement 42 = .ok (.invokevirtual 248, 3) := by decide +kernel
theorem dX12_statement_45 : decode cX12_statement 45 = .ok (.return_, 1) := by decide +kernel
theorem dX12_readText_0 : decode cX12_readText 0 = .ok (.aload_n 0, 1) := by decide +kernel
theorem dX12_readText_1 : decode cX12_readText 1 = .ok (.invokevirtual 251, 3) := by decide +kernel
theorem dX12_readText_4 : decode cX12_readText 4 = .ok (.aload_n 0, 1) := by decide +kernel
theorem dX12_readText_5 : decode cX12_readText 5 = .ok (.invokevirtual 254, 3) := by decide +kernel
theorem dX12_readText_8 : decode cX12_readText 8 = .ok (.aload_n 0, 1) := by decide +kernel
theorem dX12_readText_9 : decode cX12_readText 9 = .ok (.getfield 35, 3) := by decide +kernel
theorem dX12_readText_12 : decode cX12_readText 12 = .ok (.aload_n 0, 1) := by decide +kernel
theorem dX12_readText_13 : decode cX12_readText 13 = .ok (.getfield 42, 3) := by decide +kernel
theorem dX12_readText_16 : decode cX12_readText 16 = .ok (.invokestatic 163, 3) := by decide +kernel
theorem dX12_readText_19 : decode cX12_readText 19 = .ok (.aload_n 0, 1) := by decide +kernel
theorem dX12_readText_20 : decode cX12_readText 20 = .ok (.invokevirtual 72, 3) := by decide +kernel
theorem dX12_readText_23 : decode cX12_readText 23 = .ok (.aload_n 0, 1) := by decide +kernel
theorem dX12_readText_24 : decode cX12_readText 24 = .ok (.iconst 0, 1) := by decide +kernel
theorem dX12_readText_25 : decode cX12_readText 25 = .ok (.putfield 235, 3) := by decide +kernel
theorem dX12_readText_28 : decode cX12_readText 28 = .ok (.aload_n 0, 1) := by decide +kernel
theorem dX12_readText_29 : decode cX12_readText 29 = .ok (.invokevirtual 129, 3) := by decide +kernel
theorem dX12_readText_32 : decode cX12_readText 32 = .ok (.ifCond .eq 17, 3) := by decide +kernel
theorem dX12_readText_35 : decode cX12_readText 35 = .ok (.aload_n 0, 1) := by decide +kernel
theorem dX12_readText_36 : decode cX12_readText 36 = .ok (.getfield 116, 3) := by decide +kernel
theorem dX12_readText_39 : decode cX12_readText 39 = .ok (.ifCond .eq 10, 3) := by decide +kernel
theorem dX12_readText_42 : decode cX12_readText 42 = .ok (.aload_n 0, 1) := by decide +kernel
theorem dX12_readText_43 : decode cX12_readText 43 = .ok (.invokevirtual 257, 3) := by decide +kernel
theorem dX12_readText_46 : decode cX12_readText 46 = .ok (.goto (-18), 3) := by decide +kernel
theorem dX12_readText_49 : decode cX12_readText 49 = .ok (.aload_n 0, 1) := by decide +kernel
theorem dX12_readText_50 : decode cX12_readText 50 = .ok (.invokevirtual 260, 3) := by decide +kernel
theorem dX12_readText_53 : decode cX12_readText 53 = .ok (.ifCond .ne 29, 3) := by decide +kernel
theorem dX12_readText_56 : decode cX12_readText 56 = .ok (.aload_n 0, 1) := by decide +kernel
theorem dX12_readText_57 : decode cX12_readText 57 = .ok (.getfield 26, 3) := by decide +kernel
theorem dX12_readText_60 : decode cX12_readText 60 = .ok (.iconst 0, 1) := by decide +kernel
theorem dX12_readText_61 : decode cX12_readText 61 = .ok (.aload_n 0, 1) := by decide +kernel
theorem dX12_readText_62 : decode cX12_readText 62 = .ok (.getfield 20, 3) := by decide +kernel
theorem dX12_readText_65 : decode cX12_readText 65 = .ok (.iconst 0, 1) := by decide +kernel
theorem dX12_readText_66 : decode cX12_readText 66 = .ok (.invokestatic 153, 3) := by decide +kernel
theorem dX12_readText_69 : decode cX12_readText 69 = .ok (.aload_n 0, 1) := by decide +kernel
theorem dX12_readText_70 : decode cX12_readText 70 = .ok (.getfield 42, 3) := by decide +kernel
theorem dX12_readText_73 : decode cX12_readText 73 = .ok (.aload_n 0, 1) := by decide +kernel
theorem dX12_readText_74 : decode cX12_readText 74 = .ok (.getfield 35, 3) := by decide +kernel
theorem dX12_readText_77 : decode cX12_readText 77 = .ok (.invokestatic 163, 3) := by decide +kernel
theorem dX12_readText_80 : decode cX12_readText 80 = .ok (.iconst 0, 1) := by decide +kernel
theorem dX12_readText_81 : decode cX12_readText 81 = .ok (.ireturn, 1) := by decide +kernel
theorem dX12_readText_82 : decode cX12_readText 82 = .ok (.aload_n 0, 1) := by decide +kernel
theorem dX12_readText_83 : decode cX12_readText 83 = .ok (.iconst 0, 1) := by decide +kernel
theorem dX12_readText_84 : decode cX12_readText 84 = .ok (.putfield 157, 3) := by decide +kernel
theorem dX12_readText_87 : decode cX12_readText 87 = .ok (.aload_n 0, 1) := by decide +kernel
theorem dX12_readText_88 : decode cX12_readText 88 = .ok (.getfield 20, 3) := by decide +kernel
theorem dX12_readText_91 : decode cX12_readText 91 = .ok (.iconst 0, 1) := by decide +kernel
theorem dX12_readText_92 : decode cX12_readText 92 = .ok (.iaload, 1) := by decide +kernel
theorem dX12_readText_93 : decode cX12_readText 93 = .ok (.ireturn, 1) := by decide +kernel
theorem dX12_lesser_0 : decode cX12_lesser 0 = .ok (.iload_n 0, 1) := by decide +kernel
theorem dX12_lesser_1 : decode cX12_lesser 1 = .ok (.iload_n 1, 1) := by decide +kernel
theorem dX12_lesser_2 : decode cX12_lesser 2 = .ok (.if_icmp .ge 7, 3) := by decide +kernel
theorem dX12_lesser_5 : decode cX12_lesser 5 = .ok (.iload_n 0, 1) := by decide +kernel
theorem dX12_lesser_6 : decode cX12_lesser 6 = .ok (.goto 4, 3) := by decide +kernel
theorem dX12_lesser_9 : decode cX12_lesser 9 = .ok (.iload_n 1, 1) := by decide +kernel
theorem dX12_lesser_10 : decode cX12_lesser 10 = .ok (.ireturn, 1) := by decide +kernel
theorem dX12_greater_0 : decode cX12_greater 0 = .ok (.iload_n 0, 1) := by decide +kernel
theorem dX12_greater_1 : decode cX12_greater 1 = .ok (.iload_n 1, 1) := by decide +kernel
theorem dX12_greater_2 : decode cX12_greater 2 = .ok (.if_icmp .le 7, 3) := by decide +kernel
theorem dX12_greater_5 : decode cX12_greater 5 = .ok (.iload_n 0, 1) := by decide +kernel
theorem dX12_greater_6 : decode cX12_greater 6 = .ok (.goto 4, 3) := by decide +kernel
theorem dX12_greater_9 : decode cX12_greater 9 = .ok (.iload_n 1, 1) := by decide +kernel
theorem dX12_greater_10 : decode cX12_greater 10 = .ok (.ireturn, 1) := by decide +kernel
theorem dX12_lives_0 : decode cX12_lives 0 = .ok (.aload_n 0, 1) := by decide +kernel
theorem dX12_lives_1 : decode cX12_lives 1 = .ok (.iload_n 1, 1) := by decide +kernel
theorem dX12_lives_2 : decode cX12_lives 2 = .ok (.iconst 2, 1) := by decide +kernel
theorem dX12_lives_3 : decode cX12_lives 3 = .ok (.invokevirtual 192, 3) := by decide +kernel
theorem dX12_lives_6 : decode cX12_lives 6 = .ok (.ifCond .le 7, 3) := by decide +kernel
theorem dX12_lives_9 : decode cX12_lives 9 = .ok (.iconst 1, 1) := by decide +kernel
theorem dX12_lives_10 : decode cX12_lives 10 = .ok (.goto 4, 3) := by decide +kernel
theorem dX12_lives_13 : decode cX12_lives 13 = .ok (.iconst 0, 1) := by decide +kernel
theorem dX12_lives_14 : decode cX12_lives 14 = .ok (.ireturn, 1) := by decide +kernel
theorem dX12_livingOn_0 : decode cX12_livingOn 0 = .ok (.iconst 0, 1) := by decide +kernel
theorem dX12_livingOn_1 : decode cX12_livingOn 1 = .ok (.istore_n 2, 1) := by decide +kernel
theorem dX12_livingOn_2 : decode cX12_livingOn 2 = .ok (.iconst 0, 1) := by decide +kernel
theorem dX12_livingOn_3 : decode cX12_livingOn 3 = .ok (.istore_n 3, 1) := by decide +kernel
theorem dX12_livingOn_4 : decode cX12_livingOn 4 = .ok (.iload_n 3, 1) := by decide +kernel
theorem dX12_livingOn_5 : decode cX12_livingOn 5 = .ok (.aload_n 0, 1) := by decide +kernel
theorem dX12_livingOn_6 : decode cX12_livingOn 6 = .ok (.getfield 20, 3) := by decide +kernel
theorem dX12_livingOn_9 : decode cX12_livingOn 9 = .ok (.iconst 0, 1) := by decide +kernel
theorem dX12_livingOn_10 : decode cX12_livingOn 10 = .ok (.iaload, 1) := by decide +kernel
theorem dX12_livingOn_11 : decode cX12_livingOn 11 = .ok (.if_icmp .ge 38, 3) := by decide +kernel
theorem dX12_livingOn_14 : decode cX12_livingOn 14 = .ok (.iload_n 2, 1) := by decide +kernel
theorem dX12_livingOn_15 : decode cX12_livingOn 15 = .ok (.aload_n 0, 1) := by decide +kernel
theorem dX12_livingOn_16 : decode cX12_livingOn 16 = .ok (.iload_n 3, 1) := by decide +kernel
theorem dX12_livingOn_17 : decode cX12_livingOn 17 = .ok (.invokevirtual 263, 3) := by decide +kernel
theorem dX12_livingOn_20 : decode cX12_livingOn 20 = .ok (.ifCond .eq 17, 3) := by decide +kernel
theorem dX12_livingOn_23 : decode cX12_livingOn 23 = .ok (.aload_n 0, 1) := by decide +kernel
theorem dX12_livingOn_24 : decode cX12_livingOn 24 = .ok (.iload_n 3, 1) := by decide +kernel
theorem dX12_livingOn_25 : decode cX12_livingOn 25 = .ok (.iconst 0, 1) := by decide +kernel
theorem dX12_livingOn_26 : decode cX12_livingOn 26 = .ok (.invokevirtual 192, 3) := by decide +kernel
theorem dX12_livingOn_29 : decode cX12_livingOn 29 = .ok (.iload_n 1, 1) := by decide +kernel
theorem dX12_livingOn_30 : decode cX12_livingOn 30 = .ok (.if_icmp .ne 7, 3) := by decide +kernel
theorem dX12_livingOn_33 : decode cX12_livingOn 33 = .ok (.iconst 1, 1) := by decide +kernel
theorem dX12_livingOn_34 : decode cX12_livingOn 34 = .ok (.goto 4, 3) := by decide +kernel
theorem dX12_livingOn_37 : decode cX12_livingOn 37 = .ok (.iconst 0, 1) := by decide +kernel
theorem dX12_livingOn_38 : decode cX12_livingOn 38 = .ok (.invokestatic 78, 3) := by decide +kernel
theorem dX12_livingOn_41 : decode cX12_livingOn 41 = .ok (.iadd, 1) := by decide +kernel
theorem dX12_livingOn_42 : decode cX12_livingOn 42 = .ok (.istore_n 2, 1) := by decide +kernel
theorem dX12_livingOn_43 : decode cX12_livingOn 43 = .ok (.iinc 3 1, 3) := by decide +kernel
theorem dX12_livingOn_46 : decode cX12_livingOn 46 = .ok (.goto (-42), 3) := by decide +kernel
theorem dX12_livingOn_49 : decode cX12_livingOn 49 = .ok (.iload_n 2, 1) := by decide +kernel
theorem dX12_livingOn_50 : decode cX12_livingOn 50 = .ok (.ireturn, 1) := by decide +kernel
theorem dX12_lifeOn_0 : decode cX12_lifeOn 0 = .ok (.iconst 0, 1) := by decide +kernel
theorem dX12_lifeOn_1 : decode cX12_lifeOn 1 = .ok (.istore_n 2, 1) := by decide +kernel
theorem dX12_lifeOn_2 : decode cX12_lifeOn 2 = .ok (.iconst 0, 1) := by decide +kernel
theorem dX12_lifeOn_3 : decode cX12_lifeOn 3 = .ok (.istore_n 3, 1) := by decide +kernel
theorem dX12_lifeOn_4 : decode cX12_lifeOn 4 = .ok (.iload_n 3, 1) := by decide +kernel
theorem dX12_lifeOn_5 : decode cX12_lifeOn 5 = .ok (.aload_n 0, 1) := by decide +kernel
theorem dX12_lifeOn_6 : decode cX12_lifeOn 6 = .ok (.getfield 20, 3) := by decide +kernel
theorem dX12_lifeOn_9 : decode cX12_lifeOn 9 = .ok (.iconst 0, 1) := by decide +kernel
theorem dX12_lifeOn_10 : decode cX12_lifeOn 10 = .ok (.iaload, 1) := by decide +kernel
theorem dX12_lifeOn_11 : decode cX12_lifeOn 11 = .ok (.if_icmp .ge 32, 3) := by decide +kernel
theorem dX12_lifeOn_14 : decode cX12_lifeOn 14 = .ok (.iload_n 2, 1) := by decide +kernel
theorem dX12_lifeOn_15 : decode cX12_lifeOn 15 = .ok (.aload_n 0, 1) := by decide +kernel
theorem dX12_lifeOn_16 : decode cX12_lifeOn 16 = .ok (.iload_n 3, 1) := by decide +kernel
theorem dX12_lifeOn_17 : decode cX12_lifeOn 17 = .ok (.iconst 0, 1) := by decide +kernel
theorem dX12_lifeOn_18 : decode cX12_lifeOn 18 = .ok (.invokevirtual 192, 3) := by decide +kernel
theorem dX12_lifeOn_21 : decode cX12_lifeOn 21 = .ok (.iload_n 1, 1) := by decide +kernel
theorem dX12_lifeOn_22 : decode cX12_lifeOn 22 = .ok (.if_icmp .ne 12, 3) := by decide +kernel
theorem dX12_lifeOn_25 : decode cX12_lifeOn 25 = .ok (.aload_n 0, 1) := by decide +kernel
theorem dX12_lifeOn_26 : decode cX12_lifeOn 26 = .ok (.iload_n 3, 1) := by decide +kernel
theorem dX12_lifeOn_27 : decode cX12_lifeOn 27 = .ok (.iconst 2, 1) := by decide +kernel
theorem dX12_lifeOn_28 : decode cX12_lifeOn 28 = .ok (.invokevirtual 192, 3) := by decide +kernel
theorem dX12_lifeOn_31 : decode cX12_lifeOn 31 = .ok (.goto 4, 3) := by decide +kernel
theorem dX12_lifeOn_34 : decode cX12_lifeOn 34 = .ok (.iconst 0, 1) := by decide +kernel
theorem dX12_lifeOn_35 : decode cX12_lifeOn 35 = .ok (.iadd, 1) := by decide +kernel
theorem dX12_lifeOn_36 : decode cX12_lifeOn 36 = .ok (.istore_n 2, 1) := by decide +kernel
theorem dX12_lifeOn_37 : decode cX12_lifeOn 37 = .ok (.iinc 3 1, 3) := by decide +kernel
theorem dX12_lifeOn_40 : decode cX12_lifeOn 40 = .ok (.goto (-36), 3) := by decide +kernel
theorem dX12_lifeOn_43 : decode cX12_lifeOn 43 = .ok (.iload_n 2, 1) := by decide +kernel
theorem dX12_lifeOn_44 : decode cX12_lifeOn 44 = .ok (.ireturn, 1) := by decide +kernel
theorem dX12_isOver_0 : decode cX12_isOver 0 = .ok (.aload_n 0, 1) := by decide +kernel
theorem dX12_isOver_1 : decode cX12_isOver 1 = .ok (.iconst 0, 1) := by decide +kernel
theorem dX12_isOver_2 : decode cX12_isOver 2 = .ok (.invokevirtual 266, 3) := by decide +kernel
theorem dX12_isOver_5 : decode cX12_isOver 5 = .ok (.ifCond .eq 11, 3) := by decide +kernel
theorem dX12_isOver_8 : decode cX12_isOver 8 = .ok (.aload_n 0, 1) := by decide +kernel
theorem dX12_isOver_9 : decode cX12_isOver 9 = .ok (.iconst 1, 1) := by decide +kernel
theorem dX12_isOver_10 : decode cX12_isOver 10 = .ok (.invokevirtual 266, 3) := by decide +kernel
theorem dX12_isOver_13 : decode cX12_isOver 13 = .ok (.ifCond .ne 7, 3) := by decide +kernel
theorem dX12_isOver_16 : decode cX12_isOver 16 = .ok (.iconst 1, 1) := by decide +kernel
theorem dX12_isOver_17 : decode cX12_isOver 17 = .ok (.goto 4, 3) := by decide +kernel
theorem dX12_isOver_20 : decode cX12_isOver 20 = .ok (.iconst 0, 1) := by decide +kernel
theorem dX12_isOver_21 : decode cX12_isOver 21 = .ok (.ireturn, 1) := by decide +kernel
theorem dX12_sideThatWon_0 : decode cX12_sideThatWon 0 = .ok (.aload_n 0, 1) := by decide +kernel
theorem dX12_sideThatWon_1 : decode cX12_sideThatWon 1 = .ok (.invokevirtual 269, 3) := by decide +kernel
theorem dX12_sideThatWon_4 : decode cX12_sideThatWon 4 = .ok (.ifCond .ne 5, 3) := by decide +kernel
theorem dX12_sideThatWon_7 : decode cX12_sideThatWon 7 = .ok (.iconst (-1), 1) := by decide +kernel
theorem dX12_sideThatWon_8 : decode cX12_sideThatWon 8 = .ok (.ireturn, 1) := by decide +kernel
theorem dX12_sideThatWon_9 : decode cX12_sideThatWon 9 = .ok (.aload_n 0, 1) := by decide +kernel
theorem dX12_sideThatWon_10 : decode cX12_sideThatWon 10 = .ok (.iconst 0, 1) := by decide +kernel
theorem dX12_sideThatWon_11 : decode cX12_sideThatWon 11 = .ok (.invokevirtual 266, 3) := by decide +kernel
theorem dX12_sideThatWon_14 : decode cX12_sideThatWon 14 = .ok (.ifCond .le 5, 3) := by decide +kernel
theorem dX12_sideThatWon_17 : decode cX12_sideThatWon 17 = .ok (.iconst 0, 1) := by decide +kernel
theorem dX12_sideThatWon_18 : decode cX12_sideThatWon 18 = .ok (.ireturn, 1) := by decide +kernel
theorem dX12_sideThatWon_19 : decode cX12_sideThatWon 19 = .ok (.aload_n 0, 1) := by decide +kernel
theorem dX12_sideThatWon_20 : decode cX12_sideThatWon 20 = .ok (.iconst 1, 1) := by decide +kernel
theorem dX12_sideThatWon_21 : decode cX12_sideThatWon 21 = .ok (.invokevirtual 266, 3) := by decide +kernel
theorem dX12_sideThatWon_24 : decode cX12_sideThatWon 24 = .ok (.ifCond .le 7, 3) := by decide +kernel
theorem dX12_sideThatWon_27 : decode cX12_sideThatWon 27 = .ok (.iconst 1, 1) := by decide +kernel
theorem dX12_sideThatWon_28 : decode cX12_sideThatWon 28 = .ok (.goto 4, 3) := by decide +kernel
theorem dX12_sideThatWon_31 : decode cX12_sideThatWon 31 = .ok (.iconst (-1), 1) := by decide +kernel
theorem dX12_sideThatWon_32 : decode cX12_sideThatWon 32 = .ok (.ireturn, 1) := by decide +kernel
theorem dX12_ticksFor_0 : decode cX12_ticksFor 0 = .ok (.aload_n 0, 1) := by decide +kernel
theorem dX12_ticksFor_1 : decode cX12_ticksFor 1 = .ok (.getfield 20, 3) := by decide +kernel
theorem dX12_ticksFor_4 : decode cX12_ticksFor 4 = .ok (.iconst 1, 1) := by decide +kernel
theorem dX12_ticksFor_5 : decode cX12_ticksFor 5 = .ok (.iaload, 1) := by decide +kernel
theorem dX12_ticksFor_6 : decode cX12_ticksFor 6 = .ok (.aload_n 0, 1) := by decide +kernel
theorem dX12_ticksFor_7 : decode cX12_ticksFor 7 = .ok (.iload_n 1, 1) := by decide +kernel
theorem dX12_ticksFor_8 : decode cX12_ticksFor 8 = .ok (.iconst 4, 1) := by decide +kernel
theorem dX12_ticksFor_9 : decode cX12_ticksFor 9 = .ok (.invokevirtual 192, 3) := by decide +kernel
theorem dX12_ticksFor_12 : decode cX12_ticksFor 12 = .ok (.isub, 1) := by decide +kernel
theorem dX12_ticksFor_13 : decode cX12_ticksFor 13 = .ok (.istore_n 2, 1) := by decide +kernel
theorem dX12_ticksFor_14 : decode cX12_ticksFor 14 = .ok (.iload_n 2, 1) := by decide +kernel
theorem dX12_ticksFor_15 : decode cX12_ticksFor 15 = .ok (.ifCond .gt 7, 3) := by decide +kernel
theorem dX12_ticksFor_18 : decode cX12_ticksFor 18 = .ok (.iconst 0, 1) := by decide +kernel
theorem dX12_ticksFor_19 : decode cX12_ticksFor 19 = .ok (.goto 20, 3) := by decide +kernel
theorem dX12_ticksFor_22 : decode cX12_ticksFor 22 = .ok (.iload_n 2, 1) := by decide +kernel
theorem dX12_ticksFor_23 : decode cX12_ticksFor 23 = .ok (.aload_n 0, 1) := by decide +kernel
theorem dX12_ticksFor_24 : decode cX12_ticksFor 24 = .ok (.iload_n 1, 1) := by decide +kernel
theorem dX12_ticksFor_25 : decode cX12_ticksFor 25 = .ok (.iconst 1, 1) := by decide +kernel
theorem dX12_ticksFor_26 : decode cX12_ticksFor 26 = .ok (.invokevirtual 192, 3) := by decide +kernel
theorem dX12_ticksFor_29 : decode cX12_ticksFor 29 = .ok (.iadd, 1) := by decide +kernel
theorem dX12_ticksFor_30 : decode cX12_ticksFor 30 = .ok (.iconst 1, 1) := by decide +kernel
theorem dX12_ticksFor_31 : decode cX12_ticksFor 31 = .ok (.isub, 1) := by decide +kernel
theorem dX12_ticksFor_32 : decode cX12_ticksFor 32 = .ok (.aload_n 0, 1) := by decide +kernel
theorem dX12_ticksFor_33 : decode cX12_ticksFor 33 = .ok (.iload_n 1, 1) := by decide +kernel
theorem dX12_ticksFor_34 : decode cX12_ticksFor 34 = .ok (.iconst 1, 1) := by decide +kernel
theorem dX12_ticksFor_35 : decode cX12_ticksFor 35 = .ok (.invokevirtual 192, 3) := by decide +kernel
theorem dX12_ticksFor_38 : decode cX12_ticksFor 38 = .ok (.idiv, 1) := by decide +kernel
theorem dX12_ticksFor_39 : decode cX12_ticksFor 39 = .ok (.ireturn, 1) := by decide +kernel
theorem dX12_withExtra_0 : decode cX12_withExtra 0 = .ok (.iconst 0, 1) := by decide +kernel
theorem dX12_withExtra_1 : decode cX12_withExtra 1 = .ok (.istore_n 1, 1) := by decide +kernel
theorem dX12_withExtra_2 : decode cX12_withExtra 2 = .ok (.iload_n 1, 1) := by decide +kernel
theorem dX12_withExtra_3 : decode cX12_withExtra 3 = .ok (.aload_n 0, 1) := by decide +kernel
theorem dX12_withExtra_4 : decode cX12_withExtra 4 = .ok (.getfield 20, 3) := by decide +kernel
theorem dX12_withExtra_7 : decode cX12_withExtra 7 = .ok (.iconst 0, 1) := by decide +kernel
theorem dX12_withExtra_8 : decode cX12_withExtra 8 = .ok (.iaload, 1) := by decide +kernel
theorem dX12_withExtra_9 : decode cX12_withExtra 9 = .ok (.if_icmp .ge 29, 3) := by decide +kernel
theorem dX12_withExtra_12 : decode cX12_withExtra 12 = .ok (.aload_n 0, 1) := by decide +kernel
theorem dX12_withExtra_13 : decode cX12_withExtra 13 = .ok (.iload_n 1, 1) := by decide +kernel
theorem dX12_withExtra_14 : decode cX12_withExtra 14 = .ok (.invokevirtual 263, 3) := by decide +kernel
theorem dX12_withExtra_17 : decode cX12_withExtra 17 = .ok (.ifCond .eq 15, 3) := by decide +kernel
theorem dX12_withExtra_20 : decode cX12_withExtra 20 = .ok (.aload_n 0, 1) := by decide +kernel
theorem dX12_withExtra_21 : decode cX12_withExtra 21 = .ok (.iload_n 1, 1) := by decide +kernel
theorem dX12_withExtra_22 : decode cX12_withExtra 22 = .ok (.bipush 6, 2) := by decide +kernel
theorem dX12_withExtra_24 : decode cX12_withExtra 24 = .ok (.invokevirtual 192, 3) := by decide +kernel
theorem dX12_withExtra_27 : decode cX12_withExtra 27 = .ok (.ifCond .le 5, 3) := by decide +kernel
theorem dX12_withExtra_30 : decode cX12_withExtra 30 = .ok (.iload_n 1, 1) := by decide +kernel
theorem dX12_withExtra_31 : decode cX12_withExtra 31 = .ok (.ireturn, 1) := by decide +kernel
theorem dX12_withExtra_32 : decode cX12_withExtra 32 = .ok (.iinc 1 1, 3) := by decide +kernel
theorem dX12_withExtra_35 : decode cX12_withExtra 35 = .ok (.goto (-33), 3) := by decide +kernel
theorem dX12_withExtra_38 : decode cX12_withExtra 38 = .ok (.iconst (-1), 1) := by decide +kernel
theorem dX12_withExtra_39 : decode cX12_withExtra 39 = .ok (.ireturn, 1) := by decide +kernel
theorem dX12_isAhead_0 : decode cX12_isAhead 0 = .ok (.iload_n 2, 1) := by decide +kernel
theorem dX12_isAhead_1 : decode cX12_isAhead 1 = .ok (.iconst (-1), 1) := by decide +kernel
theorem dX12_isAhead_2 : decode cX12_isAhead 2 = .ok (.if_icmp .ne 5, 3) := by decide +kernel
theorem dX12_isAhead_5 : decode cX12_isAhead 5 = .ok (.iconst 1, 1) := by decide +kernel
theorem dX12_isAhead_6 : decode cX12_isAhead 6 = .ok (.ireturn, 1) := by decide +kernel
theorem dX12_isAhead_7 : decode cX12_isAhead 7 = .ok (.aload_n 0, 1) := by decide +kernel
theorem dX12_isAhead_8 : decode cX12_isAhead 8 = .ok (.iload_n 1, 1) := by decide +kernel
theorem dX12_isAhead_9 : decode cX12_isAhead 9 = .ok (.iconst 4, 1) := by decide +kernel
theorem dX12_isAhead_10 : decode cX12_isAhead 10 = .ok (.invokevirtual 192, 3) := by decide +kernel
theorem dX12_isAhead_13 : decode cX12_isAhead 13 = .ok (.aload_n 0, 1) := by decide +kernel
theorem dX12_isAhead_14 : decode cX12_isAhead 14 = .ok (.iload_n 2, 1) := by decide +kernel
theorem dX12_isAhead_15 : decode cX12_isAhead 15 = .ok (.iconst 4, 1) := by decide +kernel
theorem dX12_isAhead_16 : decode cX12_isAhead 16 = .ok (.invokevirtual 192, 3) := by decide +kernel
theorem dX12_isAhead_19 : decode cX12_isAhead 19 = .ok (.isub, 1) := by decide +kernel
theorem dX12_isAhead_20 : decode cX12_isAhead 20 = .ok (.istore_n 3, 1) := by decide +kernel
theorem dX12_isAhead_21 : decode cX12_isAhead 21 = .ok (.iload_n 3, 1) := by decide +kernel
theorem dX12_isAhead_22 : decode cX12_isAhead 22 = .ok (.ifCond .gt 22, 3) := by decide +kernel
theorem dX12_isAhead_25 : decode cX12_isAhead 25 = .ok (.iload_n 3, 1) := by decide +kernel
theorem dX12_isAhead_26 : decode cX12_isAhead 26 = .ok (.ifCond .ne 22, 3) := by decide +kernel
theorem dX12_isAhead_29 : decode cX12_isAhead 29 = .ok (.aload_n 0, 1) := by decide +kernel
theorem dX12_isAhead_30 : decode cX12_isAhead 30 = .ok (.iload_n 1, 1) := by decide +kernel
theorem dX12_isAhead_31 : decode cX12_isAhead 31 = .ok (.iconst 3, 1) := by decide +kernel
theorem dX12_isAhead_32 : decode cX12_isAhead 32 = .ok (.invokevirtual 192, 3) := by decide +kernel
theorem dX12_isAhead_35 : decode cX12_isAhead 35 = .ok (.aload_n 0, 1) := by decide +kernel
theorem dX12_isAhead_36 : decode cX12_isAhead 36 = .ok (.iload_n 2, 1) := by decide +kernel
theorem dX12_isAhead_37 : decode cX12_isAhead 37 = .ok (.iconst 3, 1) := by decide +kernel
theorem dX12_isAhead_38 : decode cX12_isAhead 38 = .ok (.invokevirtual 192, 3) := by decide +kernel
theorem dX12_isAhead_41 : decode cX12_isAhead 41 = .ok (.if_icmp .le 7, 3) := by decide +kernel
theorem dX12_isAhead_44 : decode cX12_isAhead 44 = .ok (.iconst 1, 1) := by decide +kernel
theorem dX12_isAhead_45 : decode cX12_isAhead 45 = .ok (.goto 4, 3) := by decide +kernel
theorem dX12_isAhead_48 : decode cX12_isAhead 48 = .ok (.iconst 0, 1) := by decide +kernel
theorem dX12_isAhead_49 : decode cX12_isAhead 49 = .ok (.ireturn, 1) := by decide +kernel
theorem dX12_ready_0 : decode cX12_ready 0 = .ok (.iconst (-1), 1) := by decide +kernel
theorem dX12_ready_1 : decode cX12_ready 1 = .ok (.istore_n 1, 1) := by decide +kernel
theorem dX12_ready_2 : decode cX12_ready 2 = .ok (.iconst 0, 1) := by decide +kernel
theorem dX12_ready_3 : decode cX12_ready 3 = .ok (.istore_n 2, 1) := by decide +kernel
theorem dX12_ready_4 : decode cX12_ready 4 = .ok (.iload_n 2, 1) := by decide +kernel
theorem dX12_ready_5 : decode cX12_ready 5 = .ok (.aload_n 0, 1) := by decide +kernel
theorem dX12_ready_6 : decode cX12_ready 6 = .ok (.getfield 20, 3) := by decide +kernel
theorem dX12_ready_9 : decode cX12_ready 9 = .ok (.iconst 0, 1) := by decide +kernel
theorem dX12_ready_10 : decode cX12_ready 10 = .ok (.iaload, 1) := by decide +kernel
theorem dX12_ready_11 : decode cX12_ready 11 = .ok (.if_icmp .ge 43, 3) := by decide +kernel
theorem dX12_ready_14 : decode cX12_ready 14 = .ok (.aload_n 0, 1) := by decide +kernel
theorem dX12_ready_15 : decode cX12_ready 15 = .ok (.iload_n 2, 1) := by decide +kernel
theorem dX12_ready_16 : decode cX12_ready 16 = .ok (.invokevirtual 263, 3) := by decide +kernel
theorem dX12_ready_19 : decode cX12_ready 19 = .ok (.ifCond .eq 29, 3) := by decide +kernel
theorem dX12_ready_22 : decode cX12_ready 22 = .ok (.aload_n 0, 1) := by decide +kernel
theorem dX12_ready_23 : decode cX12_ready 23 = .ok (.iload_n 2, 1) := by decide +kernel
theorem dX12_ready_24 : decode cX12_ready 24 = .ok (.iconst 4, 1) := by decide +kernel
theorem dX12_ready_25 : decode cX12_ready 25 = .ok (.invokevirtual 192, 3) := by decide +kernel
theorem dX12_ready_28 : decode cX12_ready 28 = .ok (.aload_n 0, 1) := by decide +kernel
theorem dX12_ready_29 : decode cX12_ready 29 = .ok (.getfield 20, 3) := by decide +kernel
theorem dX12_ready_32 : decode cX12_ready 32 = .ok (.iconst 1, 1) := by decide +kernel
theorem dX12_ready_33 : decode cX12_ready 33 = .ok (.iaload, 1) := by decide +kernel
theorem dX12_ready_34 : decode cX12_ready 34 = .ok (.if_icmp .lt 14, 3) := by decide +kernel
theorem dX12_ready_37 : decode cX12_ready 37 = .ok (.aload_n 0, 1) := by decide +kernel
theorem dX12_ready_38 : decode cX12_ready 38 = .ok (.iload_n 2, 1) := by decide +kernel
theorem dX12_ready_39 : decode cX12_ready 39 = .ok (.iload_n 1, 1) := by decide +kernel
theorem dX12_ready_40 : decode cX12_ready 40 = .ok (.invokevirtual 272, 3) := by decide +kernel
theorem dX12_ready_43 : decode cX12_ready 43 = .ok (.ifCond .eq 5, 3) := by decide +kernel
theorem dX12_ready_46 : decode cX12_ready 46 = .ok (.iload_n 2, 1) := by decide +kernel
theorem dX12_ready_47 : decode cX12_ready 47 = .ok (.istore_n 1, 1) := by decide +kernel
theorem dX12_ready_48 : decode cX12_ready 48 = .ok (.iinc 2 1, 3) := by decide +kernel
theorem dX12_ready_51 : decode cX12_ready 51 = .ok (.goto (-47), 3) := by decide +kernel
theorem dX12_ready_54 : decode cX12_ready 54 = .ok (.iload_n 1, 1) := by decide +kernel
theorem dX12_ready_55 : decode cX12_ready 55 = .ok (.ireturn, 1) := by decide +kernel
theorem dX12_leastTicks_0 : decode cX12_leastTicks 0 = .ok (.iconst (-1), 1) := by decide +kernel
theorem dX12_leastTicks_1 : decode cX12_leastTicks 1 = .ok (.istore_n 1, 1) := by decide +kernel
theorem dX12_leastTicks_2 : decode cX12_leastTicks 2 = .ok (.iconst 0, 1) := by decide +kernel
theorem dX12_leastTicks_3 : decode cX12_leastTicks 3 = .ok (.istore_n 2, 1) := by decide +kernel
theorem dX12_leastTicks_4 : decode cX12_leastTicks 4 = .ok (.iload_n 2, 1) := by decide +kernel
theorem dX12_leastTicks_5 : decode cX12_leastTicks 5 = .ok (.aload_n 0, 1) := by decide +kernel
theorem dX12_leastTicks_6 : decode cX12_leastTicks 6 = .ok (.getfield 20, 3) := by decide +kernel
theorem dX12_leastTicks_9 : decode cX12_leastTicks 9 = .ok (.iconst 0, 1) := by decide +kernel
theorem dX12_leastTicks_10 : decode cX12_leastTicks 10 = .ok (.iaload, 1) := by decide +kernel
theorem dX12_leastTicks_11 : decode cX12_leastTicks 11 = .ok (.if_icmp .ge 37, 3) := by decide +kernel
theorem dX12_leastTicks_14 : decode cX12_leastTicks 14 = .ok (.aload_n 0, 1) := by decide +kernel
theorem dX12_leastTicks_15 : decode cX12_leastTicks 15 = .ok (.iload_n 2, 1) := by decide +kernel
theorem dX12_leastTicks_16 : decode cX12_leastTicks 16 = .ok (.invokevirtual 263, 3) := by decide +kernel
theorem dX12_leastTicks_19 : decode cX12_leastTicks 19 = .ok (.ifCond .eq 23, 3) := by decide +kernel
theorem dX12_leastTicks_22 : decode cX12_leastTicks 22 = .ok (.iload_n 1, 1) := by decide +kernel
theorem dX12_leastTicks_23 : decode cX12_leastTicks 23 = .ok (.iconst (-1), 1) := by decide +kernel
theorem dX12_leastTicks_24 : decode cX12_leastTicks 24 = .ok (.if_icmp .eq 12, 3) := by decide +kernel
theorem dX12_leastTicks_27 : decode cX12_leastTicks 27 = .ok (.aload_n 0, 1) := by decide +kernel
theorem dX12_leastTicks_28 : decode cX12_leastTicks 28 = .ok (.iload_n 2, 1) := by decide +kernel
theorem dX12_leastTicks_29 : decode cX12_leastTicks 29 = .ok (.invokevirtual 276, 3) := by decide +kernel
theorem dX12_leastTicks_32 : decode cX12_leastTicks 32 = .ok (.iload_n 1, 1) := by decide +kernel
theorem dX12_leastTicks_33 : decode cX12_leastTicks 33 = .ok (.if_icmp .ge 9, 3) := by decide +kernel
theorem dX12_leastTicks_36 : decode cX12_leastTicks 36 = .ok (.aload_n 0, 1) := by decide +kernel
theorem dX12_leastTicks_37 : decode cX12_leastTicks 37 = .ok (.iload_n 2, 1) := by decide +kernel
theorem dX12_leastTicks_38 : decode cX12_leastTicks 38 = .ok (.invokevirtual 276, 3) := by decide +kernel
theorem dX12_leastTicks_41 : decode cX12_leastTicks 41 = .ok (.istore_n 1, 1) := by decide +kernel
theorem dX12_leastTicks_42 : decode cX12_leastTicks 42 = .ok (.iinc 2 1, 3) := by decide +kernel
theorem dX12_leastTicks_45 : decode cX12_leastTicks 45 = .ok (.goto (-41), 3) := by decide +kernel
theorem dX12_leastTicks_48 : decode cX12_leastTicks 48 = .ok (.iload_n 1, 1) := by decide +kernel
theorem dX12_leastTicks_49 : decode cX12_leastTicks 49 = .ok (.ireturn, 1) := by decide +kernel
theorem dX12_passes_0 : decode cX12_passes 0 = .ok (.aload_n 0, 1) := by decide +kernel
theorem dX12_passes_1 : decode cX12_passes 1 = .ok (.getfield 20, 3) := by decide +kernel
theorem dX12_passes_4 : decode cX12_passes 4 = .ok (.iconst 2, 1) := by decide +kernel
theorem dX12_passes_5 : decode cX12_passes 5 = .ok (.dup2, 1) := by decide +kernel
theorem dX12_passes_6 : decode cX12_passes 6 = .ok (.iaload, 1) := by decide +kernel
theorem dX12_passes_7 : decode cX12_passes 7 = .ok (.iload_n 1, 1) := by decide +kernel
theorem dX12_passes_8 : decode cX12_passes 8 = .ok (.iadd, 1) := by decide +kernel
theorem dX12_passes_9 : decode cX12_passes 9 = .ok (.iastore, 1) := by decide +kernel
theorem dX12_passes_10 : decode cX12_passes 10 = .ok (.iconst 0, 1) := by decide +kernel
theorem dX12_passes_11 : decode cX12_passes 11 = .ok (.istore_n 2, 1) := by decide +kernel
theorem dX12_passes_12 : decode cX12_passes 12 = .ok (.iload_n 2, 1) := by decide +kernel
theorem dX12_passes_13 : decode cX12_passes 13 = .ok (.aload_n 0, 1) := by decide +kernel
theorem dX12_passes_14 : decode cX12_passes 14 = .ok (.getfield 20, 3) := by decide +kernel
theorem dX12_passes_17 : decode cX12_passes 17 = .ok (.iconst 0, 1) := by decide +kernel
theorem dX12_passes_18 : decode cX12_passes 18 = .ok (.iaload, 1) := by decide +kernel
theorem dX12_passes_19 : decode cX12_passes 19 = .ok (.if_icmp .ge 38, 3) := by decide +kernel
theorem dX12_passes_22 : decode cX12_passes 22 = .ok (.aload_n 0, 1) := by decide +kernel
theorem dX12_passes_23 : decode cX12_passes 23 = .ok (.iload_n 2, 1) := by decide +kernel
theorem dX12_passes_24 : decode cX12_passes 24 = .ok (.invokevirtual 263, 3) := by decide +kernel
theorem dX12_passes_27 : decode cX12_passes 27 = .ok (.ifCond .eq 24, 3) := by decide +kernel
theorem dX12_passes_30 : decode cX12_passes 30 = .ok (.aload_n 0, 1) := by decide +kernel
theorem dX12_passes_31 : decode cX12_passes 31 = .ok (.iload_n 2, 1) := by decide +kernel
theorem dX12_passes_32 : decode cX12_passes 32 = .ok (.iconst 4, 1) := by decide +kernel
theorem dX12_passes_33 : decode cX12_passes 33 = .ok (.aload_n 0, 1) := by decide +kernel
theorem dX12_passes_34 : decode cX12_passes 34 = .ok (.iload_n 2, 1) := by decide +kernel
theorem dX12_passes_35 : decode cX12_passes 35 = .ok (.iconst 4, 1) := by decide +kernel
theorem dX12_passes_36 : decode cX12_passes 36 = .ok (.invokevirtual 192, 3) := by decide +kernel
theorem dX12_passes_39 : decode cX12_passes 39 = .ok (.iload_n 1, 1) := by decide +kernel
theorem dX12_passes_40 : decode cX12_passes 40 = .ok (.aload_n 0, 1) := by decide +kernel
theorem dX12_passes_41 : decode cX12_passes 41 = .ok (.iload_n 2, 1) := by decide +kernel
theorem dX12_passes_42 : decode cX12_passes 42 = .ok (.iconst 1, 1) := by decide +kernel
theorem dX12_passes_43 : decode cX12_passes 43 = .ok (.invokevirtual 192, 3) := by decide +kernel
theorem dX12_passes_46 : decode cX12_passes 46 = .ok (.imul, 1) := by decide +kernel
theorem dX12_passes_47 : decode cX12_passes 47 = .ok (.iadd, 1) := by decide +kernel
theorem dX12_passes_48 : decode cX12_passes 48 = .ok (.invokevirtual 201, 3) := by decide +kernel
theorem dX12_passes_51 : decode cX12_passes 51 = .ok (.iinc 2 1, 3) := by decide +kernel
theorem dX12_passes_54 : decode cX12_passes 54 = .ok (.goto (-42), 3) := by decide +kernel
theorem dX12_passes_57 : decode cX12_passes 57 = .ok (.return_, 1) := by decide +kernel
theorem dX12_next_0 : decode cX12_next 0 = .ok (.aload_n 0, 1) := by decide +kernel
theorem dX12_next_1 : decode cX12_next 1 = .ok (.invokevirtual 279, 3) := by decide +kernel
theorem dX12_next_4 : decode cX12_next 4 = .ok (.istore_n 1, 1) := by decide +kernel
theorem dX12_next_5 : decode cX12_next 5 = .ok (.iload_n 1, 1) := by decide +kernel
theorem dX12_next_6 : decode cX12_next 6 = .ok (.iconst (-1), 1) := by decide +kernel
theorem dX12_next_7 : decode cX12_next 7 = .ok (.if_icmp .eq 5, 3) := by decide +kernel
theorem dX12_next_10 : decode cX12_next 10 = .ok (.iload_n 1, 1) := by decide +kernel
theorem dX12_next_11 : decode cX12_next 11 = .ok (.ireturn, 1) := by decide +kernel
theorem dX12_next_12 : decode cX12_next 12 = .ok (.aload_n 0, 1) := by decide +kernel
theorem dX12_next_13 : decode cX12_next 13 = .ok (.aload_n 0, 1) := by decide +kernel
theorem dX12_next_14 : decode cX12_next 14 = .ok (.invokevirtual 282, 3) := by decide +kernel
theorem dX12_next_17 : decode cX12_next 17 = .ok (.invokevirtual 285, 3) := by decide +kernel
theorem dX12_next_20 : decode cX12_next 20 = .ok (.aload_n 0, 1) := by decide +kernel
theorem dX12_next_21 : decode cX12_next 21 = .ok (.invokevirtual 288, 3) := by decide +kernel
theorem dX12_next_24 : decode cX12_next 24 = .ok (.ireturn, 1) := by decide +kernel
theorem dX12_weakest_0 : decode cX12_weakest 0 = .ok (.iconst (-1), 1) := by decide +kernel
theorem dX12_weakest_1 : decode cX12_weakest 1 = .ok (.istore_n 2, 1) := by decide +kernel
theorem dX12_weakest_2 : decode cX12_weakest 2 = .ok (.iconst 0, 1) := by decide +kernel
theorem dX12_weakest_3 : decode cX12_weakest 3 = .ok (.istore_n 3, 1) := by decide +kernel
theorem dX12_weakest_4 : decode cX12_weakest 4 = .ok (.iload_n 3, 1) := by decide +kernel
theorem dX12_weakest_5 : decode cX12_weakest 5 = .ok (.aload_n 0, 1) := by decide +kernel
theorem dX12_weakest_6 : decode cX12_weakest 6 = .ok (.getfield 20, 3) := by decide +kernel
theorem dX12_weakest_9 : decode cX12_weakest 9 = .ok (.iconst 0, 1) := by decide +kernel
theorem dX12_weakest_10 : decode cX12_weakest 10 = .ok (.iaload, 1) := by decide +kernel
theorem dX12_weakest_11 : decode cX12_weakest 11 = .ok (.if_icmp .ge 49, 3) := by decide +kernel
theorem dX12_weakest_14 : decode cX12_weakest 14 = .ok (.aload_n 0, 1) := by decide +kernel
theorem dX12_weakest_15 : decode cX12_weakest 15 = .ok (.iload_n 3, 1) := by decide +kernel
theorem dX12_weakest_16 : decode cX12_weakest 16 = .ok (.invokevirtual 263, 3) := by decide +kernel
theorem dX12_weakest_19 : decode cX12_weakest 19 = .ok (.ifCond .eq 35, 3) := by decide +kernel
theorem dX12_weakest_22 : decode cX12_weakest 22 = .ok (.aload_n 0, 1) := by decide +kernel
theorem dX12_weakest_23 : decode cX12_weakest 23 = .ok (.iload_n 3, 1) := by decide +kernel
theorem dX12_weakest_24 : decode cX12_weakest 24 = .ok (.iconst 0, 1) := by decide +kernel
theorem dX12_weakest_25 : decode cX12_weakest 25 = .ok (.invokevirtual 192, 3) := by decide +kernel
theorem dX12_weakest_28 : decode cX12_weakest 28 = .ok (.iload_n 1, 1) := by decide +kernel
theorem dX12_weakest_29 : decode cX12_weakest 29 = .ok (.if_icmp .ne 25, 3) := by decide +kernel
theorem dX12_weakest_32 : decode cX12_weakest 32 = .ok (.iload_n 2, 1) := by decide +kernel
theorem dX12_weakest_33 : decode cX12_weakest 33 = .ok (.iconst (-1), 1) := by decide +kernel
theorem dX12_weakest_34 : decode cX12_weakest 34 = .ok (.if_icmp .eq 18, 3) := by decide +kernel
theorem dX12_weakest_37 : decode cX12_weakest 37 = .ok (.aload_n 0, 1) := by decide +kernel
theorem dX12_weakest_38 : decode cX12_weakest 38 = .ok (.iload_n 3, 1) := by decide +kernel
theorem dX12_weakest_39 : decode cX12_weakest 39 = .ok (.iconst 2, 1) := by decide +kernel
theorem dX12_weakest_40 : decode cX12_weakest 40 = .ok (.invokevirtual 192, 3) := by decide +kernel
theorem dX12_weakest_43 : decode cX12_weakest 43 = .ok (.aload_n 0, 1) := by decide +kernel
theorem dX12_weakest_44 : decode cX12_weakest 44 = .ok (.iload_n 2, 1) := by decide +kernel
theorem dX12_weakest_45 : decode cX12_weakest 45 = .ok (.iconst 2, 1) := by decide +kernel
theorem dX12_weakest_46 : decode cX12_weakest 46 = .ok (.invokevirtual 192, 3) := by decide +kernel
theorem dX12_weakest_49 : decode cX12_weakest 49 = .ok (.if_icmp .ge 5, 3) := by decide +kernel
theorem dX12_weakest_52 : decode cX12_weakest 52 = .ok (.iload_n 3, 1) := by decide +kernel
theorem dX12_weakest_53 : decode cX12_weakest 53 = .ok (.istore_n 2, 1) := by decide +kernel
theorem dX12_weakest_54 : decode cX12_weakest 54 = .ok (.iinc 3 1, 3) := by decide +kernel
theorem dX12_weakest_57 : decode cX12_weakest 57 = .ok (.goto (-53), 3) := by decide +kernel
theorem dX12_weakest_60 : decode cX12_weakest 60 = .ok (.iload_n 2, 1) := by decide +kernel
theorem dX12_weakest_61 : decode cX12_weakest 61 = .ok (.ireturn, 1) := by decide +kernel
theorem dX12_fullest_0 : decode cX12_fullest 0 = .ok (.iconst (-1), 1) := by decide +kernel
theorem dX12_fullest_1 : decode cX12_fullest 1 = .ok (.istore_n 2, 1) := by decide +kernel
theorem dX12_fullest_2 : decode cX12_fullest 2 = .ok (.iconst 0, 1) := by decide +kernel
theorem dX12_fullest_3 : decode cX12_fullest 3 = .ok (.istore_n 3, 1) := by decide +kernel
theorem dX12_fullest_4 : decode cX12_fullest 4 = .ok (.iload_n 3, 1) := by decide +kernel
theorem dX12_fullest_5 : decode cX12_fullest 5 = .ok (.aload_n 0, 1) := by decide +kernel
theorem dX12_fullest_6 : decode cX12_fullest 6 = .ok (.getfield 20, 3) := by decide +kernel
theorem dX12_fullest_9 : decode cX12_fullest 9 = .ok (.iconst 0, 1) := by decide +kernel
theorem dX12_fullest_10 : decode cX12_fullest 10 = .ok (.iaload, 1) := by decide +kernel
theorem dX12_fullest_11 : decode cX12_fullest 11 = .ok (.if_icmp .ge 49, 3) := by decide +kernel
theorem dX12_fullest_14 : decode cX12_fullest 14 = .ok (.aload_n 0, 1) := by decide +kernel
theorem dX12_fullest_15 : decode cX12_fullest 15 = .ok (.iload_n 3, 1) := by decide +kernel
theorem dX12_fullest_16 : decode cX12_fullest 16 = .ok (.invokevirtual 263, 3) := by decide +kernel
theorem dX12_fullest_19 : decode cX12_fullest 19 = .ok (.ifCond .eq 35, 3) := by decide +kernel
theorem dX12_fullest_22 : decode cX12_fullest 22 = .ok (.aload_n 0, 1) := by decide +kernel
theorem dX12_fullest_23 : decode cX12_fullest 23 = .ok (.iload_n 3, 1) := by decide +kernel
theorem dX12_fullest_24 : decode cX12_fullest 24 = .ok (.iconst 0, 1) := by decide +kernel
theorem dX12_fullest_25 : decode cX12_fullest 25 = .ok (.invokevirtual 192, 3) := by decide +kernel
theorem dX12_fullest_28 : decode cX12_fullest 28 = .ok (.iload_n 1, 1) := by decide +kernel
theorem dX12_fullest_29 : decode cX12_fullest 29 = .ok (.if_icmp .ne 25, 3) := by decide +kernel
theorem dX12_fullest_32 : decode cX12_fullest 32 = .ok (.iload_n 2, 1) := by decide +kernel
theorem dX12_fullest_33 : decode cX12_fullest 33 = .ok (.iconst (-1), 1) := by decide +kernel
theorem dX12_fullest_34 : decode cX12_fullest 34 = .ok (.if_icmp .eq 18, 3) := by decide +kernel
theorem dX12_fullest_37 : decode cX12_fullest 37 = .ok (.aload_n 0, 1) := by decide +kernel
theorem dX12_fullest_38 : decode cX12_fullest 38 = .ok (.iload_n 3, 1) := by decide +kernel
theorem dX12_fullest_39 : decode cX12_fullest 39 = .ok (.iconst 4, 1) := by decide +kernel
theorem dX12_fullest_40 : decode cX12_fullest 40 = .ok (.invokevirtual 192, 3) := by decide +kernel
theorem dX12_fullest_43 : decode cX12_fullest 43 = .ok (.aload_n 0, 1) := by decide +kernel
theorem dX12_fullest_44 : decode cX12_fullest 44 = .ok (.iload_n 2, 1) := by decide +kernel
theorem dX12_fullest_45 : decode cX12_fullest 45 = .ok (.iconst 4, 1) := by decide +kernel
theorem dX12_fullest_46 : decode cX12_fullest 46 = .ok (.invokevirtual 192, 3) := by decide +kernel
theorem dX12_fullest_49 : decode cX12_fullest 49 = .ok (.if_icmp .le 5, 3) := by decide +kernel
theorem dX12_fullest_52 : decode cX12_fullest 52 = .ok (.iload_n 3, 1) := by decide +kernel
theorem dX12_fullest_53 : decode cX12_fullest 53 = .ok (.istore_n 2, 1) := by decide +kernel
theorem dX12_fullest_54 : decode cX12_fullest 54 = .ok (.iinc 3 1, 3) := by decide +kernel
theorem dX12_fullest_57 : decode cX12_fullest 57 = .ok (.goto (-53), 3) := by decide +kernel
theorem dX12_fullest_60 : decode cX12_fullest 60 = .ok (.iload_n 2, 1) := by decide +kernel
theorem dX12_fullest_61 : decode cX12_fullest 61 = .ok (.ireturn, 1) := by decide +kernel
theorem dX12_emptiestBeside_0 : decode cX12_emptiestBeside 0 = .ok (.iconst (-1), 1) := by decide +kernel
theorem dX12_emptiestBeside_1 : decode cX12_emptiestBeside 1 = .ok (.istore_n 2, 1) := by decide +kernel
theorem dX12_emptiestBeside_2 : decode cX12_emptiestBeside 2 = .ok (.iconst 0, 1) := by decide +kernel
theorem dX12_emptiestBeside_3 : decode cX12_emptiestBeside 3 = .ok (.istore_n 3, 1) := by decide +kernel
theorem dX12_emptiestBeside_4 : decode cX12_emptiestBeside 4 = .ok (.iload_n 3, 1) := by decide +kernel
theorem dX12_emptiestBeside_5 : decode cX12_emptiestBeside 5 = .ok (.aload_n 0, 1) := by decide +kernel
theorem dX12_emptiestBeside_6 : decode cX12_emptiestBeside 6 = .ok (.getfield 20, 3) := by decide +kernel
theorem dX12_emptiestBeside_9 : decode cX12_emptiestBeside 9 = .ok (.iconst 0, 1) := by decide +kernel
theorem dX12_emptiestBeside_10 : decode cX12_emptiestBeside 10 = .ok (.iaload, 1) := by decide +kernel
theorem dX12_emptiestBeside_11 : decode cX12_emptiestBeside 11 = .ok (.if_icmp .ge 62, 3) := by decide +kernel
theorem dX12_emptiestBeside_14 : decode cX12_emptiestBeside 14 = .ok (.iload_n 3, 1) := by decide +kernel
theorem dX12_emptiestBeside_15 : decode cX12_emptiestBeside 15 = .ok (.iload_n 1, 1) := by decide +kernel
theorem dX12_emptiestBeside_16 : decode cX12_emptiestBeside 16 = .ok (.if_icmp .eq 51, 3) := by decide +kernel
theorem dX12_emptiestBeside_19 : decode cX12_emptiestBeside 19 = .ok (.aload_n 0, 1) := by decide +kernel
theorem dX12_emptiestBeside_20 : decode cX12_emptiestBeside 20 = .ok (.iload_n 3, 1) := by decide +kernel
theorem dX12_emptiestBeside_21 : decode cX12_emptiestBeside 21 = .ok (.invokevirtual 263, 3) := by decide +kernel
theorem dX12_emptiestBeside_24 : decode cX12_emptiestBeside 24 = .ok (.ifCond .eq 43, 3) := by decide +kernel
theorem dX12_emptiestBeside_27 : decode cX12_emptiestBeside 27 = .ok (.aload_n 0, 1) := by decide +kernel
theorem dX12_emptiestBeside_28 : decode cX12_emptiestBeside 28 = .ok (.iload_n 3, 1) := by decide +kernel
theorem dX12_emptiestBeside_29 : decode cX12_emptiestBeside 29 = .ok (.iconst 0, 1) := by decide +kernel
theorem dX12_emptiestBeside_30 : decode cX12_emptiestBeside 30 = .ok (.invokevirtual 192, 3) := by decide +kernel
theorem dX12_emptiestBeside_33 : decode cX12_emptiestBeside 33 = .ok (.aload_n 0, 1) := by decide +kernel
theorem dX12_emptiestBeside_34 : decode cX12_emptiestBeside 34 = .ok (.iload_n 1, 1) := by decide +kernel
theorem dX12_emptiestBeside_35 : decode cX12_emptiestBeside 35 = .ok (.iconst 0, 1) := by decide +kernel
theorem dX12_emptiestBeside_36 : decode cX12_emptiestBeside 36 = .ok (.invokevirtual 192, 3) := by decide +kernel
theorem dX12_emptiestBeside_39 : decode cX12_emptiestBeside 39 = .ok (.if_icmp .eq 6, 3) := by decide +kernel
theorem dX12_emptiestBeside_42 : decode cX12_emptiestBeside 42 = .ok (.goto 25, 3) := by decide +kernel
theorem dX12_emptiestBeside_45 : decode cX12_emptiestBeside 45 = .ok (.iload_n 2, 1) := by decide +kernel
theorem dX12_emptiestBeside_46 : decode cX12_emptiestBeside 46 = .ok (.iconst (-1), 1) := by decide +kernel
theorem dX12_emptiestBeside_47 : decode cX12_emptiestBeside 47 = .ok (.if_icmp .eq 18, 3) := by decide +kernel
theorem dX12_emptiestBeside_50 : decode cX12_emptiestBeside 50 = .ok (.aload_n 0, 1) := by decide +kernel
theorem dX12_emptiestBeside_51 : decode cX12_emptiestBeside 51 = .ok (.iload_n 3, 1) := by decide +kernel
theorem dX12_emptiestBeside_52 : decode cX12_emptiestBeside 52 = .ok (.iconst 4, 1) := by decide +kernel
theorem dX12_emptiestBeside_53 : decode cX12_emptiestBeside 53 = .ok (.invokevirtual 192, 3) := by decide +kernel
theorem dX12_emptiestBeside_56 : decode cX12_emptiestBeside 56 = .ok (.aload_n 0, 1) := by decide +kernel
theorem dX12_emptiestBeside_57 : decode cX12_emptiestBeside 57 = .ok (.iload_n 2, 1) := by decide +kernel
theorem dX12_emptiestBeside_58 : decode cX12_emptiestBeside 58 = .ok (.iconst 4, 1) := by decide +kernel
theorem dX12_emptiestBeside_59 : decode cX12_emptiestBeside 59 = .ok (.invokevirtual 192, 3) := by decide +kernel
theorem dX12_emptiestBeside_62 : decode cX12_emptiestBeside 62 = .ok (.if_icmp .ge 5, 3) := by decide +kernel
theorem dX12_emptiestBeside_65 : decode cX12_emptiestBeside 65 = .ok (.iload_n 3, 1) := by decide +kernel
theorem dX12_emptiestBeside_66 : decode cX12_emptiestBeside 66 = .ok (.istore_n 2, 1) := by decide +kernel
theorem dX12_emptiestBeside_67 : decode cX12_emptiestBeside 67 = .ok (.iinc 3 1, 3) := by decide +kernel
theorem dX12_emptiestBeside_70 : decode cX12_emptiestBeside 70 = .ok (.goto (-66), 3) := by decide +kernel
theorem dX12_emptiestBeside_73 : decode cX12_emptiestBeside 73 = .ok (.iload_n 2, 1) := by decide +kernel
theorem dX12_emptiestBeside_74 : decode cX12_emptiestBeside 74 = .ok (.ireturn, 1) := by decide +kernel
theorem dX12_hits_0 : decode cX12_hits 0 = .ok (.aload_n 0, 1) := by decide +kernel
theorem dX12_hits_1 : decode cX12_hits 1 = .ok (.iconst 1, 1) := by decide +kernel
theorem dX12_hits_2 : decode cX12_hits 2 = .ok (.aload_n 0, 1) := by decide +kernel
theorem dX12_hits_3 : decode cX12_hits 3 = .ok (.iload_n 1, 1) := by decide +kernel
theorem dX12_hits_4 : decode cX12_hits 4 = .ok (.iconst 0, 1) := by decide +kernel
theorem dX12_hits_5 : decode cX12_hits 5 = .ok (.invokevirtual 192, 3) := by decide +kernel
theorem dX12_hits_8 : decode cX12_hits 8 = .ok (.isub, 1) := by decide +kernel
theorem dX12_hits_9 : decode cX12_hits 9 = .ok (.invokevirtual 291, 3) := by decide +kernel
theorem dX12_hits_12 : decode cX12_hits 12 = .ok (.istore_n 3, 1) := by decide +kernel
theorem dX12_hits_13 : decode cX12_hits 13 = .ok (.aload_n 0, 1) := by decide +kernel
theorem dX12_hits_14 : decode cX12_hits 14 = .ok (.iload_n 3, 1) := by decide +kernel
theorem dX12_hits_15 : decode cX12_hits 15 = .ok (.iconst 2, 1) := by decide +kernel
theorem dX12_hits_16 : decode cX12_hits 16 = .ok (.invokevirtual 192, 3) := by decide +kernel
theorem dX12_hits_19 : decode cX12_hits 19 = .ok (.iconst 0, 1) := by decide +kernel
theorem dX12_hits_20 : decode cX12_hits 20 = .ok (.iload_n 2, 1) := by decide +kernel
theorem dX12_hits_21 : decode cX12_hits 21 = .ok (.aload_n 0, 1) := by decide +kernel
theorem dX12_hits_22 : decode cX12_hits 22 = .ok (.iload_n 3, 1) := by decide +kernel
theorem dX12_hits_23 : decode cX12_hits 23 = .ok (.iconst 5, 1) := by decide +kernel
theorem dX12_hits_24 : decode cX12_hits 24 = .ok (.invokevirtual 192, 3) := by decide +kernel
theorem dX12_hits_27 : decode cX12_hits 27 = .ok (.isub, 1) := by decide +kernel
theorem dX12_hits_28 : decode cX12_hits 28 = .ok (.invokestatic 294, 3) := by decide +kernel
theorem dX12_hits_31 : decode cX12_hits 31 = .ok (.invokestatic 297, 3) := by decide +kernel
theorem dX12_hits_34 : decode cX12_hits 34 = .ok (.istore 4, 2) := by decide +kernel
theorem dX12_hits_36 : decode cX12_hits 36 = .ok (.aload_n 0, 1) := by decide +kernel
theorem dX12_hits_37 : decode cX12_hits 37 = .ok (.iload_n 3, 1) := by decide +kernel
theorem dX12_hits_38 : decode cX12_hits 38 = .ok (.iconst 2, 1) := by decide +kernel
theorem dX12_hits_39 : decode cX12_hits 39 = .ok (.aload_n 0, 1) := by decide +kernel
theorem dX12_hits_40 : decode cX12_hits 40 = .ok (.iload_n 3, 1) := by decide +kernel
theorem dX12_hits_41 : decode cX12_hits 41 = .ok (.iconst 2, 1) := by decide +kernel
theorem dX12_hits_42 : decode cX12_hits 42 = .ok (.invokevirtual 192, 3) := by decide +kernel
theorem dX12_hits_45 : decode cX12_hits 45 = .ok (.iload 4, 2) := by decide +kernel
theorem dX12_hits_47 : decode cX12_hits 47 = .ok (.isub, 1) := by decide +kernel
theorem dX12_hits_48 : decode cX12_hits 48 = .ok (.invokevirtual 201, 3) := by decide +kernel
theorem dX12_hits_51 : decode cX12_hits 51 = .ok (.aload_n 0, 1) := by decide +kernel
theorem dX12_hits_52 : decode cX12_hits 52 = .ok (.iload_n 1, 1) := by decide +kernel
theorem dX12_hits_53 : decode cX12_hits 53 = .ok (.bipush 11, 2) := by decide +kernel
theorem dX12_hits_55 : decode cX12_hits 55 = .ok (.aload_n 0, 1) := by decide +kernel
theorem dX12_hits_56 : decode cX12_hits 56 = .ok (.iload_n 1, 1) := by decide +kernel
theorem dX12_hits_57 : decode cX12_hits 57 = .ok (.bipush 11, 2) := by decide +kernel
theorem dX12_hits_59 : decode cX12_hits 59 = .ok (.invokevirtual 192, 3) := by decide +kernel
theorem dX12_hits_62 : decode cX12_hits 62 = .ok (.iload 4, 2) := by decide +kernel
theorem dX12_hits_64 : decode cX12_hits 64 = .ok (.iadd, 1) := by decide +kernel
theorem dX12_hits_65 : decode cX12_hits 65 = .ok (.invokevirtual 201, 3) := by decide +kernel
theorem dX12_hits_68 : decode cX12_hits 68 = .ok (.aload_n 0, 1) := by decide +kernel
theorem dX12_hits_69 : decode cX12_hits 69 = .ok (.iload_n 3, 1) := by decide +kernel
theorem dX12_hits_70 : decode cX12_hits 70 = .ok (.invokevirtual 263, 3) := by decide +kernel
theorem dX12_hits_73 : decode cX12_hits 73 = .ok (.ifCond .eq 4, 3) := by decide +kernel
theorem dX12_hits_76 : decode cX12_hits 76 = .ok (.return_, 1) := by decide +kernel
theorem dX12_hits_77 : decode cX12_hits 77 = .ok (.aload_n 0, 1) := by decide +kernel
theorem dX12_hits_78 : decode cX12_hits 78 = .ok (.iload_n 3, 1) := by decide +kernel
theorem dX12_hits_79 : decode cX12_hits 79 = .ok (.iconst 4, 1) := by decide +kernel
theorem dX12_hits_80 : decode cX12_hits 80 = .ok (.iconst 0, 1) := by decide +kernel
theorem dX12_hits_81 : decode cX12_hits 81 = .ok (.invokevirtual 201, 3) := by decide +kernel
theorem dX12_hits_84 : decode cX12_hits 84 = .ok (.aload_n 0, 1) := by decide +kernel
theorem dX12_hits_85 : decode cX12_hits 85 = .ok (.iload_n 3, 1) := by decide +kernel
theorem dX12_hits_86 : decode cX12_hits 86 = .ok (.iconst 5, 1) := by decide +kernel
theorem dX12_hits_87 : decode cX12_hits 87 = .ok (.iconst 0, 1) := by decide +kernel
theorem dX12_hits_88 : decode cX12_hits 88 = .ok (.invokevirtual 201, 3) := by decide +kernel
theorem dX12_hits_91 : decode cX12_hits 91 = .ok (.aload_n 0, 1) := by decide +kernel
theorem dX12_hits_92 : decode cX12_hits 92 = .ok (.iload_n 3, 1) := by decide +kernel
theorem dX12_hits_93 : decode cX12_hits 93 = .ok (.bipush 6, 2) := by decide +kernel
theorem dX12_hits_95 : decode cX12_hits 95 = .ok (.iconst 0, 1) := by decide +kernel
theorem dX12_hits_96 : decode cX12_hits 96 = .ok (.invokevirtual 201, 3) := by decide +kernel
theorem dX12_hits_99 : decode cX12_hits 99 = .ok (.return_, 1) := by decide +kernel
theorem dX12_lowers_0 : decode cX12_lowers 0 = .ok (.aload_n 0, 1) := by decide +kernel
theorem dX12_lowers_1 : decode cX12_lowers 1 = .ok (.iload_n 1, 1) := by decide +kernel
theorem dX12_lowers_2 : decode cX12_lowers 2 = .ok (.iconst 4, 1) := by decide +kernel
theorem dX12_lowers_3 : decode cX12_lowers 3 = .ok (.iconst 0, 1) := by decide +kernel
theorem dX12_lowers_4 : decode cX12_lowers 4 = .ok (.aload_n 0, 1) := by decide +kernel
theorem dX12_lowers_5 : decode cX12_lowers 5 = .ok (.iload_n 1, 1) := by decide +kernel
theorem dX12_lowers_6 : decode cX12_lowers 6 = .ok (.iconst 4, 1) := by decide +kernel
theorem dX12_lowers_7 : decode cX12_lowers 7 = .ok (.invokevirtual 192, 3) := by decide +kernel
theorem dX12_lowers_10 : decode cX12_lowers 10 = .ok (.iload_n 2, 1) := by decide +kernel
theorem dX12_lowers_11 : decode cX12_lowers 11 = .ok (.isub, 1) := by decide +kernel
theorem dX12_lowers_12 : decode cX12_lowers 12 = .ok (.invokestatic 294, 3) := by decide +kernel
theorem dX12_lowers_15 : decode cX12_lowers 15 = .ok (.invokevirtual 201, 3) := by decide +kernel
theorem dX12_lowers_18 : decode cX12_lowers 18 = .ok (.aload_n 0, 1) := by decide +kernel
theorem dX12_lowers_19 : decode cX12_lowers 19 = .ok (.iload_n 1, 1) := by decide +kernel
theorem dX12_lowers_20 : decode cX12_lowers 20 = .ok (.iconst 4, 1) := by decide +kernel
theorem dX12_lowers_21 : decode cX12_lowers 21 = .ok (.invokevirtual 192, 3) := by decide +kernel
theorem dX12_lowers_24 : decode cX12_lowers 24 = .ok (.ireturn, 1) := by decide +kernel
theorem dX12_raises_0 : decode cX12_raises 0 = .ok (.aload_n 0, 1) := by decide +kernel
theorem dX12_raises_1 : decode cX12_raises 1 = .ok (.iload_n 1, 1) := by decide +kernel
theorem dX12_raises_2 : decode cX12_raises 2 = .ok (.iconst 4, 1) := by decide +kernel
theorem dX12_raises_3 : decode cX12_raises 3 = .ok (.sipush 9999, 3) := by decide +kernel
theorem dX12_raises_6 : decode cX12_raises 6 = .ok (.aload_n 0, 1) := by decide +kernel
theorem dX12_raises_7 : decode cX12_raises 7 = .ok (.iload_n 1, 1) := by decide +kernel
theorem dX12_raises_8 : decode cX12_raises 8 = .ok (.iconst 4, 1) := by decide +kernel
theorem dX12_raises_9 : decode cX12_raises 9 = .ok (.invokevirtual 192, 3) := by decide +kernel
theorem dX12_raises_12 : decode cX12_raises 12 = .ok (.iload_n 2, 1) := by decide +kernel
theorem dX12_raises_13 : decode cX12_raises 13 = .ok (.iadd, 1) := by decide +kernel
theorem dX12_raises_14 : decode cX12_raises 14 = .ok (.invokestatic 297, 3) := by decide +kernel
theorem dX12_raises_17 : decode cX12_raises 17 = .ok (.invokevirtual 201, 3) := by decide +kernel
theorem dX12_raises_20 : decode cX12_raises 20 = .ok (.aload_n 0, 1) := by decide +kernel
theorem dX12_raises_21 : decode cX12_raises 21 = .ok (.iload_n 1, 1) := by decide +kernel
theorem dX12_raises_22 : decode cX12_raises 22 = .ok (.iconst 4, 1) := by decide +kernel
theorem dX12_raises_23 : decode cX12_raises 23 = .ok (.invokevirtual 192, 3) := by decide +kernel
theorem dX12_raises_26 : decode cX12_raises 26 = .ok (.ireturn, 1) := by decide +kernel
theorem dX12_heals_0 : decode cX12_heals 0 = .ok (.aload_n 0, 1) := by decide +kernel
theorem dX12_heals_1 : decode cX12_heals 1 = .ok (.iload_n 1, 1) := by decide +kernel
theorem dX12_heals_2 : decode cX12_heals 2 = .ok (.iconst 2, 1) := by decide +kernel
theorem dX12_heals_3 : decode cX12_heals 3 = .ok (.sipush 999, 3) := by decide +kernel
theorem dX12_heals_6 : decode cX12_heals 6 = .ok (.aload_n 0, 1) := by decide +kernel
theorem dX12_heals_7 : decode cX12_heals 7 = .ok (.iload_n 1, 1) := by decide +kernel
theorem dX12_heals_8 : decode cX12_heals 8 = .ok (.iconst 2, 1) := by decide +kernel
theorem dX12_heals_9 : decode cX12_heals 9 = .ok (.invokevirtual 192, 3) := by decide +kernel
theorem dX12_heals_12 : decode cX12_heals 12 = .ok (.iload_n 2, 1) := by decide +kernel
theorem dX12_heals_13 : decode cX12_heals 13 = .ok (.iadd, 1) := by decide +kernel
theorem dX12_heals_14 : decode cX12_heals 14 = .ok (.invokestatic 297, 3) := by decide +kernel
theorem dX12_heals_17 : decode cX12_heals 17 = .ok (.invokevirtual 201, 3) := by decide +kernel
theorem dX12_heals_20 : decode cX12_heals 20 = .ok (.aload_n 0, 1) := by decide +kernel
theorem dX12_heals_21 : decode cX12_heals 21 = .ok (.iload_n 1, 1) := by decide +kernel
theorem dX12_heals_22 : decode cX12_heals 22 = .ok (.iconst 2, 1) := by decide +kernel
theorem dX12_heals_23 : decode cX12_heals 23 = .ok (.invokevirtual 192, 3) := by decide +kernel
theorem dX12_heals_26 : decode cX12_heals 26 = .ok (.ireturn, 1) := by decide +kernel
theorem dX12_acts_0 : decode cX12_acts 0 = .ok (.iconst 0, 1) := by decide +kernel
theorem dX12_acts_1 : decode cX12_acts 1 = .ok (.istore 4, 2) := by decide +kernel
theorem dX12_acts_3 : decode cX12_acts 3 = .ok (.iload_n 2, 1) := by decide +kernel
theorem dX12_acts_4 : decode cX12_acts 4 = .ok (.ifCond .ne 12, 3) := by decide +kernel
theorem dX12_acts_7 : decode cX12_acts 7 = .ok (.aload_n 0, 1) := by decide +kernel
theorem dX12_acts_8 : decode cX12_acts 8 = .ok (.iload_n 1, 1) := by decide +kernel
theorem dX12_acts_9 : decode cX12_acts 9 = .ok (.iload_n 3, 1) := by decide +kernel
theorem dX12_acts_10 : decode cX12_acts 10 = .ok (.invokevirtual 300, 3) := by decide +kernel
theorem dX12_acts_13 : decode cX12_acts 13 = .ok (.goto 130, 3) := by decide +kernel
theorem dX12_acts_16 : decode cX12_acts 16 = .ok (.iload_n 2, 1) := by decide +kernel
theorem dX12_acts_17 : decode cX12_acts 17 = .ok (.iconst 1, 1) := by decide +kernel
theorem dX12_acts_18 : decode cX12_acts 18 = .ok (.if_icmp .ne 25, 3) := by decide +kernel
theorem dX12_acts_21 : decode cX12_acts 21 = .ok (.aload_n 0, 1) := by decide +kernel
theorem dX12_acts_22 : decode cX12_acts 22 = .ok (.aload_n 0, 1) := by decide +kernel
theorem dX12_acts_23 : decode cX12_acts 23 = .ok (.iconst 1, 1) := by decide +kernel
theorem dX12_acts_24 : decode cX12_acts 24 = .ok (.aload_n 0, 1) := by decide +kernel
theorem dX12_acts_25 : decode cX12_acts 25 = .ok (.iload_n 1, 1) := by decide +kernel
theorem dX12_acts_26 : decode cX12_acts 26 = .ok (.iconst 0, 1) := by decide +kernel
theorem dX12_acts_27 : decode cX12_acts 27 = .ok (.invokevirtual 192, 3) := by decide +kernel
theorem dX12_acts_30 : decode cX12_acts 30 = .ok (.isub, 1) := by decide +kernel
theorem dX12_acts_31 : decode cX12_acts 31 = .ok (.invokevirtual 304, 3) := by decide +kernel
theorem dX12_acts_34 : decode cX12_acts 34 = .ok (.iload_n 3, 1) := by decide +kernel
theorem dX12_acts_35 : decode cX12_acts 35 = .ok (.invokevirtual 307, 3) := by decide +kernel
theorem dX12_acts_38 : decode cX12_acts 38 = .ok (.istore 4, 2) := by decide +kernel
theorem dX12_acts_40 : decode cX12_acts 40 = .ok (.goto 103, 3) := by decide +kernel
theorem dX12_acts_43 : decode cX12_acts 43 = .ok (.iload_n 2, 1) := by decide +kernel
theorem dX12_acts_44 : decode cX12_acts 44 = .ok (.iconst 2, 1) := by decide +kernel
theorem dX12_acts_45 : decode cX12_acts 45 = .ok (.if_icmp .ne 32, 3) := by decide +kernel
theorem dX12_acts_48 : decode cX12_acts 48 = .ok (.aload_n 0, 1) := by decide +kernel
theorem dX12_acts_49 : decode cX12_acts 49 = .ok (.iload_n 1, 1) := by decide +kernel
theorem dX12_acts_50 : decode cX12_acts 50 = .ok (.invokevirtual 310, 3) := by decide +kernel
theorem dX12_acts_53 : decode cX12_acts 53 = .ok (.istore 5, 2) := by decide +kernel
theorem dX12_acts_55 : decode cX12_acts 55 = .ok (.iload 5, 2) := by decide +kernel
theorem dX12_acts_57 : decode cX12_acts 57 = .ok (.iconst (-1), 1) := by decide +kernel
theorem dX12_acts_58 : decode cX12_acts 58 = .ok (.if_icmp .ne 7, 3) := by decide +kernel
theorem dX12_acts_61 : decode cX12_acts 61 = .ok (.iconst 0, 1) := by decide +kernel
theorem dX12_acts_62 : decode cX12_acts 62 = .ok (.goto 10, 3) := by decide +kernel
theorem dX12_acts_65 : decode cX12_acts 65 = .ok (.aload_n 0, 1) := by decide +kernel
theorem dX12_acts_66 : decode cX12_acts 66 = .ok (.iload 5, 2) := by decide +kernel
theorem dX12_acts_68 : decode cX12_acts 68 = .ok (.iload_n 3, 1) := by decide +kernel
theorem dX12_acts_69 : decode cX12_acts 69 = .ok (.invokevirtual 313, 3) := by decide +kernel
theorem dX12_acts_72 : decode cX12_acts 72 = .ok (.istore 4, 2) := by decide +kernel
theorem dX12_acts_74 : decode cX12_acts 74 = .ok (.goto 69, 3) := by decide +kernel
theorem dX12_acts_77 : decode cX12_acts 77 = .ok (.iload_n 2, 1) := by decide +kernel
theorem dX12_acts_78 : decode cX12_acts 78 = .ok (.iconst 3, 1) := by decide +kernel
theorem dX12_acts_79 : decode cX12_acts 79 = .ok (.if_icmp .ne 13, 3) := by decide +kernel
theorem dX12_acts_82 : decode cX12_acts 82 = .ok (.aload_n 0, 1) := by decide +kernel
theorem dX12_acts_83 : decode cX12_acts 83 = .ok (.iload_n 1, 1) := by decide +kernel
theorem dX12_acts_84 : decode cX12_acts 84 = .ok (.iconst 5, 1) := by decide +kernel
theorem dX12_acts_85 : decode cX12_acts 85 = .ok (.iload_n 3, 1) := by decide +kernel
theorem dX12_acts_86 : decode cX12_acts 86 = .ok (.invokevirtual 201, 3) := by decide +kernel
theorem dX12_acts_89 : decode cX12_acts 89 = .ok (.goto 54, 3) := by decide +kernel
theorem dX12_acts_92 : decode cX12_acts 92 = .ok (.iload_n 2, 1) := by decide +kernel
theorem dX12_acts_93 : decode cX12_acts 93 = .ok (.iconst 4, 1) := by decide +kernel
theorem dX12_acts_94 : decode cX12_acts 94 = .ok (.if_icmp .ne 26, 3) := by decide +kernel
theorem dX12_acts_97 : decode cX12_acts 97 = .ok (.aload_n 0, 1) := by decide +kernel
theorem dX12_acts_98 : decode cX12_acts 98 = .ok (.iload_n 1, 1) := by decide +kernel
theorem dX12_acts_99 : decode cX12_acts 99 = .ok (.bipush 6, 2) := by decide +kernel
theorem dX12_acts_101 : decode cX12_acts 101 = .ok (.iconst 3, 1) := by decide +kernel
theorem dX12_acts_102 : decode cX12_acts 102 = .ok (.aload_n 0, 1) := by decide +kernel
theorem dX12_acts_103 : decode cX12_acts 103 = .ok (.iload_n 1, 1) := by decide +kernel
theorem dX12_acts_104 : decode cX12_acts 104 = .ok (.bipush 6, 2) := by decide +kernel
theorem dX12_acts_106 : decode cX12_acts 106 = .ok (.invokevirtual 192, 3) := by decide +kernel
theorem dX12_acts_109 : decode cX12_acts 109 = .ok (.iload_n 3, 1) := by decide +kernel
theorem dX12_acts_110 : decode cX12_acts 110 = .ok (.iadd, 1) := by decide +kernel
theorem dX12_acts_111 : decode cX12_acts 111 = .ok (.invokestatic 297, 3) := by decide +kernel
theorem dX12_acts_114 : decode cX12_acts 114 = .ok (.invokevirtual 201, 3) := by decide +kernel
theorem dX12_acts_117 : decode cX12_acts 117 = .ok (.goto 26, 3) := by decide +kernel
theorem dX12_acts_120 : decode cX12_acts 120 = .ok (.iload_n 2, 1) := by decide +kernel
theorem dX12_acts_121 : decode cX12_acts 121 = .ok (.iconst 5, 1) := by decide +kernel
theorem dX12_acts_122 : decode cX12_acts 122 = .ok (.if_icmp .ne 13, 3) := by decide +kernel
theorem dX12_acts_125 : decode cX12_acts 125 = .ok (.aload_n 0, 1) := by decide +kernel
theorem dX12_acts_126 : decode cX12_acts 126 = .ok (.iload_n 1, 1) := by decide +kernel
theorem dX12_acts_127 : decode cX12_acts 127 = .ok (.iconst 1, 1) := by decide +kernel
theorem dX12_acts_128 : decode cX12_acts 128 = .ok (.iload_n 3, 1) := by decide +kernel
theorem dX12_acts_129 : decode cX12_acts 129 = .ok (.invokevirtual 201, 3) := by decide +kernel
theorem dX12_acts_132 : decode cX12_acts 132 = .ok (.goto 11, 3) := by decide +kernel
theorem dX12_acts_135 : decode cX12_acts 135 = .ok (.aload_n 0, 1) := by decide +kernel
theorem dX12_acts_136 : decode cX12_acts 136 = .ok (.iload_n 1, 1) := by decide +kernel
theorem dX12_acts_137 : decode cX12_acts 137 = .ok (.iload_n 3, 1) := by decide +kernel
theorem dX12_acts_138 : decode cX12_acts 138 = .ok (.invokevirtual 316, 3) := by decide +kernel
theorem dX12_acts_141 : decode cX12_acts 141 = .ok (.istore 4, 2) := by decide +kernel
theorem dX12_acts_143 : decode cX12_acts 143 = .ok (.return_, 1) := by decide +kernel
theorem dX12_turns_0 : decode cX12_turns 0 = .ok (.aload_n 0, 1) := by decide +kernel
theorem dX12_turns_1 : decode cX12_turns 1 = .ok (.aload_n 0, 1) := by decide +kernel
theorem dX12_turns_2 : decode cX12_turns 2 = .ok (.invokevirtual 319, 3) := by decide +kernel
theorem dX12_turns_5 : decode cX12_turns 5 = .ok (.putfield 322, 3) := by decide +kernel
theorem dX12_turns_8 : decode cX12_turns 8 = .ok (.aload_n 0, 1) := by decide +kernel
theorem dX12_turns_9 : decode cX12_turns 9 = .ok (.aload_n 0, 1) := by decide +kernel
theorem dX12_turns_10 : decode cX12_turns 10 = .ok (.getfield 322, 3) := by decide +kernel
theorem dX12_turns_13 : decode cX12_turns 13 = .ok (.bipush 6, 2) := by decide +kernel
theorem dX12_turns_15 : decode cX12_turns 15 = .ok (.invokevirtual 192, 3) := by decide +kernel
theorem dX12_turns_18 : decode cX12_turns 18 = .ok (.ifCond .le 7, 3) := by decide +kernel
theorem dX12_turns_21 : decode cX12_turns 21 = .ok (.iconst 1, 1) := by decide +kernel
theorem dX12_turns_22 : decode cX12_turns 22 = .ok (.goto 4, 3) := by decide +kernel
theorem dX12_turns_25 : decode cX12_turns 25 = .ok (.iconst 0, 1) := by decide +kernel
theorem dX12_turns_26 : decode cX12_turns 26 = .ok (.istore_n 1, 1) := by decide +kernel
theorem dX12_turns_27 : decode cX12_turns 27 = .ok (.iload_n 1, 1) := by decide +kernel
theorem dX12_turns_28 : decode cX12_turns 28 = .ok (.ifCond .eq 28, 3) := by decide +kernel
theorem dX12_turns_31 : decode cX12_turns 31 = .ok (.aload_n 0, 1) := by decide +kernel
theorem dX12_turns_32 : decode cX12_turns 32 = .ok (.aload_n 0, 1) := by decide +kernel
theorem dX12_turns_33 : decode cX12_turns 33 = .ok (.getfield 322, 3) := by decide +kernel
theorem dX12_turns_36 : decode cX12_turns 36 = .ok (.bipush 6, 2) := by decide +kernel
theorem dX12_turns_38 : decode cX12_turns 38 = .ok (.aload_n 0, 1) := by decide +kernel
theorem dX12_turns_39 : decode cX12_turns 39 = .ok (.aload_n 0, 1) := by decide +kernel
theorem dX12_turns_40 : decode cX12_turns 40 = .ok (.getfield 322, 3) := by decide +kernel
theorem dX12_turns_43 : decode cX12_turns 43 = .ok (.bipush 6, 2) := by decide +kernel
theorem dX12_turns_45 : decode cX12_turns 45 = .ok (.invokevirtual 192, 3) := by decide +kernel
theorem dX12_turns_48 : decode cX12_turns 48 = .ok (.iconst 1, 1) := by decide +kernel
theorem dX12_turns_49 : decode cX12_turns 49 = .ok (.isub, 1) := by decide +kernel
theorem dX12_turns_50 : decode cX12_turns 50 = .ok (.invokevirtual 201, 3) := by decide +kernel
theorem dX12_turns_53 : decode cX12_turns 53 = .ok (.goto 28, 3) := by decide +kernel
theorem dX12_turns_56 : decode cX12_turns 56 = .ok (.aload_n 0, 1) := by decide +kernel
theorem dX12_turns_57 : decode cX12_turns 57 = .ok (.aload_n 0, 1) := by decide +kernel
theorem dX12_turns_58 : decode cX12_turns 58 = .ok (.getfield 322, 3) := by decide +kernel
theorem dX12_turns_61 : decode cX12_turns 61 = .ok (.iconst 4, 1) := by decide +kernel
theorem dX12_turns_62 : decode cX12_turns 62 = .ok (.aload_n 0, 1) := by decide +kernel
theorem dX12_turns_63 : decode cX12_turns 63 = .ok (.aload_n 0, 1) := by decide +kernel
theorem dX12_turns_64 : decode cX12_turns 64 = .ok (.getfield 322, 3) := by decide +kernel
theorem dX12_turns_67 : decode cX12_turns 67 = .ok (.iconst 4, 1) := by decide +kernel
theorem dX12_turns_68 : decode cX12_turns 68 = .ok (.invokevirtual 192, 3) := by decide +kernel
theorem dX12_turns_71 : decode cX12_turns 71 = .ok (.aload_n 0, 1) := by decide +kernel
theorem dX12_turns_72 : decode cX12_turns 72 = .ok (.getfield 20, 3) := by decide +kernel
theorem dX12_turns_75 : decode cX12_turns 75 = .ok (.iconst 1, 1) := by decide +kernel
theorem dX12_turns_76 : decode cX12_turns 76 = .ok (.iaload, 1) := by decide +kernel
theorem dX12_turns_77 : decode cX12_turns 77 = .ok (.isub, 1) := by decide +kernel
theorem dX12_turns_78 : decode cX12_turns 78 = .ok (.invokevirtual 201, 3) := by decide +kernel
theorem dX12_turns_81 : decode cX12_turns 81 = .ok (.aload_n 0, 1) := by decide +kernel
theorem dX12_turns_82 : decode cX12_turns 82 = .ok (.aload_n 0, 1) := by decide +kernel
theorem dX12_turns_83 : decode cX12_turns 83 = .ok (.getfield 322, 3) := by decide +kernel
theorem dX12_turns_86 : decode cX12_turns 86 = .ok (.bipush 10, 2) := by decide +kernel
theorem dX12_turns_88 : decode cX12_turns 88 = .ok (.aload_n 0, 1) := by decide +kernel
theorem dX12_turns_89 : decode cX12_turns 89 = .ok (.aload_n 0, 1) := by decide +kernel
theorem dX12_turns_90 : decode cX12_turns 90 = .ok (.getfield 322, 3) := by decide +kernel
theorem dX12_turns_93 : decode cX12_turns 93 = .ok (.bipush 10, 2) := by decide +kernel
theorem dX12_turns_95 : decode cX12_turns 95 = .ok (.invokevirtual 192, 3) := by decide +kernel
theorem dX12_turns_98 : decode cX12_turns 98 = .ok (.iload_n 1, 1) := by decide +kernel
theorem dX12_turns_99 : decode cX12_turns 99 = .ok (.invokestatic 78, 3) := by decide +kernel
theorem dX12_turns_102 : decode cX12_turns 102 = .ok (.iadd, 1) := by decide +kernel
theorem dX12_turns_103 : decode cX12_turns 103 = .ok (.invokevirtual 201, 3) := by decide +kernel
theorem dX12_turns_106 : decode cX12_turns 106 = .ok (.aload_n 0, 1) := by decide +kernel
theorem dX12_turns_107 : decode cX12_turns 107 = .ok (.aload_n 0, 1) := by decide +kernel
theorem dX12_turns_108 : decode cX12_turns 108 = .ok (.getfield 322, 3) := by decide +kernel
theorem dX12_turns_111 : decode cX12_turns 111 = .ok (.bipush 9, 2) := by decide +kernel
theorem dX12_turns_113 : decode cX12_turns 113 = .ok (.aload_n 0, 1) := by decide +kernel
theorem dX12_turns_114 : decode cX12_turns 114 = .ok (.aload_n 0, 1) := by decide +kernel
theorem dX12_turns_115 : decode cX12_turns 115 = .ok (.getfield 322, 3) := by decide +kernel
theorem dX12_turns_118 : decode cX12_turns 118 = .ok (.bipush 9, 2) := by decide +kernel
theorem dX12_turns_120 : decode cX12_turns 120 = .ok (.invokevirtual 192, 3) := by decide +kernel
theorem dX12_turns_123 : decode cX12_turns 123 = .ok (.iconst 1, 1) := by decide +kernel
theorem dX12_turns_124 : decode cX12_turns 124 = .ok (.iadd, 1) := by decide +kernel
theorem dX12_turns_125 : decode cX12_turns 125 = .ok (.invokevirtual 201, 3) := by decide +kernel
theorem dX12_turns_128 : decode cX12_turns 128 = .ok (.aload_n 0, 1) := by decide +kernel
theorem dX12_turns_129 : decode cX12_turns 129 = .ok (.aload_n 0, 1) := by decide +kernel
theorem dX12_turns_130 : decode cX12_turns 130 = .ok (.getfield 322, 3) := by decide +kernel
theorem dX12_turns_133 : decode cX12_turns 133 = .ok (.iconst 5, 1) := by decide +kernel
theorem dX12_turns_134 : decode cX12_turns 134 = .ok (.iconst 0, 1) := by decide +kernel
theorem dX12_turns_135 : decode cX12_turns 135 = .ok (.invokevirtual 201, 3) := by decide +kernel
theorem dX12_turns_138 : decode cX12_turns 138 = .ok (.aload_n 0, 1) := by decide +kernel
theorem dX12_turns_139 : decode cX12_turns 139 = .ok (.aload_n 0, 1) := by decide +kernel
theorem dX12_turns_140 : decode cX12_turns 140 = .ok (.getfield 322, 3) := by decide +kernel
theorem dX12_turns_143 : decode cX12_turns 143 = .ok (.bipush 7, 2) := by decide +kernel
theorem dX12_turns_145 : decode cX12_turns 145 = .ok (.invokevirtual 192, 3) := by decide +kernel
theorem dX12_turns_148 : decode cX12_turns 148 = .ok (.istore_n 2, 1) := by decide +kernel
theorem dX12_turns_149 : decode cX12_turns 149 = .ok (.aload_n 0, 1) := by decide +kernel
theorem dX12_turns_150 : decode cX12_turns 150 = .ok (.aload_n 0, 1) := by decide +kernel
theorem dX12_turns_151 : decode cX12_turns 151 = .ok (.getfield 20, 3) := by decide +kernel
theorem dX12_turns_154 : decode cX12_turns 154 = .ok (.bipush 100, 2) := by decide +kernel
theorem dX12_turns_156 : decode cX12_turns 156 = .ok (.bipush 6, 2) := by decide +kernel
theorem dX12_turns_158 : decode cX12_turns 158 = .ok (.aload_n 0, 1) := by decide +kernel
theorem dX12_turns_159 : decode cX12_turns 159 = .ok (.getfield 322, 3) := by decide +kernel
theorem dX12_turns_162 : decode cX12_turns 162 = .ok (.imul, 1) := by decide +kernel
theorem dX12_turns_163 : decode cX12_turns 163 = .ok (.iadd, 1) := by decide +kernel
theorem dX12_turns_164 : decode cX12_turns 164 = .ok (.iload_n 2, 1) := by decide +kernel
theorem dX12_turns_165 : decode cX12_turns 165 = .ok (.iadd, 1) := by decide +kernel
theorem dX12_turns_166 : decode cX12_turns 166 = .ok (.iaload, 1) := by decide +kernel
theorem dX12_turns_167 : decode cX12_turns 167 = .ok (.putfield 325, 3) := by decide +kernel
theorem dX12_turns_170 : decode cX12_turns 170 = .ok (.aload_n 0, 1) := by decide +kernel
theorem dX12_turns_171 : decode cX12_turns 171 = .ok (.aload_n 0, 1) := by decide +kernel
theorem dX12_turns_172 : decode cX12_turns 172 = .ok (.getfield 322, 3) := by decide +kernel
theorem dX12_turns_175 : decode cX12_turns 175 = .ok (.bipush 7, 2) := by decide +kernel
theorem dX12_turns_177 : decode cX12_turns 177 = .ok (.iload_n 2, 1) := by decide +kernel
theorem dX12_turns_178 : decode cX12_turns 178 = .ok (.iconst 1, 1) := by decide +kernel
theorem dX12_turns_179 : decode cX12_turns 179 = .ok (.iadd, 1) := by decide +kernel
theorem dX12_turns_180 : decode cX12_turns 180 = .ok (.aload_n 0, 1) := by decide +kernel
theorem dX12_turns_181 : decode cX12_turns 181 = .ok (.aload_n 0, 1) := by decide +kernel
theorem dX12_turns_182 : decode cX12_turns 182 = .ok (.getfield 322, 3) := by decide +kernel
theorem dX12_turns_185 : decode cX12_turns 185 = .ok (.bipush 8, 2) := by decide +kernel
theorem dX12_turns_187 : decode cX12_turns 187 = .ok (.invokevirtual 192, 3) := by decide +kernel
theorem dX12_turns_190 : decode cX12_turns 190 = .ok (.irem, 1) := by decide +kernel
theorem dX12_turns_191 : decode cX12_turns 191 = .ok (.invokevirtual 201, 3) := by decide +kernel
theorem dX12_turns_194 : decode cX12_turns 194 = .ok (.aload_n 0, 1) := by decide +kernel
theorem dX12_turns_195 : decode cX12_turns 195 = .ok (.getfield 20, 3) := by decide +kernel
theorem dX12_turns_198 : decode cX12_turns 198 = .ok (.iconst 3, 1) := by decide +kernel
theorem dX12_turns_199 : decode cX12_turns 199 = .ok (.dup2, 1) := by decide +kernel
theorem dX12_turns_200 : decode cX12_turns 200 = .ok (.iaload, 1) := by decide +kernel
theorem dX12_turns_201 : decode cX12_turns 201 = .ok (.iconst 1, 1) := by decide +kernel
theorem dX12_turns_202 : decode cX12_turns 202 = .ok (.iadd, 1) := by decide +kernel
theorem dX12_turns_203 : decode cX12_turns 203 = .ok (.iastore, 1) := by decide +kernel
theorem dX12_turns_204 : decode cX12_turns 204 = .ok (.aload_n 0, 1) := by decide +kernel
theorem dX12_turns_205 : decode cX12_turns 205 = .ok (.aload_n 0, 1) := by decide +kernel
theorem dX12_turns_206 : decode cX12_turns 206 = .ok (.getfield 322, 3) := by decide +kernel
theorem dX12_turns_209 : decode cX12_turns 209 = .ok (.aload_n 0, 1) := by decide +kernel
theorem dX12_turns_210 : decode cX12_turns 210 = .ok (.getfield 325, 3) := by decide +kernel
theorem dX12_turns_213 : decode cX12_turns 213 = .ok (.aload_n 0, 1) := by decide +kernel
theorem dX12_turns_214 : decode cX12_turns 214 = .ok (.getfield 20, 3) := by decide +kernel
theorem dX12_turns_217 : decode cX12_turns 217 = .ok (.sipush 148, 3) := by decide +kernel
theorem dX12_turns_220 : decode cX12_turns 220 = .ok (.bipush 6, 2) := by decide +kernel
theorem dX12_turns_222 : decode cX12_turns 222 = .ok (.aload_n 0, 1) := by decide +kernel
theorem dX12_turns_223 : decode cX12_turns 223 = .ok (.getfield 322, 3) := by decide +kernel
theorem dX12_turns_226 : decode cX12_turns 226 = .ok (.imul, 1) := by decide +kernel
theorem dX12_turns_227 : decode cX12_turns 227 = .ok (.iadd, 1) := by decide +kernel
theorem dX12_turns_228 : decode cX12_turns 228 = .ok (.iload_n 2, 1) := by decide +kernel
theorem dX12_turns_229 : decode cX12_turns 229 = .ok (.iadd, 1) := by decide +kernel
theorem dX12_turns_230 : decode cX12_turns 230 = .ok (.iaload, 1) := by decide +kernel
theorem dX12_turns_231 : decode cX12_turns 231 = .ok (.invokevirtual 328, 3) := by decide +kernel
theorem dX12_turns_234 : decode cX12_turns 234 = .ok (.return_, 1) := by decide +kernel
theorem dX12_plays_0 : decode cX12_plays 0 = .ok (.iconst 0, 1) := by decide +kernel
theorem dX12_plays_1 : decode cX12_plays 1 = .ok (.istore_n 2, 1) := by decide +kernel
theorem dX12_plays_2 : decode cX12_plays 2 = .ok (.iload_n 2, 1) := by decide +kernel
theorem dX12_plays_3 : decode cX12_plays 3 = .ok (.iload_n 1, 1) := by decide +kernel
theorem dX12_plays_4 : decode cX12_plays 4 = .ok (.if_icmp .ge 20, 3) := by decide +kernel
theorem dX12_plays_7 : decode cX12_plays 7 = .ok (.aload_n 0, 1) := by decide +kernel
theorem dX12_plays_8 : decode cX12_plays 8 = .ok (.invokevirtual 269, 3) := by decide +kernel
theorem dX12_plays_11 : decode cX12_plays 11 = .ok (.ifCond .ne 13, 3) := by decide +kernel
theorem dX12_plays_14 : decode cX12_plays 14 = .ok (.aload_n 0, 1) := by decide +kernel
theorem dX12_plays_15 : decode cX12_plays 15 = .ok (.invokevirtual 331, 3) := by decide +kernel
theorem dX12_plays_18 : decode cX12_plays 18 = .ok (.iinc 2 1, 3) := by decide +kernel
theorem dX12_plays_21 : decode cX12_plays 21 = .ok (.goto (-19), 3) := by decide +kernel
theorem dX12_plays_24 : decode cX12_plays 24 = .ok (.iload_n 2, 1) := by decide +kernel
theorem dX12_plays_25 : decode cX12_plays 25 = .ok (.ireturn, 1) := by decide +kernel
theorem dX12_isFighter_0 : decode cX12_isFighter 0 = .ok (.iload_n 1, 1) := by decide +kernel
theorem dX12_isFighter_1 : decode cX12_isFighter 1 = .ok (.i2l, 1) := by decide +kernel
theorem dX12_isFighter_2 : decode cX12_isFighter 2 = .ok (.lconst 0, 1) := by decide +kernel
theorem dX12_isFighter_3 : decode cX12_isFighter 3 = .ok (.aload_n 0, 1) := by decide +kernel
theorem dX12_isFighter_4 : decode cX12_isFighter 4 = .ok (.getfield 20, 3) := by decide +kernel
theorem dX12_isFighter_7 : decode cX12_isFighter 7 = .ok (.iconst 0, 1) := by decide +kernel
theorem dX12_isFighter_8 : decode cX12_isFighter 8 = .ok (.iaload, 1) := by decide +kernel
theorem dX12_isFighter_9 : decode cX12_isFighter 9 = .ok (.iconst 1, 1) := by decide +kernel
theorem dX12_isFighter_10 : decode cX12_isFighter 10 = .ok (.isub, 1) := by decide +kernel
theorem dX12_isFighter_11 : decode cX12_isFighter 11 = .ok (.i2l, 1) := by decide +kernel
theorem dX12_isFighter_12 : decode cX12_isFighter 12 = .ok (.invokestatic 92, 3) := by decide +kernel
theorem dX12_isFighter_15 : decode cX12_isFighter 15 = .ok (.ireturn, 1) := by decide +kernel
theorem dX12_living_0 : decode cX12_living 0 = .ok (.aload_n 0, 1) := by decide +kernel
theorem dX12_living_1 : decode cX12_living 1 = .ok (.iconst 0, 1) := by decide +kernel
theorem dX12_living_2 : decode cX12_living 2 = .ok (.invokevirtual 266, 3) := by decide +kernel
theorem dX12_living_5 : decode cX12_living 5 = .ok (.aload_n 0, 1) := by decide +kernel
theorem dX12_living_6 : decode cX12_living 6 = .ok (.iconst 1, 1) := by decide +kernel
theorem dX12_living_7 : decode cX12_living 7 = .ok (.invokevirtual 266, 3) := by decide +kernel
theorem dX12_living_10 : decode cX12_living 10 = .ok (.iadd, 1) := by decide +kernel
theorem dX12_living_11 : decode cX12_living 11 = .ok (.ireturn, 1) := by decide +kernel
theorem dX12_setting_0 : decode cX12_setting 0 = .ok (.aload_n 0, 1) := by decide +kernel
theorem dX12_setting_1 : decode cX12_setting 1 = .ok (.iload_n 1, 1) := by decide +kernel
theorem dX12_setting_2 : decode cX12_setting 2 = .ok (.i2l, 1) := by decide +kernel
theorem dX12_setting_3 : decode cX12_setting 3 = .ok (.lconst 0, 1) := by decide +kernel
theorem dX12_setting_4 : decode cX12_setting 4 = .ok (.ldc2_w 334, 3) := by decide +kernel
theorem dX12_setting_7 : decode cX12_setting 7 = .ok (.invokestatic 92, 3) := by decide +kernel
theorem dX12_setting_10 : decode cX12_setting 10 = .ok (.invokevirtual 85, 3) := by decide +kernel
theorem dX12_setting_13 : decode cX12_setting 13 = .ok (.ifCond .ne 5, 3) := by decide +kernel
theorem dX12_setting_16 : decode cX12_setting 16 = .ok (.iconst 0, 1) := by decide +kernel
theorem dX12_setting_17 : decode cX12_setting 17 = .ok (.ireturn, 1) := by decide +kernel
theorem dX12_setting_18 : decode cX12_setting 18 = .ok (.iload_n 1, 1) := by decide +kernel
theorem dX12_setting_19 : decode cX12_setting 19 = .ok (.tableswitch 72 4 9 #[37, 42, 48, 54, 59, 67], 37) := by decide +kernel
theorem dX12_setting_56 : decode cX12_setting 56 = .ok (.aload_n 0, 1) := by decide +kernel
theorem dX12_setting_57 : decode cX12_setting 57 = .ok (.invokevirtual 336, 3) := by decide +kernel
theorem dX12_setting_60 : decode cX12_setting 60 = .ok (.ireturn, 1) := by decide +kernel
theorem dX12_setting_61 : decode cX12_setting 61 = .ok (.aload_n 0, 1) := by decide +kernel
theorem dX12_setting_62 : decode cX12_setting 62 = .ok (.iconst 0, 1) := by decide +kernel
theorem dX12_setting_63 : decode cX12_setting 63 = .ok (.invokevirtual 339, 3) := by decide +kernel
theorem dX12_setting_66 : decode cX12_setting 66 = .ok (.ireturn, 1) := by decide +kernel
theorem dX12_setting_67 : decode cX12_setting 67 = .ok (.aload_n 0, 1) := by decide +kernel
theorem dX12_setting_68 : decode cX12_setting 68 = .ok (.iconst 1, 1) := by decide +kernel
theorem dX12_setting_69 : decode cX12_setting 69 = .ok (.invokevirtual 339, 3) := by decide +kernel
theorem dX12_setting_72 : decode cX12_setting 72 = .ok (.ireturn, 1) := by decide +kernel
theorem dX12_setting_73 : decode cX12_setting 73 = .ok (.aload_n 0, 1) := by decide +kernel
theorem dX12_setting_74 : decode cX12_setting 74 = .ok (.invokevirtual 342, 3) := by decide +kernel
theorem dX12_setting_77 : decode cX12_setting 77 = .ok (.ireturn, 1) := by decide +kernel
theorem dX12_setting_78 : decode cX12_setting 78 = .ok (.aload_n 0, 1) := by decide +kernel
theorem dX12_setting_79 : decode cX12_setting 79 = .ok (.invokevirtual 269, 3) := by decide +kernel
theorem dX12_setting_82 : decode cX12_setting 82 = .ok (.invokestatic 78, 3) := by decide +kernel
theorem dX12_setting_85 : decode cX12_setting 85 = .ok (.ireturn, 1) := by decide +kernel
theorem dX12_setting_86 : decode cX12_setting 86 = .ok (.aload_n 0, 1) := by decide +kernel
theorem dX12_setting_87 : decode cX12_setting 87 = .ok (.getfield 157, 3) := by decide +kernel
theorem dX12_setting_90 : decode cX12_setting 90 = .ok (.ireturn, 1) := by decide +kernel
theorem dX12_setting_91 : decode cX12_setting 91 = .ok (.aload_n 0, 1) := by decide +kernel
theorem dX12_setting_92 : decode cX12_setting 92 = .ok (.getfield 20, 3) := by decide +kernel
theorem dX12_setting_95 : decode cX12_setting 95 = .ok (.iload_n 1, 1) := by decide +kernel
theorem dX12_setting_96 : decode cX12_setting 96 = .ok (.iaload, 1) := by decide +kernel
theorem dX12_setting_97 : decode cX12_setting 97 = .ok (.ireturn, 1) := by decide +kernel
theorem dX12_fighter_0 : decode cX12_fighter 0 = .ok (.aload_n 0, 1) := by decide +kernel
theorem dX12_fighter_1 : decode cX12_fighter 1 = .ok (.aload_n 0, 1) := by decide +kernel
theorem dX12_fighter_2 : decode cX12_fighter 2 = .ok (.iload_n 1, 1) := by decide +kernel
theorem dX12_fighter_3 : decode cX12_fighter 3 = .ok (.invokevirtual 345, 3) := by decide +kernel
theorem dX12_fighter_6 : decode cX12_fighter 6 = .ok (.iload_n 2, 1) := by decide +kernel
theorem dX12_fighter_7 : decode cX12_fighter 7 = .ok (.i2l, 1) := by decide +kernel
theorem dX12_fighter_8 : decode cX12_fighter 8 = .ok (.lconst 0, 1) := by decide +kernel
theorem dX12_fighter_9 : decode cX12_fighter 9 = .ok (.ldc2_w 348, 3) := by decide +kernel
theorem dX12_fighter_12 : decode cX12_fighter 12 = .ok (.invokestatic 92, 3) := by decide +kernel
theorem dX12_fighter_15 : decode cX12_fighter 15 = .ok (.invokevirtual 350, 3) := by decide +kernel
theorem dX12_fighter_18 : decode cX12_fighter 18 = .ok (.ifCond .eq 12, 3) := by decide +kernel
theorem dX12_fighter_21 : decode cX12_fighter 21 = .ok (.aload_n 0, 1) := by decide +kernel
theorem dX12_fighter_22 : decode cX12_fighter 22 = .ok (.iload_n 1, 1) := by decide +kernel
theorem dX12_fighter_23 : decode cX12_fighter 23 = .ok (.iload_n 2, 1) := by decide +kernel
theorem dX12_fighter_24 : decode cX12_fighter 24 = .ok (.invokevirtual 192, 3) := by decide +kernel
theorem dX12_fighter_27 : decode cX12_fighter 27 = .ok (.goto 4, 3) := by decide +kernel
theorem dX12_fighter_30 : decode cX12_fighter 30 = .ok (.iconst 0, 1) := by decide +kernel
theorem dX12_fighter_31 : decode cX12_fighter 31 = .ok (.ireturn, 1) := by decide +kernel
theorem dX12_isAct_0 : decode cX12_isAct 0 = .ok (.iload_n 2, 1) := by decide +kernel
theorem dX12_isAct_1 : decode cX12_isAct 1 = .ok (.i2l, 1) := by decide +kernel
theorem dX12_isAct_2 : decode cX12_isAct 2 = .ok (.lconst 0, 1) := by decide +kernel
theorem dX12_isAct_3 : decode cX12_isAct 3 = .ok (.aload_n 0, 1) := by decide +kernel
theorem dX12_isAct_4 : decode cX12_isAct 4 = .ok (.iload_n 1, 1) := by decide +kernel
theorem dX12_isAct_5 : decode cX12_isAct 5 = .ok (.bipush 8, 2) := by decide +kernel
theorem dX12_isAct_7 : decode cX12_isAct 7 = .ok (.invokevirtual 192, 3) := by decide +kernel
theorem dX12_isAct_10 : decode cX12_isAct 10 = .ok (.iconst 1, 1) := by decide +kernel
theorem dX12_isAct_11 : decode cX12_isAct 11 = .ok (.isub, 1) := by decide +kernel
theorem dX12_isAct_12 : decode cX12_isAct 12 = .ok (.i2l, 1) := by decide +kernel
theorem dX12_isAct_13 : decode cX12_isAct 13 = .ok (.invokestatic 92, 3) := by decide +kernel
theorem dX12_isAct_16 : decode cX12_isAct 16 = .ok (.ireturn, 1) := by decide +kernel
theorem dX12_actKind_0 : decode cX12_actKind 0 = .ok (.aload_n 0, 1) := by decide +kernel
theorem dX12_actKind_1 : decode cX12_actKind 1 = .ok (.aload_n 0, 1) := by decide +kernel
theorem dX12_actKind_2 : decode cX12_actKind 2 = .ok (.iload_n 1, 1) := by decide +kernel
theorem dX12_actKind_3 : decode cX12_actKind 3 = .ok (.invokevirtual 345, 3) := by decide +kernel
theorem dX12_actKind_6 : decode cX12_actKind 6 = .ok (.invokevirtual 85, 3) := by decide +kernel
theorem dX12_actKind_9 : decode cX12_actKind 9 = .ok (.ifCond .ne 5, 3) := by decide +kernel
theorem dX12_actKind_12 : decode cX12_actKind 12 = .ok (.iconst 0, 1) := by decide +kernel
theorem dX12_actKind_13 : decode cX12_actKind 13 = .ok (.ireturn, 1) := by decide +kernel
theorem dX12_actKind_14 : decode cX12_actKind 14 = .ok (.aload_n 0, 1) := by decide +kernel
theorem dX12_actKind_15 : decode cX12_actKind 15 = .ok (.iload_n 1, 1) := by decide +kernel
theorem dX12_actKind_16 : decode cX12_actKind 16 = .ok (.iload_n 2, 1) := by decide +kernel
theorem dX12_actKind_17 : decode cX12_actKind 17 = .ok (.invokevirtual 354, 3) := by decide +kernel
theorem dX12_actKind_20 : decode cX12_actKind 20 = .ok (.ifCond .eq 20, 3) := by decide +kernel
theorem dX12_actKind_23 : decode cX12_actKind 23 = .ok (.aload_n 0, 1) := by decide +kernel
theorem dX12_actKind_24 : decode cX12_actKind 24 = .ok (.getfield 20, 3) := by decide +kernel
theorem dX12_actKind_27 : decode cX12_actKind 27 = .ok (.bipush 100, 2) := by decide +kernel
theorem dX12_actKind_29 : decode cX12_actKind 29 = .ok (.bipush 6, 2) := by decide +kernel
theorem dX12_actKind_31 : decode cX12_actKind 31 = .ok (.iload_n 1, 1) := by decide +kernel
theorem dX12_actKind_32 : decode cX12_actKind 32 = .ok (.imul, 1) := by decide +kernel
theorem dX12_actKind_33 : decode cX12_actKind 33 = .ok (.iadd, 1) := by decide +kernel
theorem dX12_actKind_34 : decode cX12_actKind 34 = .ok (.iload_n 2, 1) := by decide +kernel
theorem dX12_actKind_35 : decode cX12_actKind 35 = .ok (.iadd, 1) := by decide +kernel
theorem dX12_actKind_36 : decode cX12_actKind 36 = .ok (.iaload, 1) := by decide +kernel
theorem dX12_actKind_37 : decode cX12_actKind 37 = .ok (.goto 4, 3) := by decide +kernel
theorem dX12_actKind_40 : decode cX12_actKind 40 = .ok (.iconst (-1), 1) := by decide +kernel
theorem dX12_actKind_41 : decode cX12_actKind 41 = .ok (.ireturn, 1) := by decide +kernel
theorem dX12_actNumber_0 : decode cX12_actNumber 0 = .ok (.aload_n 0, 1) := by decide +kernel
theorem dX12_actNumber_1 : decode cX12_actNumber 1 = .ok (.aload_n 0, 1) := by decide +kernel
theorem dX12_actNumber_2 : decode cX12_actNumber 2 = .ok (.iload_n 1, 1) := by decide +kernel
theorem dX12_actNumber_3 : decode cX12_actNumber 3 = .ok (.invokevirtual 345, 3) := by decide +kernel
theorem dX12_actNumber_6 : decode cX12_actNumber 6 = .ok (.invokevirtual 85, 3) := by decide +kernel
theorem dX12_actNumber_9 : decode cX12_actNumber 9 = .ok (.ifCond .ne 5, 3) := by decide +kernel
theorem dX12_actNumber_12 : decode cX12_actNumber 12 = .ok (.iconst 0, 1) := by decide +kernel
theorem dX12_actNumber_13 : decode cX12_actNumber 13 = .ok (.ireturn, 1) := by decide +kernel
theorem dX12_actNumber_14 : decode cX12_actNumber 14 = .ok (.aload_n 0, 1) := by decide +kernel
theorem dX12_actNumber_15 : decode cX12_actNumber 15 = .ok (.iload_n 1, 1) := by decide +kernel
theorem dX12_actNumber_16 : decode cX12_actNumber 16 = .ok (.iload_n 2, 1) := by decide +kernel
theorem dX12_actNumber_17 : decode cX12_actNumber 17 = .ok (.invokevirtual 354, 3) := by decide +kernel
theorem dX12_actNumber_20 : decode cX12_actNumber 20 = .ok (.ifCond .eq 21, 3) := by decide +kernel
theorem dX12_actNumber_23 : decode cX12_actNumber 23 = .ok (.aload_n 0, 1) := by decide +kernel
theorem dX12_actNumber_24 : decode cX12_actNumber 24 = .ok (.getfield 20, 3) := by decide +kernel
theorem dX12_actNumber_27 : decode cX12_actNumber 27 = .ok (.sipush 148, 3) := by decide +kernel
theorem dX12_actNumber_30 : decode cX12_actNumber 30 = .ok (.bipush 6, 2) := by decide +kernel
theorem dX12_actNumber_32 : decode cX12_actNumber 32 = .ok (.iload_n 1, 1) := by decide +kernel
theorem dX12_actNumber_33 : decode cX12_actNumber 33 = .ok (.imul, 1) := by decide +kernel
theorem dX12_actNumber_34 : decode cX12_actNumber 34 = .ok (.iadd, 1) := by decide +kernel
theorem dX12_actNumber_35 : decode cX12_actNumber 35 = .ok (.iload_n 2, 1) := by decide +kernel
theorem dX12_actNumber_36 : decode cX12_actNumber 36 = .ok (.iadd, 1) := by decide +kernel
theorem dX12_actNumber_37 : decode cX12_actNumber 37 = .ok (.iaload, 1) := by decide +kernel
theorem dX12_actNumber_38 : decode cX12_actNumber 38 = .ok (.goto 4, 3) := by decide +kernel
theorem dX12_actNumber_41 : decode cX12_actNumber 41 = .ok (.iconst (-1), 1) := by decide +kernel
theorem dX12_actNumber_42 : decode cX12_actNumber 42 = .ok (.ireturn, 1) := by decide +kernel
theorem dX12_lettersOf_0 : decode cX12_lettersOf 0 = .ok (.iconst 0, 1) := by decide +kernel
theorem dX12_lettersOf_1 : decode cX12_lettersOf 1 = .ok (.istore_n 2, 1) := by decide +kernel
theorem dX12_lettersOf_2 : decode cX12_lettersOf 2 = .ok (.lload_n 0, 1) := by decide +kernel
theorem dX12_lettersOf_3 : decode cX12_lettersOf 3 = .ok (.lstore_n 3, 1) := by decide +kernel
theorem dX12_lettersOf_4 : decode cX12_lettersOf 4 = .ok (.lload_n 3, 1) := by decide +kernel
theorem dX12_lettersOf_5 : decode cX12_lettersOf 5 = .ok (.lconst 0, 1) := by decide +kernel
theorem dX12_lettersOf_6 : decode cX12_lettersOf 6 = .ok (.lcmp, 1) := by decide +kernel
theorem dX12_lettersOf_7 : decode cX12_lettersOf 7 = .ok (.ifCond .le 13, 3) := by decide +kernel
theorem dX12_lettersOf_10 : decode cX12_lettersOf 10 = .ok (.iinc 2 1, 3) := by decide +kernel
theorem dX12_lettersOf_13 : decode cX12_lettersOf 13 = .ok (.lload_n 3, 1) := by decide +kernel
theorem dX12_lettersOf_14 : decode cX12_lettersOf 14 = .ok (.iconst 5, 1) := by decide +kernel
theorem dX12_lettersOf_15 : decode cX12_lettersOf 15 = .ok (.lshr, 1) := by decide +kernel
theorem dX12_lettersOf_16 : decode cX12_lettersOf 16 = .ok (.lstore_n 3, 1) := by decide +kernel
theorem dX12_lettersOf_17 : decode cX12_lettersOf 17 = .ok (.goto (-13), 3) := by decide +kernel
theorem dX12_lettersOf_20 : decode cX12_lettersOf 20 = .ok (.iload_n 2, 1) := by decide +kernel
theorem dX12_lettersOf_21 : decode cX12_lettersOf 21 = .ok (.ireturn, 1) := by decide +kernel
theorem dX12_letterOf_0 : decode cX12_letterOf 0 = .ok (.lload_n 0, 1) := by decide +kernel
theorem dX12_letterOf_1 : decode cX12_letterOf 1 = .ok (.invokestatic 357, 3) := by decide +kernel
theorem dX12_letterOf_4 : decode cX12_letterOf 4 = .ok (.istore_n 3, 1) := by decide +kernel
theorem dX12_letterOf_5 : decode cX12_letterOf 5 = .ok (.iload_n 2, 1) := by decide +kernel
theorem dX12_letterOf_6 : decode cX12_letterOf 6 = .ok (.i2l, 1) := by decide +kernel
theorem dX12_letterOf_7 : decode cX12_letterOf 7 = .ok (.lconst 0, 1) := by decide +kernel
theorem dX12_letterOf_8 : decode cX12_letterOf 8 = .ok (.iload_n 3, 1) := by decide +kernel
theorem dX12_letterOf_9 : decode cX12_letterOf 9 = .ok (.iconst 1, 1) := by decide +kernel
theorem dX12_letterOf_10 : decode cX12_letterOf 10 = .ok (.isub, 1) := by decide +kernel
theorem dX12_letterOf_11 : decode cX12_letterOf 11 = .ok (.i2l, 1) := by decide +kernel
theorem dX12_letterOf_12 : decode cX12_letterOf 12 = .ok (.invokestatic 92, 3) := by decide +kernel
theorem dX12_letterOf_15 : decode cX12_letterOf 15 = .ok (.ifCond .eq 23, 3) := by decide +kernel
theorem dX12_letterOf_18 : decode cX12_letterOf 18 = .ok (.lload_n 0, 1) := by decide +kernel
theorem dX12_letterOf_19 : decode cX12_letterOf 19 = .ok (.iconst 5, 1) := by decide +kernel
theorem dX12_letterOf_20 : decode cX12_letterOf 20 = .ok (.iload_n 3, 1) := by decide +kernel
theorem dX12_letterOf_21 : decode cX12_letterOf 21 = .ok (.iconst 1, 1) := by decide +kernel
theorem dX12_letterOf_22 : decode cX12_letterOf 22 = .ok (.isub, 1) := by decide +kernel
theorem dX12_letterOf_23 : decode cX12_letterOf 23 = .ok (.iload_n 2, 1) := by decide +kernel
theorem dX12_letterOf_24 : decode cX12_letterOf 24 = .ok (.isub, 1) := by decide +kernel
theorem dX12_letterOf_25 : decode cX12_letterOf 25 = .ok (.imul, 1) := by decide +kernel
theorem dX12_letterOf_26 : decode cX12_letterOf 26 = .ok (.lshr, 1) := by decide +kernel
theorem dX12_letterOf_27 : decode cX12_letterOf 27 = .ok (.ldc2_w 361, 3) := by decide +kernel
theorem dX12_letterOf_30 : decode cX12_letterOf 30 = .ok (.land, 1) := by decide +kernel
theorem dX12_letterOf_31 : decode cX12_letterOf 31 = .ok (.l2i, 1) := by decide +kernel
theorem dX12_letterOf_32 : decode cX12_letterOf 32 = .ok (.bipush 96, 2) := by decide +kernel
theorem dX12_letterOf_34 : decode cX12_letterOf 34 = .ok (.iadd, 1) := by decide +kernel
theorem dX12_letterOf_35 : decode cX12_letterOf 35 = .ok (.goto 4, 3) := by decide +kernel
theorem dX12_letterOf_38 : decode cX12_letterOf 38 = .ok (.iconst 0, 1) := by decide +kernel
theorem dX12_letterOf_39 : decode cX12_letterOf 39 = .ok (.ireturn, 1) := by decide +kernel
theorem dX12_letter_0 : decode cX12_letter 0 = .ok (.aload_n 0, 1) := by decide +kernel
theorem dX12_letter_1 : decode cX12_letter 1 = .ok (.aload_n 0, 1) := by decide +kernel
theorem dX12_letter_2 : decode cX12_letter 2 = .ok (.iload_n 1, 1) := by decide +kernel
theorem dX12_letter_3 : decode cX12_letter 3 = .ok (.invokevirtual 345, 3) := by decide +kernel
theorem dX12_letter_6 : decode cX12_letter 6 = .ok (.invokevirtual 85, 3) := by decide +kernel
theorem dX12_letter_9 : decode cX12_letter 9 = .ok (.ifCond .eq 16, 3) := by decide +kernel
theorem dX12_letter_12 : decode cX12_letter 12 = .ok (.aload_n 0, 1) := by decide +kernel
theorem dX12_letter_13 : decode cX12_letter 13 = .ok (.getfield 35, 3) := by decide +kernel
theorem dX12_letter_16 : decode cX12_letter 16 = .ok (.iload_n 1, 1) := by decide +kernel
theorem dX12_letter_17 : decode cX12_letter 17 = .ok (.laload, 1) := by decide +kernel
theorem dX12_letter_18 : decode cX12_letter 18 = .ok (.iload_n 2, 1) := by decide +kernel
theorem dX12_letter_19 : decode cX12_letter 19 = .ok (.invokestatic 363, 3) := by decide +kernel
theorem dX12_letter_22 : decode cX12_letter 22 = .ok (.goto 4, 3) := by decide +kernel
theorem dX12_letter_25 : decode cX12_letter 25 = .ok (.iconst 0, 1) := by decide +kernel
theorem dX12_letter_26 : decode cX12_letter 26 = .ok (.ireturn, 1) := by decide +kernel
theorem dX12_ticksTo_0 : decode cX12_ticksTo 0 = .ok (.aload_n 0, 1) := by decide +kernel
theorem dX12_ticksTo_1 : decode cX12_ticksTo 1 = .ok (.aload_n 0, 1) := by decide +kernel
theorem dX12_ticksTo_2 : decode cX12_ticksTo 2 = .ok (.iload_n 1, 1) := by decide +kernel
theorem dX12_ticksTo_3 : decode cX12_ticksTo 3 = .ok (.invokevirtual 345, 3) := by decide +kernel
theorem dX12_ticksTo_6 : decode cX12_ticksTo 6 = .ok (.invokevirtual 85, 3) := by decide +kernel
theorem dX12_ticksTo_9 : decode cX12_ticksTo 9 = .ok (.ifCond .ne 5, 3) := by decide +kernel
theorem dX12_ticksTo_12 : decode cX12_ticksTo 12 = .ok (.iconst 0, 1) := by decide +kernel
theorem dX12_ticksTo_13 : decode cX12_ticksTo 13 = .ok (.ireturn, 1) := by decide +kernel
theorem dX12_ticksTo_14 : decode cX12_ticksTo 14 = .ok (.aload_n 0, 1) := by decide +kernel
theorem dX12_ticksTo_15 : decode cX12_ticksTo 15 = .ok (.iload_n 1, 1) := by decide +kernel
theorem dX12_ticksTo_16 : decode cX12_ticksTo 16 = .ok (.invokevirtual 263, 3) := by decide +kernel
theorem dX12_ticksTo_19 : decode cX12_ticksTo 19 = .ok (.ifCond .eq 11, 3) := by decide +kernel
theorem dX12_ticksTo_22 : decode cX12_ticksTo 22 = .ok (.aload_n 0, 1) := by decide +kernel
theorem dX12_ticksTo_23 : decode cX12_ticksTo 23 = .ok (.iload_n 1, 1) := by decide +kernel
theorem dX12_ticksTo_24 : decode cX12_ticksTo 24 = .ok (.invokevirtual 276, 3) := by decide +kernel
theorem dX12_ticksTo_27 : decode cX12_ticksTo 27 = .ok (.goto 4, 3) := by decide +kernel
theorem dX12_ticksTo_30 : decode cX12_ticksTo 30 = .ok (.iconst (-1), 1) := by decide +kernel
theorem dX12_ticksTo_31 : decode cX12_ticksTo 31 = .ok (.ireturn, 1) := by decide +kernel
theorem dX12_isSooner_0 : decode cX12_isSooner 0 = .ok (.aload_n 0, 1) := by decide +kernel
theorem dX12_isSooner_1 : decode cX12_isSooner 1 = .ok (.iload_n 1, 1) := by decide +kernel
theorem dX12_isSooner_2 : decode cX12_isSooner 2 = .ok (.invokevirtual 276, 3) := by decide +kernel
theorem dX12_isSooner_5 : decode cX12_isSooner 5 = .ok (.aload_n 0, 1) := by decide +kernel
theorem dX12_isSooner_6 : decode cX12_isSooner 6 = .ok (.iload_n 2, 1) := by decide +kernel
theorem dX12_isSooner_7 : decode cX12_isSooner 7 = .ok (.invokevirtual 276, 3) := by decide +kernel
theorem dX12_isSooner_10 : decode cX12_isSooner 10 = .ok (.isub, 1) := by decide +kernel
theorem dX12_isSooner_11 : decode cX12_isSooner 11 = .ok (.istore_n 3, 1) := by decide +kernel
theorem dX12_isSooner_12 : decode cX12_isSooner 12 = .ok (.iload_n 3, 1) := by decide +kernel
theorem dX12_isSooner_13 : decode cX12_isSooner 13 = .ok (.ifCond .eq 13, 3) := by decide +kernel
theorem dX12_isSooner_16 : decode cX12_isSooner 16 = .ok (.iload_n 3, 1) := by decide +kernel
theorem dX12_isSooner_17 : decode cX12_isSooner 17 = .ok (.ifCond .ge 7, 3) := by decide +kernel
theorem dX12_isSooner_20 : decode cX12_isSooner 20 = .ok (.iconst 1, 1) := by decide +kernel
theorem dX12_isSooner_21 : decode cX12_isSooner 21 = .ok (.goto 4, 3) := by decide +kernel
theorem dX12_isSooner_24 : decode cX12_isSooner 24 = .ok (.iconst 0, 1) := by decide +kernel
theorem dX12_isSooner_25 : decode cX12_isSooner 25 = .ok (.ireturn, 1) := by decide +kernel
theorem dX12_isSooner_26 : decode cX12_isSooner 26 = .ok (.aload_n 0, 1) := by decide +kernel
theorem dX12_isSooner_27 : decode cX12_isSooner 27 = .ok (.iload_n 1, 1) := by decide +kernel
theorem dX12_isSooner_28 : decode cX12_isSooner 28 = .ok (.iconst 3, 1) := by decide +kernel
theorem dX12_isSooner_29 : decode cX12_isSooner 29 = .ok (.invokevirtual 192, 3) := by decide +kernel
theorem dX12_isSooner_32 : decode cX12_isSooner 32 = .ok (.aload_n 0, 1) := by decide +kernel
theorem dX12_isSooner_33 : decode cX12_isSooner 33 = .ok (.iload_n 2, 1) := by decide +kernel
theorem dX12_isSooner_34 : decode cX12_isSooner 34 = .ok (.iconst 3, 1) := by decide +kernel
theorem dX12_isSooner_35 : decode cX12_isSooner 35 = .ok (.invokevirtual 192, 3) := by decide +kernel
theorem dX12_isSooner_38 : decode cX12_isSooner 38 = .ok (.isub, 1) := by decide +kernel
theorem dX12_isSooner_39 : decode cX12_isSooner 39 = .ok (.istore 4, 2) := by decide +kernel
theorem dX12_isSooner_41 : decode cX12_isSooner 41 = .ok (.iload 4, 2) := by decide +kernel
theorem dX12_isSooner_43 : decode cX12_isSooner 43 = .ok (.ifCond .gt 13, 3) := by decide +kernel
theorem dX12_isSooner_46 : decode cX12_isSooner 46 = .ok (.iload 4, 2) := by decide +kernel
theorem dX12_isSooner_48 : decode cX12_isSooner 48 = .ok (.ifCond .ne 12, 3) := by decide +kernel
theorem dX12_isSooner_51 : decode cX12_isSooner 51 = .ok (.iload_n 1, 1) := by decide +kernel
theorem dX12_isSooner_52 : decode cX12_isSooner 52 = .ok (.iload_n 2, 1) := by decide +kernel
theorem dX12_isSooner_53 : decode cX12_isSooner 53 = .ok (.if_icmp .ge 7, 3) := by decide +kernel
theorem dX12_isSooner_56 : decode cX12_isSooner 56 = .ok (.iconst 1, 1) := by decide +kernel
theorem dX12_isSooner_57 : decode cX12_isSooner 57 = .ok (.goto 4, 3) := by decide +kernel
theorem dX12_isSooner_60 : decode cX12_isSooner 60 = .ok (.iconst 0, 1) := by decide +kernel
theorem dX12_isSooner_61 : decode cX12_isSooner 61 = .ok (.ireturn, 1) := by decide +kernel
theorem dX12_row_0 : decode cX12_row 0 = .ok (.aload_n 0, 1) := by decide +kernel
theorem dX12_row_1 : decode cX12_row 1 = .ok (.iconst 0, 1) := by decide +kernel
theorem dX12_row_2 : decode cX12_row 2 = .ok (.putfield 75, 3) := by decide +kernel
theorem dX12_row_5 : decode cX12_row 5 = .ok (.iconst 0, 1) := by decide +kernel
theorem dX12_row_6 : decode cX12_row 6 = .ok (.istore_n 2, 1) := by decide +kernel
theorem dX12_row_7 : decode cX12_row 7 = .ok (.iload_n 2, 1) := by decide +kernel
theorem dX12_row_8 : decode cX12_row 8 = .ok (.aload_n 0, 1) := by decide +kernel
theorem dX12_row_9 : decode cX12_row 9 = .ok (.getfield 20, 3) := by decide +kernel
theorem dX12_row_12 : decode cX12_row 12 = .ok (.iconst 0, 1) := by decide +kernel
theorem dX12_row_13 : decode cX12_row 13 = .ok (.iaload, 1) := by decide +kernel
theorem dX12_row_14 : decode cX12_row 14 = .ok (.if_icmp .ge 82, 3) := by decide +kernel
theorem dX12_row_17 : decode cX12_row 17 = .ok (.iconst 0, 1) := by decide +kernel
theorem dX12_row_18 : decode cX12_row 18 = .ok (.istore_n 3, 1) := by decide +kernel
theorem dX12_row_19 : decode cX12_row 19 = .ok (.iconst 0, 1) := by decide +kernel
theorem dX12_row_20 : decode cX12_row 20 = .ok (.istore 4, 2) := by decide +kernel
theorem dX12_row_22 : decode cX12_row 22 = .ok (.iload 4, 2) := by decide +kernel
theorem dX12_row_24 : decode cX12_row 24 = .ok (.aload_n 0, 1) := by decide +kernel
theorem dX12_row_25 : decode cX12_row 25 = .ok (.getfield 20, 3) := by decide +kernel
theorem dX12_row_28 : decode cX12_row 28 = .ok (.iconst 0, 1) := by decide +kernel
theorem dX12_row_29 : decode cX12_row 29 = .ok (.iaload, 1) := by decide +kernel
theorem dX12_row_30 : decode cX12_row 30 = .ok (.if_icmp .ge 45, 3) := by decide +kernel
theorem dX12_row_33 : decode cX12_row 33 = .ok (.iload_n 3, 1) := by decide +kernel
theorem dX12_row_34 : decode cX12_row 34 = .ok (.iload 4, 2) := by decide +kernel
theorem dX12_row_36 : decode cX12_row 36 = .ok (.iload_n 2, 1) := by decide +kernel
theorem dX12_row_37 : decode cX12_row 37 = .ok (.if_icmp .eq 26, 3) := by decide +kernel
theorem dX12_row_40 : decode cX12_row 40 = .ok (.aload_n 0, 1) := by decide +kernel
theorem dX12_row_41 : decode cX12_row 41 = .ok (.iload 4, 2) := by decide +kernel
theorem dX12_row_43 : decode cX12_row 43 = .ok (.invokevirtual 263, 3) := by decide +kernel
theorem dX12_row_46 : decode cX12_row 46 = .ok (.ifCond .eq 17, 3) := by decide +kernel
theorem dX12_row_49 : decode cX12_row 49 = .ok (.aload_n 0, 1) := by decide +kernel
theorem dX12_row_50 : decode cX12_row 50 = .ok (.iload 4, 2) := by decide +kernel
theorem dX12_row_52 : decode cX12_row 52 = .ok (.iload_n 2, 1) := by decide +kernel
theorem dX12_row_53 : decode cX12_row 53 = .ok (.invokevirtual 367, 3) := by decide +kernel
theorem dX12_row_56 : decode cX12_row 56 = .ok (.ifCond .eq 7, 3) := by decide +kernel
theorem dX12_row_59 : decode cX12_row 59 = .ok (.iconst 1, 1) := by decide +kernel
theorem dX12_row_60 : decode cX12_row 60 = .ok (.goto 4, 3) := by decide +kernel
theorem dX12_row_63 : decode cX12_row 63 = .ok (.iconst 0, 1) := by decide +kernel
theorem dX12_row_64 : decode cX12_row 64 = .ok (.invokestatic 78, 3) := by decide +kernel
theorem dX12_row_67 : decode cX12_row 67 = .ok (.iadd, 1) := by decide +kernel
theorem dX12_row_68 : decode cX12_row 68 = .ok (.istore_n 3, 1) := by decide +kernel
theorem dX12_row_69 : decode cX12_row 69 = .ok (.iinc 4 1, 3) := by decide +kernel
theorem dX12_row_72 : decode cX12_row 72 = .ok (.goto (-50), 3) := by decide +kernel
theorem dX12_row_75 : decode cX12_row 75 = .ok (.aload_n 0, 1) := by decide +kernel
theorem dX12_row_76 : decode cX12_row 76 = .ok (.iload_n 2, 1) := by decide +kernel
theorem dX12_row_77 : decode cX12_row 77 = .ok (.invokevirtual 263, 3) := by decide +kernel
theorem dX12_row_80 : decode cX12_row 80 = .ok (.ifCond .eq 10, 3) := by decide +kernel
theorem dX12_row_83 : decode cX12_row 83 = .ok (.iload_n 3, 1) := by decide +kernel
theorem dX12_row_84 : decode cX12_row 84 = .ok (.iload_n 1, 1) := by decide +kernel
theorem dX12_row_85 : decode cX12_row 85 = .ok (.if_icmp .ne 5, 3) := by decide +kernel
theorem dX12_row_88 : decode cX12_row 88 = .ok (.iload_n 2, 1) := by decide +kernel
theorem dX12_row_89 : decode cX12_row 89 = .ok (.ireturn, 1) := by decide +kernel
theorem dX12_row_90 : decode cX12_row 90 = .ok (.iinc 2 1, 3) := by decide +kernel
theorem dX12_row_93 : decode cX12_row 93 = .ok (.goto (-86), 3) := by decide +kernel
theorem dX12_row_96 : decode cX12_row 96 = .ok (.iconst (-1), 1) := by decide +kernel
theorem dX12_row_97 : decode cX12_row 97 = .ok (.ireturn, 1) := by decide +kernel
theorem dX12_meanSpeed_0 : decode cX12_meanSpeed 0 = .ok (.aload_n 0, 1) := by decide +kernel
theorem dX12_meanSpeed_1 : decode cX12_meanSpeed 1 = .ok (.iconst 0, 1) := by decide +kernel
theorem dX12_meanSpeed_2 : decode cX12_meanSpeed 2 = .ok (.putfield 75, 3) := by decide +kernel
theorem dX12_meanSpeed_5 : decode cX12_meanSpeed 5 = .ok (.iconst 0, 1) := by decide +kernel
theorem dX12_meanSpeed_6 : decode cX12_meanSpeed 6 = .ok (.istore_n 1, 1) := by decide +kernel
theorem dX12_meanSpeed_7 : decode cX12_meanSpeed 7 = .ok (.iconst 0, 1) := by decide +kernel
theorem dX12_meanSpeed_8 : decode cX12_meanSpeed 8 = .ok (.istore_n 2, 1) := by decide +kernel
theorem dX12_meanSpeed_9 : decode cX12_meanSpeed 9 = .ok (.iload_n 2, 1) := by decide +kernel
theorem dX12_meanSpeed_10 : decode cX12_meanSpeed 10 = .ok (.aload_n 0, 1) := by decide +kernel
theorem dX12_meanSpeed_11 : decode cX12_meanSpeed 11 = .ok (.getfield 20, 3) := by decide +kernel
theorem dX12_meanSpeed_14 : decode cX12_meanSpeed 14 = .ok (.iconst 0, 1) := by decide +kernel
theorem dX12_meanSpeed_15 : decode cX12_meanSpeed 15 = .ok (.iaload, 1) := by decide +kernel
theorem dX12_meanSpeed_16 : decode cX12_meanSpeed 16 = .ok (.if_icmp .ge 30, 3) := by decide +kernel
theorem dX12_meanSpeed_19 : decode cX12_meanSpeed 19 = .ok (.iload_n 1, 1) := by decide +kernel
theorem dX12_meanSpeed_20 : decode cX12_meanSpeed 20 = .ok (.aload_n 0, 1) := by decide +kernel
theorem dX12_meanSpeed_21 : decode cX12_meanSpeed 21 = .ok (.iload_n 2, 1) := by decide +kernel
theorem dX12_meanSpeed_22 : decode cX12_meanSpeed 22 = .ok (.invokevirtual 263, 3) := by decide +kernel
theorem dX12_meanSpeed_25 : decode cX12_meanSpeed 25 = .ok (.ifCond .eq 12, 3) := by decide +kernel
theorem dX12_meanSpeed_28 : decode cX12_meanSpeed 28 = .ok (.aload_n 0, 1) := by decide +kernel
theorem dX12_meanSpeed_29 : decode cX12_meanSpeed 29 = .ok (.iload_n 2, 1) := by decide +kernel
theorem dX12_meanSpeed_30 : decode cX12_meanSpeed 30 = .ok (.iconst 1, 1) := by decide +kernel
theorem dX12_meanSpeed_31 : decode cX12_meanSpeed 31 = .ok (.invokevirtual 192, 3) := by decide +kernel
theorem dX12_meanSpeed_34 : decode cX12_meanSpeed 34 = .ok (.goto 4, 3) := by decide +kernel
theorem dX12_meanSpeed_37 : decode cX12_meanSpeed 37 = .ok (.iconst 0, 1) := by decide +kernel
theorem dX12_meanSpeed_38 : decode cX12_meanSpeed 38 = .ok (.iadd, 1) := by decide +kernel
theorem dX12_meanSpeed_39 : decode cX12_meanSpeed 39 = .ok (.istore_n 1, 1) := by decide +kernel
theorem dX12_meanSpeed_40 : decode cX12_meanSpeed 40 = .ok (.iinc 2 1, 3) := by decide +kernel
theorem dX12_meanSpeed_43 : decode cX12_meanSpeed 43 = .ok (.goto (-34), 3) := by decide +kernel
theorem dX12_meanSpeed_46 : decode cX12_meanSpeed 46 = .ok (.aload_n 0, 1) := by decide +kernel
theorem dX12_meanSpeed_47 : decode cX12_meanSpeed 47 = .ok (.invokevirtual 336, 3) := by decide +kernel
theorem dX12_meanSpeed_50 : decode cX12_meanSpeed 50 = .ok (.ifCond .ne 7, 3) := by decide +kernel
theorem dX12_meanSpeed_53 : decode cX12_meanSpeed 53 = .ok (.dconst 0, 1) := by decide +kernel
theorem dX12_meanSpeed_54 : decode cX12_meanSpeed 54 = .ok (.goto 11, 3) := by decide +kernel
theorem dX12_meanSpeed_57 : decode cX12_meanSpeed 57 = .ok (.iload_n 1, 1) := by decide +kernel
theorem dX12_meanSpeed_58 : decode cX12_meanSpeed 58 = .ok (.i2d, 1) := by decide +kernel
theorem dX12_meanSpeed_59 : decode cX12_meanSpeed 59 = .ok (.aload_n 0, 1) := by decide +kernel
theorem dX12_meanSpeed_60 : decode cX12_meanSpeed 60 = .ok (.invokevirtual 336, 3) := by decide +kernel
theorem dX12_meanSpeed_63 : decode cX12_meanSpeed 63 = .ok (.i2d, 1) := by decide +kernel
theorem dX12_meanSpeed_64 : decode cX12_meanSpeed 64 = .ok (.ddiv, 1) := by decide +kernel
theorem dX12_meanSpeed_65 : decode cX12_meanSpeed 65 = .ok (.dreturn, 1) := by decide +kernel
theorem dX12_share_0 : decode cX12_share 0 = .ok (.aload_n 0, 1) := by decide +kernel
theorem dX12_share_1 : decode cX12_share 1 = .ok (.iconst 0, 1) := by decide +kernel
theorem dX12_share_2 : decode cX12_share 2 = .ok (.putfield 75, 3) := by decide +kernel
theorem dX12_share_5 : decode cX12_share 5 = .ok (.aload_n 0, 1) := by decide +kernel
theorem dX12_share_6 : decode cX12_share 6 = .ok (.iconst 0, 1) := by decide +kernel
theorem dX12_share_7 : decode cX12_share 7 = .ok (.invokevirtual 339, 3) := by decide +kernel
theorem dX12_share_10 : decode cX12_share 10 = .ok (.aload_n 0, 1) := by decide +kernel
theorem dX12_share_11 : decode cX12_share 11 = .ok (.iconst 1, 1) := by decide +kernel
theorem dX12_share_12 : decode cX12_share 12 = .ok (.invokevirtual 339, 3) := by decide +kernel
theorem dX12_share_15 : decode cX12_share 15 = .ok (.iadd, 1) := by decide +kernel
theorem dX12_share_16 : decode cX12_share 16 = .ok (.istore_n 1, 1) := by decide +kernel
theorem dX12_share_17 : decode cX12_share 17 = .ok (.iload_n 1, 1) := by decide +kernel
theorem dX12_share_18 : decode cX12_share 18 = .ok (.ifCond .ne 7, 3) := by decide +kernel
theorem dX12_share_21 : decode cX12_share 21 = .ok (.fconst 0, 1) := by decide +kernel
theorem dX12_share_22 : decode cX12_share 22 = .ok (.goto 12, 3) := by decide +kernel
theorem dX12_share_25 : decode cX12_share 25 = .ok (.aload_n 0, 1) := by decide +kernel
theorem dX12_share_26 : decode cX12_share 26 = .ok (.iconst 0, 1) := by decide +kernel
theorem dX12_share_27 : decode cX12_share 27 = .ok (.invokevirtual 339, 3) := by decide +kernel
theorem dX12_share_30 : decode cX12_share 30 = .ok (.i2f, 1) := by decide +kernel
theorem dX12_share_31 : decode cX12_share 31 = .ok (.iload_n 1, 1) := by decide +kernel
theorem dX12_share_32 : decode cX12_share 32 = .ok (.i2f, 1) := by decide +kernel
theorem dX12_share_33 : decode cX12_share 33 = .ok (.fdiv, 1) := by decide +kernel
theorem dX12_share_34 : decode cX12_share 34 = .ok (.freturn, 1) := by decide +kernel
theorem dX12_leaves_0 : decode cX12_leaves 0 = .ok (.aload_n 0, 1) := by decide +kernel
theorem dX12_leaves_1 : decode cX12_leaves 1 = .ok (.getfield 20, 3) := by decide +kernel
theorem dX12_leaves_4 : decode cX12_leaves 4 = .ok (.iconst 0, 1) := by decide +kernel
theorem dX12_leaves_5 : decode cX12_leaves 5 = .ok (.aload_n 0, 1) := by decide +kernel
theorem dX12_leaves_6 : decode cX12_leaves 6 = .ok (.getfield 29, 3) := by decide +kernel
theorem dX12_leaves_9 : decode cX12_leaves 9 = .ok (.iconst 0, 1) := by decide +kernel
theorem dX12_leaves_10 : decode cX12_leaves 10 = .ok (.invokestatic 153, 3) := by decide +kernel
theorem dX12_leaves_13 : decode cX12_leaves 13 = .ok (.return_, 1) := by decide +kernel
theorem dX12_comesBack_0 : decode cX12_comesBack 0 = .ok (.aload_n 0, 1) := by decide +kernel
theorem dX12_comesBack_1 : decode cX12_comesBack 1 = .ok (.getfield 29, 3) := by decide +kernel
theorem dX12_comesBack_4 : decode cX12_comesBack 4 = .ok (.iconst 0, 1) := by decide +kernel
theorem dX12_comesBack_5 : decode cX12_comesBack 5 = .ok (.aload_n 0, 1) := by decide +kernel
theorem dX12_comesBack_6 : decode cX12_comesBack 6 = .ok (.getfield 20, 3) := by decide +kernel
theorem dX12_comesBack_9 : decode cX12_comesBack 9 = .ok (.iconst 0, 1) := by decide +kernel
theorem dX12_comesBack_10 : decode cX12_comesBack 10 = .ok (.invokestatic 153, 3) := by decide +kernel
theorem dX12_comesBack_13 : decode cX12_comesBack 13 = .ok (.iload_n 1, 1) := by decide +kernel
theorem dX12_comesBack_14 : decode cX12_comesBack 14 = .ok (.ireturn, 1) := by decide +kernel
theorem dX12_areTurns_0 : decode cX12_areTurns 0 = .ok (.iload_n 0, 1) := by decide +kernel
theorem dX12_areTurns_1 : decode cX12_areTurns 1 = .ok (.i2l, 1) := by decide +kernel
theorem dX12_areTurns_2 : decode cX12_areTurns 2 = .ok (.lconst 0, 1) := by decide +kernel
theorem dX12_areTurns_3 : decode cX12_areTurns 3 = .ok (.ldc2_w 370, 3) := by decide +kernel
theorem dX12_areTurns_6 : decode cX12_areTurns 6 = .ok (.invokestatic 92, 3) := by decide +kernel
theorem dX12_areTurns_9 : decode cX12_areTurns 9 = .ok (.ireturn, 1) := by decide +kernel
theorem dX12_isNear_0 : decode cX12_isNear 0 = .ok (.iload_n 0, 1) := by decide +kernel
theorem dX12_isNear_1 : decode cX12_isNear 1 = .ok (.i2l, 1) := by decide +kernel
theorem dX12_isNear_2 : decode cX12_isNear 2 = .ok (.lconst 0, 1) := by decide +kernel
theorem dX12_isNear_3 : decode cX12_isNear 3 = .ok (.ldc2_w 372, 3) := by decide +kernel
theorem dX12_isNear_6 : decode cX12_isNear 6 = .ok (.invokestatic 92, 3) := by decide +kernel
theorem dX12_isNear_9 : decode cX12_isNear 9 = .ok (.ireturn, 1) := by decide +kernel
theorem dX12_comes_0 : decode cX12_comes 0 = .ok (.aload_n 0, 1) := by decide +kernel
theorem dX12_comes_1 : decode cX12_comes 1 = .ok (.invokevirtual 374, 3) := by decide +kernel
theorem dX12_comes_4 : decode cX12_comes 4 = .ok (.aload_n 0, 1) := by decide +kernel
theorem dX12_comes_5 : decode cX12_comes 5 = .ok (.iload_n 1, 1) := by decide +kernel
theorem dX12_comes_6 : decode cX12_comes 6 = .ok (.iconst 1, 1) := by decide +kernel
theorem dX12_comes_7 : decode cX12_comes 7 = .ok (.iadd, 1) := by decide +kernel
theorem dX12_comes_8 : decode cX12_comes 8 = .ok (.invokevirtual 377, 3) := by decide +kernel
theorem dX12_comes_11 : decode cX12_comes 11 = .ok (.iload_n 1, 1) := by decide +kernel
theorem dX12_comes_12 : decode cX12_comes 12 = .ok (.iconst 1, 1) := by decide +kernel
theorem dX12_comes_13 : decode cX12_comes 13 = .ok (.iadd, 1) := by decide +kernel
theorem dX12_comes_14 : decode cX12_comes 14 = .ok (.if_icmp .ne 7, 3) := by decide +kernel
theorem dX12_comes_17 : decode cX12_comes 17 = .ok (.iconst 1, 1) := by decide +kernel
theorem dX12_comes_18 : decode cX12_comes 18 = .ok (.goto 4, 3) := by decide +kernel
theorem dX12_comes_21 : decode cX12_comes 21 = .ok (.iconst 0, 1) := by decide +kernel
theorem dX12_comes_22 : decode cX12_comes 22 = .ok (.ireturn, 1) := by decide +kernel
theorem dX12_turn_0 : decode cX12_turn 0 = .ok (.aload_n 0, 1) := by decide +kernel
theorem dX12_turn_1 : decode cX12_turn 1 = .ok (.iload_n 1, 1) := by decide +kernel
theorem dX12_turn_2 : decode cX12_turn 2 = .ok (.invokestatic 380, 3) := by decide +kernel
theorem dX12_turn_5 : decode cX12_turn 5 = .ok (.invokevirtual 85, 3) := by decide +kernel
theorem dX12_turn_8 : decode cX12_turn 8 = .ok (.ifCond .ne 5, 3) := by decide +kernel
theorem dX12_turn_11 : decode cX12_turn 11 = .ok (.iconst 0, 1) := by decide +kernel
theorem dX12_turn_12 : decode cX12_turn 12 = .ok (.ireturn, 1) := by decide +kernel
theorem dX12_turn_13 : decode cX12_turn 13 = .ok (.aload_n 0, 1) := by decide +kernel
theorem dX12_turn_14 : decode cX12_turn 14 = .ok (.iload_n 1, 1) := by decide +kernel
theorem dX12_turn_15 : decode cX12_turn 15 = .ok (.invokevirtual 383, 3) := by decide +kernel
theorem dX12_turn_18 : decode cX12_turn 18 = .ok (.istore_n 2, 1) := by decide +kernel
theorem dX12_turn_19 : decode cX12_turn 19 = .ok (.aload_n 0, 1) := by decide +kernel
theorem dX12_turn_20 : decode cX12_turn 20 = .ok (.iload_n 2, 1) := by decide +kernel
theorem dX12_turn_21 : decode cX12_turn 21 = .ok (.ifCond .eq 10, 3) := by decide +kernel
theorem dX12_turn_24 : decode cX12_turn 24 = .ok (.aload_n 0, 1) := by decide +kernel
theorem dX12_turn_25 : decode cX12_turn 25 = .ok (.getfield 322, 3) := by decide +kernel
theorem dX12_turn_28 : decode cX12_turn 28 = .ok (.goto 4, 3) := by decide +kernel
theorem dX12_turn_31 : decode cX12_turn 31 = .ok (.iconst (-1), 1) := by decide +kernel
theorem dX12_turn_32 : decode cX12_turn 32 = .ok (.invokevirtual 386, 3) := by decide +kernel
theorem dX12_turn_35 : decode cX12_turn 35 = .ok (.ireturn, 1) := by decide +kernel
theorem dX12_turnTime_0 : decode cX12_turnTime 0 = .ok (.aload_n 0, 1) := by decide +kernel
theorem dX12_turnTime_1 : decode cX12_turnTime 1 = .ok (.iload_n 1, 1) := by decide +kernel
theorem dX12_turnTime_2 : decode cX12_turnTime 2 = .ok (.invokestatic 380, 3) := by decide +kernel
theorem dX12_turnTime_5 : decode cX12_turnTime 5 = .ok (.invokevirtual 85, 3) := by decide +kernel
theorem dX12_turnTime_8 : decode cX12_turnTime 8 = .ok (.ifCond .ne 5, 3) := by decide +kernel
theorem dX12_turnTime_11 : decode cX12_turnTime 11 = .ok (.iconst 0, 1) := by decide +kernel
theorem dX12_turnTime_12 : decode cX12_turnTime 12 = .ok (.ireturn, 1) := by decide +kernel
theorem dX12_turnTime_13 : decode cX12_turnTime 13 = .ok (.aload_n 0, 1) := by decide +kernel
theorem dX12_turnTime_14 : decode cX12_turnTime 14 = .ok (.iload_n 1, 1) := by decide +kernel
theorem dX12_turnTime_15 : decode cX12_turnTime 15 = .ok (.invokevirtual 383, 3) := by decide +kernel
theorem dX12_turnTime_18 : decode cX12_turnTime 18 = .ok (.istore_n 2, 1) := by decide +kernel
theorem dX12_turnTime_19 : decode cX12_turnTime 19 = .ok (.aload_n 0, 1) := by decide +kernel
theorem dX12_turnTime_20 : decode cX12_turnTime 20 = .ok (.iload_n 2, 1) := by decide +kernel
theorem dX12_turnTime_21 : decode cX12_turnTime 21 = .ok (.ifCond .eq 12, 3) := by decide +kernel
theorem dX12_turnTime_24 : decode cX12_turnTime 24 = .ok (.aload_n 0, 1) := by decide +kernel
theorem dX12_turnTime_25 : decode cX12_turnTime 25 = .ok (.getfield 20, 3) := by decide +kernel
theorem dX12_turnTime_28 : decode cX12_turnTime 28 = .ok (.iconst 2, 1) := by decide +kernel
theorem dX12_turnTime_29 : decode cX12_turnTime 29 = .ok (.iaload, 1) := by decide +kernel
theorem dX12_turnTime_30 : decode cX12_turnTime 30 = .ok (.goto 4, 3) := by decide +kernel
theorem dX12_turnTime_33 : decode cX12_turnTime 33 = .ok (.iconst (-1), 1) := by decide +kernel
theorem dX12_turnTime_34 : decode cX12_turnTime 34 = .ok (.invokevirtual 386, 3) := by decide +kernel
theorem dX12_turnTime_37 : decode cX12_turnTime 37 = .ok (.ireturn, 1) := by decide +kernel
theorem dX12_turnKind_0 : decode cX12_turnKind 0 = .ok (.aload_n 0, 1) := by decide +kernel
theorem dX12_turnKind_1 : decode cX12_turnKind 1 = .ok (.iload_n 1, 1) := by decide +kernel
theorem dX12_turnKind_2 : decode cX12_turnKind 2 = .ok (.invokestatic 380, 3) := by decide +kernel
theorem dX12_turnKind_5 : decode cX12_turnKind 5 = .ok (.invokevirtual 85, 3) := by decide +kernel
theorem dX12_turnKind_8 : decode cX12_turnKind 8 = .ok (.ifCond .ne 5, 3) := by decide +kernel
theorem dX12_turnKind_11 : decode cX12_turnKind 11 = .ok (.iconst 0, 1) := by decide +kernel
theorem dX12_turnKind_12 : decode cX12_turnKind 12 = .ok (.ireturn, 1) := by decide +kernel
theorem dX12_turnKind_13 : decode cX12_turnKind 13 = .ok (.aload_n 0, 1) := by decide +kernel
theorem dX12_turnKind_14 : decode cX12_turnKind 14 = .ok (.iload_n 1, 1) := by decide +kernel
theorem dX12_turnKind_15 : decode cX12_turnKind 15 = .ok (.invokevirtual 383, 3) := by decide +kernel
theorem dX12_turnKind_18 : decode cX12_turnKind 18 = .ok (.istore_n 2, 1) := by decide +kernel
theorem dX12_turnKind_19 : decode cX12_turnKind 19 = .ok (.aload_n 0, 1) := by decide +kernel
theorem dX12_turnKind_20 : decode cX12_turnKind 20 = .ok (.iload_n 2, 1) := by decide +kernel
theorem dX12_turnKind_21 : decode cX12_turnKind 21 = .ok (.ifCond .eq 10, 3) := by decide +kernel
theorem dX12_turnKind_24 : decode cX12_turnKind 24 = .ok (.aload_n 0, 1) := by decide +kernel
theorem dX12_turnKind_25 : decode cX12_turnKind 25 = .ok (.getfield 325, 3) := by decide +kernel
theorem dX12_turnKind_28 : decode cX12_turnKind 28 = .ok (.goto 4, 3) := by decide +kernel
theorem dX12_turnKind_31 : decode cX12_turnKind 31 = .ok (.iconst (-1), 1) := by decide +kernel
theorem dX12_turnKind_32 : decode cX12_turnKind 32 = .ok (.invokevirtual 386, 3) := by decide +kernel
theorem dX12_turnKind_35 : decode cX12_turnKind 35 = .ok (.ireturn, 1) := by decide +kernel
theorem dX12_cellIn_0 : decode cX12_cellIn 0 = .ok (.aload_n 0, 1) := by decide +kernel
theorem dX12_cellIn_1 : decode cX12_cellIn 1 = .ok (.invokevirtual 374, 3) := by decide +kernel
theorem dX12_cellIn_4 : decode cX12_cellIn 4 = .ok (.aload_n 0, 1) := by decide +kernel
theorem dX12_cellIn_5 : decode cX12_cellIn 5 = .ok (.iload_n 3, 1) := by decide +kernel
theorem dX12_cellIn_6 : decode cX12_cellIn 6 = .ok (.invokevirtual 377, 3) := by decide +kernel
theorem dX12_cellIn_9 : decode cX12_cellIn 9 = .ok (.istore 4, 2) := by decide +kernel
theorem dX12_cellIn_11 : decode cX12_cellIn 11 = .ok (.aload_n 0, 1) := by decide +kernel
theorem dX12_cellIn_12 : decode cX12_cellIn 12 = .ok (.aload_n 0, 1) := by decide +kernel
theorem dX12_cellIn_13 : decode cX12_cellIn 13 = .ok (.iload_n 1, 1) := by decide +kernel
theorem dX12_cellIn_14 : decode cX12_cellIn 14 = .ok (.iload_n 2, 1) := by decide +kernel
theorem dX12_cellIn_15 : decode cX12_cellIn 15 = .ok (.invokevirtual 192, 3) := by decide +kernel
theorem dX12_cellIn_18 : decode cX12_cellIn 18 = .ok (.invokevirtual 386, 3) := by decide +kernel
theorem dX12_cellIn_21 : decode cX12_cellIn 21 = .ok (.ireturn, 1) := by decide +kernel
theorem dX12_lifeIn_0 : decode cX12_lifeIn 0 = .ok (.aload_n 0, 1) := by decide +kernel
theorem dX12_lifeIn_1 : decode cX12_lifeIn 1 = .ok (.aload_n 0, 1) := by decide +kernel
theorem dX12_lifeIn_2 : decode cX12_lifeIn 2 = .ok (.iload_n 1, 1) := by decide +kernel
theorem dX12_lifeIn_3 : decode cX12_lifeIn 3 = .ok (.invokevirtual 345, 3) := by decide +kernel
theorem dX12_lifeIn_6 : decode cX12_lifeIn 6 = .ok (.iload_n 2, 1) := by decide +kernel
theorem dX12_lifeIn_7 : decode cX12_lifeIn 7 = .ok (.invokestatic 389, 3) := by decide +kernel
theorem dX12_lifeIn_10 : decode cX12_lifeIn 10 = .ok (.invokevirtual 350, 3) := by decide +kernel
theorem dX12_lifeIn_13 : decode cX12_lifeIn 13 = .ok (.ifCond .eq 13, 3) := by decide +kernel
theorem dX12_lifeIn_16 : decode cX12_lifeIn 16 = .ok (.aload_n 0, 1) := by decide +kernel
theorem dX12_lifeIn_17 : decode cX12_lifeIn 17 = .ok (.iload_n 1, 1) := by decide +kernel
theorem dX12_lifeIn_18 : decode cX12_lifeIn 18 = .ok (.iconst 2, 1) := by decide +kernel
theorem dX12_lifeIn_19 : decode cX12_lifeIn 19 = .ok (.iload_n 2, 1) := by decide +kernel
theorem dX12_lifeIn_20 : decode cX12_lifeIn 20 = .ok (.invokevirtual 392, 3) := by decide +kernel
theorem dX12_lifeIn_23 : decode cX12_lifeIn 23 = .ok (.goto 4, 3) := by decide +kernel
theorem dX12_lifeIn_26 : decode cX12_lifeIn 26 = .ok (.iconst 0, 1) := by decide +kernel
theorem dX12_lifeIn_27 : decode cX12_lifeIn 27 = .ok (.ireturn, 1) := by decide +kernel
theorem dX12_gaugeIn_0 : decode cX12_gaugeIn 0 = .ok (.aload_n 0, 1) := by decide +kernel
theorem dX12_gaugeIn_1 : decode cX12_gaugeIn 1 = .ok (.aload_n 0, 1) := by decide +kernel
theorem dX12_gaugeIn_2 : decode cX12_gaugeIn 2 = .ok (.iload_n 1, 1) := by decide +kernel
theorem dX12_gaugeIn_3 : decode cX12_gaugeIn 3 = .ok (.invokevirtual 345, 3) := by decide +kernel
theorem dX12_gaugeIn_6 : decode cX12_gaugeIn 6 = .ok (.iload_n 2, 1) := by decide +kernel
theorem dX12_gaugeIn_7 : decode cX12_gaugeIn 7 = .ok (.invokestatic 389, 3) := by decide +kernel
theorem dX12_gaugeIn_10 : decode cX12_gaugeIn 10 = .ok (.invokevirtual 350, 3) := by decide +kernel
theorem dX12_gaugeIn_13 : decode cX12_gaugeIn 13 = .ok (.ifCond .eq 13, 3) := by decide +kernel
theorem dX12_gaugeIn_16 : decode cX12_gaugeIn 16 = .ok (.aload_n 0, 1) := by decide +kernel
theorem dX12_gaugeIn_17 : decode cX12_gaugeIn 17 = .ok (.iload_n 1, 1) := by decide +kernel
theorem dX12_gaugeIn_18 : decode cX12_gaugeIn 18 = .ok (.iconst 4, 1) := by decide +kernel
theorem dX12_gaugeIn_19 : decode cX12_gaugeIn 19 = .ok (.iload_n 2, 1) := by decide +kernel
theorem dX12_gaugeIn_20 : decode cX12_gaugeIn 20 = .ok (.invokevirtual 392, 3) := by decide +kernel
theorem dX12_gaugeIn_23 : decode cX12_gaugeIn 23 = .ok (.goto 4, 3) := by decide +kernel
theorem dX12_gaugeIn_26 : decode cX12_gaugeIn 26 = .ok (.iconst 0, 1) := by decide +kernel
theorem dX12_gaugeIn_27 : decode cX12_gaugeIn 27 = .ok (.ireturn, 1) := by decide +kernel
theorem dX12_turnsOf_0 : decode cX12_turnsOf 0 = .ok (.aload_n 0, 1) := by decide +kernel
theorem dX12_turnsOf_1 : decode cX12_turnsOf 1 = .ok (.aload_n 0, 1) := by decide +kernel
theorem dX12_turnsOf_2 : decode cX12_turnsOf 2 = .ok (.iload_n 1, 1) := by decide +kernel
theorem dX12_turnsOf_3 : decode cX12_turnsOf 3 = .ok (.invokevirtual 345, 3) := by decide +kernel
theorem dX12_turnsOf_6 : decode cX12_turnsOf 6 = .ok (.iload_n 2, 1) := by decide +kernel
theorem dX12_turnsOf_7 : decode cX12_turnsOf 7 = .ok (.invokestatic 389, 3) := by decide +kernel
theorem dX12_turnsOf_10 : decode cX12_turnsOf 10 = .ok (.invokevirtual 350, 3) := by decide +kernel
theorem dX12_turnsOf_13 : decode cX12_turnsOf 13 = .ok (.ifCond .ne 5, 3) := by decide +kernel
theorem dX12_turnsOf_16 : decode cX12_turnsOf 16 = .ok (.iconst 0, 1) := by decide +kernel
theorem dX12_turnsOf_17 : decode cX12_turnsOf 17 = .ok (.ireturn, 1) := by decide +kernel
theorem dX12_turnsOf_18 : decode cX12_turnsOf 18 = .ok (.aload_n 0, 1) := by decide +kernel
theorem dX12_turnsOf_19 : decode cX12_turnsOf 19 = .ok (.iload_n 1, 1) := by decide +kernel
theorem dX12_turnsOf_20 : decode cX12_turnsOf 20 = .ok (.bipush 9, 2) := by decide +kernel
theorem dX12_turnsOf_22 : decode cX12_turnsOf 22 = .ok (.iload_n 2, 1) := by decide +kernel
theorem dX12_turnsOf_23 : decode cX12_turnsOf 23 = .ok (.invokevirtual 392, 3) := by decide +kernel
theorem dX12_turnsOf_26 : decode cX12_turnsOf 26 = .ok (.aload_n 0, 1) := by decide +kernel
theorem dX12_turnsOf_27 : decode cX12_turnsOf 27 = .ok (.iload_n 1, 1) := by decide +kernel
theorem dX12_turnsOf_28 : decode cX12_turnsOf 28 = .ok (.bipush 9, 2) := by decide +kernel
theorem dX12_turnsOf_30 : decode cX12_turnsOf 30 = .ok (.invokevirtual 192, 3) := by decide +kernel
theorem dX12_turnsOf_33 : decode cX12_turnsOf 33 = .ok (.isub, 1) := by decide +kernel
theorem dX12_turnsOf_34 : decode cX12_turnsOf 34 = .ok (.ireturn, 1) := by decide +kernel
theorem dX12_longestRun_0 : decode cX12_longestRun 0 = .ok (.aload_n 0, 1) := by decide +kernel
theorem dX12_longestRun_1 : decode cX12_longestRun 1 = .ok (.iload_n 1, 1) := by decide +kernel
theorem dX12_longestRun_2 : decode cX12_longestRun 2 = .ok (.invokestatic 389, 3) := by decide +kernel
theorem dX12_longestRun_5 : decode cX12_longestRun 5 = .ok (.invokevirtual 85, 3) := by decide +kernel
theorem dX12_longestRun_8 : decode cX12_longestRun 8 = .ok (.ifCond .ne 5, 3) := by decide +kernel
theorem dX12_longestRun_11 : decode cX12_longestRun 11 = .ok (.iconst 0, 1) := by decide +kernel
theorem dX12_longestRun_12 : decode cX12_longestRun 12 = .ok (.ireturn, 1) := by decide +kernel
theorem dX12_longestRun_13 : decode cX12_longestRun 13 = .ok (.aload_n 0, 1) := by decide +kernel
theorem dX12_longestRun_14 : decode cX12_longestRun 14 = .ok (.invokevirtual 374, 3) := by decide +kernel
theorem dX12_longestRun_17 : decode cX12_longestRun 17 = .ok (.iconst 0, 1) := by decide +kernel
theorem dX12_longestRun_18 : decode cX12_longestRun 18 = .ok (.istore_n 2, 1) := by decide +kernel
theorem dX12_longestRun_19 : decode cX12_longestRun 19 = .ok (.iconst 0, 1) := by decide +kernel
theorem dX12_longestRun_20 : decode cX12_longestRun 20 = .ok (.istore_n 3, 1) := by decide +kernel
theorem dX12_longestRun_21 : decode cX12_longestRun 21 = .ok (.iconst (-1), 1) := by decide +kernel
theorem dX12_longestRun_22 : decode cX12_longestRun 22 = .ok (.istore 4, 2) := by decide +kernel
theorem dX12_longestRun_24 : decode cX12_longestRun 24 = .ok (.iconst 0, 1) := by decide +kernel
theorem dX12_longestRun_25 : decode cX12_longestRun 25 = .ok (.istore 5, 2) := by decide +kernel
theorem dX12_longestRun_27 : decode cX12_longestRun 27 = .ok (.iload 5, 2) := by decide +kernel
theorem dX12_longestRun_29 : decode cX12_longestRun 29 = .ok (.iload_n 1, 1) := by decide +kernel
theorem dX12_longestRun_30 : decode cX12_longestRun 30 = .ok (.if_icmp .ge 49, 3) := by decide +kernel
theorem dX12_longestRun_33 : decode cX12_longestRun 33 = .ok (.aload_n 0, 1) := by decide +kernel
theorem dX12_longestRun_34 : decode cX12_longestRun 34 = .ok (.invokevirtual 269, 3) := by decide +kernel
theorem dX12_longestRun_37 : decode cX12_longestRun 37 = .ok (.ifCond .ne 42, 3) := by decide +kernel
theorem dX12_longestRun_40 : decode cX12_longestRun 40 = .ok (.aload_n 0, 1) := by decide +kernel
theorem dX12_longestRun_41 : decode cX12_longestRun 41 = .ok (.invokevirtual 331, 3) := by decide +kernel
theorem dX12_longestRun_44 : decode cX12_longestRun 44 = .ok (.aload_n 0, 1) := by decide +kernel
theorem dX12_longestRun_45 : decode cX12_longestRun 45 = .ok (.getfield 322, 3) := by decide +kernel
theorem dX12_longestRun_48 : decode cX12_longestRun 48 = .ok (.iload 4, 2) := by decide +kernel
theorem dX12_longestRun_50 : decode cX12_longestRun 50 = .ok (.if_icmp .ne 9, 3) := by decide +kernel
theorem dX12_longestRun_53 : decode cX12_longestRun 53 = .ok (.iload_n 3, 1) := by decide +kernel
theorem dX12_longestRun_54 : decode cX12_longestRun 54 = .ok (.iconst 1, 1) := by decide +kernel
theorem dX12_longestRun_55 : decode cX12_longestRun 55 = .ok (.iadd, 1) := by decide +kernel
theorem dX12_longestRun_56 : decode cX12_longestRun 56 = .ok (.goto 4, 3) := by decide +kernel
theorem dX12_longestRun_59 : decode cX12_longestRun 59 = .ok (.iconst 1, 1) := by decide +kernel
theorem dX12_longestRun_60 : decode cX12_longestRun 60 = .ok (.istore_n 3, 1) := by decide +kernel
theorem dX12_longestRun_61 : decode cX12_longestRun 61 = .ok (.aload_n 0, 1) := by decide +kernel
theorem dX12_longestRun_62 : decode cX12_longestRun 62 = .ok (.getfield 322, 3) := by decide +kernel
theorem dX12_longestRun_65 : decode cX12_longestRun 65 = .ok (.istore 4, 2) := by decide +kernel
theorem dX12_longestRun_67 : decode cX12_longestRun 67 = .ok (.iload_n 2, 1) := by decide +kernel
theorem dX12_longestRun_68 : decode cX12_longestRun 68 = .ok (.iload_n 3, 1) := by decide +kernel
theorem dX12_longestRun_69 : decode cX12_longestRun 69 = .ok (.invokestatic 294, 3) := by decide +kernel
theorem dX12_longestRun_72 : decode cX12_longestRun 72 = .ok (.istore_n 2, 1) := by decide +kernel
theorem dX12_longestRun_73 : decode cX12_longestRun 73 = .ok (.iinc 5 1, 3) := by decide +kernel
theorem dX12_longestRun_76 : decode cX12_longestRun 76 = .ok (.goto (-49), 3) := by decide +kernel
theorem dX12_longestRun_79 : decode cX12_longestRun 79 = .ok (.aload_n 0, 1) := by decide +kernel
theorem dX12_longestRun_80 : decode cX12_longestRun 80 = .ok (.iload_n 2, 1) := by decide +kernel
theorem dX12_longestRun_81 : decode cX12_longestRun 81 = .ok (.invokevirtual 386, 3) := by decide +kernel
theorem dX12_longestRun_84 : decode cX12_longestRun 84 = .ok (.ireturn, 1) := by decide +kernel
theorem dX12_endsWithin_0 : decode cX12_endsWithin 0 = .ok (.aload_n 0, 1) := by decide +kernel
theorem dX12_endsWithin_1 : decode cX12_endsWithin 1 = .ok (.invokevirtual 374, 3) := by decide +kernel
theorem dX12_endsWithin_4 : decode cX12_endsWithin 4 = .ok (.aload_n 0, 1) := by decide +kernel
theorem dX12_endsWithin_5 : decode cX12_endsWithin 5 = .ok (.sipush 200, 3) := by decide +kernel
theorem dX12_endsWithin_8 : decode cX12_endsWithin 8 = .ok (.invokevirtual 377, 3) := by decide +kernel
theorem dX12_endsWithin_11 : decode cX12_endsWithin 11 = .ok (.istore_n 1, 1) := by decide +kernel
theorem dX12_endsWithin_12 : decode cX12_endsWithin 12 = .ok (.aload_n 0, 1) := by decide +kernel
theorem dX12_endsWithin_13 : decode cX12_endsWithin 13 = .ok (.aload_n 0, 1) := by decide +kernel
theorem dX12_endsWithin_14 : decode cX12_endsWithin 14 = .ok (.invokevirtual 269, 3) := by decide +kernel
theorem dX12_endsWithin_17 : decode cX12_endsWithin 17 = .ok (.ifCond .eq 7, 3) := by decide +kernel
theorem dX12_endsWithin_20 : decode cX12_endsWithin 20 = .ok (.iload_n 1, 1) := by decide +kernel
theorem dX12_endsWithin_21 : decode cX12_endsWithin 21 = .ok (.goto 4, 3) := by decide +kernel
theorem dX12_endsWithin_24 : decode cX12_endsWithin 24 = .ok (.iconst (-1), 1) := by decide +kernel
theorem dX12_endsWithin_25 : decode cX12_endsWithin 25 = .ok (.invokevirtual 386, 3) := by decide +kernel
theorem dX12_endsWithin_28 : decode cX12_endsWithin 28 = .ok (.ireturn, 1) := by decide +kernel
theorem dX12_endsIn_0 : decode cX12_endsIn 0 = .ok (.aload_n 0, 1) := by decide +kernel
theorem dX12_endsIn_1 : decode cX12_endsIn 1 = .ok (.iconst 0, 1) := by decide +kernel
theorem dX12_endsIn_2 : decode cX12_endsIn 2 = .ok (.putfield 75, 3) := by decide +kernel
theorem dX12_endsIn_5 : decode cX12_endsIn 5 = .ok (.aload_n 0, 1) := by decide +kernel
theorem dX12_endsIn_6 : decode cX12_endsIn 6 = .ok (.invokevirtual 396, 3) := by decide +kernel
theorem dX12_endsIn_9 : decode cX12_endsIn 9 = .ok (.ireturn, 1) := by decide +kernel
theorem dX12_winnerThen_0 : decode cX12_winnerThen 0 = .ok (.aload_n 0, 1) := by decide +kernel
theorem dX12_winnerThen_1 : decode cX12_winnerThen 1 = .ok (.invokevirtual 374, 3) := by decide +kernel
theorem dX12_winnerThen_4 : decode cX12_winnerThen 4 = .ok (.aload_n 0, 1) := by decide +kernel
theorem dX12_winnerThen_5 : decode cX12_winnerThen 5 = .ok (.sipush 200, 3) := by decide +kernel
theorem dX12_winnerThen_8 : decode cX12_winnerThen 8 = .ok (.invokevirtual 377, 3) := by decide +kernel
theorem dX12_winnerThen_11 : decode cX12_winnerThen 11 = .ok (.istore_n 1, 1) := by decide +kernel
theorem dX12_winnerThen_12 : decode cX12_winnerThen 12 = .ok (.aload_n 0, 1) := by decide +kernel
theorem dX12_winnerThen_13 : decode cX12_winnerThen 13 = .ok (.aload_n 0, 1) := by decide +kernel
theorem dX12_winnerThen_14 : decode cX12_winnerThen 14 = .ok (.invokevirtual 342, 3) := by decide +kernel
theorem dX12_winnerThen_17 : decode cX12_winnerThen 17 = .ok (.invokevirtual 386, 3) := by decide +kernel
theorem dX12_winnerThen_20 : decode cX12_winnerThen 20 = .ok (.ireturn, 1) := by decide +kernel
theorem dX12_winner_0 : decode cX12_winner 0 = .ok (.aload_n 0, 1) := by decide +kernel
theorem dX12_winner_1 : decode cX12_winner 1 = .ok (.iconst 0, 1) := by decide +kernel
theorem dX12_winner_2 : decode cX12_winner 2 = .ok (.putfield 75, 3) := by decide +kernel
theorem dX12_winner_5 : decode cX12_winner 5 = .ok (.aload_n 0, 1) := by decide +kernel
theorem dX12_winner_6 : decode cX12_winner 6 = .ok (.invokevirtual 399, 3) := by decide +kernel
theorem dX12_winner_9 : decode cX12_winner 9 = .ok (.ireturn, 1) := by decide +kernel
theorem dX12_firstLoss_0 : decode cX12_firstLoss 0 = .ok (.aload_n 0, 1) := by decide +kernel
theorem dX12_firstLoss_1 : decode cX12_firstLoss 1 = .ok (.aload_n 0, 1) := by decide +kernel
theorem dX12_firstLoss_2 : decode cX12_firstLoss 2 = .ok (.iload_n 1, 1) := by decide +kernel
theorem dX12_firstLoss_3 : decode cX12_firstLoss 3 = .ok (.invokevirtual 345, 3) := by decide +kernel
theorem dX12_firstLoss_6 : decode cX12_firstLoss 6 = .ok (.invokevirtual 85, 3) := by decide +kernel
theorem dX12_firstLoss_9 : decode cX12_firstLoss 9 = .ok (.ifCond .ne 5, 3) := by decide +kernel
theorem dX12_firstLoss_12 : decode cX12_firstLoss 12 = .ok (.iconst 0, 1) := by decide +kernel
theorem dX12_firstLoss_13 : decode cX12_firstLoss 13 = .ok (.ireturn, 1) := by decide +kernel
theorem dX12_firstLoss_14 : decode cX12_firstLoss 14 = .ok (.aload_n 0, 1) := by decide +kernel
theorem dX12_firstLoss_15 : decode cX12_firstLoss 15 = .ok (.invokevirtual 374, 3) := by decide +kernel
theorem dX12_firstLoss_18 : decode cX12_firstLoss 18 = .ok (.iconst 0, 1) := by decide +kernel
theorem dX12_firstLoss_19 : decode cX12_firstLoss 19 = .ok (.istore_n 2, 1) := by decide +kernel
theorem dX12_firstLoss_20 : decode cX12_firstLoss 20 = .ok (.iconst (-1), 1) := by decide +kernel
theorem dX12_firstLoss_21 : decode cX12_firstLoss 21 = .ok (.istore_n 3, 1) := by decide +kernel
theorem dX12_firstLoss_22 : decode cX12_firstLoss 22 = .ok (.iload_n 2, 1) := by decide +kernel
theorem dX12_firstLoss_23 : decode cX12_firstLoss 23 = .ok (.sipush 200, 3) := by decide +kernel
theorem dX12_firstLoss_26 : decode cX12_firstLoss 26 = .ok (.if_icmp .ge 50, 3) := by decide +kernel
theorem dX12_firstLoss_29 : decode cX12_firstLoss 29 = .ok (.iload_n 3, 1) := by decide +kernel
theorem dX12_firstLoss_30 : decode cX12_firstLoss 30 = .ok (.iconst (-1), 1) := by decide +kernel
theorem dX12_firstLoss_31 : decode cX12_firstLoss 31 = .ok (.if_icmp .ne 45, 3) := by decide +kernel
theorem dX12_firstLoss_34 : decode cX12_firstLoss 34 = .ok (.aload_n 0, 1) := by decide +kernel
theorem dX12_firstLoss_35 : decode cX12_firstLoss 35 = .ok (.invokevirtual 269, 3) := by decide +kernel
theorem dX12_firstLoss_38 : decode cX12_firstLoss 38 = .ok (.ifCond .ne 38, 3) := by decide +kernel
theorem dX12_firstLoss_41 : decode cX12_firstLoss 41 = .ok (.aload_n 0, 1) := by decide +kernel
theorem dX12_firstLoss_42 : decode cX12_firstLoss 42 = .ok (.iload_n 1, 1) := by decide +kernel
theorem dX12_firstLoss_43 : decode cX12_firstLoss 43 = .ok (.iconst 2, 1) := by decide +kernel
theorem dX12_firstLoss_44 : decode cX12_firstLoss 44 = .ok (.invokevirtual 192, 3) := by decide +kernel
theorem dX12_firstLoss_47 : decode cX12_firstLoss 47 = .ok (.istore 4, 2) := by decide +kernel
theorem dX12_firstLoss_49 : decode cX12_firstLoss 49 = .ok (.aload_n 0, 1) := by decide +kernel
theorem dX12_firstLoss_50 : decode cX12_firstLoss 50 = .ok (.invokevirtual 331, 3) := by decide +kernel
theorem dX12_firstLoss_53 : decode cX12_firstLoss 53 = .ok (.iinc 2 1, 3) := by decide +kernel
theorem dX12_firstLoss_56 : decode cX12_firstLoss 56 = .ok (.aload_n 0, 1) := by decide +kernel
theorem dX12_firstLoss_57 : decode cX12_firstLoss 57 = .ok (.iload_n 1, 1) := by decide +kernel
theorem dX12_firstLoss_58 : decode cX12_firstLoss 58 = .ok (.iconst 2, 1) := by decide +kernel
theorem dX12_firstLoss_59 : decode cX12_firstLoss 59 = .ok (.invokevirtual 192, 3) := by decide +kernel
theorem dX12_firstLoss_62 : decode cX12_firstLoss 62 = .ok (.iload 4, 2) := by decide +kernel
theorem dX12_firstLoss_64 : decode cX12_firstLoss 64 = .ok (.if_icmp .ge 7, 3) := by decide +kernel
theorem dX12_firstLoss_67 : decode cX12_firstLoss 67 = .ok (.iload_n 2, 1) := by decide +kernel
theorem dX12_firstLoss_68 : decode cX12_firstLoss 68 = .ok (.goto 4, 3) := by decide +kernel
theorem dX12_firstLoss_71 : decode cX12_firstLoss 71 = .ok (.iconst (-1), 1) := by decide +kernel
theorem dX12_firstLoss_72 : decode cX12_firstLoss 72 = .ok (.istore_n 3, 1) := by decide +kernel
theorem dX12_firstLoss_73 : decode cX12_firstLoss 73 = .ok (.goto (-51), 3) := by decide +kernel
theorem dX12_firstLoss_76 : decode cX12_firstLoss 76 = .ok (.aload_n 0, 1) := by decide +kernel
theorem dX12_firstLoss_77 : decode cX12_firstLoss 77 = .ok (.iload_n 3, 1) := by decide +kernel
theorem dX12_firstLoss_78 : decode cX12_firstLoss 78 = .ok (.invokevirtual 386, 3) := by decide +kernel
theorem dX12_firstLoss_81 : decode cX12_firstLoss 81 = .ok (.ireturn, 1) := by decide +kernel
theorem dX12_seenCell_0 : decode cX12_seenCell 0 = .ok (.iload_n 2, 1) := by decide +kernel
theorem dX12_seenCell_1 : decode cX12_seenCell 1 = .ok (.tableswitch 71 0 4 #[35, 42, 49, 56, 63], 35) := by decide +kernel
theorem dX12_seenCell_36 : decode cX12_seenCell 36 = .ok (.aload_n 0, 1) := by decide +kernel
theorem dX12_seenCell_37 : decode cX12_seenCell 37 = .ok (.iload_n 1, 1) := by decide +kernel
theorem dX12_seenCell_38 : decode cX12_seenCell 38 = .ok (.iconst 2, 1) := by decide +kernel
theorem dX12_seenCell_39 : decode cX12_seenCell 39 = .ok (.invokevirtual 192, 3) := by decide +kernel
theorem dX12_seenCell_42 : decode cX12_seenCell 42 = .ok (.ireturn, 1) := by decide +kernel
theorem dX12_seenCell_43 : decode cX12_seenCell 43 = .ok (.aload_n 0, 1) := by decide +kernel
theorem dX12_seenCell_44 : decode cX12_seenCell 44 = .ok (.iload_n 1, 1) := by decide +kernel
theorem dX12_seenCell_45 : decode cX12_seenCell 45 = .ok (.iconst 1, 1) := by decide +kernel
theorem dX12_seenCell_46 : decode cX12_seenCell 46 = .ok (.invokevirtual 192, 3) := by decide +kernel
theorem dX12_seenCell_49 : decode cX12_seenCell 49 = .ok (.ireturn, 1) := by decide +kernel
theorem dX12_seenCell_50 : decode cX12_seenCell 50 = .ok (.aload_n 0, 1) := by decide +kernel
theorem dX12_seenCell_51 : decode cX12_seenCell 51 = .ok (.iload_n 1, 1) := by decide +kernel
theorem dX12_seenCell_52 : decode cX12_seenCell 52 = .ok (.iconst 4, 1) := by decide +kernel
theorem dX12_seenCell_53 : decode cX12_seenCell 53 = .ok (.invokevirtual 192, 3) := by decide +kernel
theorem dX12_seenCell_56 : decode cX12_seenCell 56 = .ok (.ireturn, 1) := by decide +kernel
theorem dX12_seenCell_57 : decode cX12_seenCell 57 = .ok (.aload_n 0, 1) := by decide +kernel
theorem dX12_seenCell_58 : decode cX12_seenCell 58 = .ok (.iload_n 1, 1) := by decide +kernel
theorem dX12_seenCell_59 : decode cX12_seenCell 59 = .ok (.iconst 5, 1) := by decide +kernel
theorem dX12_seenCell_60 : decode cX12_seenCell 60 = .ok (.invokevirtual 192, 3) := by decide +kernel
theorem dX12_seenCell_63 : decode cX12_seenCell 63 = .ok (.ireturn, 1) := by decide +kernel
theorem dX12_seenCell_64 : decode cX12_seenCell 64 = .ok (.aload_n 0, 1) := by decide +kernel
theorem dX12_seenCell_65 : decode cX12_seenCell 65 = .ok (.iload_n 1, 1) := by decide +kernel
theorem dX12_seenCell_66 : decode cX12_seenCell 66 = .ok (.bipush 6, 2) := by decide +kernel
theorem dX12_seenCell_68 : decode cX12_seenCell 68 = .ok (.invokevirtual 192, 3) := by decide +kernel
theorem dX12_seenCell_71 : decode cX12_seenCell 71 = .ok (.ireturn, 1) := by decide +kernel
theorem dX12_seenCell_72 : decode cX12_seenCell 72 = .ok (.aload_n 0, 1) := by decide +kernel
theorem dX12_seenCell_73 : decode cX12_seenCell 73 = .ok (.iload_n 1, 1) := by decide +kernel
theorem dX12_seenCell_74 : decode cX12_seenCell 74 = .ok (.bipush 7, 2) := by decide +kernel
theorem dX12_seenCell_76 : decode cX12_seenCell 76 = .ok (.invokevirtual 192, 3) := by decide +kernel
theorem dX12_seenCell_79 : decode cX12_seenCell 79 = .ok (.ireturn, 1) := by decide +kernel
theorem dX12_sees_0 : decode cX12_sees 0 = .ok (.iconst 0, 1) := by decide +kernel
theorem dX12_sees_1 : decode cX12_sees 1 = .ok (.istore_n 2, 1) := by decide +kernel
theorem dX12_sees_2 : decode cX12_sees 2 = .ok (.iload_n 2, 1) := by decide +kernel
theorem dX12_sees_3 : decode cX12_sees 3 = .ok (.aload_n 0, 1) := by decide +kernel
theorem dX12_sees_4 : decode cX12_sees 4 = .ok (.getfield 20, 3) := by decide +kernel
theorem dX12_sees_7 : decode cX12_sees 7 = .ok (.iconst 0, 1) := by decide +kernel
theorem dX12_sees_8 : decode cX12_sees 8 = .ok (.iaload, 1) := by decide +kernel
theorem dX12_sees_9 : decode cX12_sees 9 = .ok (.if_icmp .ge 45, 3) := by decide +kernel
theorem dX12_sees_12 : decode cX12_sees 12 = .ok (.iconst 0, 1) := by decide +kernel
theorem dX12_sees_13 : decode cX12_sees 13 = .ok (.istore_n 3, 1) := by decide +kernel
theorem dX12_sees_14 : decode cX12_sees 14 = .ok (.iload_n 3, 1) := by decide +kernel
theorem dX12_sees_15 : decode cX12_sees 15 = .ok (.bipush 6, 2) := by decide +kernel
theorem dX12_sees_17 : decode cX12_sees 17 = .ok (.if_icmp .ge 31, 3) := by decide +kernel
theorem dX12_sees_20 : decode cX12_sees 20 = .ok (.aload_n 0, 1) := by decide +kernel
theorem dX12_sees_21 : decode cX12_sees 21 = .ok (.getfield 45, 3) := by decide +kernel
theorem dX12_sees_24 : decode cX12_sees 24 = .ok (.bipush 48, 2) := by decide +kernel
theorem dX12_sees_26 : decode cX12_sees 26 = .ok (.iload_n 1, 1) := by decide +kernel
theorem dX12_sees_27 : decode cX12_sees 27 = .ok (.imul, 1) := by decide +kernel
theorem dX12_sees_28 : decode cX12_sees 28 = .ok (.bipush 6, 2) := by decide +kernel
theorem dX12_sees_30 : decode cX12_sees 30 = .ok (.iload_n 2, 1) := by decide +kernel
theorem dX12_sees_31 : decode cX12_sees 31 = .ok (.imul, 1) := by decide +kernel
theorem dX12_sees_32 : decode cX12_sees 32 = .ok (.iadd, 1) := by decide +kernel
theorem dX12_sees_33 : decode cX12_sees 33 = .ok (.iload_n 3, 1) := by decide +kernel
theorem dX12_sees_34 : decode cX12_sees 34 = .ok (.iadd, 1) := by decide +kernel
theorem dX12_sees_35 : decode cX12_sees 35 = .ok (.aload_n 0, 1) := by decide +kernel
theorem dX12_sees_36 : decode cX12_sees 36 = .ok (.iload_n 2, 1) := by decide +kernel
theorem dX12_sees_37 : decode cX12_sees 37 = .ok (.iload_n 3, 1) := by decide +kernel
theorem dX12_sees_38 : decode cX12_sees 38 = .ok (.invokevirtual 402, 3) := by decide +kernel
theorem dX12_sees_41 : decode cX12_sees 41 = .ok (.iastore, 1) := by decide +kernel
theorem dX12_sees_42 : decode cX12_sees 42 = .ok (.iinc 3 1, 3) := by decide +kernel
theorem dX12_sees_45 : decode cX12_sees 45 = .ok (.goto (-31), 3) := by decide +kernel
theorem dX12_sees_48 : decode cX12_sees 48 = .ok (.iinc 2 1, 3) := by decide +kernel
theorem dX12_sees_51 : decode cX12_sees 51 = .ok (.goto (-49), 3) := by decide +kernel
theorem dX12_sees_54 : decode cX12_sees 54 = .ok (.return_, 1) := by decide +kernel
theorem dX12_areLike_0 : decode cX12_areLike 0 = .ok (.iconst 1, 1) := by decide +kernel
theorem dX12_areLike_1 : decode cX12_areLike 1 = .ok (.istore_n 3, 1) := by decide +kernel
theorem dX12_areLike_2 : decode cX12_areLike 2 = .ok (.iconst 0, 1) := by decide +kernel
theorem dX12_areLike_3 : decode cX12_areLike 3 = .ok (.istore 4, 2) := by decide +kernel
theorem dX12_areLike_5 : decode cX12_areLike 5 = .ok (.iload 4, 2) := by decide +kernel
theorem dX12_areLike_7 : decode cX12_areLike 7 = .ok (.bipush 6, 2) := by decide +kernel
theorem dX12_areLike_9 : decode cX12_areLike 9 = .ok (.aload_n 0, 1) := by decide +kernel
theorem dX12_areLike_10 : decode cX12_areLike 10 = .ok (.getfield 20, 3) := by decide +kernel
theorem dX12_areLike_13 : decode cX12_areLike 13 = .ok (.iconst 0, 1) := by decide +kernel
theorem dX12_areLike_14 : decode cX12_areLike 14 = .ok (.iaload, 1) := by decide +kernel
theorem dX12_areLike_15 : decode cX12_areLike 15 = .ok (.imul, 1) := by decide +kernel
theorem dX12_areLike_16 : decode cX12_areLike 16 = .ok (.if_icmp .ge 46, 3) := by decide +kernel
theorem dX12_areLike_19 : decode cX12_areLike 19 = .ok (.iload_n 3, 1) := by decide +kernel
theorem dX12_areLike_20 : decode cX12_areLike 20 = .ok (.ifCond .eq 42, 3) := by decide +kernel
theorem dX12_areLike_23 : decode cX12_areLike 23 = .ok (.aload_n 0, 1) := by decide +kernel
theorem dX12_areLike_24 : decode cX12_areLike 24 = .ok (.getfield 45, 3) := by decide +kernel
theorem dX12_areLike_27 : decode cX12_areLike 27 = .ok (.bipush 48, 2) := by decide +kernel
theorem dX12_areLike_29 : decode cX12_areLike 29 = .ok (.iload_n 1, 1) := by decide +kernel
theorem dX12_areLike_30 : decode cX12_areLike 30 = .ok (.imul, 1) := by decide +kernel
theorem dX12_areLike_31 : decode cX12_areLike 31 = .ok (.iload 4, 2) := by decide +kernel
theorem dX12_areLike_33 : decode cX12_areLike 33 = .ok (.iadd, 1) := by decide +kernel
theorem dX12_areLike_34 : decode cX12_areLike 34 = .ok (.iaload, 1) := by decide +kernel
theorem dX12_areLike_35 : decode cX12_areLike 35 = .ok (.aload_n 0, 1) := by decide +kernel
theorem dX12_areLike_36 : decode cX12_areLike 36 = .ok (.getfield 45, 3) := by decide +kernel
theorem dX12_areLike_39 : decode cX12_areLike 39 = .ok (.bipush 48, 2) := by decide +kernel
theorem dX12_areLike_41 : decode cX12_areLike 41 = .ok (.iload_n 2, 1) := by decide +kernel
theorem dX12_areLike_42 : decode cX12_areLike 42 = .ok (.imul, 1) := by decide +kernel
theorem dX12_areLike_43 : decode cX12_areLike 43 = .ok (.iload 4, 2) := by decide +kernel
theorem dX12_areLike_45 : decode cX12_areLike 45 = .ok (.iadd, 1) := by decide +kernel
theorem dX12_areLike_46 : decode cX12_areLike 46 = .ok (.iaload, 1) := by decide +kernel
theorem dX12_areLike_47 : decode cX12_areLike 47 = .ok (.if_icmp .ne 7, 3) := by decide +kernel
theorem dX12_areLike_50 : decode cX12_areLike 50 = .ok (.iconst 1, 1) := by decide +kernel
theorem dX12_areLike_51 : decode cX12_areLike 51 = .ok (.goto 4, 3) := by decide +kernel
theorem dX12_areLike_54 : decode cX12_areLike 54 = .ok (.iconst 0, 1) := by decide +kernel
theorem dX12_areLike_55 : decode cX12_areLike 55 = .ok (.istore_n 3, 1) := by decide +kernel
theorem dX12_areLike_56 : decode cX12_areLike 56 = .ok (.iinc 4 1, 3) := by decide +kernel
theorem dX12_areLike_59 : decode cX12_areLike 59 = .ok (.goto (-54), 3) := by decide +kernel
theorem dX12_areLike_62 : decode cX12_areLike 62 = .ok (.iload_n 3, 1) := by decide +kernel
theorem dX12_areLike_63 : decode cX12_areLike 63 = .ok (.ireturn, 1) := by decide +kernel
theorem dX12_looksForAgain_0 : decode cX12_looksForAgain 0 = .ok (.aload_n 0, 1) := by decide +kernel
theorem dX12_looksForAgain_1 : decode cX12_looksForAgain 1 = .ok (.invokevirtual 374, 3) := by decide +kernel
theorem dX12_looksForAgain_4 : decode cX12_looksForAgain 4 = .ok (.aload_n 0, 1) := by decide +kernel
theorem dX12_looksForAgain_5 : decode cX12_looksForAgain 5 = .ok (.iconst (-1), 1) := by decide +kernel
theorem dX12_looksForAgain_6 : decode cX12_looksForAgain 6 = .ok (.putfield 405, 3) := by decide +kernel
theorem dX12_looksForAgain_9 : decode cX12_looksForAgain 9 = .ok (.aload_n 0, 1) := by decide +kernel
theorem dX12_looksForAgain_10 : decode cX12_looksForAgain 10 = .ok (.iconst (-1), 1) := by decide +kernel
theorem dX12_looksForAgain_11 : decode cX12_looksForAgain 11 = .ok (.putfield 408, 3) := by decide +kernel
theorem dX12_looksForAgain_14 : decode cX12_looksForAgain 14 = .ok (.aload_n 0, 1) := by decide +kernel
theorem dX12_looksForAgain_15 : decode cX12_looksForAgain 15 = .ok (.iconst 0, 1) := by decide +kernel
theorem dX12_looksForAgain_16 : decode cX12_looksForAgain 16 = .ok (.invokevirtual 411, 3) := by decide +kernel
theorem dX12_looksForAgain_19 : decode cX12_looksForAgain 19 = .ok (.iconst 1, 1) := by decide +kernel
theorem dX12_looksForAgain_20 : decode cX12_looksForAgain 20 = .ok (.istore_n 1, 1) := by decide +kernel
theorem dX12_looksForAgain_21 : decode cX12_looksForAgain 21 = .ok (.iload_n 1, 1) := by decide +kernel
theorem dX12_looksForAgain_22 : decode cX12_looksForAgain 22 = .ok (.sipush 200, 3) := by decide +kernel
theorem dX12_looksForAgain_25 : decode cX12_looksForAgain 25 = .ok (.if_icmp .gt 84, 3) := by decide +kernel
theorem dX12_looksForAgain_28 : decode cX12_looksForAgain 28 = .ok (.aload_n 0, 1) := by decide +kernel
theorem dX12_looksForAgain_29 : decode cX12_looksForAgain 29 = .ok (.getfield 405, 3) := by decide +kernel
theorem dX12_looksForAgain_32 : decode cX12_looksForAgain 32 = .ok (.iconst (-1), 1) := by decide +kernel
theorem dX12_looksForAgain_33 : decode cX12_looksForAgain 33 = .ok (.if_icmp .ne 76, 3) := by decide +kernel
theorem dX12_looksForAgain_36 : decode cX12_looksForAgain 36 = .ok (.aload_n 0, 1) := by decide +kernel
theorem dX12_looksForAgain_37 : decode cX12_looksForAgain 37 = .ok (.invokevirtual 269, 3) := by decide +kernel
theorem dX12_looksForAgain_40 : decode cX12_looksForAgain 40 = .ok (.ifCond .ne 69, 3) := by decide +kernel
theorem dX12_looksForAgain_43 : decode cX12_looksForAgain 43 = .ok (.aload_n 0, 1) := by decide +kernel
theorem dX12_looksForAgain_44 : decode cX12_looksForAgain 44 = .ok (.invokevirtual 331, 3) := by decide +kernel
theorem dX12_looksForAgain_47 : decode cX12_looksForAgain 47 = .ok (.aload_n 0, 1) := by decide +kernel
theorem dX12_looksForAgain_48 : decode cX12_looksForAgain 48 = .ok (.iload_n 1, 1) := by decide +kernel
theorem dX12_looksForAgain_49 : decode cX12_looksForAgain 49 = .ok (.invokevirtual 411, 3) := by decide +kernel
theorem dX12_looksForAgain_52 : decode cX12_looksForAgain 52 = .ok (.iconst 0, 1) := by decide +kernel
theorem dX12_looksForAgain_53 : decode cX12_looksForAgain 53 = .ok (.istore_n 2, 1) := by decide +kernel
theorem dX12_looksForAgain_54 : decode cX12_looksForAgain 54 = .ok (.iload_n 2, 1) := by decide +kernel
theorem dX12_looksForAgain_55 : decode cX12_looksForAgain 55 = .ok (.iload_n 1, 1) := by decide +kernel
theorem dX12_looksForAgain_56 : decode cX12_looksForAgain 56 = .ok (.if_icmp .ge 30, 3) := by decide +kernel
theorem dX12_looksForAgain_59 : decode cX12_looksForAgain 59 = .ok (.aload_n 0, 1) := by decide +kernel
theorem dX12_looksForAgain_60 : decode cX12_looksForAgain 60 = .ok (.aload_n 0, 1) := by decide +kernel
theorem dX12_looksForAgain_61 : decode cX12_looksForAgain 61 = .ok (.iload_n 2, 1) := by decide +kernel
theorem dX12_looksForAgain_62 : decode cX12_looksForAgain 62 = .ok (.iload_n 1, 1) := by decide +kernel
theorem dX12_looksForAgain_63 : decode cX12_looksForAgain 63 = .ok (.invokevirtual 414, 3) := by decide +kernel
theorem dX12_looksForAgain_66 : decode cX12_looksForAgain 66 = .ok (.ifCond .eq 7, 3) := by decide +kernel
theorem dX12_looksForAgain_69 : decode cX12_looksForAgain 69 = .ok (.iload_n 2, 1) := by decide +kernel
theorem dX12_looksForAgain_70 : decode cX12_looksForAgain 70 = .ok (.goto 7, 3) := by decide +kernel
theorem dX12_looksForAgain_73 : decode cX12_looksForAgain 73 = .ok (.aload_n 0, 1) := by decide +kernel
theorem dX12_looksForAgain_74 : decode cX12_looksForAgain 74 = .ok (.getfield 408, 3) := by decide +kernel
theorem dX12_looksForAgain_77 : decode cX12_looksForAgain 77 = .ok (.putfield 408, 3) := by decide +kernel
theorem dX12_looksForAgain_80 : decode cX12_looksForAgain 80 = .ok (.iinc 2 1, 3) := by decide +kernel
theorem dX12_looksForAgain_83 : decode cX12_looksForAgain 83 = .ok (.goto (-29), 3) := by decide +kernel
theorem dX12_looksForAgain_86 : decode cX12_looksForAgain 86 = .ok (.aload_n 0, 1) := by decide +kernel
theorem dX12_looksForAgain_87 : decode cX12_looksForAgain 87 = .ok (.aload_n 0, 1) := by decide +kernel
theorem dX12_looksForAgain_88 : decode cX12_looksForAgain 88 = .ok (.getfield 408, 3) := by decide +kernel
theorem dX12_looksForAgain_91 : decode cX12_looksForAgain 91 = .ok (.iconst (-1), 1) := by decide +kernel
theorem dX12_looksForAgain_92 : decode cX12_looksForAgain 92 = .ok (.if_icmp .ne 7, 3) := by decide +kernel
theorem dX12_looksForAgain_95 : decode cX12_looksForAgain 95 = .ok (.iconst (-1), 1) := by decide +kernel
theorem dX12_looksForAgain_96 : decode cX12_looksForAgain 96 = .ok (.goto 4, 3) := by decide +kernel
theorem dX12_looksForAgain_99 : decode cX12_looksForAgain 99 = .ok (.iload_n 1, 1) := by decide +kernel
theorem dX12_looksForAgain_100 : decode cX12_looksForAgain 100 = .ok (.putfield 405, 3) := by decide +kernel
theorem dX12_looksForAgain_103 : decode cX12_looksForAgain 103 = .ok (.iinc 1 1, 3) := by decide +kernel
theorem dX12_looksForAgain_106 : decode cX12_looksForAgain 106 = .ok (.goto (-85), 3) := by decide +kernel
theorem dX12_looksForAgain_109 : decode cX12_looksForAgain 109 = .ok (.aload_n 0, 1) := by decide +kernel
theorem dX12_looksForAgain_110 : decode cX12_looksForAgain 110 = .ok (.iconst 0, 1) := by decide +kernel
theorem dX12_looksForAgain_111 : decode cX12_looksForAgain 111 = .ok (.invokevirtual 386, 3) := by decide +kernel
theorem dX12_looksForAgain_114 : decode cX12_looksForAgain 114 = .ok (.istore_n 1, 1) := by decide +kernel
theorem dX12_looksForAgain_115 : decode cX12_looksForAgain 115 = .ok (.return_, 1) := by decide +kernel
theorem dX12_repeatIn_0 : decode cX12_repeatIn 0 = .ok (.aload_n 0, 1) := by decide +kernel
theorem dX12_repeatIn_1 : decode cX12_repeatIn 1 = .ok (.iconst 0, 1) := by decide +kernel
theorem dX12_repeatIn_2 : decode cX12_repeatIn 2 = .ok (.putfield 75, 3) := by decide +kernel
theorem dX12_repeatIn_5 : decode cX12_repeatIn 5 = .ok (.aload_n 0, 1) := by decide +kernel
theorem dX12_repeatIn_6 : decode cX12_repeatIn 6 = .ok (.invokevirtual 417, 3) := by decide +kernel
theorem dX12_repeatIn_9 : decode cX12_repeatIn 9 = .ok (.aload_n 0, 1) := by decide +kernel
theorem dX12_repeatIn_10 : decode cX12_repeatIn 10 = .ok (.getfield 405, 3) := by decide +kernel
theorem dX12_repeatIn_13 : decode cX12_repeatIn 13 = .ok (.ireturn, 1) := by decide +kernel
theorem dX12_cycle_0 : decode cX12_cycle 0 = .ok (.aload_n 0, 1) := by decide +kernel
theorem dX12_cycle_1 : decode cX12_cycle 1 = .ok (.iconst 0, 1) := by decide +kernel
theorem dX12_cycle_2 : decode cX12_cycle 2 = .ok (.putfield 75, 3) := by decide +kernel
theorem dX12_cycle_5 : decode cX12_cycle 5 = .ok (.aload_n 0, 1) := by decide +kernel
theorem dX12_cycle_6 : decode cX12_cycle 6 = .ok (.invokevirtual 417, 3) := by decide +kernel
theorem dX12_cycle_9 : decode cX12_cycle 9 = .ok (.aload_n 0, 1) := by decide +kernel
theorem dX12_cycle_10 : decode cX12_cycle 10 = .ok (.getfield 405, 3) := by decide +kernel
theorem dX12_cycle_13 : decode cX12_cycle 13 = .ok (.iconst (-1), 1) := by decide +kernel
theorem dX12_cycle_14 : decode cX12_cycle 14 = .ok (.if_icmp .ne 7, 3) := by decide +kernel
theorem dX12_cycle_17 : decode cX12_cycle 17 = .ok (.iconst (-1), 1) := by decide +kernel
theorem dX12_cycle_18 : decode cX12_cycle 18 = .ok (.goto 12, 3) := by decide +kernel
theorem dX12_cycle_21 : decode cX12_cycle 21 = .ok (.aload_n 0, 1) := by decide +kernel
theorem dX12_cycle_22 : decode cX12_cycle 22 = .ok (.getfield 405, 3) := by decide +kernel
theorem dX12_cycle_25 : decode cX12_cycle 25 = .ok (.aload_n 0, 1) := by decide +kernel
theorem dX12_cycle_26 : decode cX12_cycle 26 = .ok (.getfield 408, 3) := by decide +kernel
theorem dX12_cycle_29 : decode cX12_cycle 29 = .ok (.isub, 1) := by decide +kernel
theorem dX12_cycle_30 : decode cX12_cycle 30 = .ok (.ireturn, 1) := by decide +kernel
theorem dX12_winsWith_0 : decode cX12_winsWith 0 = .ok (.aload_n 0, 1) := by decide +kernel
theorem dX12_winsWith_1 : decode cX12_winsWith 1 = .ok (.invokevirtual 374, 3) := by decide +kernel
theorem dX12_winsWith_4 : decode cX12_winsWith 4 = .ok (.aload_n 0, 1) := by decide +kernel
theorem dX12_winsWith_5 : decode cX12_winsWith 5 = .ok (.iload_n 1, 1) := by decide +kernel
theorem dX12_winsWith_6 : decode cX12_winsWith 6 = .ok (.iconst 1, 1) := by decide +kernel
theorem dX12_winsWith_7 : decode cX12_winsWith 7 = .ok (.iload_n 2, 1) := by decide +kernel
theorem dX12_winsWith_8 : decode cX12_winsWith 8 = .ok (.invokevirtual 201, 3) := by decide +kernel
theorem dX12_winsWith_11 : decode cX12_winsWith 11 = .ok (.aload_n 0, 1) := by decide +kernel
theorem dX12_winsWith_12 : decode cX12_winsWith 12 = .ok (.sipush 200, 3) := by decide +kernel
theorem dX12_winsWith_15 : decode cX12_winsWith 15 = .ok (.invokevirtual 377, 3) := by decide +kernel
theorem dX12_winsWith_18 : decode cX12_winsWith 18 = .ok (.istore_n 3, 1) := by decide +kernel
theorem dX12_winsWith_19 : decode cX12_winsWith 19 = .ok (.aload_n 0, 1) := by decide +kernel
theorem dX12_winsWith_20 : decode cX12_winsWith 20 = .ok (.aload_n 0, 1) := by decide +kernel
theorem dX12_winsWith_21 : decode cX12_winsWith 21 = .ok (.invokevirtual 342, 3) := by decide +kernel
theorem dX12_winsWith_24 : decode cX12_winsWith 24 = .ok (.invokevirtual 386, 3) := by decide +kernel
theorem dX12_winsWith_27 : decode cX12_winsWith 27 = .ok (.aload_n 0, 1) := by decide +kernel
theorem dX12_winsWith_28 : decode cX12_winsWith 28 = .ok (.iload_n 1, 1) := by decide +kernel
theorem dX12_winsWith_29 : decode cX12_winsWith 29 = .ok (.iconst 0, 1) := by decide +kernel
theorem dX12_winsWith_30 : decode cX12_winsWith 30 = .ok (.invokevirtual 192, 3) := by decide +kernel
theorem dX12_winsWith_33 : decode cX12_winsWith 33 = .ok (.if_icmp .ne 7, 3) := by decide +kernel
theorem dX12_winsWith_36 : decode cX12_winsWith 36 = .ok (.iconst 1, 1) := by decide +kernel
theorem dX12_winsWith_37 : decode cX12_winsWith 37 = .ok (.goto 4, 3) := by decide +kernel
theorem dX12_winsWith_40 : decode cX12_winsWith 40 = .ok (.iconst 0, 1) := by decide +kernel
theorem dX12_winsWith_41 : decode cX12_winsWith 41 = .ok (.ireturn, 1) := by decide +kernel
theorem dX12_leastSpeed_0 : decode cX12_leastSpeed 0 = .ok (.aload_n 0, 1) := by decide +kernel
theorem dX12_leastSpeed_1 : decode cX12_leastSpeed 1 = .ok (.aload_n 0, 1) := by decide +kernel
theorem dX12_leastSpeed_2 : decode cX12_leastSpeed 2 = .ok (.iload_n 1, 1) := by decide +kernel
theorem dX12_leastSpeed_3 : decode cX12_leastSpeed 3 = .ok (.invokevirtual 345, 3) := by decide +kernel
theorem dX12_leastSpeed_6 : decode cX12_leastSpeed 6 = .ok (.invokevirtual 85, 3) := by decide +kernel
theorem dX12_leastSpeed_9 : decode cX12_leastSpeed 9 = .ok (.ifCond .ne 5, 3) := by decide +kernel
theorem dX12_leastSpeed_12 : decode cX12_leastSpeed 12 = .ok (.iconst 0, 1) := by decide +kernel
theorem dX12_leastSpeed_13 : decode cX12_leastSpeed 13 = .ok (.ireturn, 1) := by decide +kernel
theorem dX12_leastSpeed_14 : decode cX12_leastSpeed 14 = .ok (.iconst 1, 1) := by decide +kernel
theorem dX12_leastSpeed_15 : decode cX12_leastSpeed 15 = .ok (.istore_n 2, 1) := by decide +kernel
theorem dX12_leastSpeed_16 : decode cX12_leastSpeed 16 = .ok (.iload_n 2, 1) := by decide +kernel
theorem dX12_leastSpeed_17 : decode cX12_leastSpeed 17 = .ok (.bipush 100, 2) := by decide +kernel
theorem dX12_leastSpeed_19 : decode cX12_leastSpeed 19 = .ok (.if_icmp .ge 20, 3) := by decide +kernel
theorem dX12_leastSpeed_22 : decode cX12_leastSpeed 22 = .ok (.aload_n 0, 1) := by decide +kernel
theorem dX12_leastSpeed_23 : decode cX12_leastSpeed 23 = .ok (.iload_n 1, 1) := by decide +kernel
theorem dX12_leastSpeed_24 : decode cX12_leastSpeed 24 = .ok (.iload_n 2, 1) := by decide +kernel
theorem dX12_leastSpeed_25 : decode cX12_leastSpeed 25 = .ok (.invokevirtual 420, 3) := by decide +kernel
theorem dX12_leastSpeed_28 : decode cX12_leastSpeed 28 = .ok (.ifCond .eq 5, 3) := by decide +kernel
theorem dX12_leastSpeed_31 : decode cX12_leastSpeed 31 = .ok (.iload_n 2, 1) := by decide +kernel
theorem dX12_leastSpeed_32 : decode cX12_leastSpeed 32 = .ok (.ireturn, 1) := by decide +kernel
theorem dX12_leastSpeed_33 : decode cX12_leastSpeed 33 = .ok (.iinc 2 1, 3) := by decide +kernel
theorem dX12_leastSpeed_36 : decode cX12_leastSpeed 36 = .ok (.goto (-20), 3) := by decide +kernel
theorem dX12_leastSpeed_39 : decode cX12_leastSpeed 39 = .ok (.iconst (-1), 1) := by decide +kernel
theorem dX12_leastSpeed_40 : decode cX12_leastSpeed 40 = .ok (.ireturn, 1) := by decide +kernel
theorem dX12_thenOn_0 : decode cX12_thenOn 0 = .ok (.aload_n 0, 1) := by decide +kernel
theorem dX12_thenOn_1 : decode cX12_thenOn 1 = .ok (.bipush 20, 2) := by decide +kernel
theorem dX12_thenOn_3 : decode cX12_thenOn 3 = .ok (.invokevirtual 377, 3) := by decide +kernel
theorem dX12_thenOn_6 : decode cX12_thenOn 6 = .ok (.istore_n 2, 1) := by decide +kernel
theorem dX12_thenOn_7 : decode cX12_thenOn 7 = .ok (.aload_n 0, 1) := by decide +kernel
theorem dX12_thenOn_8 : decode cX12_thenOn 8 = .ok (.aload_n 0, 1) := by decide +kernel
theorem dX12_thenOn_9 : decode cX12_thenOn 9 = .ok (.iload_n 1, 1) := by decide +kernel
theorem dX12_thenOn_10 : decode cX12_thenOn 10 = .ok (.invokevirtual 339, 3) := by decide +kernel
theorem dX12_thenOn_13 : decode cX12_thenOn 13 = .ok (.invokevirtual 386, 3) := by decide +kernel
theorem dX12_thenOn_16 : decode cX12_thenOn 16 = .ok (.ireturn, 1) := by decide +kernel
theorem dX12_byPush_0 : decode cX12_byPush 0 = .ok (.aload_n 0, 1) := by decide +kernel
theorem dX12_byPush_1 : decode cX12_byPush 1 = .ok (.invokevirtual 374, 3) := by decide +kernel
theorem dX12_byPush_4 : decode cX12_byPush 4 = .ok (.aload_n 0, 1) := by decide +kernel
theorem dX12_byPush_5 : decode cX12_byPush 5 = .ok (.iload_n 2, 1) := by decide +kernel
theorem dX12_byPush_6 : decode cX12_byPush 6 = .ok (.iload_n 3, 1) := by decide +kernel
theorem dX12_byPush_7 : decode cX12_byPush 7 = .ok (.invokevirtual 307, 3) := by decide +kernel
theorem dX12_byPush_10 : decode cX12_byPush 10 = .ok (.istore 4, 2) := by decide +kernel
theorem dX12_byPush_12 : decode cX12_byPush 12 = .ok (.aload_n 0, 1) := by decide +kernel
theorem dX12_byPush_13 : decode cX12_byPush 13 = .ok (.iload_n 1, 1) := by decide +kernel
theorem dX12_byPush_14 : decode cX12_byPush 14 = .ok (.invokevirtual 423, 3) := by decide +kernel
theorem dX12_byPush_17 : decode cX12_byPush 17 = .ok (.ireturn, 1) := by decide +kernel
theorem dX12_bestPush_0 : decode cX12_bestPush 0 = .ok (.aload_n 0, 1) := by decide +kernel
theorem dX12_bestPush_1 : decode cX12_bestPush 1 = .ok (.iload_n 1, 1) := by decide +kernel
theorem dX12_bestPush_2 : decode cX12_bestPush 2 = .ok (.i2l, 1) := by decide +kernel
theorem dX12_bestPush_3 : decode cX12_bestPush 3 = .ok (.lconst 0, 1) := by decide +kernel
theorem dX12_bestPush_4 : decode cX12_bestPush 4 = .ok (.lconst 1, 1) := by decide +kernel
theorem dX12_bestPush_5 : decode cX12_bestPush 5 = .ok (.invokestatic 92, 3) := by decide +kernel
theorem dX12_bestPush_8 : decode cX12_bestPush 8 = .ok (.ifCond .eq 19, 3) := by decide +kernel
theorem dX12_bestPush_11 : decode cX12_bestPush 11 = .ok (.iload_n 2, 1) := by decide +kernel
theorem dX12_bestPush_12 : decode cX12_bestPush 12 = .ok (.i2l, 1) := by decide +kernel
theorem dX12_bestPush_13 : decode cX12_bestPush 13 = .ok (.lconst 1, 1) := by decide +kernel
theorem dX12_bestPush_14 : decode cX12_bestPush 14 = .ok (.ldc2_w 426, 3) := by decide +kernel
theorem dX12_bestPush_17 : decode cX12_bestPush 17 = .ok (.invokestatic 92, 3) := by decide +kernel
theorem dX12_bestPush_20 : decode cX12_bestPush 20 = .ok (.ifCond .eq 7, 3) := by decide +kernel
theorem dX12_bestPush_23 : decode cX12_bestPush 23 = .ok (.iconst 1, 1) := by decide +kernel
theorem dX12_bestPush_24 : decode cX12_bestPush 24 = .ok (.goto 4, 3) := by decide +kernel
theorem dX12_bestPush_27 : decode cX12_bestPush 27 = .ok (.iconst 0, 1) := by decide +kernel
theorem dX12_bestPush_28 : decode cX12_bestPush 28 = .ok (.invokevirtual 85, 3) := by decide +kernel
theorem dX12_bestPush_31 : decode cX12_bestPush 31 = .ok (.ifCond .ne 5, 3) := by decide +kernel
theorem dX12_bestPush_34 : decode cX12_bestPush 34 = .ok (.iconst 0, 1) := by decide +kernel
theorem dX12_bestPush_35 : decode cX12_bestPush 35 = .ok (.ireturn, 1) := by decide +kernel
theorem dX12_bestPush_36 : decode cX12_bestPush 36 = .ok (.iconst (-1), 1) := by decide +kernel
theorem dX12_bestPush_37 : decode cX12_bestPush 37 = .ok (.istore_n 3, 1) := by decide +kernel
theorem dX12_bestPush_38 : decode cX12_bestPush 38 = .ok (.iconst 0, 1) := by decide +kernel
theorem dX12_bestPush_39 : decode cX12_bestPush 39 = .ok (.istore 4, 2) := by decide +kernel
theorem dX12_bestPush_41 : decode cX12_bestPush 41 = .ok (.iconst 0, 1) := by decide +kernel
theorem dX12_bestPush_42 : decode cX12_bestPush 42 = .ok (.istore 5, 2) := by decide +kernel
theorem dX12_bestPush_44 : decode cX12_bestPush 44 = .ok (.iload 5, 2) := by decide +kernel
theorem dX12_bestPush_46 : decode cX12_bestPush 46 = .ok (.aload_n 0, 1) := by decide +kernel
theorem dX12_bestPush_47 : decode cX12_bestPush 47 = .ok (.getfield 20, 3) := by decide +kernel
theorem dX12_bestPush_50 : decode cX12_bestPush 50 = .ok (.iconst 0, 1) := by decide +kernel
theorem dX12_bestPush_51 : decode cX12_bestPush 51 = .ok (.iaload, 1) := by decide +kernel
theorem dX12_bestPush_52 : decode cX12_bestPush 52 = .ok (.if_icmp .ge 64, 3) := by decide +kernel
theorem dX12_bestPush_55 : decode cX12_bestPush 55 = .ok (.aload_n 0, 1) := by decide +kernel
theorem dX12_bestPush_56 : decode cX12_bestPush 56 = .ok (.iload 5, 2) := by decide +kernel
theorem dX12_bestPush_58 : decode cX12_bestPush 58 = .ok (.invokevirtual 263, 3) := by decide +kernel
theorem dX12_bestPush_61 : decode cX12_bestPush 61 = .ok (.ifCond .eq 49, 3) := by decide +kernel
theorem dX12_bestPush_64 : decode cX12_bestPush 64 = .ok (.aload_n 0, 1) := by decide +kernel
theorem dX12_bestPush_65 : decode cX12_bestPush 65 = .ok (.iload 5, 2) := by decide +kernel
theorem dX12_bestPush_67 : decode cX12_bestPush 67 = .ok (.iconst 0, 1) := by decide +kernel
theorem dX12_bestPush_68 : decode cX12_bestPush 68 = .ok (.invokevirtual 192, 3) := by decide +kernel
theorem dX12_bestPush_71 : decode cX12_bestPush 71 = .ok (.iload_n 1, 1) := by decide +kernel
theorem dX12_bestPush_72 : decode cX12_bestPush 72 = .ok (.if_icmp .ne 6, 3) := by decide +kernel
theorem dX12_bestPush_75 : decode cX12_bestPush 75 = .ok (.goto 35, 3) := by decide +kernel
theorem dX12_bestPush_78 : decode cX12_bestPush 78 = .ok (.aload_n 0, 1) := by decide +kernel
theorem dX12_bestPush_79 : decode cX12_bestPush 79 = .ok (.iload_n 1, 1) := by decide +kernel
theorem dX12_bestPush_80 : decode cX12_bestPush 80 = .ok (.iload 5, 2) := by decide +kernel
theorem dX12_bestPush_82 : decode cX12_bestPush 82 = .ok (.iload_n 2, 1) := by decide +kernel
theorem dX12_bestPush_83 : decode cX12_bestPush 83 = .ok (.invokevirtual 428, 3) := by decide +kernel
theorem dX12_bestPush_86 : decode cX12_bestPush 86 = .ok (.istore 6, 2) := by decide +kernel
theorem dX12_bestPush_88 : decode cX12_bestPush 88 = .ok (.iload_n 3, 1) := by decide +kernel
theorem dX12_bestPush_89 : decode cX12_bestPush 89 = .ok (.iconst (-1), 1) := by decide +kernel
theorem dX12_bestPush_90 : decode cX12_bestPush 90 = .ok (.if_icmp .eq 13, 3) := by decide +kernel
theorem dX12_bestPush_93 : decode cX12_bestPush 93 = .ok (.iload 6, 2) := by decide +kernel
theorem dX12_bestPush_95 : decode cX12_bestPush 95 = .ok (.iload 4, 2) := by decide +kernel
theorem dX12_bestPush_97 : decode cX12_bestPush 97 = .ok (.if_icmp .gt 6, 3) := by decide +kernel
theorem dX12_bestPush_100 : decode cX12_bestPush 100 = .ok (.goto 10, 3) := by decide +kernel
theorem dX12_bestPush_103 : decode cX12_bestPush 103 = .ok (.iload 5, 2) := by decide +kernel
theorem dX12_bestPush_105 : decode cX12_bestPush 105 = .ok (.istore_n 3, 1) := by decide +kernel
theorem dX12_bestPush_106 : decode cX12_bestPush 106 = .ok (.iload 6, 2) := by decide +kernel
theorem dX12_bestPush_108 : decode cX12_bestPush 108 = .ok (.istore 4, 2) := by decide +kernel
theorem dX12_bestPush_110 : decode cX12_bestPush 110 = .ok (.iinc 5 1, 3) := by decide +kernel
theorem dX12_bestPush_113 : decode cX12_bestPush 113 = .ok (.goto (-69), 3) := by decide +kernel
theorem dX12_bestPush_116 : decode cX12_bestPush 116 = .ok (.iload_n 3, 1) := by decide +kernel
theorem dX12_bestPush_117 : decode cX12_bestPush 117 = .ok (.ireturn, 1) := by decide +kernel
theorem dX12_bySwap_0 : decode cX12_bySwap 0 = .ok (.aload_n 0, 1) := by decide +kernel
theorem dX12_bySwap_1 : decode cX12_bySwap 1 = .ok (.invokevirtual 374, 3) := by decide +kernel
theorem dX12_bySwap_4 : decode cX12_bySwap 4 = .ok (.aload_n 0, 1) := by decide +kernel
theorem dX12_bySwap_5 : decode cX12_bySwap 5 = .ok (.iload_n 1, 1) := by decide +kernel
theorem dX12_bySwap_6 : decode cX12_bySwap 6 = .ok (.iconst 4, 1) := by decide +kernel
theorem dX12_bySwap_7 : decode cX12_bySwap 7 = .ok (.invokevirtual 192, 3) := by decide +kernel
theorem dX12_bySwap_10 : decode cX12_bySwap 10 = .ok (.istore_n 3, 1) := by decide +kernel
theorem dX12_bySwap_11 : decode cX12_bySwap 11 = .ok (.aload_n 0, 1) := by decide +kernel
theorem dX12_bySwap_12 : decode cX12_bySwap 12 = .ok (.iload_n 1, 1) := by decide +kernel
theorem dX12_bySwap_13 : decode cX12_bySwap 13 = .ok (.iconst 4, 1) := by decide +kernel
theorem dX12_bySwap_14 : decode cX12_bySwap 14 = .ok (.aload_n 0, 1) := by decide +kernel
theorem dX12_bySwap_15 : decode cX12_bySwap 15 = .ok (.iload_n 2, 1) := by decide +kernel
theorem dX12_bySwap_16 : decode cX12_bySwap 16 = .ok (.iconst 4, 1) := by decide +kernel
theorem dX12_bySwap_17 : decode cX12_bySwap 17 = .ok (.invokevirtual 192, 3) := by decide +kernel
theorem dX12_bySwap_20 : decode cX12_bySwap 20 = .ok (.invokevirtual 201, 3) := by decide +kernel
theorem dX12_bySwap_23 : decode cX12_bySwap 23 = .ok (.aload_n 0, 1) := by decide +kernel
theorem dX12_bySwap_24 : decode cX12_bySwap 24 = .ok (.iload_n 2, 1) := by decide +kernel
theorem dX12_bySwap_25 : decode cX12_bySwap 25 = .ok (.iconst 4, 1) := by decide +kernel
theorem dX12_bySwap_26 : decode cX12_bySwap 26 = .ok (.iload_n 3, 1) := by decide +kernel
theorem dX12_bySwap_27 : decode cX12_bySwap 27 = .ok (.invokevirtual 201, 3) := by decide +kernel
theorem dX12_bySwap_30 : decode cX12_bySwap 30 = .ok (.aload_n 0, 1) := by decide +kernel
theorem dX12_bySwap_31 : decode cX12_bySwap 31 = .ok (.aload_n 0, 1) := by decide +kernel
theorem dX12_bySwap_32 : decode cX12_bySwap 32 = .ok (.iload_n 1, 1) := by decide +kernel
theorem dX12_bySwap_33 : decode cX12_bySwap 33 = .ok (.iconst 0, 1) := by decide +kernel
theorem dX12_bySwap_34 : decode cX12_bySwap 34 = .ok (.invokevirtual 192, 3) := by decide +kernel
theorem dX12_bySwap_37 : decode cX12_bySwap 37 = .ok (.invokevirtual 423, 3) := by decide +kernel
theorem dX12_bySwap_40 : decode cX12_bySwap 40 = .ok (.ireturn, 1) := by decide +kernel
theorem dX12_bestSwap_0 : decode cX12_bestSwap 0 = .ok (.aload_n 0, 1) := by decide +kernel
theorem dX12_bestSwap_1 : decode cX12_bestSwap 1 = .ok (.aload_n 0, 1) := by decide +kernel
theorem dX12_bestSwap_2 : decode cX12_bestSwap 2 = .ok (.iload_n 1, 1) := by decide +kernel
theorem dX12_bestSwap_3 : decode cX12_bestSwap 3 = .ok (.invokevirtual 345, 3) := by decide +kernel
theorem dX12_bestSwap_6 : decode cX12_bestSwap 6 = .ok (.invokevirtual 85, 3) := by decide +kernel
theorem dX12_bestSwap_9 : decode cX12_bestSwap 9 = .ok (.ifCond .eq 11, 3) := by decide +kernel
theorem dX12_bestSwap_12 : decode cX12_bestSwap 12 = .ok (.aload_n 0, 1) := by decide +kernel
theorem dX12_bestSwap_13 : decode cX12_bestSwap 13 = .ok (.iload_n 1, 1) := by decide +kernel
theorem dX12_bestSwap_14 : decode cX12_bestSwap 14 = .ok (.invokevirtual 263, 3) := by decide +kernel
theorem dX12_bestSwap_17 : decode cX12_bestSwap 17 = .ok (.ifCond .ne 16, 3) := by decide +kernel
theorem dX12_bestSwap_20 : decode cX12_bestSwap 20 = .ok (.aload_n 0, 1) := by decide +kernel
theorem dX12_bestSwap_21 : decode cX12_bestSwap 21 = .ok (.getfield 75, 3) := by decide +kernel
theorem dX12_bestSwap_24 : decode cX12_bestSwap 24 = .ok (.ifCond .le 7, 3) := by decide +kernel
theorem dX12_bestSwap_27 : decode cX12_bestSwap 27 = .ok (.iconst 0, 1) := by decide +kernel
theorem dX12_bestSwap_28 : decode cX12_bestSwap 28 = .ok (.goto 4, 3) := by decide +kernel
theorem dX12_bestSwap_31 : decode cX12_bestSwap 31 = .ok (.iconst (-1), 1) := by decide +kernel
theorem dX12_bestSwap_32 : decode cX12_bestSwap 32 = .ok (.ireturn, 1) := by decide +kernel
theorem dX12_bestSwap_33 : decode cX12_bestSwap 33 = .ok (.iconst (-1), 1) := by decide +kernel
theorem dX12_bestSwap_34 : decode cX12_bestSwap 34 = .ok (.istore_n 2, 1) := by decide +kernel
theorem dX12_bestSwap_35 : decode cX12_bestSwap 35 = .ok (.aload_n 0, 1) := by decide +kernel
theorem dX12_bestSwap_36 : decode cX12_bestSwap 36 = .ok (.iload_n 1, 1) := by decide +kernel
theorem dX12_bestSwap_37 : decode cX12_bestSwap 37 = .ok (.iload_n 1, 1) := by decide +kernel
theorem dX12_bestSwap_38 : decode cX12_bestSwap 38 = .ok (.invokevirtual 431, 3) := by decide +kernel
theorem dX12_bestSwap_41 : decode cX12_bestSwap 41 = .ok (.istore_n 3, 1) := by decide +kernel
theorem dX12_bestSwap_42 : decode cX12_bestSwap 42 = .ok (.iconst 0, 1) := by decide +kernel
theorem dX12_bestSwap_43 : decode cX12_bestSwap 43 = .ok (.istore 4, 2) := by decide +kernel
theorem dX12_bestSwap_45 : decode cX12_bestSwap 45 = .ok (.iload 4, 2) := by decide +kernel
theorem dX12_bestSwap_47 : decode cX12_bestSwap 47 = .ok (.aload_n 0, 1) := by decide +kernel
theorem dX12_bestSwap_48 : decode cX12_bestSwap 48 = .ok (.getfield 20, 3) := by decide +kernel
theorem dX12_bestSwap_51 : decode cX12_bestSwap 51 = .ok (.iconst 0, 1) := by decide +kernel
theorem dX12_bestSwap_52 : decode cX12_bestSwap 52 = .ok (.iaload, 1) := by decide +kernel
theorem dX12_bestSwap_53 : decode cX12_bestSwap 53 = .ok (.if_icmp .ge 67, 3) := by decide +kernel
theorem dX12_bestSwap_56 : decode cX12_bestSwap 56 = .ok (.iload 4, 2) := by decide +kernel
theorem dX12_bestSwap_58 : decode cX12_bestSwap 58 = .ok (.iload_n 1, 1) := by decide +kernel
theorem dX12_bestSwap_59 : decode cX12_bestSwap 59 = .ok (.if_icmp .eq 55, 3) := by decide +kernel
theorem dX12_bestSwap_62 : decode cX12_bestSwap 62 = .ok (.aload_n 0, 1) := by decide +kernel
theorem dX12_bestSwap_63 : decode cX12_bestSwap 63 = .ok (.iload 4, 2) := by decide +kernel
theorem dX12_bestSwap_65 : decode cX12_bestSwap 65 = .ok (.invokevirtual 263, 3) := by decide +kernel
theorem dX12_bestSwap_68 : decode cX12_bestSwap 68 = .ok (.ifCond .eq 46, 3) := by decide +kernel
theorem dX12_bestSwap_71 : decode cX12_bestSwap 71 = .ok (.aload_n 0, 1) := by decide +kernel
theorem dX12_bestSwap_72 : decode cX12_bestSwap 72 = .ok (.iload 4, 2) := by decide +kernel
theorem dX12_bestSwap_74 : decode cX12_bestSwap 74 = .ok (.iconst 0, 1) := by decide +kernel
theorem dX12_bestSwap_75 : decode cX12_bestSwap 75 = .ok (.invokevirtual 192, 3) := by decide +kernel
theorem dX12_bestSwap_78 : decode cX12_bestSwap 78 = .ok (.aload_n 0, 1) := by decide +kernel
theorem dX12_bestSwap_79 : decode cX12_bestSwap 79 = .ok (.iload_n 1, 1) := by decide +kernel
theorem dX12_bestSwap_80 : decode cX12_bestSwap 80 = .ok (.iconst 0, 1) := by decide +kernel
theorem dX12_bestSwap_81 : decode cX12_bestSwap 81 = .ok (.invokevirtual 192, 3) := by decide +kernel
theorem dX12_bestSwap_84 : decode cX12_bestSwap 84 = .ok (.if_icmp .eq 6, 3) := by decide +kernel
theorem dX12_bestSwap_87 : decode cX12_bestSwap 87 = .ok (.goto 27, 3) := by decide +kernel
theorem dX12_bestSwap_90 : decode cX12_bestSwap 90 = .ok (.aload_n 0, 1) := by decide +kernel
theorem dX12_bestSwap_91 : decode cX12_bestSwap 91 = .ok (.iload_n 1, 1) := by decide +kernel
theorem dX12_bestSwap_92 : decode cX12_bestSwap 92 = .ok (.iload 4, 2) := by decide +kernel
theorem dX12_bestSwap_94 : decode cX12_bestSwap 94 = .ok (.invokevirtual 431, 3) := by decide +kernel
theorem dX12_bestSwap_97 : decode cX12_bestSwap 97 = .ok (.istore 5, 2) := by decide +kernel
theorem dX12_bestSwap_99 : decode cX12_bestSwap 99 = .ok (.iload 5, 2) := by decide +kernel
theorem dX12_bestSwap_101 : decode cX12_bestSwap 101 = .ok (.iload_n 3, 1) := by decide +kernel
theorem dX12_bestSwap_102 : decode cX12_bestSwap 102 = .ok (.if_icmp .gt 6, 3) := by decide +kernel
theorem dX12_bestSwap_105 : decode cX12_bestSwap 105 = .ok (.goto 9, 3) := by decide +kernel
theorem dX12_bestSwap_108 : decode cX12_bestSwap 108 = .ok (.iload 4, 2) := by decide +kernel
theorem dX12_bestSwap_110 : decode cX12_bestSwap 110 = .ok (.istore_n 2, 1) := by decide +kernel
theorem dX12_bestSwap_111 : decode cX12_bestSwap 111 = .ok (.iload 5, 2) := by decide +kernel
theorem dX12_bestSwap_113 : decode cX12_bestSwap 113 = .ok (.istore_n 3, 1) := by decide +kernel
theorem dX12_bestSwap_114 : decode cX12_bestSwap 114 = .ok (.iinc 4 1, 3) := by decide +kernel
theorem dX12_bestSwap_117 : decode cX12_bestSwap 117 = .ok (.goto (-72), 3) := by decide +kernel
theorem dX12_bestSwap_120 : decode cX12_bestSwap 120 = .ok (.iload_n 2, 1) := by decide +kernel
theorem dX12_bestSwap_121 : decode cX12_bestSwap 121 = .ok (.ireturn, 1) := by decide +kernel
theorem dX12_byPlace_0 : decode cX12_byPlace 0 = .ok (.aload_n 0, 1) := by decide +kernel
theorem dX12_byPlace_1 : decode cX12_byPlace 1 = .ok (.invokevirtual 374, 3) := by decide +kernel
theorem dX12_byPlace_4 : decode cX12_byPlace 4 = .ok (.aload_n 0, 1) := by decide +kernel
theorem dX12_byPlace_5 : decode cX12_byPlace 5 = .ok (.iload_n 1, 1) := by decide +kernel
theorem dX12_byPlace_6 : decode cX12_byPlace 6 = .ok (.bipush 7, 2) := by decide +kernel
theorem dX12_byPlace_8 : decode cX12_byPlace 8 = .ok (.iload_n 2, 1) := by decide +kernel
theorem dX12_byPlace_9 : decode cX12_byPlace 9 = .ok (.invokevirtual 201, 3) := by decide +kernel
theorem dX12_byPlace_12 : decode cX12_byPlace 12 = .ok (.aload_n 0, 1) := by decide +kernel
theorem dX12_byPlace_13 : decode cX12_byPlace 13 = .ok (.aload_n 0, 1) := by decide +kernel
theorem dX12_byPlace_14 : decode cX12_byPlace 14 = .ok (.iload_n 1, 1) := by decide +kernel
theorem dX12_byPlace_15 : decode cX12_byPlace 15 = .ok (.iconst 0, 1) := by decide +kernel
theorem dX12_byPlace_16 : decode cX12_byPlace 16 = .ok (.invokevirtual 192, 3) := by decide +kernel
theorem dX12_byPlace_19 : decode cX12_byPlace 19 = .ok (.invokevirtual 423, 3) := by decide +kernel
theorem dX12_byPlace_22 : decode cX12_byPlace 22 = .ok (.ireturn, 1) := by decide +kernel
theorem dX12_bestPlace_0 : decode cX12_bestPlace 0 = .ok (.aload_n 0, 1) := by decide +kernel
theorem dX12_bestPlace_1 : decode cX12_bestPlace 1 = .ok (.aload_n 0, 1) := by decide +kernel
theorem dX12_bestPlace_2 : decode cX12_bestPlace 2 = .ok (.iload_n 1, 1) := by decide +kernel
theorem dX12_bestPlace_3 : decode cX12_bestPlace 3 = .ok (.invokevirtual 345, 3) := by decide +kernel
theorem dX12_bestPlace_6 : decode cX12_bestPlace 6 = .ok (.invokevirtual 85, 3) := by decide +kernel
theorem dX12_bestPlace_9 : decode cX12_bestPlace 9 = .ok (.ifCond .ne 5, 3) := by decide +kernel
theorem dX12_bestPlace_12 : decode cX12_bestPlace 12 = .ok (.iconst 0, 1) := by decide +kernel
theorem dX12_bestPlace_13 : decode cX12_bestPlace 13 = .ok (.ireturn, 1) := by decide +kernel
theorem dX12_bestPlace_14 : decode cX12_bestPlace 14 = .ok (.iconst 0, 1) := by decide +kernel
theorem dX12_bestPlace_15 : decode cX12_bestPlace 15 = .ok (.istore_n 2, 1) := by decide +kernel
theorem dX12_bestPlace_16 : decode cX12_bestPlace 16 = .ok (.aload_n 0, 1) := by decide +kernel
theorem dX12_bestPlace_17 : decode cX12_bestPlace 17 = .ok (.iload_n 1, 1) := by decide +kernel
theorem dX12_bestPlace_18 : decode cX12_bestPlace 18 = .ok (.iconst 0, 1) := by decide +kernel
theorem dX12_bestPlace_19 : decode cX12_bestPlace 19 = .ok (.invokevirtual 434, 3) := by decide +kernel
theorem dX12_bestPlace_22 : decode cX12_bestPlace 22 = .ok (.istore_n 3, 1) := by decide +kernel
theorem dX12_bestPlace_23 : decode cX12_bestPlace 23 = .ok (.iconst 1, 1) := by decide +kernel
theorem dX12_bestPlace_24 : decode cX12_bestPlace 24 = .ok (.istore 4, 2) := by decide +kernel
theorem dX12_bestPlace_26 : decode cX12_bestPlace 26 = .ok (.iload 4, 2) := by decide +kernel
theorem dX12_bestPlace_28 : decode cX12_bestPlace 28 = .ok (.aload_n 0, 1) := by decide +kernel
theorem dX12_bestPlace_29 : decode cX12_bestPlace 29 = .ok (.iload_n 1, 1) := by decide +kernel
theorem dX12_bestPlace_30 : decode cX12_bestPlace 30 = .ok (.bipush 8, 2) := by decide +kernel
theorem dX12_bestPlace_32 : decode cX12_bestPlace 32 = .ok (.invokevirtual 192, 3) := by decide +kernel
theorem dX12_bestPlace_35 : decode cX12_bestPlace 35 = .ok (.if_icmp .ge 33, 3) := by decide +kernel
theorem dX12_bestPlace_38 : decode cX12_bestPlace 38 = .ok (.aload_n 0, 1) := by decide +kernel
theorem dX12_bestPlace_39 : decode cX12_bestPlace 39 = .ok (.iload_n 1, 1) := by decide +kernel
theorem dX12_bestPlace_40 : decode cX12_bestPlace 40 = .ok (.iload 4, 2) := by decide +kernel
theorem dX12_bestPlace_42 : decode cX12_bestPlace 42 = .ok (.invokevirtual 434, 3) := by decide +kernel
theorem dX12_bestPlace_45 : decode cX12_bestPlace 45 = .ok (.istore 5, 2) := by decide +kernel
theorem dX12_bestPlace_47 : decode cX12_bestPlace 47 = .ok (.iload 5, 2) := by decide +kernel
theorem dX12_bestPlace_49 : decode cX12_bestPlace 49 = .ok (.iload_n 3, 1) := by decide +kernel
theorem dX12_bestPlace_50 : decode cX12_bestPlace 50 = .ok (.if_icmp .gt 6, 3) := by decide +kernel
theorem dX12_bestPlace_53 : decode cX12_bestPlace 53 = .ok (.goto 9, 3) := by decide +kernel
theorem dX12_bestPlace_56 : decode cX12_bestPlace 56 = .ok (.iload 4, 2) := by decide +kernel
theorem dX12_bestPlace_58 : decode cX12_bestPlace 58 = .ok (.istore_n 2, 1) := by decide +kernel
theorem dX12_bestPlace_59 : decode cX12_bestPlace 59 = .ok (.iload 5, 2) := by decide +kernel
theorem dX12_bestPlace_61 : decode cX12_bestPlace 61 = .ok (.istore_n 3, 1) := by decide +kernel
theorem dX12_bestPlace_62 : decode cX12_bestPlace 62 = .ok (.iinc 4 1, 3) := by decide +kernel
theorem dX12_bestPlace_65 : decode cX12_bestPlace 65 = .ok (.goto (-39), 3) := by decide +kernel
theorem dX12_bestPlace_68 : decode cX12_bestPlace 68 = .ok (.iload_n 2, 1) := by decide +kernel
theorem dX12_bestPlace_69 : decode cX12_bestPlace 69 = .ok (.ireturn, 1) := by decide +kernel
theorem dX12_goesAll_0 : decode cX12_goesAll 0 = .ok (.aload_n 0, 1) := by decide +kernel
theorem dX12_goesAll_1 : decode cX12_goesAll 1 = .ok (.iload_n 1, 1) := by decide +kernel
theorem dX12_goesAll_2 : decode cX12_goesAll 2 = .ok (.iload_n 2, 1) := by decide +kernel
theorem dX12_goesAll_3 : decode cX12_goesAll 3 = .ok (.invokevirtual 350, 3) := by decide +kernel
theorem dX12_goesAll_6 : decode cX12_goesAll 6 = .ok (.ifCond .eq 12, 3) := by decide +kernel
theorem dX12_goesAll_9 : decode cX12_goesAll 9 = .ok (.iload_n 3, 1) := by decide +kernel
theorem dX12_goesAll_10 : decode cX12_goesAll 10 = .ok (.ifCond .ne 8, 3) := by decide +kernel
theorem dX12_goesAll_13 : decode cX12_goesAll 13 = .ok (.aload_n 0, 1) := by decide +kernel
theorem dX12_goesAll_14 : decode cX12_goesAll 14 = .ok (.iconst 3, 1) := by decide +kernel
theorem dX12_goesAll_15 : decode cX12_goesAll 15 = .ok (.putfield 75, 3) := by decide +kernel
theorem dX12_goesAll_18 : decode cX12_goesAll 18 = .ok (.aload_n 0, 1) := by decide +kernel
theorem dX12_goesAll_19 : decode cX12_goesAll 19 = .ok (.getfield 75, 3) := by decide +kernel
theorem dX12_goesAll_22 : decode cX12_goesAll 22 = .ok (.ifCond .ne 7, 3) := by decide +kernel
theorem dX12_goesAll_25 : decode cX12_goesAll 25 = .ok (.iconst 1, 1) := by decide +kernel
theorem dX12_goesAll_26 : decode cX12_goesAll 26 = .ok (.goto 4, 3) := by decide +kernel
theorem dX12_goesAll_29 : decode cX12_goesAll 29 = .ok (.iconst 0, 1) := by decide +kernel
theorem dX12_goesAll_30 : decode cX12_goesAll 30 = .ok (.ireturn, 1) := by decide +kernel
theorem dX12_isBy_0 : decode cX12_isBy 0 = .ok (.iload_n 0, 1) := by decide +kernel
theorem dX12_isBy_1 : decode cX12_isBy 1 = .ok (.i2l, 1) := by decide +kernel
theorem dX12_isBy_2 : decode cX12_isBy 2 = .ok (.lconst 1, 1) := by decide +kernel
theorem dX12_isBy_3 : decode cX12_isBy 3 = .ok (.ldc2_w 426, 3) := by decide +kernel
theorem dX12_isBy_6 : decode cX12_isBy 6 = .ok (.invokestatic 92, 3) := by decide +kernel
theorem dX12_isBy_9 : decode cX12_isBy 9 = .ok (.ireturn, 1) := by decide +kernel
theorem dX12_mayPlay_0 : decode cX12_mayPlay 0 = .ok (.aload_n 0, 1) := by decide +kernel
theorem dX12_mayPlay_1 : decode cX12_mayPlay 1 = .ok (.invokevirtual 269, 3) := by decide +kernel
theorem dX12_mayPlay_4 : decode cX12_mayPlay 4 = .ok (.ifCond .ne 21, 3) := by decide +kernel
theorem dX12_mayPlay_7 : decode cX12_mayPlay 7 = .ok (.aload_n 0, 1) := by decide +kernel
theorem dX12_mayPlay_8 : decode cX12_mayPlay 8 = .ok (.getfield 20, 3) := by decide +kernel
theorem dX12_mayPlay_11 : decode cX12_mayPlay 11 = .ok (.iconst 3, 1) := by decide +kernel
theorem dX12_mayPlay_12 : decode cX12_mayPlay 12 = .ok (.iaload, 1) := by decide +kernel
theorem dX12_mayPlay_13 : decode cX12_mayPlay 13 = .ok (.iload_n 1, 1) := by decide +kernel
theorem dX12_mayPlay_14 : decode cX12_mayPlay 14 = .ok (.iadd, 1) := by decide +kernel
theorem dX12_mayPlay_15 : decode cX12_mayPlay 15 = .ok (.sipush 9999, 3) := by decide +kernel
theorem dX12_mayPlay_18 : decode cX12_mayPlay 18 = .ok (.if_icmp .gt 7, 3) := by decide +kernel
theorem dX12_mayPlay_21 : decode cX12_mayPlay 21 = .ok (.iconst 1, 1) := by decide +kernel
theorem dX12_mayPlay_22 : decode cX12_mayPlay 22 = .ok (.goto 4, 3) := by decide +kernel
theorem dX12_mayPlay_25 : decode cX12_mayPlay 25 = .ok (.iconst 0, 1) := by decide +kernel
theorem dX12_mayPlay_26 : decode cX12_mayPlay 26 = .ok (.ireturn, 1) := by decide +kernel
theorem dX12_play_0 : decode cX12_play 0 = .ok (.iload_n 1, 1) := by decide +kernel
theorem dX12_play_1 : decode cX12_play 1 = .ok (.i2l, 1) := by decide +kernel
theorem dX12_play_2 : decode cX12_play 2 = .ok (.lconst 1, 1) := by decide +kernel
theorem dX12_play_3 : decode cX12_play 3 = .ok (.ldc2_w 372, 3) := by decide +kernel
theorem dX12_play_6 : decode cX12_play 6 = .ok (.invokestatic 92, 3) := by decide +kernel
theorem dX12_play_9 : decode cX12_play 9 = .ok (.istore_n 2, 1) := by decide +kernel
theorem dX12_play_10 : decode cX12_play 10 = .ok (.aload_n 0, 1) := by decide +kernel
theorem dX12_play_11 : decode cX12_play 11 = .ok (.iload_n 2, 1) := by decide +kernel
theorem dX12_play_12 : decode cX12_play 12 = .ok (.iload_n 2, 1) := by decide +kernel
theorem dX12_play_13 : decode cX12_play 13 = .ok (.ifCond .eq 15, 3) := by decide +kernel
theorem dX12_play_16 : decode cX12_play 16 = .ok (.aload_n 0, 1) := by decide +kernel
theorem dX12_play_17 : decode cX12_play 17 = .ok (.iload_n 1, 1) := by decide +kernel
theorem dX12_play_18 : decode cX12_play 18 = .ok (.invokevirtual 437, 3) := by decide +kernel
theorem dX12_play_21 : decode cX12_play 21 = .ok (.ifCond .eq 7, 3) := by decide +kernel
theorem dX12_play_24 : decode cX12_play 24 = .ok (.iconst 1, 1) := by decide +kernel
theorem dX12_play_25 : decode cX12_play 25 = .ok (.goto 4, 3) := by decide +kernel
theorem dX12_play_28 : decode cX12_play 28 = .ok (.iconst 0, 1) := by decide +kernel
theorem dX12_play_29 : decode cX12_play 29 = .ok (.invokevirtual 350, 3) := by decide +kernel
theorem dX12_play_32 : decode cX12_play 32 = .ok (.ifCond .ne 5, 3) := by decide +kernel
theorem dX12_play_35 : decode cX12_play 35 = .ok (.iconst 0, 1) := by decide +kernel
theorem dX12_play_36 : decode cX12_play 36 = .ok (.ireturn, 1) := by decide +kernel
theorem dX12_play_37 : decode cX12_play 37 = .ok (.aload_n 0, 1) := by decide +kernel
theorem dX12_play_38 : decode cX12_play 38 = .ok (.invokevirtual 254, 3) := by decide +kernel
theorem dX12_play_41 : decode cX12_play 41 = .ok (.aload_n 0, 1) := by decide +kernel
theorem dX12_play_42 : decode cX12_play 42 = .ok (.aload_n 0, 1) := by decide +kernel
theorem dX12_play_43 : decode cX12_play 43 = .ok (.iload_n 1, 1) := by decide +kernel
theorem dX12_play_44 : decode cX12_play 44 = .ok (.invokevirtual 377, 3) := by decide +kernel
theorem dX12_play_47 : decode cX12_play 47 = .ok (.invokevirtual 440, 3) := by decide +kernel
theorem dX12_play_50 : decode cX12_play 50 = .ok (.ireturn, 1) := by decide +kernel
theorem dX12_push_0 : decode cX12_push 0 = .ok (.aload_n 0, 1) := by decide +kernel
theorem dX12_push_1 : decode cX12_push 1 = .ok (.iload_n 1, 1) := by decide +kernel
theorem dX12_push_2 : decode cX12_push 2 = .ok (.invokevirtual 345, 3) := by decide +kernel
theorem dX12_push_5 : decode cX12_push 5 = .ok (.istore_n 3, 1) := by decide +kernel
theorem dX12_push_6 : decode cX12_push 6 = .ok (.aload_n 0, 1) := by decide +kernel
theorem dX12_push_7 : decode cX12_push 7 = .ok (.iload_n 3, 1) := by decide +kernel
theorem dX12_push_8 : decode cX12_push 8 = .ok (.iload_n 2, 1) := by decide +kernel
theorem dX12_push_9 : decode cX12_push 9 = .ok (.invokestatic 443, 3) := by decide +kernel
theorem dX12_push_12 : decode cX12_push 12 = .ok (.iload_n 3, 1) := by decide +kernel
theorem dX12_push_13 : decode cX12_push 13 = .ok (.ifCond .eq 15, 3) := by decide +kernel
theorem dX12_push_16 : decode cX12_push 16 = .ok (.aload_n 0, 1) := by decide +kernel
theorem dX12_push_17 : decode cX12_push 17 = .ok (.iload_n 1, 1) := by decide +kernel
theorem dX12_push_18 : decode cX12_push 18 = .ok (.invokevirtual 263, 3) := by decide +kernel
theorem dX12_push_21 : decode cX12_push 21 = .ok (.ifCond .eq 7, 3) := by decide +kernel
theorem dX12_push_24 : decode cX12_push 24 = .ok (.iconst 1, 1) := by decide +kernel
theorem dX12_push_25 : decode cX12_push 25 = .ok (.goto 4, 3) := by decide +kernel
theorem dX12_push_28 : decode cX12_push 28 = .ok (.iconst 0, 1) := by decide +kernel
theorem dX12_push_29 : decode cX12_push 29 = .ok (.invokevirtual 446, 3) := by decide +kernel
theorem dX12_push_32 : decode cX12_push 32 = .ok (.ifCond .ne 5, 3) := by decide +kernel
theorem dX12_push_35 : decode cX12_push 35 = .ok (.iconst 0, 1) := by decide +kernel
theorem dX12_push_36 : decode cX12_push 36 = .ok (.ireturn, 1) := by decide +kernel
theorem dX12_push_37 : decode cX12_push 37 = .ok (.aload_n 0, 1) := by decide +kernel
theorem dX12_push_38 : decode cX12_push 38 = .ok (.invokevirtual 254, 3) := by decide +kernel
theorem dX12_push_41 : decode cX12_push 41 = .ok (.aload_n 0, 1) := by decide +kernel
theorem dX12_push_42 : decode cX12_push 42 = .ok (.aload_n 0, 1) := by decide +kernel
theorem dX12_push_43 : decode cX12_push 43 = .ok (.iload_n 1, 1) := by decide +kernel
theorem dX12_push_44 : decode cX12_push 44 = .ok (.iload_n 2, 1) := by decide +kernel
theorem dX12_push_45 : decode cX12_push 45 = .ok (.invokevirtual 307, 3) := by decide +kernel
theorem dX12_push_48 : decode cX12_push 48 = .ok (.invokevirtual 440, 3) := by decide +kernel
theorem dX12_push_51 : decode cX12_push 51 = .ok (.ireturn, 1) := by decide +kernel
theorem dX12_lift_0 : decode cX12_lift 0 = .ok (.aload_n 0, 1) := by decide +kernel
theorem dX12_lift_1 : decode cX12_lift 1 = .ok (.iload_n 1, 1) := by decide +kernel
theorem dX12_lift_2 : decode cX12_lift 2 = .ok (.invokevirtual 345, 3) := by decide +kernel
theorem dX12_lift_5 : decode cX12_lift 5 = .ok (.istore_n 3, 1) := by decide +kernel
theorem dX12_lift_6 : decode cX12_lift 6 = .ok (.aload_n 0, 1) := by decide +kernel
theorem dX12_lift_7 : decode cX12_lift 7 = .ok (.iload_n 3, 1) := by decide +kernel
theorem dX12_lift_8 : decode cX12_lift 8 = .ok (.iload_n 2, 1) := by decide +kernel
theorem dX12_lift_9 : decode cX12_lift 9 = .ok (.invokestatic 443, 3) := by decide +kernel
theorem dX12_lift_12 : decode cX12_lift 12 = .ok (.iload_n 3, 1) := by decide +kernel
theorem dX12_lift_13 : decode cX12_lift 13 = .ok (.ifCond .eq 15, 3) := by decide +kernel
theorem dX12_lift_16 : decode cX12_lift 16 = .ok (.aload_n 0, 1) := by decide +kernel
theorem dX12_lift_17 : decode cX12_lift 17 = .ok (.iload_n 1, 1) := by decide +kernel
theorem dX12_lift_18 : decode cX12_lift 18 = .ok (.invokevirtual 263, 3) := by decide +kernel
theorem dX12_lift_21 : decode cX12_lift 21 = .ok (.ifCond .eq 7, 3) := by decide +kernel
theorem dX12_lift_24 : decode cX12_lift 24 = .ok (.iconst 1, 1) := by decide +kernel
theorem dX12_lift_25 : decode cX12_lift 25 = .ok (.goto 4, 3) := by decide +kernel
theorem dX12_lift_28 : decode cX12_lift 28 = .ok (.iconst 0, 1) := by decide +kernel
theorem dX12_lift_29 : decode cX12_lift 29 = .ok (.invokevirtual 446, 3) := by decide +kernel
theorem dX12_lift_32 : decode cX12_lift 32 = .ok (.ifCond .ne 5, 3) := by decide +kernel
theorem dX12_lift_35 : decode cX12_lift 35 = .ok (.iconst 0, 1) := by decide +kernel
theorem dX12_lift_36 : decode cX12_lift 36 = .ok (.ireturn, 1) := by decide +kernel
theorem dX12_lift_37 : decode cX12_lift 37 = .ok (.aload_n 0, 1) := by decide +kernel
theorem dX12_lift_38 : decode cX12_lift 38 = .ok (.invokevirtual 254, 3) := by decide +kernel
theorem dX12_lift_41 : decode cX12_lift 41 = .ok (.aload_n 0, 1) := by decide +kernel
theorem dX12_lift_42 : decode cX12_lift 42 = .ok (.aload_n 0, 1) := by decide +kernel
theorem dX12_lift_43 : decode cX12_lift 43 = .ok (.iload_n 1, 1) := by decide +kernel
theorem dX12_lift_44 : decode cX12_lift 44 = .ok (.iload_n 2, 1) := by decide +kernel
theorem dX12_lift_45 : decode cX12_lift 45 = .ok (.invokevirtual 313, 3) := by decide +kernel
theorem dX12_lift_48 : decode cX12_lift 48 = .ok (.invokevirtual 440, 3) := by decide +kernel
theorem dX12_lift_51 : decode cX12_lift 51 = .ok (.ireturn, 1) := by decide +kernel
theorem dX12_givesExtra_0 : decode cX12_givesExtra 0 = .ok (.aload_n 0, 1) := by decide +kernel
theorem dX12_givesExtra_1 : decode cX12_givesExtra 1 = .ok (.iload_n 1, 1) := by decide +kernel
theorem dX12_givesExtra_2 : decode cX12_givesExtra 2 = .ok (.bipush 6, 2) := by decide +kernel
theorem dX12_givesExtra_4 : decode cX12_givesExtra 4 = .ok (.invokevirtual 192, 3) := by decide +kernel
theorem dX12_givesExtra_7 : decode cX12_givesExtra 7 = .ok (.iconst 3, 1) := by decide +kernel
theorem dX12_givesExtra_8 : decode cX12_givesExtra 8 = .ok (.if_icmp .ne 5, 3) := by decide +kernel
theorem dX12_givesExtra_11 : decode cX12_givesExtra 11 = .ok (.iconst 0, 1) := by decide +kernel
theorem dX12_givesExtra_12 : decode cX12_givesExtra 12 = .ok (.ireturn, 1) := by decide +kernel
theorem dX12_givesExtra_13 : decode cX12_givesExtra 13 = .ok (.aload_n 0, 1) := by decide +kernel
theorem dX12_givesExtra_14 : decode cX12_givesExtra 14 = .ok (.iload_n 1, 1) := by decide +kernel
theorem dX12_givesExtra_15 : decode cX12_givesExtra 15 = .ok (.bipush 6, 2) := by decide +kernel
theorem dX12_givesExtra_17 : decode cX12_givesExtra 17 = .ok (.aload_n 0, 1) := by decide +kernel
theorem dX12_givesExtra_18 : decode cX12_givesExtra 18 = .ok (.iload_n 1, 1) := by decide +kernel
theorem dX12_givesExtra_19 : decode cX12_givesExtra 19 = .ok (.bipush 6, 2) := by decide +kernel
theorem dX12_givesExtra_21 : decode cX12_givesExtra 21 = .ok (.invokevirtual 192, 3) := by decide +kernel
theorem dX12_givesExtra_24 : decode cX12_givesExtra 24 = .ok (.iconst 1, 1) := by decide +kernel
theorem dX12_givesExtra_25 : decode cX12_givesExtra 25 = .ok (.iadd, 1) := by decide +kernel
theorem dX12_givesExtra_26 : decode cX12_givesExtra 26 = .ok (.invokevirtual 201, 3) := by decide +kernel
theorem dX12_givesExtra_29 : decode cX12_givesExtra 29 = .ok (.iconst 1, 1) := by decide +kernel
theorem dX12_givesExtra_30 : decode cX12_givesExtra 30 = .ok (.ireturn, 1) := by decide +kernel
theorem dX12_extra_0 : decode cX12_extra 0 = .ok (.aload_n 0, 1) := by decide +kernel
theorem dX12_extra_1 : decode cX12_extra 1 = .ok (.iload_n 1, 1) := by decide +kernel
theorem dX12_extra_2 : decode cX12_extra 2 = .ok (.invokevirtual 345, 3) := by decide +kernel
theorem dX12_extra_5 : decode cX12_extra 5 = .ok (.istore_n 2, 1) := by decide +kernel
theorem dX12_extra_6 : decode cX12_extra 6 = .ok (.aload_n 0, 1) := by decide +kernel
theorem dX12_extra_7 : decode cX12_extra 7 = .ok (.iload_n 2, 1) := by decide +kernel
theorem dX12_extra_8 : decode cX12_extra 8 = .ok (.iload_n 2, 1) := by decide +kernel
theorem dX12_extra_9 : decode cX12_extra 9 = .ok (.ifCond .eq 15, 3) := by decide +kernel
theorem dX12_extra_12 : decode cX12_extra 12 = .ok (.aload_n 0, 1) := by decide +kernel
theorem dX12_extra_13 : decode cX12_extra 13 = .ok (.iload_n 1, 1) := by decide +kernel
theorem dX12_extra_14 : decode cX12_extra 14 = .ok (.invokevirtual 263, 3) := by decide +kernel
theorem dX12_extra_17 : decode cX12_extra 17 = .ok (.ifCond .eq 7, 3) := by decide +kernel
theorem dX12_extra_20 : decode cX12_extra 20 = .ok (.iconst 1, 1) := by decide +kernel
theorem dX12_extra_21 : decode cX12_extra 21 = .ok (.goto 4, 3) := by decide +kernel
theorem dX12_extra_24 : decode cX12_extra 24 = .ok (.iconst 0, 1) := by decide +kernel
theorem dX12_extra_25 : decode cX12_extra 25 = .ok (.invokevirtual 350, 3) := by decide +kernel
theorem dX12_extra_28 : decode cX12_extra 28 = .ok (.ifCond .ne 5, 3) := by decide +kernel
theorem dX12_extra_31 : decode cX12_extra 31 = .ok (.iconst 0, 1) := by decide +kernel
theorem dX12_extra_32 : decode cX12_extra 32 = .ok (.ireturn, 1) := by decide +kernel
theorem dX12_extra_33 : decode cX12_extra 33 = .ok (.aload_n 0, 1) := by decide +kernel
theorem dX12_extra_34 : decode cX12_extra 34 = .ok (.invokevirtual 254, 3) := by decide +kernel
theorem dX12_extra_37 : decode cX12_extra 37 = .ok (.aload_n 0, 1) := by decide +kernel
theorem dX12_extra_38 : decode cX12_extra 38 = .ok (.iload_n 1, 1) := by decide +kernel
theorem dX12_extra_39 : decode cX12_extra 39 = .ok (.invokevirtual 450, 3) := by decide +kernel
theorem dX12_extra_42 : decode cX12_extra 42 = .ok (.istore_n 3, 1) := by decide +kernel
theorem dX12_extra_43 : decode cX12_extra 43 = .ok (.iload_n 3, 1) := by decide +kernel
theorem dX12_extra_44 : decode cX12_extra 44 = .ok (.ifCond .eq 7, 3) := by decide +kernel
theorem dX12_extra_47 : decode cX12_extra 47 = .ok (.aload_n 0, 1) := by decide +kernel
theorem dX12_extra_48 : decode cX12_extra 48 = .ok (.invokevirtual 160, 3) := by decide +kernel
theorem dX12_extra_51 : decode cX12_extra 51 = .ok (.iload_n 3, 1) := by decide +kernel
theorem dX12_extra_52 : decode cX12_extra 52 = .ok (.ireturn, 1) := by decide +kernel
theorem dX12_swapsCell_0 : decode cX12_swapsCell 0 = .ok (.aload_n 0, 1) := by decide +kernel
theorem dX12_swapsCell_1 : decode cX12_swapsCell 1 = .ok (.getfield 20, 3) := by decide +kernel
theorem dX12_swapsCell_4 : decode cX12_swapsCell 4 = .ok (.iload_n 1, 1) := by decide +kernel
theorem dX12_swapsCell_5 : decode cX12_swapsCell 5 = .ok (.iaload, 1) := by decide +kernel
theorem dX12_swapsCell_6 : decode cX12_swapsCell 6 = .ok (.istore_n 3, 1) := by decide +kernel
theorem dX12_swapsCell_7 : decode cX12_swapsCell 7 = .ok (.aload_n 0, 1) := by decide +kernel
theorem dX12_swapsCell_8 : decode cX12_swapsCell 8 = .ok (.getfield 20, 3) := by decide +kernel
theorem dX12_swapsCell_11 : decode cX12_swapsCell 11 = .ok (.iload_n 1, 1) := by decide +kernel
theorem dX12_swapsCell_12 : decode cX12_swapsCell 12 = .ok (.iload_n 2, 1) := by decide +kernel
theorem dX12_swapsCell_13 : decode cX12_swapsCell 13 = .ok (.iastore, 1) := by decide +kernel
theorem dX12_swapsCell_14 : decode cX12_swapsCell 14 = .ok (.iload_n 3, 1) := by decide +kernel
theorem dX12_swapsCell_15 : decode cX12_swapsCell 15 = .ok (.ireturn, 1) := by decide +kernel
theorem dX12_setSpeed_0 : decode cX12_setSpeed 0 = .ok (.aload_n 0, 1) := by decide +kernel
theorem dX12_setSpeed_1 : decode cX12_setSpeed 1 = .ok (.aload_n 0, 1) := by decide +kernel
theorem dX12_setSpeed_2 : decode cX12_setSpeed 2 = .ok (.iload_n 1, 1) := by decide +kernel
theorem dX12_setSpeed_3 : decode cX12_setSpeed 3 = .ok (.invokevirtual 345, 3) := by decide +kernel
theorem dX12_setSpeed_6 : decode cX12_setSpeed 6 = .ok (.iload_n 2, 1) := by decide +kernel
theorem dX12_setSpeed_7 : decode cX12_setSpeed 7 = .ok (.i2l, 1) := by decide +kernel
theorem dX12_setSpeed_8 : decode cX12_setSpeed 8 = .ok (.lconst 1, 1) := by decide +kernel
theorem dX12_setSpeed_9 : decode cX12_setSpeed 9 = .ok (.ldc2_w 372, 3) := by decide +kernel
theorem dX12_setSpeed_12 : decode cX12_setSpeed 12 = .ok (.invokestatic 92, 3) := by decide +kernel
theorem dX12_setSpeed_15 : decode cX12_setSpeed 15 = .ok (.invokevirtual 350, 3) := by decide +kernel
theorem dX12_setSpeed_18 : decode cX12_setSpeed 18 = .ok (.ifCond .ne 5, 3) := by decide +kernel
theorem dX12_setSpeed_21 : decode cX12_setSpeed 21 = .ok (.iconst 0, 1) := by decide +kernel
theorem dX12_setSpeed_22 : decode cX12_setSpeed 22 = .ok (.ireturn, 1) := by decide +kernel
theorem dX12_setSpeed_23 : decode cX12_setSpeed 23 = .ok (.aload_n 0, 1) := by decide +kernel
theorem dX12_setSpeed_24 : decode cX12_setSpeed 24 = .ok (.invokevirtual 254, 3) := by decide +kernel
theorem dX12_setSpeed_27 : decode cX12_setSpeed 27 = .ok (.aload_n 0, 1) := by decide +kernel
theorem dX12_setSpeed_28 : decode cX12_setSpeed 28 = .ok (.aload_n 0, 1) := by decide +kernel
theorem dX12_setSpeed_29 : decode cX12_setSpeed 29 = .ok (.iload_n 1, 1) := by decide +kernel
theorem dX12_setSpeed_30 : decode cX12_setSpeed 30 = .ok (.iconst 1, 1) := by decide +kernel
theorem dX12_setSpeed_31 : decode cX12_setSpeed 31 = .ok (.invokestatic 171, 3) := by decide +kernel
theorem dX12_setSpeed_34 : decode cX12_setSpeed 34 = .ok (.iload_n 2, 1) := by decide +kernel
theorem dX12_setSpeed_35 : decode cX12_setSpeed 35 = .ok (.invokevirtual 453, 3) := by decide +kernel
theorem dX12_setSpeed_38 : decode cX12_setSpeed 38 = .ok (.invokevirtual 440, 3) := by decide +kernel
theorem dX12_setSpeed_41 : decode cX12_setSpeed 41 = .ok (.ireturn, 1) := by decide +kernel
theorem dX12_heal_0 : decode cX12_heal 0 = .ok (.aload_n 0, 1) := by decide +kernel
theorem dX12_heal_1 : decode cX12_heal 1 = .ok (.aload_n 0, 1) := by decide +kernel
theorem dX12_heal_2 : decode cX12_heal 2 = .ok (.iload_n 1, 1) := by decide +kernel
theorem dX12_heal_3 : decode cX12_heal 3 = .ok (.invokevirtual 345, 3) := by decide +kernel
theorem dX12_heal_6 : decode cX12_heal 6 = .ok (.iload_n 2, 1) := by decide +kernel
theorem dX12_heal_7 : decode cX12_heal 7 = .ok (.invokestatic 443, 3) := by decide +kernel
theorem dX12_heal_10 : decode cX12_heal 10 = .ok (.invokevirtual 350, 3) := by decide +kernel
theorem dX12_heal_13 : decode cX12_heal 13 = .ok (.ifCond .ne 5, 3) := by decide +kernel
theorem dX12_heal_16 : decode cX12_heal 16 = .ok (.iconst 0, 1) := by decide +kernel
theorem dX12_heal_17 : decode cX12_heal 17 = .ok (.ireturn, 1) := by decide +kernel
theorem dX12_heal_18 : decode cX12_heal 18 = .ok (.aload_n 0, 1) := by decide +kernel
theorem dX12_heal_19 : decode cX12_heal 19 = .ok (.invokevirtual 254, 3) := by decide +kernel
theorem dX12_heal_22 : decode cX12_heal 22 = .ok (.aload_n 0, 1) := by decide +kernel
theorem dX12_heal_23 : decode cX12_heal 23 = .ok (.aload_n 0, 1) := by decide +kernel
theorem dX12_heal_24 : decode cX12_heal 24 = .ok (.iload_n 1, 1) := by decide +kernel
theorem dX12_heal_25 : decode cX12_heal 25 = .ok (.iload_n 2, 1) := by decide +kernel
theorem dX12_heal_26 : decode cX12_heal 26 = .ok (.invokevirtual 316, 3) := by decide +kernel
theorem dX12_heal_29 : decode cX12_heal 29 = .ok (.invokevirtual 440, 3) := by decide +kernel
theorem dX12_heal_32 : decode cX12_heal 32 = .ok (.ireturn, 1) := by decide +kernel
theorem dX12_isWheel_0 : decode cX12_isWheel 0 = .ok (.iload_n 0, 1) := by decide +kernel
theorem dX12_isWheel_1 : decode cX12_isWheel 1 = .ok (.i2l, 1) := by decide +kernel
theorem dX12_isWheel_2 : decode cX12_isWheel 2 = .ok (.ldc2_w 456, 3) := by decide +kernel
theorem dX12_isWheel_5 : decode cX12_isWheel 5 = .ok (.ldc2_w 426, 3) := by decide +kernel
theorem dX12_isWheel_8 : decode cX12_isWheel 8 = .ok (.invokestatic 92, 3) := by decide +kernel
theorem dX12_isWheel_11 : decode cX12_isWheel 11 = .ok (.ireturn, 1) := by decide +kernel
theorem dX12_setWheel_0 : decode cX12_setWheel 0 = .ok (.aload_n 0, 1) := by decide +kernel
theorem dX12_setWheel_1 : decode cX12_setWheel 1 = .ok (.iload_n 1, 1) := by decide +kernel
theorem dX12_setWheel_2 : decode cX12_setWheel 2 = .ok (.invokestatic 458, 3) := by decide +kernel
theorem dX12_setWheel_5 : decode cX12_setWheel 5 = .ok (.invokevirtual 85, 3) := by decide +kernel
theorem dX12_setWheel_8 : decode cX12_setWheel 8 = .ok (.ifCond .ne 5, 3) := by decide +kernel
theorem dX12_setWheel_11 : decode cX12_setWheel 11 = .ok (.iconst 0, 1) := by decide +kernel
theorem dX12_setWheel_12 : decode cX12_setWheel 12 = .ok (.ireturn, 1) := by decide +kernel
theorem dX12_setWheel_13 : decode cX12_setWheel 13 = .ok (.aload_n 0, 1) := by decide +kernel
theorem dX12_setWheel_14 : decode cX12_setWheel 14 = .ok (.invokevirtual 254, 3) := by decide +kernel
theorem dX12_setWheel_17 : decode cX12_setWheel 17 = .ok (.aload_n 0, 1) := by decide +kernel
theorem dX12_setWheel_18 : decode cX12_setWheel 18 = .ok (.aload_n 0, 1) := by decide +kernel
theorem dX12_setWheel_19 : decode cX12_setWheel 19 = .ok (.iconst 1, 1) := by decide +kernel
theorem dX12_setWheel_20 : decode cX12_setWheel 20 = .ok (.iload_n 1, 1) := by decide +kernel
theorem dX12_setWheel_21 : decode cX12_setWheel 21 = .ok (.invokevirtual 453, 3) := by decide +kernel
theorem dX12_setWheel_24 : decode cX12_setWheel 24 = .ok (.invokevirtual 440, 3) := by decide +kernel
theorem dX12_setWheel_27 : decode cX12_setWheel 27 = .ok (.ireturn, 1) := by decide +kernel
theorem dX12_maySet_0 : decode cX12_maySet 0 = .ok (.aload_n 0, 1) := by decide +kernel
theorem dX12_maySet_1 : decode cX12_maySet 1 = .ok (.iload_n 1, 1) := by decide +kernel
theorem dX12_maySet_2 : decode cX12_maySet 2 = .ok (.iload_n 2, 1) := by decide +kernel
theorem dX12_maySet_3 : decode cX12_maySet 3 = .ok (.invokevirtual 354, 3) := by decide +kernel
theorem dX12_maySet_6 : decode cX12_maySet 6 = .ok (.ifCond .eq 34, 3) := by decide +kernel
theorem dX12_maySet_9 : decode cX12_maySet 9 = .ok (.iload_n 3, 1) := by decide +kernel
theorem dX12_maySet_10 : decode cX12_maySet 10 = .ok (.i2l, 1) := by decide +kernel
theorem dX12_maySet_11 : decode cX12_maySet 11 = .ok (.lconst 0, 1) := by decide +kernel
theorem dX12_maySet_12 : decode cX12_maySet 12 = .ok (.ldc2_w 461, 3) := by decide +kernel
theorem dX12_maySet_15 : decode cX12_maySet 15 = .ok (.invokestatic 92, 3) := by decide +kernel
theorem dX12_maySet_18 : decode cX12_maySet 18 = .ok (.ifCond .eq 22, 3) := by decide +kernel
theorem dX12_maySet_21 : decode cX12_maySet 21 = .ok (.iload 4, 2) := by decide +kernel
theorem dX12_maySet_23 : decode cX12_maySet 23 = .ok (.i2l, 1) := by decide +kernel
theorem dX12_maySet_24 : decode cX12_maySet 24 = .ok (.lconst 1, 1) := by decide +kernel
theorem dX12_maySet_25 : decode cX12_maySet 25 = .ok (.iload_n 3, 1) := by decide +kernel
theorem dX12_maySet_26 : decode cX12_maySet 26 = .ok (.invokestatic 195, 3) := by decide +kernel
theorem dX12_maySet_29 : decode cX12_maySet 29 = .ok (.i2l, 1) := by decide +kernel
theorem dX12_maySet_30 : decode cX12_maySet 30 = .ok (.invokestatic 92, 3) := by decide +kernel
theorem dX12_maySet_33 : decode cX12_maySet 33 = .ok (.ifCond .eq 7, 3) := by decide +kernel
theorem dX12_maySet_36 : decode cX12_maySet 36 = .ok (.iconst 1, 1) := by decide +kernel
theorem dX12_maySet_37 : decode cX12_maySet 37 = .ok (.goto 4, 3) := by decide +kernel
theorem dX12_maySet_40 : decode cX12_maySet 40 = .ok (.iconst 0, 1) := by decide +kernel
theorem dX12_maySet_41 : decode cX12_maySet 41 = .ok (.ireturn, 1) := by decide +kernel
theorem dX12_setsAct_0 : decode cX12_setsAct 0 = .ok (.aload_n 0, 1) := by decide +kernel
theorem dX12_setsAct_1 : decode cX12_setsAct 1 = .ok (.getfield 20, 3) := by decide +kernel
theorem dX12_setsAct_4 : decode cX12_setsAct 4 = .ok (.sipush 148, 3) := by decide +kernel
theorem dX12_setsAct_7 : decode cX12_setsAct 7 = .ok (.bipush 6, 2) := by decide +kernel
theorem dX12_setsAct_9 : decode cX12_setsAct 9 = .ok (.iload_n 1, 1) := by decide +kernel
theorem dX12_setsAct_10 : decode cX12_setsAct 10 = .ok (.imul, 1) := by decide +kernel
theorem dX12_setsAct_11 : decode cX12_setsAct 11 = .ok (.iadd, 1) := by decide +kernel
theorem dX12_setsAct_12 : decode cX12_setsAct 12 = .ok (.iload_n 2, 1) := by decide +kernel
theorem dX12_setsAct_13 : decode cX12_setsAct 13 = .ok (.iadd, 1) := by decide +kernel
theorem dX12_setsAct_14 : decode cX12_setsAct 14 = .ok (.iload 4, 2) := by decide +kernel
theorem dX12_setsAct_16 : decode cX12_setsAct 16 = .ok (.iastore, 1) := by decide +kernel
theorem dX12_setsAct_17 : decode cX12_setsAct 17 = .ok (.aload_n 0, 1) := by decide +kernel
theorem dX12_setsAct_18 : decode cX12_setsAct 18 = .ok (.bipush 100, 2) := by decide +kernel
theorem dX12_setsAct_20 : decode cX12_setsAct 20 = .ok (.bipush 6, 2) := by decide +kernel
theorem dX12_setsAct_22 : decode cX12_setsAct 22 = .ok (.iload_n 1, 1) := by decide +kernel
theorem dX12_setsAct_23 : decode cX12_setsAct 23 = .ok (.imul, 1) := by decide +kernel
theorem dX12_setsAct_24 : decode cX12_setsAct 24 = .ok (.iadd, 1) := by decide +kernel
theorem dX12_setsAct_25 : decode cX12_setsAct 25 = .ok (.iload_n 2, 1) := by decide +kernel
theorem dX12_setsAct_26 : decode cX12_setsAct 26 = .ok (.iadd, 1) := by decide +kernel
theorem dX12_setsAct_27 : decode cX12_setsAct 27 = .ok (.iload_n 3, 1) := by decide +kernel
theorem dX12_setsAct_28 : decode cX12_setsAct 28 = .ok (.invokevirtual 453, 3) := by decide +kernel
theorem dX12_setsAct_31 : decode cX12_setsAct 31 = .ok (.ireturn, 1) := by decide +kernel
theorem dX12_setAct_0 : decode cX12_setAct 0 = .ok (.aload_n 0, 1) := by decide +kernel
theorem dX12_setAct_1 : decode cX12_setAct 1 = .ok (.iload_n 1, 1) := by decide +kernel
theorem dX12_setAct_2 : decode cX12_setAct 2 = .ok (.invokevirtual 345, 3) := by decide +kernel
theorem dX12_setAct_5 : decode cX12_setAct 5 = .ok (.istore 5, 2) := by decide +kernel
theorem dX12_setAct_7 : decode cX12_setAct 7 = .ok (.aload_n 0, 1) := by decide +kernel
theorem dX12_setAct_8 : decode cX12_setAct 8 = .ok (.iload 5, 2) := by decide +kernel
theorem dX12_setAct_10 : decode cX12_setAct 10 = .ok (.iload 5, 2) := by decide +kernel
theorem dX12_setAct_12 : decode cX12_setAct 12 = .ok (.ifCond .eq 19, 3) := by decide +kernel
theorem dX12_setAct_15 : decode cX12_setAct 15 = .ok (.aload_n 0, 1) := by decide +kernel
theorem dX12_setAct_16 : decode cX12_setAct 16 = .ok (.iload_n 1, 1) := by decide +kernel
theorem dX12_setAct_17 : decode cX12_setAct 17 = .ok (.iload_n 2, 1) := by decide +kernel
theorem dX12_setAct_18 : decode cX12_setAct 18 = .ok (.iload_n 3, 1) := by decide +kernel
theorem dX12_setAct_19 : decode cX12_setAct 19 = .ok (.iload 4, 2) := by decide +kernel
theorem dX12_setAct_21 : decode cX12_setAct 21 = .ok (.invokevirtual 463, 3) := by decide +kernel
theorem dX12_setAct_24 : decode cX12_setAct 24 = .ok (.ifCond .eq 7, 3) := by decide +kernel
theorem dX12_setAct_27 : decode cX12_setAct 27 = .ok (.iconst 1, 1) := by decide +kernel
theorem dX12_setAct_28 : decode cX12_setAct 28 = .ok (.goto 4, 3) := by decide +kernel
theorem dX12_setAct_31 : decode cX12_setAct 31 = .ok (.iconst 0, 1) := by decide +kernel
theorem dX12_setAct_32 : decode cX12_setAct 32 = .ok (.invokevirtual 350, 3) := by decide +kernel
theorem dX12_setAct_35 : decode cX12_setAct 35 = .ok (.ifCond .ne 5, 3) := by decide +kernel
theorem dX12_setAct_38 : decode cX12_setAct 38 = .ok (.iconst 0, 1) := by decide +kernel
theorem dX12_setAct_39 : decode cX12_setAct 39 = .ok (.ireturn, 1) := by decide +kernel
theorem dX12_setAct_40 : decode cX12_setAct 40 = .ok (.aload_n 0, 1) := by decide +kernel
theorem dX12_setAct_41 : decode cX12_setAct 41 = .ok (.invokevirtual 254, 3) := by decide +kernel
theorem dX12_setAct_44 : decode cX12_setAct 44 = .ok (.aload_n 0, 1) := by decide +kernel
theorem dX12_setAct_45 : decode cX12_setAct 45 = .ok (.aload_n 0, 1) := by decide +kernel
theorem dX12_setAct_46 : decode cX12_setAct 46 = .ok (.iload_n 1, 1) := by decide +kernel
theorem dX12_setAct_47 : decode cX12_setAct 47 = .ok (.iload_n 2, 1) := by decide +kernel
theorem dX12_setAct_48 : decode cX12_setAct 48 = .ok (.iload_n 3, 1) := by decide +kernel
theorem dX12_setAct_49 : decode cX12_setAct 49 = .ok (.iload 4, 2) := by decide +kernel
theorem dX12_setAct_51 : decode cX12_setAct 51 = .ok (.invokevirtual 467, 3) := by decide +kernel
theorem dX12_setAct_54 : decode cX12_setAct 54 = .ok (.invokevirtual 440, 3) := by decide +kernel
theorem dX12_setAct_57 : decode cX12_setAct 57 = .ok (.ireturn, 1) := by decide +kernel
theorem dX12_commandHere_0 : decode cX12_commandHere 0 = .ok (.aload_n 0, 1) := by decide +kernel
theorem dX12_commandHere_1 : decode cX12_commandHere 1 = .ok (.ldc2_w 471, 3) := by decide +kernel
theorem dX12_commandHere_4 : decode cX12_commandHere 4 = .ok (.invokevirtual 142, 3) := by decide +kernel
theorem dX12_commandHere_7 : decode cX12_commandHere 7 = .ok (.ifCond .eq 5, 3) := by decide +kernel
theorem dX12_commandHere_10 : decode cX12_commandHere 10 = .ok (.iconst 0, 1) := by decide +kernel
theorem dX12_commandHere_11 : decode cX12_commandHere 11 = .ok (.ireturn, 1) := by decide +kernel
theorem dX12_commandHere_12 : decode cX12_commandHere 12 = .ok (.aload_n 0, 1) := by decide +kernel
theorem dX12_commandHere_13 : decode cX12_commandHere 13 = .ok (.ldc2_w 176, 3) := by decide +kernel
theorem dX12_commandHere_16 : decode cX12_commandHere 16 = .ok (.invokevirtual 142, 3) := by decide +kernel
theorem dX12_commandHere_19 : decode cX12_commandHere 19 = .ok (.ifCond .eq 5, 3) := by decide +kernel
theorem dX12_commandHere_22 : decode cX12_commandHere 22 = .ok (.iconst 1, 1) := by decide +kernel
theorem dX12_commandHere_23 : decode cX12_commandHere 23 = .ok (.ireturn, 1) := by decide +kernel
theorem dX12_commandHere_24 : decode cX12_commandHere 24 = .ok (.aload_n 0, 1) := by decide +kernel
theorem dX12_commandHere_25 : decode cX12_commandHere 25 = .ok (.ldc2_w 178, 3) := by decide +kernel
theorem dX12_commandHere_28 : decode cX12_commandHere 28 = .ok (.invokevirtual 142, 3) := by decide +kernel
theorem dX12_commandHere_31 : decode cX12_commandHere 31 = .ok (.ifCond .eq 5, 3) := by decide +kernel
theorem dX12_commandHere_34 : decode cX12_commandHere 34 = .ok (.iconst 2, 1) := by decide +kernel
theorem dX12_commandHere_35 : decode cX12_commandHere 35 = .ok (.ireturn, 1) := by decide +kernel
theorem dX12_commandHere_36 : decode cX12_commandHere 36 = .ok (.aload_n 0, 1) := by decide +kernel
theorem dX12_commandHere_37 : decode cX12_commandHere 37 = .ok (.ldc2_w 473, 3) := by decide +kernel
theorem dX12_commandHere_40 : decode cX12_commandHere 40 = .ok (.invokevirtual 142, 3) := by decide +kernel
theorem dX12_commandHere_43 : decode cX12_commandHere 43 = .ok (.ifCond .eq 5, 3) := by decide +kernel
theorem dX12_commandHere_46 : decode cX12_commandHere 46 = .ok (.iconst 3, 1) := by decide +kernel
theorem dX12_commandHere_47 : decode cX12_commandHere 47 = .ok (.ireturn, 1) := by decide +kernel
theorem dX12_commandHere_48 : decode cX12_commandHere 48 = .ok (.aload_n 0, 1) := by decide +kernel
theorem dX12_commandHere_49 : decode cX12_commandHere 49 = .ok (.ldc2_w 184, 3) := by decide +kernel
theorem dX12_commandHere_52 : decode cX12_commandHere 52 = .ok (.invokevirtual 142, 3) := by decide +kernel
theorem dX12_commandHere_55 : decode cX12_commandHere 55 = .ok (.ifCond .eq 5, 3) := by decide +kernel
theorem dX12_commandHere_58 : decode cX12_commandHere 58 = .ok (.iconst 4, 1) := by decide +kernel
theorem dX12_commandHere_59 : decode cX12_commandHere 59 = .ok (.ireturn, 1) := by decide +kernel
theorem dX12_commandHere_60 : decode cX12_commandHere 60 = .ok (.aload_n 0, 1) := by decide +kernel
theorem dX12_commandHere_61 : decode cX12_commandHere 61 = .ok (.ldc2_w 475, 3) := by decide +kernel
theorem dX12_commandHere_64 : decode cX12_commandHere 64 = .ok (.invokevirtual 142, 3) := by decide +kernel
theorem dX12_commandHere_67 : decode cX12_commandHere 67 = .ok (.ifCond .eq 5, 3) := by decide +kernel
theorem dX12_commandHere_70 : decode cX12_commandHere 70 = .ok (.iconst 5, 1) := by decide +kernel
theorem dX12_commandHere_71 : decode cX12_commandHere 71 = .ok (.ireturn, 1) := by decide +kernel
theorem dX12_commandHere_72 : decode cX12_commandHere 72 = .ok (.aload_n 0, 1) := by decide +kernel
theorem dX12_commandHere_73 : decode cX12_commandHere 73 = .ok (.ldc2_w 238, 3) := by decide +kernel
theorem dX12_commandHere_76 : decode cX12_commandHere 76 = .ok (.invokevirtual 142, 3) := by decide +kernel
theorem dX12_commandHere_79 : decode cX12_commandHere 79 = .ok (.ifCond .eq 6, 3) := by decide +kernel
theorem dX12_commandHere_82 : decode cX12_commandHere 82 = .ok (.bipush 6, 2) := by decide +kernel
theorem dX12_commandHere_84 : decode cX12_commandHere 84 = .ok (.ireturn, 1) := by decide +kernel
theorem dX12_commandHere_85 : decode cX12_commandHere 85 = .ok (.aload_n 0, 1) := by decide +kernel
theorem dX12_commandHere_86 : decode cX12_commandHere 86 = .ok (.ldc2_w 477, 3) := by decide +kernel
theorem dX12_commandHere_89 : decode cX12_commandHere 89 = .ok (.invokevirtual 142, 3) := by decide +kernel
theorem dX12_commandHere_92 : decode cX12_commandHere 92 = .ok (.ifCond .eq 6, 3) := by decide +kernel
theorem dX12_commandHere_95 : decode cX12_commandHere 95 = .ok (.bipush 7, 2) := by decide +kernel
theorem dX12_commandHere_97 : decode cX12_commandHere 97 = .ok (.ireturn, 1) := by decide +kernel
theorem dX12_commandHere_98 : decode cX12_commandHere 98 = .ok (.aload_n 0, 1) := by decide +kernel
theorem dX12_commandHere_99 : decode cX12_commandHere 99 = .ok (.ldc2_w 479, 3) := by decide +kernel
theorem dX12_commandHere_102 : decode cX12_commandHere 102 = .ok (.invokevirtual 142, 3) := by decide +kernel
theorem dX12_commandHere_105 : decode cX12_commandHere 105 = .ok (.ifCond .eq 8, 3) := by decide +kernel
theorem dX12_commandHere_108 : decode cX12_commandHere 108 = .ok (.bipush 8, 2) := by decide +kernel
theorem dX12_commandHere_110 : decode cX12_commandHere 110 = .ok (.goto 4, 3) := by decide +kernel
theorem dX12_commandHere_113 : decode cX12_commandHere 113 = .ok (.iconst (-1), 1) := by decide +kernel
theorem dX12_commandHere_114 : decode cX12_commandHere 114 = .ok (.ireturn, 1) := by decide +kernel
theorem dX12_told_0 : decode cX12_told 0 = .ok (.aload_n 0, 1) := by decide +kernel
theorem dX12_told_1 : decode cX12_told 1 = .ok (.invokevirtual 213, 3) := by decide +kernel
theorem dX12_told_4 : decode cX12_told 4 = .ok (.aload_n 0, 1) := by decide +kernel
theorem dX12_told_5 : decode cX12_told 5 = .ok (.invokevirtual 129, 3) := by decide +kernel
theorem dX12_told_8 : decode cX12_told 8 = .ok (.ifCond .eq 10, 3) := by decide +kernel
theorem dX12_told_11 : decode cX12_told 11 = .ok (.aload_n 0, 1) := by decide +kernel
theorem dX12_told_12 : decode cX12_told 12 = .ok (.invokevirtual 216, 3) := by decide +kernel
theorem dX12_told_15 : decode cX12_told 15 = .ok (.goto 4, 3) := by decide +kernel
theorem dX12_told_18 : decode cX12_told 18 = .ok (.iconst (-1), 1) := by decide +kernel
theorem dX12_told_19 : decode cX12_told 19 = .ok (.istore_n 1, 1) := by decide +kernel
theorem dX12_told_20 : decode cX12_told 20 = .ok (.aload_n 0, 1) := by decide +kernel
theorem dX12_told_21 : decode cX12_told 21 = .ok (.invokevirtual 129, 3) := by decide +kernel
theorem dX12_told_24 : decode cX12_told 24 = .ok (.ifCond .eq 13, 3) := by decide +kernel
theorem dX12_told_27 : decode cX12_told 27 = .ok (.iload_n 1, 1) := by decide +kernel
theorem dX12_told_28 : decode cX12_told 28 = .ok (.iconst (-1), 1) := by decide +kernel
theorem dX12_told_29 : decode cX12_told 29 = .ok (.if_icmp .ne 8, 3) := by decide +kernel
theorem dX12_told_32 : decode cX12_told 32 = .ok (.aload_n 0, 1) := by decide +kernel
theorem dX12_told_33 : decode cX12_told 33 = .ok (.iconst 4, 1) := by decide +kernel
theorem dX12_told_34 : decode cX12_told 34 = .ok (.invokevirtual 136, 3) := by decide +kernel
theorem dX12_told_37 : decode cX12_told 37 = .ok (.aload_n 0, 1) := by decide +kernel
theorem dX12_told_38 : decode cX12_told 38 = .ok (.invokevirtual 129, 3) := by decide +kernel
theorem dX12_told_41 : decode cX12_told 41 = .ok (.ifCond .eq 7, 3) := by decide +kernel
theorem dX12_told_44 : decode cX12_told 44 = .ok (.aload_n 0, 1) := by decide +kernel
theorem dX12_told_45 : decode cX12_told 45 = .ok (.invokevirtual 139, 3) := by decide +kernel
theorem dX12_told_48 : decode cX12_told 48 = .ok (.iload_n 1, 1) := by decide +kernel
theorem dX12_told_49 : decode cX12_told 49 = .ok (.ireturn, 1) := by decide +kernel
theorem dX12_any_0 : decode cX12_any 0 = .ok (.aload_n 0, 1) := by decide +kernel
theorem dX12_any_1 : decode cX12_any 1 = .ok (.iconst 0, 1) := by decide +kernel
theorem dX12_any_2 : decode cX12_any 2 = .ok (.sipush 999, 3) := by decide +kernel
theorem dX12_any_5 : decode cX12_any 5 = .ok (.invokevirtual 198, 3) := by decide +kernel
theorem dX12_any_8 : decode cX12_any 8 = .ok (.ireturn, 1) := by decide +kernel
theorem dX12_kindTold_0 : decode cX12_kindTold 0 = .ok (.aload_n 0, 1) := by decide +kernel
theorem dX12_kindTold_1 : decode cX12_kindTold 1 = .ok (.invokevirtual 188, 3) := by decide +kernel
theorem dX12_kindTold_4 : decode cX12_kindTold 4 = .ok (.istore_n 1, 1) := by decide +kernel
theorem dX12_kindTold_5 : decode cX12_kindTold 5 = .ok (.aload_n 0, 1) := by decide +kernel
theorem dX12_kindTold_6 : decode cX12_kindTold 6 = .ok (.invokevirtual 129, 3) := by decide +kernel
theorem dX12_kindTold_9 : decode cX12_kindTold 9 = .ok (.ifCond .eq 13, 3) := by decide +kernel
theorem dX12_kindTold_12 : decode cX12_kindTold 12 = .ok (.iload_n 1, 1) := by decide +kernel
theorem dX12_kindTold_13 : decode cX12_kindTold 13 = .ok (.iconst (-1), 1) := by decide +kernel
theorem dX12_kindTold_14 : decode cX12_kindTold 14 = .ok (.if_icmp .ne 8, 3) := by decide +kernel
theorem dX12_kindTold_17 : decode cX12_kindTold 17 = .ok (.aload_n 0, 1) := by decide +kernel
theorem dX12_kindTold_18 : decode cX12_kindTold 18 = .ok (.iconst 1, 1) := by decide +kernel
theorem dX12_kindTold_19 : decode cX12_kindTold 19 = .ok (.invokevirtual 136, 3) := by decide +kernel
theorem dX12_kindTold_22 : decode cX12_kindTold 22 = .ok (.aload_n 0, 1) := by decide +kernel
theorem dX12_kindTold_23 : decode cX12_kindTold 23 = .ok (.invokevirtual 129, 3) := by decide +kernel
theorem dX12_kindTold_26 : decode cX12_kindTold 26 = .ok (.ifCond .eq 7, 3) := by decide +kernel
theorem dX12_kindTold_29 : decode cX12_kindTold 29 = .ok (.aload_n 0, 1) := by decide +kernel
theorem dX12_kindTold_30 : decode cX12_kindTold 30 = .ok (.invokevirtual 139, 3) := by decide +kernel
theorem dX12_kindTold_33 : decode cX12_kindTold 33 = .ok (.iload_n 1, 1) := by decide +kernel
theorem dX12_kindTold_34 : decode cX12_kindTold 34 = .ok (.ireturn, 1) := by decide +kernel
theorem dX12_readsNumbers_0 : decode cX12_readsNumbers 0 = .ok (.iload_n 2, 1) := by decide +kernel
theorem dX12_readsNumbers_1 : decode cX12_readsNumbers 1 = .ok (.ifCond .eq 9, 3) := by decide +kernel
theorem dX12_readsNumbers_4 : decode cX12_readsNumbers 4 = .ok (.iload_n 2, 1) := by decide +kernel
theorem dX12_readsNumbers_5 : decode cX12_readsNumbers 5 = .ok (.bipush 6, 2) := by decide +kernel
theorem dX12_readsNumbers_7 : decode cX12_readsNumbers 7 = .ok (.if_icmp .ne 13, 3) := by decide +kernel
theorem dX12_readsNumbers_10 : decode cX12_readsNumbers 10 = .ok (.aload_n 0, 1) := by decide +kernel
theorem dX12_readsNumbers_11 : decode cX12_readsNumbers 11 = .ok (.getfield 51, 3) := by decide +kernel
theorem dX12_readsNumbers_14 : decode cX12_readsNumbers 14 = .ok (.iload_n 1, 1) := by decide +kernel
theorem dX12_readsNumbers_15 : decode cX12_readsNumbers 15 = .ok (.aload_n 0, 1) := by decide +kernel
theorem dX12_readsNumbers_16 : decode cX12_readsNumbers 16 = .ok (.invokevirtual 481, 3) := by decide +kernel
theorem dX12_readsNumbers_19 : decode cX12_readsNumbers 19 = .ok (.iastore, 1) := by decide +kernel
theorem dX12_readsNumbers_20 : decode cX12_readsNumbers 20 = .ok (.iload_n 2, 1) := by decide +kernel
theorem dX12_readsNumbers_21 : decode cX12_readsNumbers 21 = .ok (.iconst 1, 1) := by decide +kernel
theorem dX12_readsNumbers_22 : decode cX12_readsNumbers 22 = .ok (.if_icmp .eq 29, 3) := by decide +kernel
theorem dX12_readsNumbers_25 : decode cX12_readsNumbers 25 = .ok (.iload_n 2, 1) := by decide +kernel
theorem dX12_readsNumbers_26 : decode cX12_readsNumbers 26 = .ok (.iconst 2, 1) := by decide +kernel
theorem dX12_readsNumbers_27 : decode cX12_readsNumbers 27 = .ok (.if_icmp .eq 24, 3) := by decide +kernel
theorem dX12_readsNumbers_30 : decode cX12_readsNumbers 30 = .ok (.iload_n 2, 1) := by decide +kernel
theorem dX12_readsNumbers_31 : decode cX12_readsNumbers 31 = .ok (.iconst 3, 1) := by decide +kernel
theorem dX12_readsNumbers_32 : decode cX12_readsNumbers 32 = .ok (.if_icmp .eq 19, 3) := by decide +kernel
theorem dX12_readsNumbers_35 : decode cX12_readsNumbers 35 = .ok (.iload_n 2, 1) := by decide +kernel
theorem dX12_readsNumbers_36 : decode cX12_readsNumbers 36 = .ok (.iconst 4, 1) := by decide +kernel
theorem dX12_readsNumbers_37 : decode cX12_readsNumbers 37 = .ok (.if_icmp .eq 14, 3) := by decide +kernel
theorem dX12_readsNumbers_40 : decode cX12_readsNumbers 40 = .ok (.iload_n 2, 1) := by decide +kernel
theorem dX12_readsNumbers_41 : decode cX12_readsNumbers 41 = .ok (.iconst 5, 1) := by decide +kernel
theorem dX12_readsNumbers_42 : decode cX12_readsNumbers 42 = .ok (.if_icmp .eq 9, 3) := by decide +kernel
theorem dX12_readsNumbers_45 : decode cX12_readsNumbers 45 = .ok (.iload_n 2, 1) := by decide +kernel
theorem dX12_readsNumbers_46 : decode cX12_readsNumbers 46 = .ok (.bipush 7, 2) := by decide +kernel
theorem dX12_readsNumbers_48 : decode cX12_readsNumbers 48 = .ok (.if_icmp .ne 13, 3) := by decide +kernel
theorem dX12_readsNumbers_51 : decode cX12_readsNumbers 51 = .ok (.aload_n 0, 1) := by decide +kernel
theorem dX12_readsNumbers_52 : decode cX12_readsNumbers 52 = .ok (.getfield 51, 3) := by decide +kernel
theorem dX12_readsNumbers_55 : decode cX12_readsNumbers 55 = .ok (.iload_n 1, 1) := by decide +kernel
theorem dX12_readsNumbers_56 : decode cX12_readsNumbers 56 = .ok (.aload_n 0, 1) := by decide +kernel
theorem dX12_readsNumbers_57 : decode cX12_readsNumbers 57 = .ok (.invokevirtual 484, 3) := by decide +kernel
theorem dX12_readsNumbers_60 : decode cX12_readsNumbers 60 = .ok (.iastore, 1) := by decide +kernel
theorem dX12_readsNumbers_61 : decode cX12_readsNumbers 61 = .ok (.iload_n 2, 1) := by decide +kernel
theorem dX12_readsNumbers_62 : decode cX12_readsNumbers 62 = .ok (.iconst 1, 1) := by decide +kernel
theorem dX12_readsNumbers_63 : decode cX12_readsNumbers 63 = .ok (.if_icmp .eq 24, 3) := by decide +kernel
theorem dX12_readsNumbers_66 : decode cX12_readsNumbers 66 = .ok (.iload_n 2, 1) := by decide +kernel
theorem dX12_readsNumbers_67 : decode cX12_readsNumbers 67 = .ok (.iconst 2, 1) := by decide +kernel
theorem dX12_readsNumbers_68 : decode cX12_readsNumbers 68 = .ok (.if_icmp .eq 19, 3) := by decide +kernel
theorem dX12_readsNumbers_71 : decode cX12_readsNumbers 71 = .ok (.iload_n 2, 1) := by decide +kernel
theorem dX12_readsNumbers_72 : decode cX12_readsNumbers 72 = .ok (.iconst 4, 1) := by decide +kernel
theorem dX12_readsNumbers_73 : decode cX12_readsNumbers 73 = .ok (.if_icmp .eq 14, 3) := by decide +kernel
theorem dX12_readsNumbers_76 : decode cX12_readsNumbers 76 = .ok (.iload_n 2, 1) := by decide +kernel
theorem dX12_readsNumbers_77 : decode cX12_readsNumbers 77 = .ok (.iconst 5, 1) := by decide +kernel
theorem dX12_readsNumbers_78 : decode cX12_readsNumbers 78 = .ok (.if_icmp .eq 9, 3) := by decide +kernel
theorem dX12_readsNumbers_81 : decode cX12_readsNumbers 81 = .ok (.iload_n 2, 1) := by decide +kernel
theorem dX12_readsNumbers_82 : decode cX12_readsNumbers 82 = .ok (.bipush 7, 2) := by decide +kernel
theorem dX12_readsNumbers_84 : decode cX12_readsNumbers 84 = .ok (.if_icmp .ne 13, 3) := by decide +kernel
theorem dX12_readsNumbers_87 : decode cX12_readsNumbers 87 = .ok (.aload_n 0, 1) := by decide +kernel
theorem dX12_readsNumbers_88 : decode cX12_readsNumbers 88 = .ok (.getfield 54, 3) := by decide +kernel
theorem dX12_readsNumbers_91 : decode cX12_readsNumbers 91 = .ok (.iload_n 1, 1) := by decide +kernel
theorem dX12_readsNumbers_92 : decode cX12_readsNumbers 92 = .ok (.aload_n 0, 1) := by decide +kernel
theorem dX12_readsNumbers_93 : decode cX12_readsNumbers 93 = .ok (.invokevirtual 481, 3) := by decide +kernel
theorem dX12_readsNumbers_96 : decode cX12_readsNumbers 96 = .ok (.iastore, 1) := by decide +kernel
theorem dX12_readsNumbers_97 : decode cX12_readsNumbers 97 = .ok (.iload_n 2, 1) := by decide +kernel
theorem dX12_readsNumbers_98 : decode cX12_readsNumbers 98 = .ok (.bipush 7, 2) := by decide +kernel
theorem dX12_readsNumbers_100 : decode cX12_readsNumbers 100 = .ok (.if_icmp .ne 13, 3) := by decide +kernel
theorem dX12_readsNumbers_103 : decode cX12_readsNumbers 103 = .ok (.aload_n 0, 1) := by decide +kernel
theorem dX12_readsNumbers_104 : decode cX12_readsNumbers 104 = .ok (.getfield 57, 3) := by decide +kernel
theorem dX12_readsNumbers_107 : decode cX12_readsNumbers 107 = .ok (.iload_n 1, 1) := by decide +kernel
theorem dX12_readsNumbers_108 : decode cX12_readsNumbers 108 = .ok (.aload_n 0, 1) := by decide +kernel
theorem dX12_readsNumbers_109 : decode cX12_readsNumbers 109 = .ok (.invokevirtual 487, 3) := by decide +kernel
theorem dX12_readsNumbers_112 : decode cX12_readsNumbers 112 = .ok (.iastore, 1) := by decide +kernel
theorem dX12_readsNumbers_113 : decode cX12_readsNumbers 113 = .ok (.iload_n 2, 1) := by decide +kernel
theorem dX12_readsNumbers_114 : decode cX12_readsNumbers 114 = .ok (.bipush 7, 2) := by decide +kernel
theorem dX12_readsNumbers_116 : decode cX12_readsNumbers 116 = .ok (.if_icmp .ne 13, 3) := by decide +kernel
theorem dX12_readsNumbers_119 : decode cX12_readsNumbers 119 = .ok (.aload_n 0, 1) := by decide +kernel
theorem dX12_readsNumbers_120 : decode cX12_readsNumbers 120 = .ok (.getfield 60, 3) := by decide +kernel
theorem dX12_readsNumbers_123 : decode cX12_readsNumbers 123 = .ok (.iload_n 1, 1) := by decide +kernel
theorem dX12_readsNumbers_124 : decode cX12_readsNumbers 124 = .ok (.aload_n 0, 1) := by decide +kernel
theorem dX12_readsNumbers_125 : decode cX12_readsNumbers 125 = .ok (.invokevirtual 481, 3) := by decide +kernel
theorem dX12_readsNumbers_128 : decode cX12_readsNumbers 128 = .ok (.iastore, 1) := by decide +kernel
theorem dX12_readsNumbers_129 : decode cX12_readsNumbers 129 = .ok (.iload_n 2, 1) := by decide +kernel
theorem dX12_readsNumbers_130 : decode cX12_readsNumbers 130 = .ok (.bipush 8, 2) := by decide +kernel
theorem dX12_readsNumbers_132 : decode cX12_readsNumbers 132 = .ok (.if_icmp .ne 16, 3) := by decide +kernel
theorem dX12_readsNumbers_135 : decode cX12_readsNumbers 135 = .ok (.aload_n 0, 1) := by decide +kernel
theorem dX12_readsNumbers_136 : decode cX12_readsNumbers 136 = .ok (.getfield 51, 3) := by decide +kernel
theorem dX12_readsNumbers_139 : decode cX12_readsNumbers 139 = .ok (.iload_n 1, 1) := by decide +kernel
theorem dX12_readsNumbers_140 : decode cX12_readsNumbers 140 = .ok (.aload_n 0, 1) := by decide +kernel
theorem dX12_readsNumbers_141 : decode cX12_readsNumbers 141 = .ok (.iconst 1, 1) := by decide +kernel
theorem dX12_readsNumbers_142 : decode cX12_readsNumbers 142 = .ok (.bipush 20, 2) := by decide +kernel
theorem dX12_readsNumbers_144 : decode cX12_readsNumbers 144 = .ok (.invokevirtual 198, 3) := by decide +kernel
theorem dX12_readsNumbers_147 : decode cX12_readsNumbers 147 = .ok (.iastore, 1) := by decide +kernel
theorem dX12_readsNumbers_148 : decode cX12_readsNumbers 148 = .ok (.iload_n 2, 1) := by decide +kernel
theorem dX12_readsNumbers_149 : decode cX12_readsNumbers 149 = .ok (.bipush 8, 2) := by decide +kernel
theorem dX12_readsNumbers_151 : decode cX12_readsNumbers 151 = .ok (.if_icmp .ne 9, 3) := by decide +kernel
theorem dX12_readsNumbers_154 : decode cX12_readsNumbers 154 = .ok (.aload_n 0, 1) := by decide +kernel
theorem dX12_readsNumbers_155 : decode cX12_readsNumbers 155 = .ok (.bipush 40, 2) := by decide +kernel
theorem dX12_readsNumbers_157 : decode cX12_readsNumbers 157 = .ok (.invokevirtual 248, 3) := by decide +kernel
theorem dX12_readsNumbers_160 : decode cX12_readsNumbers 160 = .ok (.return_, 1) := by decide +kernel
theorem dX12_command_0 : decode cX12_command 0 = .ok (.aload_n 0, 1) := by decide +kernel
theorem dX12_command_1 : decode cX12_command 1 = .ok (.invokevirtual 490, 3) := by decide +kernel
theorem dX12_command_4 : decode cX12_command 4 = .ok (.istore_n 1, 1) := by decide +kernel
theorem dX12_command_5 : decode cX12_command 5 = .ok (.iload_n 1, 1) := by decide +kernel
theorem dX12_command_6 : decode cX12_command 6 = .ok (.iconst (-1), 1) := by decide +kernel
theorem dX12_command_7 : decode cX12_command 7 = .ok (.if_icmp .ne 8, 3) := by decide +kernel
theorem dX12_command_10 : decode cX12_command 10 = .ok (.aload_n 0, 1) := by decide +kernel
theorem dX12_command_11 : decode cX12_command 11 = .ok (.iconst 1, 1) := by decide +kernel
theorem dX12_command_12 : decode cX12_command 12 = .ok (.invokevirtual 136, 3) := by decide +kernel
theorem dX12_command_15 : decode cX12_command 15 = .ok (.iload_n 1, 1) := by decide +kernel
theorem dX12_command_16 : decode cX12_command 16 = .ok (.bipush 8, 2) := by decide +kernel
theorem dX12_command_18 : decode cX12_command 18 = .ok (.if_icmp .ne 16, 3) := by decide +kernel
theorem dX12_command_21 : decode cX12_command 21 = .ok (.aload_n 0, 1) := by decide +kernel
theorem dX12_command_22 : decode cX12_command 22 = .ok (.getfield 493, 3) := by decide +kernel
theorem dX12_command_25 : decode cX12_command 25 = .ok (.iconst 2, 1) := by decide +kernel
theorem dX12_command_26 : decode cX12_command 26 = .ok (.if_icmp .ne 8, 3) := by decide +kernel
theorem dX12_command_29 : decode cX12_command 29 = .ok (.aload_n 0, 1) := by decide +kernel
theorem dX12_command_30 : decode cX12_command 30 = .ok (.iconst 3, 1) := by decide +kernel
theorem dX12_command_31 : decode cX12_command 31 = .ok (.invokevirtual 136, 3) := by decide +kernel
theorem dX12_command_34 : decode cX12_command 34 = .ok (.aload_n 0, 1) := by decide +kernel
theorem dX12_command_35 : decode cX12_command 35 = .ok (.getfield 496, 3) := by decide +kernel
theorem dX12_command_38 : decode cX12_command 38 = .ok (.bipush 30, 2) := by decide +kernel
theorem dX12_command_40 : decode cX12_command 40 = .ok (.if_icmp .ne 8, 3) := by decide +kernel
theorem dX12_command_43 : decode cX12_command 43 = .ok (.aload_n 0, 1) := by decide +kernel
theorem dX12_command_44 : decode cX12_command 44 = .ok (.iconst 5, 1) := by decide +kernel
theorem dX12_command_45 : decode cX12_command 45 = .ok (.invokevirtual 136, 3) := by decide +kernel
theorem dX12_command_48 : decode cX12_command 48 = .ok (.aload_n 0, 1) := by decide +kernel
theorem dX12_command_49 : decode cX12_command 49 = .ok (.invokevirtual 129, 3) := by decide +kernel
theorem dX12_command_52 : decode cX12_command 52 = .ok (.ifCond .ne 4, 3) := by decide +kernel
theorem dX12_command_55 : decode cX12_command 55 = .ok (.return_, 1) := by decide +kernel
theorem dX12_command_56 : decode cX12_command 56 = .ok (.aload_n 0, 1) := by decide +kernel
theorem dX12_command_57 : decode cX12_command 57 = .ok (.dup, 1) := by decide +kernel
theorem dX12_command_58 : decode cX12_command 58 = .ok (.getfield 496, 3) := by decide +kernel
theorem dX12_command_61 : decode cX12_command 61 = .ok (.iconst 1, 1) := by decide +kernel
theorem dX12_command_62 : decode cX12_command 62 = .ok (.iadd, 1) := by decide +kernel
theorem dX12_command_63 : decode cX12_command 63 = .ok (.putfield 496, 3) := by decide +kernel
theorem dX12_command_66 : decode cX12_command 66 = .ok (.aload_n 0, 1) := by decide +kernel
theorem dX12_command_67 : decode cX12_command 67 = .ok (.invokevirtual 139, 3) := by decide +kernel
theorem dX12_command_70 : decode cX12_command 70 = .ok (.aload_n 0, 1) := by decide +kernel
theorem dX12_command_71 : decode cX12_command 71 = .ok (.getfield 499, 3) := by decide +kernel
theorem dX12_command_74 : decode cX12_command 74 = .ok (.istore_n 2, 1) := by decide +kernel
theorem dX12_command_75 : decode cX12_command 75 = .ok (.aload_n 0, 1) := by decide +kernel
theorem dX12_command_76 : decode cX12_command 76 = .ok (.getfield 48, 3) := by decide +kernel
theorem dX12_command_79 : decode cX12_command 79 = .ok (.iload_n 2, 1) := by decide +kernel
theorem dX12_command_80 : decode cX12_command 80 = .ok (.iload_n 1, 1) := by decide +kernel
theorem dX12_command_81 : decode cX12_command 81 = .ok (.iastore, 1) := by decide +kernel
theorem dX12_command_82 : decode cX12_command 82 = .ok (.aload_n 0, 1) := by decide +kernel
theorem dX12_command_83 : decode cX12_command 83 = .ok (.iload_n 2, 1) := by decide +kernel
theorem dX12_command_84 : decode cX12_command 84 = .ok (.iload_n 1, 1) := by decide +kernel
theorem dX12_command_85 : decode cX12_command 85 = .ok (.invokevirtual 502, 3) := by decide +kernel
theorem dX12_command_88 : decode cX12_command 88 = .ok (.aload_n 0, 1) := by decide +kernel
theorem dX12_command_89 : decode cX12_command 89 = .ok (.invokevirtual 129, 3) := by decide +kernel
theorem dX12_command_92 : decode cX12_command 92 = .ok (.ifCond .ne 4, 3) := by decide +kernel
theorem dX12_command_95 : decode cX12_command 95 = .ok (.return_, 1) := by decide +kernel
theorem dX12_command_96 : decode cX12_command 96 = .ok (.aload_n 0, 1) := by decide +kernel
theorem dX12_command_97 : decode cX12_command 97 = .ok (.dup, 1) := by decide +kernel
theorem dX12_command_98 : decode cX12_command 98 = .ok (.getfield 499, 3) := by decide +kernel
theorem dX12_command_101 : decode cX12_command 101 = .ok (.iconst 1, 1) := by decide +kernel
theorem dX12_command_102 : decode cX12_command 102 = .ok (.iadd, 1) := by decide +kernel
theorem dX12_command_103 : decode cX12_command 103 = .ok (.putfield 499, 3) := by decide +kernel
theorem dX12_command_106 : decode cX12_command 106 = .ok (.aload_n 0, 1) := by decide +kernel
theorem dX12_command_107 : decode cX12_command 107 = .ok (.dup, 1) := by decide +kernel
theorem dX12_command_108 : decode cX12_command 108 = .ok (.getfield 493, 3) := by decide +kernel
theorem dX12_command_111 : decode cX12_command 111 = .ok (.iload_n 1, 1) := by decide +kernel
theorem dX12_command_112 : decode cX12_command 112 = .ok (.bipush 8, 2) := by decide +kernel
theorem dX12_command_114 : decode cX12_command 114 = .ok (.if_icmp .ne 7, 3) := by decide +kernel
theorem dX12_command_117 : decode cX12_command 117 = .ok (.iconst 1, 1) := by decide +kernel
theorem dX12_command_118 : decode cX12_command 118 = .ok (.goto 4, 3) := by decide +kernel
theorem dX12_command_121 : decode cX12_command 121 = .ok (.iconst 0, 1) := by decide +kernel
theorem dX12_command_122 : decode cX12_command 122 = .ok (.invokestatic 78, 3) := by decide +kernel
theorem dX12_command_125 : decode cX12_command 125 = .ok (.iadd, 1) := by decide +kernel
theorem dX12_command_126 : decode cX12_command 126 = .ok (.putfield 493, 3) := by decide +kernel
theorem dX12_command_129 : decode cX12_command 129 = .ok (.return_, 1) := by decide +kernel
theorem dX12_closes_0 : decode cX12_closes 0 = .ok (.aload_n 0, 1) := by decide +kernel
theorem dX12_closes_1 : decode cX12_closes 1 = .ok (.getfield 493, 3) := by decide +kernel
theorem dX12_closes_4 : decode cX12_closes 4 = .ok (.ifCond .le 56, 3) := by decide +kernel
theorem dX12_closes_7 : decode cX12_closes 7 = .ok (.aload_n 0, 1) := by decide +kernel
theorem dX12_closes_8 : decode cX12_closes 8 = .ok (.bipush 41, 2) := by decide +kernel
theorem dX12_closes_10 : decode cX12_closes 10 = .ok (.invokevirtual 133, 3) := by decide +kernel
theorem dX12_closes_13 : decode cX12_closes 13 = .ok (.ifCond .eq 47, 3) := by decide +kernel
theorem dX12_closes_16 : decode cX12_closes 16 = .ok (.aload_n 0, 1) := by decide +kernel
theorem dX12_closes_17 : decode cX12_closes 17 = .ok (.dup, 1) := by decide +kernel
theorem dX12_closes_18 : decode cX12_closes 18 = .ok (.getfield 493, 3) := by decide +kernel
theorem dX12_closes_21 : decode cX12_closes 21 = .ok (.iconst 1, 1) := by decide +kernel
theorem dX12_closes_22 : decode cX12_closes 22 = .ok (.isub, 1) := by decide +kernel
theorem dX12_closes_23 : decode cX12_closes 23 = .ok (.putfield 493, 3) := by decide +kernel
theorem dX12_closes_26 : decode cX12_closes 26 = .ok (.aload_n 0, 1) := by decide +kernel
theorem dX12_closes_27 : decode cX12_closes 27 = .ok (.getfield 48, 3) := by decide +kernel
theorem dX12_closes_30 : decode cX12_closes 30 = .ok (.aload_n 0, 1) := by decide +kernel
theorem dX12_closes_31 : decode cX12_closes 31 = .ok (.getfield 499, 3) := by decide +kernel
theorem dX12_closes_34 : decode cX12_closes 34 = .ok (.bipush 9, 2) := by decide +kernel
theorem dX12_closes_36 : decode cX12_closes 36 = .ok (.iastore, 1) := by decide +kernel
theorem dX12_closes_37 : decode cX12_closes 37 = .ok (.aload_n 0, 1) := by decide +kernel
theorem dX12_closes_38 : decode cX12_closes 38 = .ok (.dup, 1) := by decide +kernel
theorem dX12_closes_39 : decode cX12_closes 39 = .ok (.getfield 499, 3) := by decide +kernel
theorem dX12_closes_42 : decode cX12_closes 42 = .ok (.iconst 1, 1) := by decide +kernel
theorem dX12_closes_43 : decode cX12_closes 43 = .ok (.iadd, 1) := by decide +kernel
theorem dX12_closes_44 : decode cX12_closes 44 = .ok (.putfield 499, 3) := by decide +kernel
theorem dX12_closes_47 : decode cX12_closes 47 = .ok (.aload_n 0, 1) := by decide +kernel
theorem dX12_closes_48 : decode cX12_closes 48 = .ok (.invokevirtual 139, 3) := by decide +kernel
theorem dX12_closes_51 : decode cX12_closes 51 = .ok (.aload_n 0, 1) := by decide +kernel
theorem dX12_closes_52 : decode cX12_closes 52 = .ok (.bipush 59, 2) := by decide +kernel
theorem dX12_closes_54 : decode cX12_closes 54 = .ok (.invokevirtual 248, 3) := by decide +kernel
theorem dX12_closes_57 : decode cX12_closes 57 = .ok (.goto (-57), 3) := by decide +kernel
theorem dX12_closes_60 : decode cX12_closes 60 = .ok (.return_, 1) := by decide +kernel
theorem dX12_may_0 : decode cX12_may 0 = .ok (.aload_n 0, 1) := by decide +kernel
theorem dX12_may_1 : decode cX12_may 1 = .ok (.getfield 51, 3) := by decide +kernel
theorem dX12_may_4 : decode cX12_may 4 = .ok (.iload_n 1, 1) := by decide +kernel
theorem dX12_may_5 : decode cX12_may 5 = .ok (.iaload, 1) := by decide +kernel
theorem dX12_may_6 : decode cX12_may 6 = .ok (.istore_n 2, 1) := by decide +kernel
theorem dX12_may_7 : decode cX12_may 7 = .ok (.aload_n 0, 1) := by decide +kernel
theorem dX12_may_8 : decode cX12_may 8 = .ok (.getfield 54, 3) := by decide +kernel
theorem dX12_may_11 : decode cX12_may 11 = .ok (.iload_n 1, 1) := by decide +kernel
theorem dX12_may_12 : decode cX12_may 12 = .ok (.iaload, 1) := by decide +kernel
theorem dX12_may_13 : decode cX12_may 13 = .ok (.istore_n 3, 1) := by decide +kernel
theorem dX12_may_14 : decode cX12_may 14 = .ok (.aload_n 0, 1) := by decide +kernel
theorem dX12_may_15 : decode cX12_may 15 = .ok (.getfield 48, 3) := by decide +kernel
theorem dX12_may_18 : decode cX12_may 18 = .ok (.iload_n 1, 1) := by decide +kernel
theorem dX12_may_19 : decode cX12_may 19 = .ok (.iaload, 1) := by decide +kernel
theorem dX12_may_20 : decode cX12_may 20 = .ok (.tableswitch 117 0 6 #[44, 70, 70, 91, 97, 107, 112], 44) := by decide +kernel
theorem dX12_may_64 : decode cX12_may 64 = .ok (.iload_n 2, 1) := by decide +kernel
theorem dX12_may_65 : decode cX12_may 65 = .ok (.i2l, 1) := by decide +kernel
theorem dX12_may_66 : decode cX12_may 66 = .ok (.lconst 1, 1) := by decide +kernel
theorem dX12_may_67 : decode cX12_may 67 = .ok (.ldc2_w 372, 3) := by decide +kernel
theorem dX12_may_70 : decode cX12_may 70 = .ok (.invokestatic 92, 3) := by decide +kernel
theorem dX12_may_73 : decode cX12_may 73 = .ok (.ifCond .eq 15, 3) := by decide +kernel
theorem dX12_may_76 : decode cX12_may 76 = .ok (.aload_n 0, 1) := by decide +kernel
theorem dX12_may_77 : decode cX12_may 77 = .ok (.iload_n 2, 1) := by decide +kernel
theorem dX12_may_78 : decode cX12_may 78 = .ok (.invokevirtual 437, 3) := by decide +kernel
theorem dX12_may_81 : decode cX12_may 81 = .ok (.ifCond .eq 7, 3) := by decide +kernel
theorem dX12_may_84 : decode cX12_may 84 = .ok (.iconst 1, 1) := by decide +kernel
theorem dX12_may_85 : decode cX12_may 85 = .ok (.goto 4, 3) := by decide +kernel
theorem dX12_may_88 : decode cX12_may 88 = .ok (.iconst 0, 1) := by decide +kernel
theorem dX12_may_89 : decode cX12_may 89 = .ok (.ireturn, 1) := by decide +kernel
theorem dX12_may_90 : decode cX12_may 90 = .ok (.iload_n 3, 1) := by decide +kernel
theorem dX12_may_91 : decode cX12_may 91 = .ok (.invokestatic 443, 3) := by decide +kernel
theorem dX12_may_94 : decode cX12_may 94 = .ok (.ifCond .eq 15, 3) := by decide +kernel
theorem dX12_may_97 : decode cX12_may 97 = .ok (.aload_n 0, 1) := by decide +kernel
theorem dX12_may_98 : decode cX12_may 98 = .ok (.iload_n 2, 1) := by decide +kernel
theorem dX12_may_99 : decode cX12_may 99 = .ok (.invokevirtual 263, 3) := by decide +kernel
theorem dX12_may_102 : decode cX12_may 102 = .ok (.ifCond .eq 7, 3) := by decide +kernel
theorem dX12_may_105 : decode cX12_may 105 = .ok (.iconst 1, 1) := by decide +kernel
theorem dX12_may_106 : decode cX12_may 106 = .ok (.goto 4, 3) := by decide +kernel
theorem dX12_may_109 : decode cX12_may 109 = .ok (.iconst 0, 1) := by decide +kernel
theorem dX12_may_110 : decode cX12_may 110 = .ok (.ireturn, 1) := by decide +kernel
theorem dX12_may_111 : decode cX12_may 111 = .ok (.aload_n 0, 1) := by decide +kernel
theorem dX12_may_112 : decode cX12_may 112 = .ok (.iload_n 2, 1) := by decide +kernel
theorem dX12_may_113 : decode cX12_may 113 = .ok (.invokevirtual 263, 3) := by decide +kernel
theorem dX12_may_116 : decode cX12_may 116 = .ok (.ireturn, 1) := by decide +kernel
theorem dX12_may_117 : decode cX12_may 117 = .ok (.iload_n 3, 1) := by decide +kernel
theorem dX12_may_118 : decode cX12_may 118 = .ok (.i2l, 1) := by decide +kernel
theorem dX12_may_119 : decode cX12_may 119 = .ok (.lconst 1, 1) := by decide +kernel
theorem dX12_may_120 : decode cX12_may 120 = .ok (.ldc2_w 372, 3) := by decide +kernel
theorem dX12_may_123 : decode cX12_may 123 = .ok (.invokestatic 92, 3) := by decide +kernel
theorem dX12_may_126 : decode cX12_may 126 = .ok (.ireturn, 1) := by decide +kernel
theorem dX12_may_127 : decode cX12_may 127 = .ok (.iload_n 3, 1) := by decide +kernel
theorem dX12_may_128 : decode cX12_may 128 = .ok (.invokestatic 443, 3) := by decide +kernel
theorem dX12_may_131 : decode cX12_may 131 = .ok (.ireturn, 1) := by decide +kernel
theorem dX12_may_132 : decode cX12_may 132 = .ok (.iload_n 2, 1) := by decide +kernel
theorem dX12_may_133 : decode cX12_may 133 = .ok (.invokestatic 458, 3) := by decide +kernel
theorem dX12_may_136 : decode cX12_may 136 = .ok (.ireturn, 1) := by decide +kernel
theorem dX12_may_137 : decode cX12_may 137 = .ok (.aload_n 0, 1) := by decide +kernel
theorem dX12_may_138 : decode cX12_may 138 = .ok (.iload_n 2, 1) := by decide +kernel
theorem dX12_may_139 : decode cX12_may 139 = .ok (.iload_n 3, 1) := by decide +kernel
theorem dX12_may_140 : decode cX12_may 140 = .ok (.aload_n 0, 1) := by decide +kernel
theorem dX12_may_141 : decode cX12_may 141 = .ok (.getfield 57, 3) := by decide +kernel
theorem dX12_may_144 : decode cX12_may 144 = .ok (.iload_n 1, 1) := by decide +kernel
theorem dX12_may_145 : decode cX12_may 145 = .ok (.iaload, 1) := by decide +kernel
theorem dX12_may_146 : decode cX12_may 146 = .ok (.aload_n 0, 1) := by decide +kernel
theorem dX12_may_147 : decode cX12_may 147 = .ok (.getfield 60, 3) := by decide +kernel
theorem dX12_may_150 : decode cX12_may 150 = .ok (.iload_n 1, 1) := by decide +kernel
theorem dX12_may_151 : decode cX12_may 151 = .ok (.iaload, 1) := by decide +kernel
theorem dX12_may_152 : decode cX12_may 152 = .ok (.invokevirtual 463, 3) := by decide +kernel
theorem dX12_may_155 : decode cX12_may 155 = .ok (.ireturn, 1) := by decide +kernel
theorem dX12_isDone_0 : decode cX12_isDone 0 = .ok (.aload_n 0, 1) := by decide +kernel
theorem dX12_isDone_1 : decode cX12_isDone 1 = .ok (.getfield 51, 3) := by decide +kernel
theorem dX12_isDone_4 : decode cX12_isDone 4 = .ok (.iload_n 1, 1) := by decide +kernel
theorem dX12_isDone_5 : decode cX12_isDone 5 = .ok (.iaload, 1) := by decide +kernel
theorem dX12_isDone_6 : decode cX12_isDone 6 = .ok (.istore_n 2, 1) := by decide +kernel
theorem dX12_isDone_7 : decode cX12_isDone 7 = .ok (.aload_n 0, 1) := by decide +kernel
theorem dX12_isDone_8 : decode cX12_isDone 8 = .ok (.getfield 54, 3) := by decide +kernel
theorem dX12_isDone_11 : decode cX12_isDone 11 = .ok (.iload_n 1, 1) := by decide +kernel
theorem dX12_isDone_12 : decode cX12_isDone 12 = .ok (.iaload, 1) := by decide +kernel
theorem dX12_isDone_13 : decode cX12_isDone 13 = .ok (.istore_n 3, 1) := by decide +kernel
theorem dX12_isDone_14 : decode cX12_isDone 14 = .ok (.iconst 0, 1) := by decide +kernel
theorem dX12_isDone_15 : decode cX12_isDone 15 = .ok (.istore 4, 2) := by decide +kernel
theorem dX12_isDone_17 : decode cX12_isDone 17 = .ok (.aload_n 0, 1) := by decide +kernel
theorem dX12_isDone_18 : decode cX12_isDone 18 = .ok (.getfield 48, 3) := by decide +kernel
theorem dX12_isDone_21 : decode cX12_isDone 21 = .ok (.iload_n 1, 1) := by decide +kernel
theorem dX12_isDone_22 : decode cX12_isDone 22 = .ok (.iaload, 1) := by decide +kernel
theorem dX12_isDone_23 : decode cX12_isDone 23 = .ok (.tableswitch 110 0 6 #[41, 50, 60, 70, 76, 90, 100], 41) := by decide +kernel
theorem dX12_isDone_64 : decode cX12_isDone 64 = .ok (.aload_n 0, 1) := by decide +kernel
theorem dX12_isDone_65 : decode cX12_isDone 65 = .ok (.iload_n 2, 1) := by decide +kernel
theorem dX12_isDone_66 : decode cX12_isDone 66 = .ok (.invokevirtual 377, 3) := by decide +kernel
theorem dX12_isDone_69 : decode cX12_isDone 69 = .ok (.istore 4, 2) := by decide +kernel
theorem dX12_isDone_71 : decode cX12_isDone 71 = .ok (.iconst 1, 1) := by decide +kernel
theorem dX12_isDone_72 : decode cX12_isDone 72 = .ok (.ireturn, 1) := by decide +kernel
theorem dX12_isDone_73 : decode cX12_isDone 73 = .ok (.aload_n 0, 1) := by decide +kernel
theorem dX12_isDone_74 : decode cX12_isDone 74 = .ok (.iload_n 2, 1) := by decide +kernel
theorem dX12_isDone_75 : decode cX12_isDone 75 = .ok (.iload_n 3, 1) := by decide +kernel
theorem dX12_isDone_76 : decode cX12_isDone 76 = .ok (.invokevirtual 307, 3) := by decide +kernel
theorem dX12_isDone_79 : decode cX12_isDone 79 = .ok (.istore 4, 2) := by decide +kernel
theorem dX12_isDone_81 : decode cX12_isDone 81 = .ok (.iconst 1, 1) := by decide +kernel
theorem dX12_isDone_82 : decode cX12_isDone 82 = .ok (.ireturn, 1) := by decide +kernel
theorem dX12_isDone_83 : decode cX12_isDone 83 = .ok (.aload_n 0, 1) := by decide +kernel
theorem dX12_isDone_84 : decode cX12_isDone 84 = .ok (.iload_n 2, 1) := by decide +kernel
theorem dX12_isDone_85 : decode cX12_isDone 85 = .ok (.iload_n 3, 1) := by decide +kernel
theorem dX12_isDone_86 : decode cX12_isDone 86 = .ok (.invokevirtual 313, 3) := by decide +kernel
theorem dX12_isDone_89 : decode cX12_isDone 89 = .ok (.istore 4, 2) := by decide +kernel
theorem dX12_isDone_91 : decode cX12_isDone 91 = .ok (.iconst 1, 1) := by decide +kernel
theorem dX12_isDone_92 : decode cX12_isDone 92 = .ok (.ireturn, 1) := by decide +kernel
theorem dX12_isDone_93 : decode cX12_isDone 93 = .ok (.aload_n 0, 1) := by decide +kernel
theorem dX12_isDone_94 : decode cX12_isDone 94 = .ok (.iload_n 2, 1) := by decide +kernel
theorem dX12_isDone_95 : decode cX12_isDone 95 = .ok (.invokevirtual 450, 3) := by decide +kernel
theorem dX12_isDone_98 : decode cX12_isDone 98 = .ok (.ireturn, 1) := by decide +kernel
theorem dX12_isDone_99 : decode cX12_isDone 99 = .ok (.aload_n 0, 1) := by decide +kernel
theorem dX12_isDone_100 : decode cX12_isDone 100 = .ok (.iload_n 2, 1) := by decide +kernel
theorem dX12_isDone_101 : decode cX12_isDone 101 = .ok (.iconst 1, 1) := by decide +kernel
theorem dX12_isDone_102 : decode cX12_isDone 102 = .ok (.invokestatic 171, 3) := by decide +kernel
theorem dX12_isDone_105 : decode cX12_isDone 105 = .ok (.iload_n 3, 1) := by decide +kernel
theorem dX12_isDone_106 : decode cX12_isDone 106 = .ok (.invokevirtual 453, 3) := by decide +kernel
theorem dX12_isDone_109 : decode cX12_isDone 109 = .ok (.istore 4, 2) := by decide +kernel
theorem dX12_isDone_111 : decode cX12_isDone 111 = .ok (.iconst 1, 1) := by decide +kernel
theorem dX12_isDone_112 : decode cX12_isDone 112 = .ok (.ireturn, 1) := by decide +kernel
theorem dX12_isDone_113 : decode cX12_isDone 113 = .ok (.aload_n 0, 1) := by decide +kernel
theorem dX12_isDone_114 : decode cX12_isDone 114 = .ok (.iload_n 2, 1) := by decide +kernel
theorem dX12_isDone_115 : decode cX12_isDone 115 = .ok (.iload_n 3, 1) := by decide +kernel
theorem dX12_isDone_116 : decode cX12_isDone 116 = .ok (.invokevirtual 316, 3) := by decide +kernel
theorem dX12_isDone_119 : decode cX12_isDone 119 = .ok (.istore 4, 2) := by decide +kernel
theorem dX12_isDone_121 : decode cX12_isDone 121 = .ok (.iconst 1, 1) := by decide +kernel
theorem dX12_isDone_122 : decode cX12_isDone 122 = .ok (.ireturn, 1) := by decide +kernel
theorem dX12_isDone_123 : decode cX12_isDone 123 = .ok (.aload_n 0, 1) := by decide +kernel
theorem dX12_isDone_124 : decode cX12_isDone 124 = .ok (.iconst 1, 1) := by decide +kernel
theorem dX12_isDone_125 : decode cX12_isDone 125 = .ok (.iload_n 2, 1) := by decide +kernel
theorem dX12_isDone_126 : decode cX12_isDone 126 = .ok (.invokevirtual 453, 3) := by decide +kernel
theorem dX12_isDone_129 : decode cX12_isDone 129 = .ok (.istore 4, 2) := by decide +kernel
theorem dX12_isDone_131 : decode cX12_isDone 131 = .ok (.iconst 1, 1) := by decide +kernel
theorem dX12_isDone_132 : decode cX12_isDone 132 = .ok (.ireturn, 1) := by decide +kernel
theorem dX12_isDone_133 : decode cX12_isDone 133 = .ok (.aload_n 0, 1) := by decide +kernel
theorem dX12_isDone_134 : decode cX12_isDone 134 = .ok (.iload_n 2, 1) := by decide +kernel
theorem dX12_isDone_135 : decode cX12_isDone 135 = .ok (.iload_n 3, 1) := by decide +kernel
theorem dX12_isDone_136 : decode cX12_isDone 136 = .ok (.aload_n 0, 1) := by decide +kernel
theorem dX12_isDone_137 : decode cX12_isDone 137 = .ok (.getfield 57, 3) := by decide +kernel
theorem dX12_isDone_140 : decode cX12_isDone 140 = .ok (.iload_n 1, 1) := by decide +kernel
theorem dX12_isDone_141 : decode cX12_isDone 141 = .ok (.iaload, 1) := by decide +kernel
theorem dX12_isDone_142 : decode cX12_isDone 142 = .ok (.aload_n 0, 1) := by decide +kernel
theorem dX12_isDone_143 : decode cX12_isDone 143 = .ok (.getfield 60, 3) := by decide +kernel
theorem dX12_isDone_146 : decode cX12_isDone 146 = .ok (.iload_n 1, 1) := by decide +kernel
theorem dX12_isDone_147 : decode cX12_isDone 147 = .ok (.iaload, 1) := by decide +kernel
theorem dX12_isDone_148 : decode cX12_isDone 148 = .ok (.invokevirtual 467, 3) := by decide +kernel
theorem dX12_isDone_151 : decode cX12_isDone 151 = .ok (.istore 4, 2) := by decide +kernel
theorem dX12_isDone_153 : decode cX12_isDone 153 = .ok (.iconst 1, 1) := by decide +kernel
theorem dX12_isDone_154 : decode cX12_isDone 154 = .ok (.ireturn, 1) := by decide +kernel
theorem dX12_runScript_0 : decode cX12_runScript 0 = .ok (.aload_n 0, 1) := by decide +kernel
theorem dX12_runScript_1 : decode cX12_runScript 1 = .ok (.invokevirtual 251, 3) := by decide +kernel
theorem dX12_runScript_4 : decode cX12_runScript 4 = .ok (.aload_n 0, 1) := by decide +kernel
theorem dX12_runScript_5 : decode cX12_runScript 5 = .ok (.iconst 0, 1) := by decide +kernel
theorem dX12_runScript_6 : decode cX12_runScript 6 = .ok (.putfield 499, 3) := by decide +kernel
theorem dX12_runScript_9 : decode cX12_runScript 9 = .ok (.aload_n 0, 1) := by decide +kernel
theorem dX12_runScript_10 : decode cX12_runScript 10 = .ok (.iconst 0, 1) := by decide +kernel
theorem dX12_runScript_11 : decode cX12_runScript 11 = .ok (.putfield 496, 3) := by decide +kernel
theorem dX12_runScript_14 : decode cX12_runScript 14 = .ok (.aload_n 0, 1) := by decide +kernel
theorem dX12_runScript_15 : decode cX12_runScript 15 = .ok (.iconst 0, 1) := by decide +kernel
theorem dX12_runScript_16 : decode cX12_runScript 16 = .ok (.putfield 493, 3) := by decide +kernel
theorem dX12_runScript_19 : decode cX12_runScript 19 = .ok (.aload_n 0, 1) := by decide +kernel
theorem dX12_runScript_20 : decode cX12_runScript 20 = .ok (.invokevirtual 129, 3) := by decide +kernel
theorem dX12_runScript_23 : decode cX12_runScript 23 = .ok (.ifCond .eq 40, 3) := by decide +kernel
theorem dX12_runScript_26 : decode cX12_runScript 26 = .ok (.aload_n 0, 1) := by decide +kernel
theorem dX12_runScript_27 : decode cX12_runScript 27 = .ok (.getfield 116, 3) := by decide +kernel
theorem dX12_runScript_30 : decode cX12_runScript 30 = .ok (.ifCond .eq 33, 3) := by decide +kernel
theorem dX12_runScript_33 : decode cX12_runScript 33 = .ok (.aload_n 0, 1) := by decide +kernel
theorem dX12_runScript_34 : decode cX12_runScript 34 = .ok (.getfield 493, 3) := by decide +kernel
theorem dX12_runScript_37 : decode cX12_runScript 37 = .ok (.istore_n 1, 1) := by decide +kernel
theorem dX12_runScript_38 : decode cX12_runScript 38 = .ok (.aload_n 0, 1) := by decide +kernel
theorem dX12_runScript_39 : decode cX12_runScript 39 = .ok (.invokevirtual 505, 3) := by decide +kernel
theorem dX12_runScript_42 : decode cX12_runScript 42 = .ok (.aload_n 0, 1) := by decide +kernel
theorem dX12_runScript_43 : decode cX12_runScript 43 = .ok (.getfield 493, 3) := by decide +kernel
theorem dX12_runScript_46 : decode cX12_runScript 46 = .ok (.iload_n 1, 1) := by decide +kernel
theorem dX12_runScript_47 : decode cX12_runScript 47 = .ok (.if_icmp .ne 9, 3) := by decide +kernel
theorem dX12_runScript_50 : decode cX12_runScript 50 = .ok (.aload_n 0, 1) := by decide +kernel
theorem dX12_runScript_51 : decode cX12_runScript 51 = .ok (.bipush 59, 2) := by decide +kernel
theorem dX12_runScript_53 : decode cX12_runScript 53 = .ok (.invokevirtual 248, 3) := by decide +kernel
theorem dX12_runScript_56 : decode cX12_runScript 56 = .ok (.aload_n 0, 1) := by decide +kernel
theorem dX12_runScript_57 : decode cX12_runScript 57 = .ok (.invokevirtual 508, 3) := by decide +kernel
theorem dX12_runScript_60 : decode cX12_runScript 60 = .ok (.goto (-41), 3) := by decide +kernel
theorem dX12_runScript_63 : decode cX12_runScript 63 = .ok (.aload_n 0, 1) := by decide +kernel
theorem dX12_runScript_64 : decode cX12_runScript 64 = .ok (.invokevirtual 129, 3) := by decide +kernel
theorem dX12_runScript_67 : decode cX12_runScript 67 = .ok (.ifCond .eq 15, 3) := by decide +kernel
theorem dX12_runScript_70 : decode cX12_runScript 70 = .ok (.aload_n 0, 1) := by decide +kernel
theorem dX12_runScript_71 : decode cX12_runScript 71 = .ok (.getfield 493, 3) := by decide +kernel
theorem dX12_runScript_74 : decode cX12_runScript 74 = .ok (.ifCond .le 8, 3) := by decide +kernel
theorem dX12_runScript_77 : decode cX12_runScript 77 = .ok (.aload_n 0, 1) := by decide +kernel
theorem dX12_runScript_78 : decode cX12_runScript 78 = .ok (.iconst 1, 1) := by decide +kernel
theorem dX12_runScript_79 : decode cX12_runScript 79 = .ok (.invokevirtual 136, 3) := by decide +kernel
theorem dX12_runScript_82 : decode cX12_runScript 82 = .ok (.aload_n 0, 1) := by decide +kernel
theorem dX12_runScript_83 : decode cX12_runScript 83 = .ok (.invokevirtual 260, 3) := by decide +kernel
theorem dX12_runScript_86 : decode cX12_runScript 86 = .ok (.ifCond .ne 5, 3) := by decide +kernel
theorem dX12_runScript_89 : decode cX12_runScript 89 = .ok (.iconst 0, 1) := by decide +kernel
theorem dX12_runScript_90 : decode cX12_runScript 90 = .ok (.ireturn, 1) := by decide +kernel
theorem dX12_runScript_91 : decode cX12_runScript 91 = .ok (.aload_n 0, 1) := by decide +kernel
theorem dX12_runScript_92 : decode cX12_runScript 92 = .ok (.invokevirtual 254, 3) := by decide +kernel
theorem dX12_runScript_95 : decode cX12_runScript 95 = .ok (.aload_n 0, 1) := by decide +kernel
theorem dX12_runScript_96 : decode cX12_runScript 96 = .ok (.invokevirtual 511, 3) := by decide +kernel
theorem dX12_runScript_99 : decode cX12_runScript 99 = .ok (.istore_n 1, 1) := by decide +kernel
theorem dX12_runScript_100 : decode cX12_runScript 100 = .ok (.aload_n 0, 1) := by decide +kernel
theorem dX12_runScript_101 : decode cX12_runScript 101 = .ok (.invokevirtual 160, 3) := by decide +kernel
theorem dX12_runScript_104 : decode cX12_runScript 104 = .ok (.iload_n 1, 1) := by decide +kernel
theorem dX12_runScript_105 : decode cX12_runScript 105 = .ok (.ireturn, 1) := by decide +kernel
theorem dX12_runs_0 : decode cX12_runs 0 = .ok (.iconst 0, 1) := by decide +kernel
theorem dX12_runs_1 : decode cX12_runs 1 = .ok (.istore_n 1, 1) := by decide +kernel
theorem dX12_runs_2 : decode cX12_runs 2 = .ok (.iconst 0, 1) := by decide +kernel
theorem dX12_runs_3 : decode cX12_runs 3 = .ok (.istore_n 2, 1) := by decide +kernel
theorem dX12_runs_4 : decode cX12_runs 4 = .ok (.iconst 0, 1) := by decide +kernel
theorem dX12_runs_5 : decode cX12_runs 5 = .ok (.istore_n 3, 1) := by decide +kernel
theorem dX12_runs_6 : decode cX12_runs 6 = .ok (.iconst 1, 1) := by decide +kernel
theorem dX12_runs_7 : decode cX12_runs 7 = .ok (.istore 4, 2) := by decide +kernel
theorem dX12_runs_9 : decode cX12_runs 9 = .ok (.iload 4, 2) := by decide +kernel
theorem dX12_runs_11 : decode cX12_runs 11 = .ok (.ifCond .eq 175, 3) := by decide +kernel
theorem dX12_runs_14 : decode cX12_runs 14 = .ok (.iload_n 3, 1) := by decide +kernel
theorem dX12_runs_15 : decode cX12_runs 15 = .ok (.aload_n 0, 1) := by decide +kernel
theorem dX12_runs_16 : decode cX12_runs 16 = .ok (.getfield 499, 3) := by decide +kernel
theorem dX12_runs_19 : decode cX12_runs 19 = .ok (.if_icmp .ge 167, 3) := by decide +kernel
theorem dX12_runs_22 : decode cX12_runs 22 = .ok (.iload_n 1, 1) := by decide +kernel
theorem dX12_runs_23 : decode cX12_runs 23 = .ok (.bipush 40, 2) := by decide +kernel
theorem dX12_runs_25 : decode cX12_runs 25 = .ok (.if_icmp .ge 161, 3) := by decide +kernel
theorem dX12_runs_28 : decode cX12_runs 28 = .ok (.aload_n 0, 1) := by decide +kernel
theorem dX12_runs_29 : decode cX12_runs 29 = .ok (.getfield 48, 3) := by decide +kernel
theorem dX12_runs_32 : decode cX12_runs 32 = .ok (.iload_n 3, 1) := by decide +kernel
theorem dX12_runs_33 : decode cX12_runs 33 = .ok (.iaload, 1) := by decide +kernel
theorem dX12_runs_34 : decode cX12_runs 34 = .ok (.bipush 8, 2) := by decide +kernel
theorem dX12_runs_36 : decode cX12_runs 36 = .ok (.if_icmp .ne 31, 3) := by decide +kernel
theorem dX12_runs_39 : decode cX12_runs 39 = .ok (.aload_n 0, 1) := by decide +kernel
theorem dX12_runs_40 : decode cX12_runs 40 = .ok (.getfield 63, 3) := by decide +kernel
theorem dX12_runs_43 : decode cX12_runs 43 = .ok (.iload_n 2, 1) := by decide +kernel
theorem dX12_runs_44 : decode cX12_runs 44 = .ok (.iload_n 3, 1) := by decide +kernel
theorem dX12_runs_45 : decode cX12_runs 45 = .ok (.iastore, 1) := by decide +kernel
theorem dX12_runs_46 : decode cX12_runs 46 = .ok (.aload_n 0, 1) := by decide +kernel
theorem dX12_runs_47 : decode cX12_runs 47 = .ok (.getfield 66, 3) := by decide +kernel
theorem dX12_runs_50 : decode cX12_runs 50 = .ok (.iload_n 2, 1) := by decide +kernel
theorem dX12_runs_51 : decode cX12_runs 51 = .ok (.aload_n 0, 1) := by decide +kernel
theorem dX12_runs_52 : decode cX12_runs 52 = .ok (.getfield 51, 3) := by decide +kernel
theorem dX12_runs_55 : decode cX12_runs 55 = .ok (.iload_n 3, 1) := by decide +kernel
theorem dX12_runs_56 : decode cX12_runs 56 = .ok (.iaload, 1) := by decide +kernel
theorem dX12_runs_57 : decode cX12_runs 57 = .ok (.iastore, 1) := by decide +kernel
theorem dX12_runs_58 : decode cX12_runs 58 = .ok (.iinc 2 1, 3) := by decide +kernel
theorem dX12_runs_61 : decode cX12_runs 61 = .ok (.iinc 3 1, 3) := by decide +kernel
theorem dX12_runs_64 : decode cX12_runs 64 = .ok (.goto (-55), 3) := by decide +kernel
theorem dX12_runs_67 : decode cX12_runs 67 = .ok (.aload_n 0, 1) := by decide +kernel
theorem dX12_runs_68 : decode cX12_runs 68 = .ok (.getfield 48, 3) := by decide +kernel
theorem dX12_runs_71 : decode cX12_runs 71 = .ok (.iload_n 3, 1) := by decide +kernel
theorem dX12_runs_72 : decode cX12_runs 72 = .ok (.iaload, 1) := by decide +kernel
theorem dX12_runs_73 : decode cX12_runs 73 = .ok (.bipush 9, 2) := by decide +kernel
theorem dX12_runs_75 : decode cX12_runs 75 = .ok (.if_icmp .ne 74, 3) := by decide +kernel
theorem dX12_runs_78 : decode cX12_runs 78 = .ok (.aload_n 0, 1) := by decide +kernel
theorem dX12_runs_79 : decode cX12_runs 79 = .ok (.getfield 66, 3) := by decide +kernel
theorem dX12_runs_82 : decode cX12_runs 82 = .ok (.iload_n 2, 1) := by decide +kernel
theorem dX12_runs_83 : decode cX12_runs 83 = .ok (.iconst 1, 1) := by decide +kernel
theorem dX12_runs_84 : decode cX12_runs 84 = .ok (.isub, 1) := by decide +kernel
theorem dX12_runs_85 : decode cX12_runs 85 = .ok (.dup2, 1) := by decide +kernel
theorem dX12_runs_86 : decode cX12_runs 86 = .ok (.iaload, 1) := by decide +kernel
theorem dX12_runs_87 : decode cX12_runs 87 = .ok (.iconst 1, 1) := by decide +kernel
theorem dX12_runs_88 : decode cX12_runs 88 = .ok (.isub, 1) := by decide +kernel
theorem dX12_runs_89 : decode cX12_runs 89 = .ok (.iastore, 1) := by decide +kernel
theorem dX12_runs_90 : decode cX12_runs 90 = .ok (.aload_n 0, 1) := by decide +kernel
theorem dX12_runs_91 : decode cX12_runs 91 = .ok (.getfield 66, 3) := by decide +kernel
theorem dX12_runs_94 : decode cX12_runs 94 = .ok (.iload_n 2, 1) := by decide +kernel
theorem dX12_runs_95 : decode cX12_runs 95 = .ok (.iconst 1, 1) := by decide +kernel
theorem dX12_runs_96 : decode cX12_runs 96 = .ok (.isub, 1) := by decide +kernel
theorem dX12_runs_97 : decode cX12_runs 97 = .ok (.iaload, 1) := by decide +kernel
theorem dX12_runs_98 : decode cX12_runs 98 = .ok (.ifCond .le 7, 3) := by decide +kernel
theorem dX12_runs_101 : decode cX12_runs 101 = .ok (.iconst 1, 1) := by decide +kernel
theorem dX12_runs_102 : decode cX12_runs 102 = .ok (.goto 4, 3) := by decide +kernel
theorem dX12_runs_105 : decode cX12_runs 105 = .ok (.iconst 0, 1) := by decide +kernel
theorem dX12_runs_106 : decode cX12_runs 106 = .ok (.istore 5, 2) := by decide +kernel
theorem dX12_runs_108 : decode cX12_runs 108 = .ok (.iload 5, 2) := by decide +kernel
theorem dX12_runs_110 : decode cX12_runs 110 = .ok (.ifCond .eq 16, 3) := by decide +kernel
theorem dX12_runs_113 : decode cX12_runs 113 = .ok (.aload_n 0, 1) := by decide +kernel
theorem dX12_runs_114 : decode cX12_runs 114 = .ok (.getfield 63, 3) := by decide +kernel
theorem dX12_runs_117 : decode cX12_runs 117 = .ok (.iload_n 2, 1) := by decide +kernel
theorem dX12_runs_118 : decode cX12_runs 118 = .ok (.iconst 1, 1) := by decide +kernel
theorem dX12_runs_119 : decode cX12_runs 119 = .ok (.isub, 1) := by decide +kernel
theorem dX12_runs_120 : decode cX12_runs 120 = .ok (.iaload, 1) := by decide +kernel
theorem dX12_runs_121 : decode cX12_runs 121 = .ok (.iconst 1, 1) := by decide +kernel
theorem dX12_runs_122 : decode cX12_runs 122 = .ok (.iadd, 1) := by decide +kernel
theorem dX12_runs_123 : decode cX12_runs 123 = .ok (.goto 6, 3) := by decide +kernel
theorem dX12_runs_126 : decode cX12_runs 126 = .ok (.iload_n 3, 1) := by decide +kernel
theorem dX12_runs_127 : decode cX12_runs 127 = .ok (.iconst 1, 1) := by decide +kernel
theorem dX12_runs_128 : decode cX12_runs 128 = .ok (.iadd, 1) := by decide +kernel
theorem dX12_runs_129 : decode cX12_runs 129 = .ok (.istore_n 3, 1) := by decide +kernel
theorem dX12_runs_130 : decode cX12_runs 130 = .ok (.iload_n 2, 1) := by decide +kernel
theorem dX12_runs_131 : decode cX12_runs 131 = .ok (.iload 5, 2) := by decide +kernel
theorem dX12_runs_133 : decode cX12_runs 133 = .ok (.ifCond .ne 7, 3) := by decide +kernel
theorem dX12_runs_136 : decode cX12_runs 136 = .ok (.iconst 1, 1) := by decide +kernel
theorem dX12_runs_137 : decode cX12_runs 137 = .ok (.goto 4, 3) := by decide +kernel
theorem dX12_runs_140 : decode cX12_runs 140 = .ok (.iconst 0, 1) := by decide +kernel
theorem dX12_runs_141 : decode cX12_runs 141 = .ok (.invokestatic 78, 3) := by decide +kernel
theorem dX12_runs_144 : decode cX12_runs 144 = .ok (.isub, 1) := by decide +kernel
theorem dX12_runs_145 : decode cX12_runs 145 = .ok (.istore_n 2, 1) := by decide +kernel
theorem dX12_runs_146 : decode cX12_runs 146 = .ok (.goto (-137), 3) := by decide +kernel
theorem dX12_runs_149 : decode cX12_runs 149 = .ok (.aload_n 0, 1) := by decide +kernel
theorem dX12_runs_150 : decode cX12_runs 150 = .ok (.iload_n 3, 1) := by decide +kernel
theorem dX12_runs_151 : decode cX12_runs 151 = .ok (.invokevirtual 514, 3) := by decide +kernel
theorem dX12_runs_154 : decode cX12_runs 154 = .ok (.ifCond .eq 15, 3) := by decide +kernel
theorem dX12_runs_157 : decode cX12_runs 157 = .ok (.aload_n 0, 1) := by decide +kernel
theorem dX12_runs_158 : decode cX12_runs 158 = .ok (.iload_n 3, 1) := by decide +kernel
theorem dX12_runs_159 : decode cX12_runs 159 = .ok (.invokevirtual 517, 3) := by decide +kernel
theorem dX12_runs_162 : decode cX12_runs 162 = .ok (.ifCond .eq 7, 3) := by decide +kernel
theorem dX12_runs_165 : decode cX12_runs 165 = .ok (.iconst 1, 1) := by decide +kernel
theorem dX12_runs_166 : decode cX12_runs 166 = .ok (.goto 4, 3) := by decide +kernel
theorem dX12_runs_169 : decode cX12_runs 169 = .ok (.iconst 0, 1) := by decide +kernel
theorem dX12_runs_170 : decode cX12_runs 170 = .ok (.istore 4, 2) := by decide +kernel
theorem dX12_runs_172 : decode cX12_runs 172 = .ok (.iload_n 1, 1) := by decide +kernel
theorem dX12_runs_173 : decode cX12_runs 173 = .ok (.iload 4, 2) := by decide +kernel
theorem dX12_runs_175 : decode cX12_runs 175 = .ok (.invokestatic 78, 3) := by decide +kernel
theorem dX12_runs_178 : decode cX12_runs 178 = .ok (.iadd, 1) := by decide +kernel
theorem dX12_runs_179 : decode cX12_runs 179 = .ok (.istore_n 1, 1) := by decide +kernel
theorem dX12_runs_180 : decode cX12_runs 180 = .ok (.iinc 3 1, 3) := by decide +kernel
theorem dX12_runs_183 : decode cX12_runs 183 = .ok (.goto (-174), 3) := by decide +kernel
theorem dX12_runs_186 : decode cX12_runs 186 = .ok (.iload_n 1, 1) := by decide +kernel
theorem dX12_runs_187 : decode cX12_runs 187 = .ok (.ireturn, 1) := by decide +kernel
theorem dX12_tell_0 : decode cX12_tell 0 = .ok (.aload_n 0, 1) := by decide +kernel
theorem dX12_tell_1 : decode cX12_tell 1 = .ok (.getfield 69, 3) := by decide +kernel
theorem dX12_tell_4 : decode cX12_tell 4 = .ok (.aload_n 0, 1) := by decide +kernel
theorem dX12_tell_5 : decode cX12_tell 5 = .ok (.getfield 520, 3) := by decide +kernel
theorem dX12_tell_8 : decode cX12_tell 8 = .ok (.iload_n 1, 1) := by decide +kernel
theorem dX12_tell_9 : decode cX12_tell 9 = .ok (.iastore, 1) := by decide +kernel
theorem dX12_tell_10 : decode cX12_tell 10 = .ok (.aload_n 0, 1) := by decide +kernel
theorem dX12_tell_11 : decode cX12_tell 11 = .ok (.dup, 1) := by decide +kernel
theorem dX12_tell_12 : decode cX12_tell 12 = .ok (.getfield 520, 3) := by decide +kernel
theorem dX12_tell_15 : decode cX12_tell 15 = .ok (.iconst 1, 1) := by decide +kernel
theorem dX12_tell_16 : decode cX12_tell 16 = .ok (.iadd, 1) := by decide +kernel
theorem dX12_tell_17 : decode cX12_tell 17 = .ok (.putfield 520, 3) := by decide +kernel
theorem dX12_tell_20 : decode cX12_tell 20 = .ok (.return_, 1) := by decide +kernel
theorem dX12_tellNumber_0 : decode cX12_tellNumber 0 = .ok (.iconst 1, 1) := by decide +kernel
theorem dX12_tellNumber_1 : decode cX12_tellNumber 1 = .ok (.istore_n 2, 1) := by decide +kernel
theorem dX12_tellNumber_2 : decode cX12_tellNumber 2 = .ok (.iload_n 1, 1) := by decide +kernel
theorem dX12_tellNumber_3 : decode cX12_tellNumber 3 = .ok (.iload_n 2, 1) := by decide +kernel
theorem dX12_tellNumber_4 : decode cX12_tellNumber 4 = .ok (.idiv, 1) := by decide +kernel
theorem dX12_tellNumber_5 : decode cX12_tellNumber 5 = .ok (.bipush 9, 2) := by decide +kernel
theorem dX12_tellNumber_7 : decode cX12_tellNumber 7 = .ok (.if_icmp .le 11, 3) := by decide +kernel
theorem dX12_tellNumber_10 : decode cX12_tellNumber 10 = .ok (.iload_n 2, 1) := by decide +kernel
theorem dX12_tellNumber_11 : decode cX12_tellNumber 11 = .ok (.bipush 10, 2) := by decide +kernel
theorem dX12_tellNumber_13 : decode cX12_tellNumber 13 = .ok (.imul, 1) := by decide +kernel
theorem dX12_tellNumber_14 : decode cX12_tellNumber 14 = .ok (.istore_n 2, 1) := by decide +kernel
theorem dX12_tellNumber_15 : decode cX12_tellNumber 15 = .ok (.goto (-13), 3) := by decide +kernel
theorem dX12_tellNumber_18 : decode cX12_tellNumber 18 = .ok (.iload_n 2, 1) := by decide +kernel
theorem dX12_tellNumber_19 : decode cX12_tellNumber 19 = .ok (.istore_n 3, 1) := by decide +kernel
theorem dX12_tellNumber_20 : decode cX12_tellNumber 20 = .ok (.iload_n 3, 1) := by decide +kernel
theorem dX12_tellNumber_21 : decode cX12_tellNumber 21 = .ok (.ifCond .le 24, 3) := by decide +kernel
theorem dX12_tellNumber_24 : decode cX12_tellNumber 24 = .ok (.aload_n 0, 1) := by decide +kernel
theorem dX12_tellNumber_25 : decode cX12_tellNumber 25 = .ok (.bipush 48, 2) := by decide +kernel
theorem dX12_tellNumber_27 : decode cX12_tellNumber 27 = .ok (.iload_n 1, 1) := by decide +kernel
theorem dX12_tellNumber_28 : decode cX12_tellNumber 28 = .ok (.iload_n 3, 1) := by decide +kernel
theorem dX12_tellNumber_29 : decode cX12_tellNumber 29 = .ok (.idiv, 1) := by decide +kernel
theorem dX12_tellNumber_30 : decode cX12_tellNumber 30 = .ok (.bipush 10, 2) := by decide +kernel
theorem dX12_tellNumber_32 : decode cX12_tellNumber 32 = .ok (.irem, 1) := by decide +kernel
theorem dX12_tellNumber_33 : decode cX12_tellNumber 33 = .ok (.iadd, 1) := by decide +kernel
theorem dX12_tellNumber_34 : decode cX12_tellNumber 34 = .ok (.invokevirtual 523, 3) := by decide +kernel
theorem dX12_tellNumber_37 : decode cX12_tellNumber 37 = .ok (.iload_n 3, 1) := by decide +kernel
theorem dX12_tellNumber_38 : decode cX12_tellNumber 38 = .ok (.bipush 10, 2) := by decide +kernel
theorem dX12_tellNumber_40 : decode cX12_tellNumber 40 = .ok (.idiv, 1) := by decide +kernel
theorem dX12_tellNumber_41 : decode cX12_tellNumber 41 = .ok (.istore_n 3, 1) := by decide +kernel
theorem dX12_tellNumber_42 : decode cX12_tellNumber 42 = .ok (.goto (-22), 3) := by decide +kernel
theorem dX12_tellNumber_45 : decode cX12_tellNumber 45 = .ok (.return_, 1) := by decide +kernel
theorem dX12_nextTurn_0 : decode cX12_nextTurn 0 = .ok (.aload_n 0, 1) := by decide +kernel
theorem dX12_nextTurn_1 : decode cX12_nextTurn 1 = .ok (.invokevirtual 374, 3) := by decide +kernel
theorem dX12_nextTurn_4 : decode cX12_nextTurn 4 = .ok (.aload_n 0, 1) := by decide +kernel
theorem dX12_nextTurn_5 : decode cX12_nextTurn 5 = .ok (.iconst 1, 1) := by decide +kernel
theorem dX12_nextTurn_6 : decode cX12_nextTurn 6 = .ok (.invokevirtual 377, 3) := by decide +kernel
theorem dX12_nextTurn_9 : decode cX12_nextTurn 9 = .ok (.istore_n 1, 1) := by decide +kernel
theorem dX12_nextTurn_10 : decode cX12_nextTurn 10 = .ok (.aload_n 0, 1) := by decide +kernel
theorem dX12_nextTurn_11 : decode cX12_nextTurn 11 = .ok (.iload_n 1, 1) := by decide +kernel
theorem dX12_nextTurn_12 : decode cX12_nextTurn 12 = .ok (.ifCond .ne 7, 3) := by decide +kernel
theorem dX12_nextTurn_15 : decode cX12_nextTurn 15 = .ok (.iconst (-1), 1) := by decide +kernel
theorem dX12_nextTurn_16 : decode cX12_nextTurn 16 = .ok (.goto 7, 3) := by decide +kernel
theorem dX12_nextTurn_19 : decode cX12_nextTurn 19 = .ok (.aload_n 0, 1) := by decide +kernel
theorem dX12_nextTurn_20 : decode cX12_nextTurn 20 = .ok (.getfield 322, 3) := by decide +kernel
theorem dX12_nextTurn_23 : decode cX12_nextTurn 23 = .ok (.invokevirtual 386, 3) := by decide +kernel
theorem dX12_nextTurn_26 : decode cX12_nextTurn 26 = .ok (.ireturn, 1) := by decide +kernel
theorem dX12_tellFighter_0 : decode cX12_tellFighter 0 = .ok (.iconst 0, 1) := by decide +kernel
theorem dX12_tellFighter_1 : decode cX12_tellFighter 1 = .ok (.istore_n 3, 1) := by decide +kernel
theorem dX12_tellFighter_2 : decode cX12_tellFighter 2 = .ok (.iload_n 3, 1) := by decide +kernel
theorem dX12_tellFighter_3 : decode cX12_tellFighter 3 = .ok (.aload_n 0, 1) := by decide +kernel
theorem dX12_tellFighter_4 : decode cX12_tellFighter 4 = .ok (.getfield 35, 3) := by decide +kernel
theorem dX12_tellFighter_7 : decode cX12_tellFighter 7 = .ok (.iload_n 1, 1) := by decide +kernel
theorem dX12_tellFighter_8 : decode cX12_tellFighter 8 = .ok (.laload, 1) := by decide +kernel
theorem dX12_tellFighter_9 : decode cX12_tellFighter 9 = .ok (.invokestatic 357, 3) := by decide +kernel
theorem dX12_tellFighter_12 : decode cX12_tellFighter 12 = .ok (.if_icmp .ge 23, 3) := by decide +kernel
theorem dX12_tellFighter_15 : decode cX12_tellFighter 15 = .ok (.aload_n 0, 1) := by decide +kernel
theorem dX12_tellFighter_16 : decode cX12_tellFighter 16 = .ok (.aload_n 0, 1) := by decide +kernel
theorem dX12_tellFighter_17 : decode cX12_tellFighter 17 = .ok (.getfield 35, 3) := by decide +kernel
theorem dX12_tellFighter_20 : decode cX12_tellFighter 20 = .ok (.iload_n 1, 1) := by decide +kernel
theorem dX12_tellFighter_21 : decode cX12_tellFighter 21 = .ok (.laload, 1) := by decide +kernel
theorem dX12_tellFighter_22 : decode cX12_tellFighter 22 = .ok (.iload_n 3, 1) := by decide +kernel
theorem dX12_tellFighter_23 : decode cX12_tellFighter 23 = .ok (.invokestatic 363, 3) := by decide +kernel
theorem dX12_tellFighter_26 : decode cX12_tellFighter 26 = .ok (.invokevirtual 523, 3) := by decide +kernel
theorem dX12_tellFighter_29 : decode cX12_tellFighter 29 = .ok (.iinc 3 1, 3) := by decide +kernel
theorem dX12_tellFighter_32 : decode cX12_tellFighter 32 = .ok (.goto (-30), 3) := by decide +kernel
theorem dX12_tellFighter_35 : decode cX12_tellFighter 35 = .ok (.aload_n 0, 1) := by decide +kernel
theorem dX12_tellFighter_36 : decode cX12_tellFighter 36 = .ok (.bipush 32, 2) := by decide +kernel
theorem dX12_tellFighter_38 : decode cX12_tellFighter 38 = .ok (.invokevirtual 523, 3) := by decide +kernel
theorem dX12_tellFighter_41 : decode cX12_tellFighter 41 = .ok (.aload_n 0, 1) := by decide +kernel
theorem dX12_tellFighter_42 : decode cX12_tellFighter 42 = .ok (.aload_n 0, 1) := by decide +kernel
theorem dX12_tellFighter_43 : decode cX12_tellFighter 43 = .ok (.iload_n 1, 1) := by decide +kernel
theorem dX12_tellFighter_44 : decode cX12_tellFighter 44 = .ok (.iconst 2, 1) := by decide +kernel
theorem dX12_tellFighter_45 : decode cX12_tellFighter 45 = .ok (.invokevirtual 192, 3) := by decide +kernel
theorem dX12_tellFighter_48 : decode cX12_tellFighter 48 = .ok (.invokevirtual 526, 3) := by decide +kernel
theorem dX12_tellFighter_51 : decode cX12_tellFighter 51 = .ok (.aload_n 0, 1) := by decide +kernel
theorem dX12_tellFighter_52 : decode cX12_tellFighter 52 = .ok (.bipush 47, 2) := by decide +kernel
theorem dX12_tellFighter_54 : decode cX12_tellFighter 54 = .ok (.invokevirtual 523, 3) := by decide +kernel
theorem dX12_tellFighter_57 : decode cX12_tellFighter 57 = .ok (.aload_n 0, 1) := by decide +kernel
theorem dX12_tellFighter_58 : decode cX12_tellFighter 58 = .ok (.aload_n 0, 1) := by decide +kernel
theorem dX12_tellFighter_59 : decode cX12_tellFighter 59 = .ok (.iload_n 1, 1) := by decide +kernel
theorem dX12_tellFighter_60 : decode cX12_tellFighter 60 = .ok (.iconst 4, 1) := by decide +kernel
theorem dX12_tellFighter_61 : decode cX12_tellFighter 61 = .ok (.invokevirtual 192, 3) := by decide +kernel
theorem dX12_tellFighter_64 : decode cX12_tellFighter 64 = .ok (.invokevirtual 526, 3) := by decide +kernel
theorem dX12_tellFighter_67 : decode cX12_tellFighter 67 = .ok (.iconst 0, 1) := by decide +kernel
theorem dX12_tellFighter_68 : decode cX12_tellFighter 68 = .ok (.istore_n 3, 1) := by decide +kernel
theorem dX12_tellFighter_69 : decode cX12_tellFighter 69 = .ok (.iload_n 3, 1) := by decide +kernel
theorem dX12_tellFighter_70 : decode cX12_tellFighter 70 = .ok (.aload_n 0, 1) := by decide +kernel
theorem dX12_tellFighter_71 : decode cX12_tellFighter 71 = .ok (.iload_n 1, 1) := by decide +kernel
theorem dX12_tellFighter_72 : decode cX12_tellFighter 72 = .ok (.bipush 6, 2) := by decide +kernel
theorem dX12_tellFighter_74 : decode cX12_tellFighter 74 = .ok (.invokevirtual 192, 3) := by decide +kernel
theorem dX12_tellFighter_77 : decode cX12_tellFighter 77 = .ok (.if_icmp .ge 15, 3) := by decide +kernel
theorem dX12_tellFighter_80 : decode cX12_tellFighter 80 = .ok (.aload_n 0, 1) := by decide +kernel
theorem dX12_tellFighter_81 : decode cX12_tellFighter 81 = .ok (.bipush 43, 2) := by decide +kernel
theorem dX12_tellFighter_83 : decode cX12_tellFighter 83 = .ok (.invokevirtual 523, 3) := by decide +kernel
theorem dX12_tellFighter_86 : decode cX12_tellFighter 86 = .ok (.iinc 3 1, 3) := by decide +kernel
theorem dX12_tellFighter_89 : decode cX12_tellFighter 89 = .ok (.goto (-20), 3) := by decide +kernel
theorem dX12_tellFighter_92 : decode cX12_tellFighter 92 = .ok (.iload_n 1, 1) := by decide +kernel
theorem dX12_tellFighter_93 : decode cX12_tellFighter 93 = .ok (.iload_n 2, 1) := by decide +kernel
theorem dX12_tellFighter_94 : decode cX12_tellFighter 94 = .ok (.if_icmp .ne 9, 3) := by decide +kernel
theorem dX12_tellFighter_97 : decode cX12_tellFighter 97 = .ok (.aload_n 0, 1) := by decide +kernel
theorem dX12_tellFighter_98 : decode cX12_tellFighter 98 = .ok (.bipush 42, 2) := by decide +kernel
theorem dX12_tellFighter_100 : decode cX12_tellFighter 100 = .ok (.invokevirtual 523, 3) := by decide +kernel
theorem dX12_tellFighter_103 : decode cX12_tellFighter 103 = .ok (.aload_n 0, 1) := by decide +kernel
theorem dX12_tellFighter_104 : decode cX12_tellFighter 104 = .ok (.bipush 10, 2) := by decide +kernel
theorem dX12_tellFighter_106 : decode cX12_tellFighter 106 = .ok (.invokevirtual 523, 3) := by decide +kernel
theorem dX12_tellFighter_109 : decode cX12_tellFighter 109 = .ok (.return_, 1) := by decide +kernel
theorem dX12_report_0 : decode cX12_report 0 = .ok (.aload_n 0, 1) := by decide +kernel
theorem dX12_report_1 : decode cX12_report 1 = .ok (.iconst 0, 1) := by decide +kernel
theorem dX12_report_2 : decode cX12_report 2 = .ok (.putfield 75, 3) := by decide +kernel
theorem dX12_report_5 : decode cX12_report 5 = .ok (.aload_n 0, 1) := by decide +kernel
theorem dX12_report_6 : decode cX12_report 6 = .ok (.iconst 0, 1) := by decide +kernel
theorem dX12_report_7 : decode cX12_report 7 = .ok (.putfield 520, 3) := by decide +kernel
theorem dX12_report_10 : decode cX12_report 10 = .ok (.aload_n 0, 1) := by decide +kernel
theorem dX12_report_11 : decode cX12_report 11 = .ok (.iconst 1, 1) := by decide +kernel
theorem dX12_report_12 : decode cX12_report 12 = .ok (.putfield 529, 3) := by decide +kernel
theorem dX12_report_15 : decode cX12_report 15 = .ok (.aload_n 0, 1) := by decide +kernel
theorem dX12_report_16 : decode cX12_report 16 = .ok (.invokevirtual 532, 3) := by decide +kernel
theorem dX12_report_19 : decode cX12_report 19 = .ok (.istore_n 1, 1) := by decide +kernel
theorem dX12_report_20 : decode cX12_report 20 = .ok (.iconst 0, 1) := by decide +kernel
theorem dX12_report_21 : decode cX12_report 21 = .ok (.istore_n 2, 1) := by decide +kernel
theorem dX12_report_22 : decode cX12_report 22 = .ok (.iload_n 2, 1) := by decide +kernel
theorem dX12_report_23 : decode cX12_report 23 = .ok (.aload_n 0, 1) := by decide +kernel
theorem dX12_report_24 : decode cX12_report 24 = .ok (.getfield 20, 3) := by decide +kernel
theorem dX12_report_27 : decode cX12_report 27 = .ok (.iconst 0, 1) := by decide +kernel
theorem dX12_report_28 : decode cX12_report 28 = .ok (.iaload, 1) := by decide +kernel
theorem dX12_report_29 : decode cX12_report 29 = .ok (.if_icmp .ge 15, 3) := by decide +kernel
theorem dX12_report_32 : decode cX12_report 32 = .ok (.aload_n 0, 1) := by decide +kernel
theorem dX12_report_33 : decode cX12_report 33 = .ok (.iload_n 2, 1) := by decide +kernel
theorem dX12_report_34 : decode cX12_report 34 = .ok (.iload_n 1, 1) := by decide +kernel
theorem dX12_report_35 : decode cX12_report 35 = .ok (.invokevirtual 535, 3) := by decide +kernel
theorem dX12_report_38 : decode cX12_report 38 = .ok (.iinc 2 1, 3) := by decide +kernel
theorem dX12_report_41 : decode cX12_report 41 = .ok (.goto (-19), 3) := by decide +kernel
theorem dX12_report_44 : decode cX12_report 44 = .ok (.aload_n 0, 1) := by decide +kernel
theorem dX12_report_45 : decode cX12_report 45 = .ok (.getfield 520, 3) := by decide +kernel
theorem dX12_report_48 : decode cX12_report 48 = .ok (.ireturn, 1) := by decide +kernel
theorem dX12_reportByte_0 : decode cX12_reportByte 0 = .ok (.aload_n 0, 1) := by decide +kernel
theorem dX12_reportByte_1 : decode cX12_reportByte 1 = .ok (.aload_n 0, 1) := by decide +kernel
theorem dX12_reportByte_2 : decode cX12_reportByte 2 = .ok (.getfield 529, 3) := by decide +kernel
theorem dX12_reportByte_5 : decode cX12_reportByte 5 = .ok (.ifCond .eq 23, 3) := by decide +kernel
theorem dX12_reportByte_8 : decode cX12_reportByte 8 = .ok (.iload_n 1, 1) := by decide +kernel
theorem dX12_reportByte_9 : decode cX12_reportByte 9 = .ok (.i2l, 1) := by decide +kernel
theorem dX12_reportByte_10 : decode cX12_reportByte 10 = .ok (.lconst 0, 1) := by decide +kernel
theorem dX12_reportByte_11 : decode cX12_reportByte 11 = .ok (.aload_n 0, 1) := by decide +kernel
theorem dX12_reportByte_12 : decode cX12_reportByte 12 = .ok (.getfield 520, 3) := by decide +kernel
theorem dX12_reportByte_15 : decode cX12_reportByte 15 = .ok (.iconst 1, 1) := by decide +kernel
theorem dX12_reportByte_16 : decode cX12_reportByte 16 = .ok (.isub, 1) := by decide +kernel
theorem dX12_reportByte_17 : decode cX12_reportByte 17 = .ok (.i2l, 1) := by decide +kernel
theorem dX12_reportByte_18 : decode cX12_reportByte 18 = .ok (.invokestatic 92, 3) := by decide +kernel
theorem dX12_reportByte_21 : decode cX12_reportByte 21 = .ok (.ifCond .eq 7, 3) := by decide +kernel
theorem dX12_reportByte_24 : decode cX12_reportByte 24 = .ok (.iconst 1, 1) := by decide +kernel
theorem dX12_reportByte_25 : decode cX12_reportByte 25 = .ok (.goto 4, 3) := by decide +kernel
theorem dX12_reportByte_28 : decode cX12_reportByte 28 = .ok (.iconst 0, 1) := by decide +kernel
theorem dX12_reportByte_29 : decode cX12_reportByte 29 = .ok (.invokevirtual 85, 3) := by decide +kernel
theorem dX12_reportByte_32 : decode cX12_reportByte 32 = .ok (.ifCond .eq 12, 3) := by decide +kernel
theorem dX12_reportByte_35 : decode cX12_reportByte 35 = .ok (.aload_n 0, 1) := by decide +kernel
theorem dX12_reportByte_36 : decode cX12_reportByte 36 = .ok (.getfield 69, 3) := by decide +kernel
theorem dX12_reportByte_39 : decode cX12_reportByte 39 = .ok (.iload_n 1, 1) := by decide +kernel
theorem dX12_reportByte_40 : decode cX12_reportByte 40 = .ok (.iaload, 1) := by decide +kernel
theorem dX12_reportByte_41 : decode cX12_reportByte 41 = .ok (.goto 4, 3) := by decide +kernel
theorem dX12_reportByte_44 : decode cX12_reportByte 44 = .ok (.iconst 0, 1) := by decide +kernel
theorem dX12_reportByte_45 : decode cX12_reportByte 45 = .ok (.ireturn, 1) := by decide +kernel
