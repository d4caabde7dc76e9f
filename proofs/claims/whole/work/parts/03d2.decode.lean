theorem dX11_mix_86 : decode cX11_mix 86 = .ok (.if_icmp .le 23, 3) := by decide +kernel
theorem dX11_mix_89 : decode cX11_mix 89 = .ok (.iload 9, 2) := by decide +kernel
theorem dX11_mix_91 : decode cX11_mix 91 = .ok (.istore 5, 2) := by decide +kernel
theorem dX11_mix_93 : decode cX11_mix 93 = .ok (.bipush 100, 2) := by decide +kernel
theorem dX11_mix_95 : decode cX11_mix 95 = .ok (.iload 6, 2) := by decide +kernel
theorem dX11_mix_97 : decode cX11_mix 97 = .ok (.imul, 1) := by decide +kernel
theorem dX11_mix_98 : decode cX11_mix 98 = .ok (.bipush 10, 2) := by decide +kernel
theorem dX11_mix_100 : decode cX11_mix 100 = .ok (.iload 7, 2) := by decide +kernel
theorem dX11_mix_102 : decode cX11_mix 102 = .ok (.imul, 1) := by decide +kernel
theorem dX11_mix_103 : decode cX11_mix 103 = .ok (.iadd, 1) := by decide +kernel
theorem dX11_mix_104 : decode cX11_mix 104 = .ok (.iload 8, 2) := by decide +kernel
theorem dX11_mix_106 : decode cX11_mix 106 = .ok (.iadd, 1) := by decide +kernel
theorem dX11_mix_107 : decode cX11_mix 107 = .ok (.istore 4, 2) := by decide +kernel
theorem dX11_mix_109 : decode cX11_mix 109 = .ok (.iinc 7 1, 3) := by decide +kernel
theorem dX11_mix_112 : decode cX11_mix 112 = .ok (.goto (-65), 3) := by decide +kernel
theorem dX11_mix_115 : decode cX11_mix 115 = .ok (.iinc 6 1, 3) := by decide +kernel
theorem dX11_mix_118 : decode cX11_mix 118 = .ok (.goto (-81), 3) := by decide +kernel
theorem dX11_mix_121 : decode cX11_mix 121 = .ok (.iload_n 2, 1) := by decide +kernel
theorem dX11_mix_122 : decode cX11_mix 122 = .ok (.ifCond .ne 8, 3) := by decide +kernel
theorem dX11_mix_125 : decode cX11_mix 125 = .ok (.iload 4, 2) := by decide +kernel
theorem dX11_mix_127 : decode cX11_mix 127 = .ok (.goto 5, 3) := by decide +kernel
theorem dX11_mix_130 : decode cX11_mix 130 = .ok (.iload 5, 2) := by decide +kernel
theorem dX11_mix_132 : decode cX11_mix 132 = .ok (.ireturn, 1) := by decide +kernel
theorem dX11_line_0 : decode cX11_line 0 = .ok (.iload_n 1, 1) := by decide +kernel
theorem dX11_line_1 : decode cX11_line 1 = .ok (.iconst (-1), 1) := by decide +kernel
theorem dX11_line_2 : decode cX11_line 2 = .ok (.if_icmp .ne 14, 3) := by decide +kernel
theorem dX11_line_5 : decode cX11_line 5 = .ok (.aload_n 0, 1) := by decide +kernel
theorem dX11_line_6 : decode cX11_line 6 = .ok (.getfield 36, 3) := by decide +kernel
theorem dX11_line_9 : decode cX11_line 9 = .ok (.getfield 194, 3) := by decide +kernel
theorem dX11_line_12 : decode cX11_line 12 = .ok (.invokevirtual 155, 3) := by decide +kernel
theorem dX11_line_15 : decode cX11_line 15 = .ok (.ireturn, 1) := by decide +kernel
theorem dX11_line_16 : decode cX11_line 16 = .ok (.aload_n 0, 1) := by decide +kernel
theorem dX11_line_17 : decode cX11_line 17 = .ok (.iload_n 1, 1) := by decide +kernel
theorem dX11_line_18 : decode cX11_line 18 = .ok (.invokevirtual 95, 3) := by decide +kernel
theorem dX11_line_21 : decode cX11_line 21 = .ok (.ifnonnull 5, 3) := by decide +kernel
theorem dX11_line_24 : decode cX11_line 24 = .ok (.iconst (-1), 1) := by decide +kernel
theorem dX11_line_25 : decode cX11_line 25 = .ok (.ireturn, 1) := by decide +kernel
theorem dX11_line_26 : decode cX11_line 26 = .ok (.aload_n 0, 1) := by decide +kernel
theorem dX11_line_27 : decode cX11_line 27 = .ok (.getfield 36, 3) := by decide +kernel
theorem dX11_line_30 : decode cX11_line 30 = .ok (.getfield 194, 3) := by decide +kernel
theorem dX11_line_33 : decode cX11_line 33 = .ok (.iload_n 1, 1) := by decide +kernel
theorem dX11_line_34 : decode cX11_line 34 = .ok (.invokevirtual 142, 3) := by decide +kernel
theorem dX11_line_37 : decode cX11_line 37 = .ok (.ifCond .eq 16, 3) := by decide +kernel
theorem dX11_line_40 : decode cX11_line 40 = .ok (.aload_n 0, 1) := by decide +kernel
theorem dX11_line_41 : decode cX11_line 41 = .ok (.getfield 36, 3) := by decide +kernel
theorem dX11_line_44 : decode cX11_line 44 = .ok (.getfield 194, 3) := by decide +kernel
theorem dX11_line_47 : decode cX11_line 47 = .ok (.getfield 145, 3) := by decide +kernel
theorem dX11_line_50 : decode cX11_line 50 = .ok (.goto 5, 3) := by decide +kernel
theorem dX11_line_53 : decode cX11_line 53 = .ok (.bipush (-4), 2) := by decide +kernel
theorem dX11_line_55 : decode cX11_line 55 = .ok (.ireturn, 1) := by decide +kernel
theorem dX11_likely_0 : decode cX11_likely 0 = .ok (.iload_n 1, 1) := by decide +kernel
theorem dX11_likely_1 : decode cX11_likely 1 = .ok (.ifCond .lt 15, 3) := by decide +kernel
theorem dX11_likely_4 : decode cX11_likely 4 = .ok (.iload_n 1, 1) := by decide +kernel
theorem dX11_likely_5 : decode cX11_likely 5 = .ok (.iconst 4, 1) := by decide +kernel
theorem dX11_likely_6 : decode cX11_likely 6 = .ok (.if_icmp .gt 10, 3) := by decide +kernel
theorem dX11_likely_9 : decode cX11_likely 9 = .ok (.iload_n 2, 1) := by decide +kernel
theorem dX11_likely_10 : decode cX11_likely 10 = .ok (.invokestatic 184, 3) := by decide +kernel
theorem dX11_likely_13 : decode cX11_likely 13 = .ok (.ifCond .ne 7, 3) := by decide +kernel
theorem dX11_likely_16 : decode cX11_likely 16 = .ok (.ldc2_w 197, 3) := by decide +kernel
theorem dX11_likely_19 : decode cX11_likely 19 = .ok (.lreturn, 1) := by decide +kernel
theorem dX11_likely_20 : decode cX11_likely 20 = .ok (.aload_n 0, 1) := by decide +kernel
theorem dX11_likely_21 : decode cX11_likely 21 = .ok (.invokevirtual 199, 3) := by decide +kernel
theorem dX11_likely_24 : decode cX11_likely 24 = .ok (.iload_n 1, 1) := by decide +kernel
theorem dX11_likely_25 : decode cX11_likely 25 = .ok (.aload_n 0, 1) := by decide +kernel
theorem dX11_likely_26 : decode cX11_likely 26 = .ok (.getfield 75, 3) := by decide +kernel
theorem dX11_likely_29 : decode cX11_likely 29 = .ok (.arraylength, 1) := by decide +kernel
theorem dX11_likely_30 : decode cX11_likely 30 = .ok (.if_icmp .ge 29, 3) := by decide +kernel
theorem dX11_likely_33 : decode cX11_likely 33 = .ok (.aload_n 0, 1) := by decide +kernel
theorem dX11_likely_34 : decode cX11_likely 34 = .ok (.getfield 75, 3) := by decide +kernel
theorem dX11_likely_37 : decode cX11_likely 37 = .ok (.iload_n 1, 1) := by decide +kernel
theorem dX11_likely_38 : decode cX11_likely 38 = .ok (.laload, 1) := by decide +kernel
theorem dX11_likely_39 : decode cX11_likely 39 = .ok (.aload_n 0, 1) := by decide +kernel
theorem dX11_likely_40 : decode cX11_likely 40 = .ok (.getfield 36, 3) := by decide +kernel
theorem dX11_likely_43 : decode cX11_likely 43 = .ok (.getfield 194, 3) := by decide +kernel
theorem dX11_likely_46 : decode cX11_likely 46 = .ok (.getfield 145, 3) := by decide +kernel
theorem dX11_likely_49 : decode cX11_likely 49 = .ok (.invokestatic 202, 3) := by decide +kernel
theorem dX11_likely_52 : decode cX11_likely 52 = .ok (.iload_n 2, 1) := by decide +kernel
theorem dX11_likely_53 : decode cX11_likely 53 = .ok (.invokestatic 206, 3) := by decide +kernel
theorem dX11_likely_56 : decode cX11_likely 56 = .ok (.goto 6, 3) := by decide +kernel
theorem dX11_likely_59 : decode cX11_likely 59 = .ok (.ldc2_w 197, 3) := by decide +kernel
theorem dX11_likely_62 : decode cX11_likely 62 = .ok (.lreturn, 1) := by decide +kernel
theorem dX11_order_0 : decode cX11_order 0 = .ok (.iload_n 1, 1) := by decide +kernel
theorem dX11_order_1 : decode cX11_order 1 = .ok (.ifCond .lt 8, 3) := by decide +kernel
theorem dX11_order_4 : decode cX11_order 4 = .ok (.iload_n 1, 1) := by decide +kernel
theorem dX11_order_5 : decode cX11_order 5 = .ok (.iconst 4, 1) := by decide +kernel
theorem dX11_order_6 : decode cX11_order 6 = .ok (.if_icmp .lt 5, 3) := by decide +kernel
theorem dX11_order_9 : decode cX11_order 9 = .ok (.iconst (-1), 1) := by decide +kernel
theorem dX11_order_10 : decode cX11_order 10 = .ok (.ireturn, 1) := by decide +kernel
theorem dX11_order_11 : decode cX11_order 11 = .ok (.iload_n 1, 1) := by decide +kernel
theorem dX11_order_12 : decode cX11_order 12 = .ok (.aload_n 0, 1) := by decide +kernel
theorem dX11_order_13 : decode cX11_order 13 = .ok (.getfield 36, 3) := by decide +kernel
theorem dX11_order_16 : decode cX11_order 16 = .ok (.getfield 194, 3) := by decide +kernel
theorem dX11_order_19 : decode cX11_order 19 = .ok (.getfield 145, 3) := by decide +kernel
theorem dX11_order_22 : decode cX11_order 22 = .ok (.if_icmp .lt 6, 3) := by decide +kernel
theorem dX11_order_25 : decode cX11_order 25 = .ok (.bipush (-5), 2) := by decide +kernel
theorem dX11_order_27 : decode cX11_order 27 = .ok (.ireturn, 1) := by decide +kernel
theorem dX11_order_28 : decode cX11_order 28 = .ok (.aload_n 0, 1) := by decide +kernel
theorem dX11_order_29 : decode cX11_order 29 = .ok (.aload_n 0, 1) := by decide +kernel
theorem dX11_order_30 : decode cX11_order 30 = .ok (.getfield 36, 3) := by decide +kernel
theorem dX11_order_33 : decode cX11_order 33 = .ok (.getfield 194, 3) := by decide +kernel
theorem dX11_order_36 : decode cX11_order 36 = .ok (.getfield 145, 3) := by decide +kernel
theorem dX11_order_39 : decode cX11_order 39 = .ok (.invokevirtual 210, 3) := by decide +kernel
theorem dX11_order_42 : decode cX11_order 42 = .ok (.iload_n 1, 1) := by decide +kernel
theorem dX11_order_43 : decode cX11_order 43 = .ok (.aload_n 0, 1) := by decide +kernel
theorem dX11_order_44 : decode cX11_order 44 = .ok (.getfield 85, 3) := by decide +kernel
theorem dX11_order_47 : decode cX11_order 47 = .ok (.arraylength, 1) := by decide +kernel
theorem dX11_order_48 : decode cX11_order 48 = .ok (.if_icmp .ge 12, 3) := by decide +kernel
theorem dX11_order_51 : decode cX11_order 51 = .ok (.aload_n 0, 1) := by decide +kernel
theorem dX11_order_52 : decode cX11_order 52 = .ok (.getfield 85, 3) := by decide +kernel
theorem dX11_order_55 : decode cX11_order 55 = .ok (.iload_n 1, 1) := by decide +kernel
theorem dX11_order_56 : decode cX11_order 56 = .ok (.iaload, 1) := by decide +kernel
theorem dX11_order_57 : decode cX11_order 57 = .ok (.goto 4, 3) := by decide +kernel
theorem dX11_order_60 : decode cX11_order 60 = .ok (.iconst (-1), 1) := by decide +kernel
theorem dX11_order_61 : decode cX11_order 61 = .ok (.ireturn, 1) := by decide +kernel
theorem dX11_win_0 : decode cX11_win 0 = .ok (.iload_n 1, 1) := by decide +kernel
theorem dX11_win_1 : decode cX11_win 1 = .ok (.ifCond .lt 23, 3) := by decide +kernel
theorem dX11_win_4 : decode cX11_win 4 = .ok (.iload_n 1, 1) := by decide +kernel
theorem dX11_win_5 : decode cX11_win 5 = .ok (.bipush 100, 2) := by decide +kernel
theorem dX11_win_7 : decode cX11_win 7 = .ok (.if_icmp .gt 17, 3) := by decide +kernel
theorem dX11_win_10 : decode cX11_win 10 = .ok (.iload_n 2, 1) := by decide +kernel
theorem dX11_win_11 : decode cX11_win 11 = .ok (.invokestatic 184, 3) := by decide +kernel
theorem dX11_win_14 : decode cX11_win 14 = .ok (.ifCond .eq 10, 3) := by decide +kernel
theorem dX11_win_17 : decode cX11_win 17 = .ok (.iload_n 3, 1) := by decide +kernel
theorem dX11_win_18 : decode cX11_win 18 = .ok (.invokestatic 184, 3) := by decide +kernel
theorem dX11_win_21 : decode cX11_win 21 = .ok (.ifCond .ne 7, 3) := by decide +kernel
theorem dX11_win_24 : decode cX11_win 24 = .ok (.ldc2_w 197, 3) := by decide +kernel
theorem dX11_win_27 : decode cX11_win 27 = .ok (.lreturn, 1) := by decide +kernel
theorem dX11_win_28 : decode cX11_win 28 = .ok (.aload_n 0, 1) := by decide +kernel
theorem dX11_win_29 : decode cX11_win 29 = .ok (.invokevirtual 199, 3) := by decide +kernel
theorem dX11_win_32 : decode cX11_win 32 = .ok (.aload_n 0, 1) := by decide +kernel
theorem dX11_win_33 : decode cX11_win 33 = .ok (.iload_n 1, 1) := by decide +kernel
theorem dX11_win_34 : decode cX11_win 34 = .ok (.aload_n 0, 1) := by decide +kernel
theorem dX11_win_35 : decode cX11_win 35 = .ok (.getfield 36, 3) := by decide +kernel
theorem dX11_win_38 : decode cX11_win 38 = .ok (.getfield 194, 3) := by decide +kernel
theorem dX11_win_41 : decode cX11_win 41 = .ok (.getfield 145, 3) := by decide +kernel
theorem dX11_win_44 : decode cX11_win 44 = .ok (.invokevirtual 213, 3) := by decide +kernel
theorem dX11_win_47 : decode cX11_win 47 = .ok (.lconst 0, 1) := by decide +kernel
theorem dX11_win_48 : decode cX11_win 48 = .ok (.lstore 4, 2) := by decide +kernel
theorem dX11_win_50 : decode cX11_win 50 = .ok (.lconst 0, 1) := by decide +kernel
theorem dX11_win_51 : decode cX11_win 51 = .ok (.lstore 6, 2) := by decide +kernel
theorem dX11_win_53 : decode cX11_win 53 = .ok (.lconst 0, 1) := by decide +kernel
theorem dX11_win_54 : decode cX11_win 54 = .ok (.lstore 8, 2) := by decide +kernel
theorem dX11_win_56 : decode cX11_win 56 = .ok (.iconst 0, 1) := by decide +kernel
theorem dX11_win_57 : decode cX11_win 57 = .ok (.istore 10, 2) := by decide +kernel
theorem dX11_win_59 : decode cX11_win 59 = .ok (.iload 10, 2) := by decide +kernel
theorem dX11_win_61 : decode cX11_win 61 = .ok (.aload_n 0, 1) := by decide +kernel
theorem dX11_win_62 : decode cX11_win 62 = .ok (.getfield 75, 3) := by decide +kernel
theorem dX11_win_65 : decode cX11_win 65 = .ok (.arraylength, 1) := by decide +kernel
theorem dX11_win_66 : decode cX11_win 66 = .ok (.if_icmp .ge 66, 3) := by decide +kernel
theorem dX11_win_69 : decode cX11_win 69 = .ok (.iload 10, 2) := by decide +kernel
theorem dX11_win_71 : decode cX11_win 71 = .ok (.aload_n 0, 1) := by decide +kernel
theorem dX11_win_72 : decode cX11_win 72 = .ok (.getfield 79, 3) := by decide +kernel
theorem dX11_win_75 : decode cX11_win 75 = .ok (.arraylength, 1) := by decide +kernel
theorem dX11_win_76 : decode cX11_win 76 = .ok (.if_icmp .ge 56, 3) := by decide +kernel
theorem dX11_win_79 : decode cX11_win 79 = .ok (.lload 4, 2) := by decide +kernel
theorem dX11_win_81 : decode cX11_win 81 = .ok (.aload_n 0, 1) := by decide +kernel
theorem dX11_win_82 : decode cX11_win 82 = .ok (.getfield 75, 3) := by decide +kernel
theorem dX11_win_85 : decode cX11_win 85 = .ok (.iload 10, 2) := by decide +kernel
theorem dX11_win_87 : decode cX11_win 87 = .ok (.laload, 1) := by decide +kernel
theorem dX11_win_88 : decode cX11_win 88 = .ok (.lload 8, 2) := by decide +kernel
theorem dX11_win_90 : decode cX11_win 90 = .ok (.lmul, 1) := by decide +kernel
theorem dX11_win_91 : decode cX11_win 91 = .ok (.ladd, 1) := by decide +kernel
theorem dX11_win_92 : decode cX11_win 92 = .ok (.lstore 4, 2) := by decide +kernel
theorem dX11_win_94 : decode cX11_win 94 = .ok (.lload 6, 2) := by decide +kernel
theorem dX11_win_96 : decode cX11_win 96 = .ok (.aload_n 0, 1) := by decide +kernel
theorem dX11_win_97 : decode cX11_win 97 = .ok (.getfield 75, 3) := by decide +kernel
theorem dX11_win_100 : decode cX11_win 100 = .ok (.iload 10, 2) := by decide +kernel
theorem dX11_win_102 : decode cX11_win 102 = .ok (.laload, 1) := by decide +kernel
theorem dX11_win_103 : decode cX11_win 103 = .ok (.aload_n 0, 1) := by decide +kernel
theorem dX11_win_104 : decode cX11_win 104 = .ok (.getfield 79, 3) := by decide +kernel
theorem dX11_win_107 : decode cX11_win 107 = .ok (.iload 10, 2) := by decide +kernel
theorem dX11_win_109 : decode cX11_win 109 = .ok (.laload, 1) := by decide +kernel
theorem dX11_win_110 : decode cX11_win 110 = .ok (.lmul, 1) := by decide +kernel
theorem dX11_win_111 : decode cX11_win 111 = .ok (.ladd, 1) := by decide +kernel
theorem dX11_win_112 : decode cX11_win 112 = .ok (.lstore 6, 2) := by decide +kernel
theorem dX11_win_114 : decode cX11_win 114 = .ok (.lload 8, 2) := by decide +kernel
theorem dX11_win_116 : decode cX11_win 116 = .ok (.aload_n 0, 1) := by decide +kernel
theorem dX11_win_117 : decode cX11_win 117 = .ok (.getfield 79, 3) := by decide +kernel
theorem dX11_win_120 : decode cX11_win 120 = .ok (.iload 10, 2) := by decide +kernel
theorem dX11_win_122 : decode cX11_win 122 = .ok (.laload, 1) := by decide +kernel
theorem dX11_win_123 : decode cX11_win 123 = .ok (.ladd, 1) := by decide +kernel
theorem dX11_win_124 : decode cX11_win 124 = .ok (.lstore 8, 2) := by decide +kernel
theorem dX11_win_126 : decode cX11_win 126 = .ok (.iinc 10 1, 3) := by decide +kernel
theorem dX11_win_129 : decode cX11_win 129 = .ok (.goto (-70), 3) := by decide +kernel
theorem dX11_win_132 : decode cX11_win 132 = .ok (.iload_n 2, 1) := by decide +kernel
theorem dX11_win_133 : decode cX11_win 133 = .ok (.ifCond .ne 8, 3) := by decide +kernel
theorem dX11_win_136 : decode cX11_win 136 = .ok (.lload 4, 2) := by decide +kernel
theorem dX11_win_138 : decode cX11_win 138 = .ok (.goto 5, 3) := by decide +kernel
theorem dX11_win_141 : decode cX11_win 141 = .ok (.lload 6, 2) := by decide +kernel
theorem dX11_win_143 : decode cX11_win 143 = .ok (.iconst 2, 1) := by decide +kernel
theorem dX11_win_144 : decode cX11_win 144 = .ok (.aload_n 0, 1) := by decide +kernel
theorem dX11_win_145 : decode cX11_win 145 = .ok (.getfield 36, 3) := by decide +kernel
theorem dX11_win_148 : decode cX11_win 148 = .ok (.getfield 194, 3) := by decide +kernel
theorem dX11_win_151 : decode cX11_win 151 = .ok (.getfield 145, 3) := by decide +kernel
theorem dX11_win_154 : decode cX11_win 154 = .ok (.imul, 1) := by decide +kernel
theorem dX11_win_155 : decode cX11_win 155 = .ok (.invokestatic 202, 3) := by decide +kernel
theorem dX11_win_158 : decode cX11_win 158 = .ok (.iload_n 3, 1) := by decide +kernel
theorem dX11_win_159 : decode cX11_win 159 = .ok (.invokestatic 206, 3) := by decide +kernel
theorem dX11_win_162 : decode cX11_win 162 = .ok (.lreturn, 1) := by decide +kernel
theorem dX11_worth_0 : decode cX11_worth 0 = .ok (.aload_n 0, 1) := by decide +kernel
theorem dX11_worth_1 : decode cX11_worth 1 = .ok (.iload_n 1, 1) := by decide +kernel
theorem dX11_worth_2 : decode cX11_worth 2 = .ok (.invokevirtual 95, 3) := by decide +kernel
theorem dX11_worth_5 : decode cX11_worth 5 = .ok (.astore_n 2, 1) := by decide +kernel
theorem dX11_worth_6 : decode cX11_worth 6 = .ok (.aload_n 2, 1) := by decide +kernel
theorem dX11_worth_7 : decode cX11_worth 7 = .ok (.ifnonnull 7, 3) := by decide +kernel
theorem dX11_worth_10 : decode cX11_worth 10 = .ok (.sipush (-1001), 3) := by decide +kernel
theorem dX11_worth_13 : decode cX11_worth 13 = .ok (.ireturn, 1) := by decide +kernel
theorem dX11_worth_14 : decode cX11_worth 14 = .ok (.aload_n 0, 1) := by decide +kernel
theorem dX11_worth_15 : decode cX11_worth 15 = .ok (.aload_n 0, 1) := by decide +kernel
theorem dX11_worth_16 : decode cX11_worth 16 = .ok (.getfield 36, 3) := by decide +kernel
theorem dX11_worth_19 : decode cX11_worth 19 = .ok (.aload_n 2, 1) := by decide +kernel
theorem dX11_worth_20 : decode cX11_worth 20 = .ok (.invokevirtual 116, 3) := by decide +kernel
theorem dX11_worth_23 : decode cX11_worth 23 = .ok (.aload_n 2, 1) := by decide +kernel
theorem dX11_worth_24 : decode cX11_worth 24 = .ok (.aload_n 0, 1) := by decide +kernel
theorem dX11_worth_25 : decode cX11_worth 25 = .ok (.getfield 50, 3) := by decide +kernel
theorem dX11_worth_28 : decode cX11_worth 28 = .ok (.aload_n 0, 1) := by decide +kernel
theorem dX11_worth_29 : decode cX11_worth 29 = .ok (.getfield 36, 3) := by decide +kernel
theorem dX11_worth_32 : decode cX11_worth 32 = .ok (.invokevirtual 173, 3) := by decide +kernel
theorem dX11_worth_35 : decode cX11_worth 35 = .ok (.istore_n 3, 1) := by decide +kernel
theorem dX11_worth_36 : decode cX11_worth 36 = .ok (.aload_n 0, 1) := by decide +kernel
theorem dX11_worth_37 : decode cX11_worth 37 = .ok (.getfield 50, 3) := by decide +kernel
theorem dX11_worth_40 : decode cX11_worth 40 = .ok (.iload_n 3, 1) := by decide +kernel
theorem dX11_worth_41 : decode cX11_worth 41 = .ok (.iconst 1, 1) := by decide +kernel
theorem dX11_worth_42 : decode cX11_worth 42 = .ok (.invokevirtual 167, 3) := by decide +kernel
theorem dX11_worth_45 : decode cX11_worth 45 = .ok (.aload_n 0, 1) := by decide +kernel
theorem dX11_worth_46 : decode cX11_worth 46 = .ok (.getfield 50, 3) := by decide +kernel
theorem dX11_worth_49 : decode cX11_worth 49 = .ok (.iload_n 3, 1) := by decide +kernel
theorem dX11_worth_50 : decode cX11_worth 50 = .ok (.aload_n 0, 1) := by decide +kernel
theorem dX11_worth_51 : decode cX11_worth 51 = .ok (.getfield 50, 3) := by decide +kernel
theorem dX11_worth_54 : decode cX11_worth 54 = .ok (.getfield 177, 3) := by decide +kernel
theorem dX11_worth_57 : decode cX11_worth 57 = .ok (.invokevirtual 167, 3) := by decide +kernel
theorem dX11_worth_60 : decode cX11_worth 60 = .ok (.isub, 1) := by decide +kernel
theorem dX11_worth_61 : decode cX11_worth 61 = .ok (.ireturn, 1) := by decide +kernel
theorem dX11_stop_0 : decode cX11_stop 0 = .ok (.aload_n 0, 1) := by decide +kernel
theorem dX11_stop_1 : decode cX11_stop 1 = .ok (.iload_n 1, 1) := by decide +kernel
theorem dX11_stop_2 : decode cX11_stop 2 = .ok (.invokevirtual 95, 3) := by decide +kernel
theorem dX11_stop_5 : decode cX11_stop 5 = .ok (.astore_n 2, 1) := by decide +kernel
theorem dX11_stop_6 : decode cX11_stop 6 = .ok (.aload_n 2, 1) := by decide +kernel
theorem dX11_stop_7 : decode cX11_stop 7 = .ok (.ifnonnull 7, 3) := by decide +kernel
theorem dX11_stop_10 : decode cX11_stop 10 = .ok (.sipush (-1001), 3) := by decide +kernel
theorem dX11_stop_13 : decode cX11_stop 13 = .ok (.ireturn, 1) := by decide +kernel
theorem dX11_stop_14 : decode cX11_stop 14 = .ok (.aload_n 0, 1) := by decide +kernel
theorem dX11_stop_15 : decode cX11_stop 15 = .ok (.aload_n 0, 1) := by decide +kernel
theorem dX11_stop_16 : decode cX11_stop 16 = .ok (.getfield 36, 3) := by decide +kernel
theorem dX11_stop_19 : decode cX11_stop 19 = .ok (.aload_n 2, 1) := by decide +kernel
theorem dX11_stop_20 : decode cX11_stop 20 = .ok (.invokevirtual 116, 3) := by decide +kernel
theorem dX11_stop_23 : decode cX11_stop 23 = .ok (.aload_n 2, 1) := by decide +kernel
theorem dX11_stop_24 : decode cX11_stop 24 = .ok (.aload_n 0, 1) := by decide +kernel
theorem dX11_stop_25 : decode cX11_stop 25 = .ok (.getfield 50, 3) := by decide +kernel
theorem dX11_stop_28 : decode cX11_stop 28 = .ok (.aload_n 0, 1) := by decide +kernel
theorem dX11_stop_29 : decode cX11_stop 29 = .ok (.getfield 36, 3) := by decide +kernel
theorem dX11_stop_32 : decode cX11_stop 32 = .ok (.invokevirtual 173, 3) := by decide +kernel
theorem dX11_stop_35 : decode cX11_stop 35 = .ok (.istore_n 3, 1) := by decide +kernel
theorem dX11_stop_36 : decode cX11_stop 36 = .ok (.aload_n 0, 1) := by decide +kernel
theorem dX11_stop_37 : decode cX11_stop 37 = .ok (.getfield 50, 3) := by decide +kernel
theorem dX11_stop_40 : decode cX11_stop 40 = .ok (.aload_n 0, 1) := by decide +kernel
theorem dX11_stop_41 : decode cX11_stop 41 = .ok (.getfield 50, 3) := by decide +kernel
theorem dX11_stop_44 : decode cX11_stop 44 = .ok (.invokevirtual 216, 3) := by decide +kernel
theorem dX11_stop_47 : decode cX11_stop 47 = .ok (.aload_n 0, 1) := by decide +kernel
theorem dX11_stop_48 : decode cX11_stop 48 = .ok (.getfield 50, 3) := by decide +kernel
theorem dX11_stop_51 : decode cX11_stop 51 = .ok (.getfield 177, 3) := by decide +kernel
theorem dX11_stop_54 : decode cX11_stop 54 = .ok (.invokevirtual 167, 3) := by decide +kernel
theorem dX11_stop_57 : decode cX11_stop 57 = .ok (.aload_n 0, 1) := by decide +kernel
theorem dX11_stop_58 : decode cX11_stop 58 = .ok (.getfield 50, 3) := by decide +kernel
theorem dX11_stop_61 : decode cX11_stop 61 = .ok (.iload_n 3, 1) := by decide +kernel
theorem dX11_stop_62 : decode cX11_stop 62 = .ok (.aload_n 0, 1) := by decide +kernel
theorem dX11_stop_63 : decode cX11_stop 63 = .ok (.getfield 50, 3) := by decide +kernel
theorem dX11_stop_66 : decode cX11_stop 66 = .ok (.getfield 177, 3) := by decide +kernel
theorem dX11_stop_69 : decode cX11_stop 69 = .ok (.invokevirtual 167, 3) := by decide +kernel
theorem dX11_stop_72 : decode cX11_stop 72 = .ok (.isub, 1) := by decide +kernel
theorem dX11_stop_73 : decode cX11_stop 73 = .ok (.ireturn, 1) := by decide +kernel
theorem dX11_forget_0 : decode cX11_forget 0 = .ok (.aload_n 0, 1) := by decide +kernel
theorem dX11_forget_1 : decode cX11_forget 1 = .ok (.iload_n 1, 1) := by decide +kernel
theorem dX11_forget_2 : decode cX11_forget 2 = .ok (.invokevirtual 95, 3) := by decide +kernel
theorem dX11_forget_5 : decode cX11_forget 5 = .ok (.astore_n 3, 1) := by decide +kernel
theorem dX11_forget_6 : decode cX11_forget 6 = .ok (.aload_n 3, 1) := by decide +kernel
theorem dX11_forget_7 : decode cX11_forget 7 = .ok (.ifnull 10, 3) := by decide +kernel
theorem dX11_forget_10 : decode cX11_forget 10 = .ok (.iload_n 2, 1) := by decide +kernel
theorem dX11_forget_11 : decode cX11_forget 11 = .ok (.invokestatic 184, 3) := by decide +kernel
theorem dX11_forget_14 : decode cX11_forget 14 = .ok (.ifCond .ne 5, 3) := by decide +kernel
theorem dX11_forget_17 : decode cX11_forget 17 = .ok (.iconst (-1), 1) := by decide +kernel
theorem dX11_forget_18 : decode cX11_forget 18 = .ok (.ireturn, 1) := by decide +kernel
theorem dX11_forget_19 : decode cX11_forget 19 = .ok (.aload_n 0, 1) := by decide +kernel
theorem dX11_forget_20 : decode cX11_forget 20 = .ok (.invokevirtual 219, 3) := by decide +kernel
theorem dX11_forget_23 : decode cX11_forget 23 = .ok (.astore 4, 2) := by decide +kernel
theorem dX11_forget_25 : decode cX11_forget 25 = .ok (.iconst 0, 1) := by decide +kernel
theorem dX11_forget_26 : decode cX11_forget 26 = .ok (.istore 5, 2) := by decide +kernel
theorem dX11_forget_28 : decode cX11_forget 28 = .ok (.iconst (-1), 1) := by decide +kernel
theorem dX11_forget_29 : decode cX11_forget 29 = .ok (.istore 6, 2) := by decide +kernel
theorem dX11_forget_31 : decode cX11_forget 31 = .ok (.iconst 0, 1) := by decide +kernel
theorem dX11_forget_32 : decode cX11_forget 32 = .ok (.istore 7, 2) := by decide +kernel
theorem dX11_forget_34 : decode cX11_forget 34 = .ok (.iload 7, 2) := by decide +kernel
theorem dX11_forget_36 : decode cX11_forget 36 = .ok (.iconst 3, 1) := by decide +kernel
theorem dX11_forget_37 : decode cX11_forget 37 = .ok (.if_icmp .gt 65, 3) := by decide +kernel
theorem dX11_forget_40 : decode cX11_forget 40 = .ok (.aload 4, 2) := by decide +kernel
theorem dX11_forget_42 : decode cX11_forget 42 = .ok (.iload_n 1, 1) := by decide +kernel
theorem dX11_forget_43 : decode cX11_forget 43 = .ok (.iload 7, 2) := by decide +kernel
theorem dX11_forget_45 : decode cX11_forget 45 = .ok (.invokevirtual 124, 3) := by decide +kernel
theorem dX11_forget_48 : decode cX11_forget 48 = .ok (.aload_n 0, 1) := by decide +kernel
theorem dX11_forget_49 : decode cX11_forget 49 = .ok (.aload 4, 2) := by decide +kernel
theorem dX11_forget_51 : decode cX11_forget 51 = .ok (.aload_n 3, 1) := by decide +kernel
theorem dX11_forget_52 : decode cX11_forget 52 = .ok (.invokevirtual 116, 3) := by decide +kernel
theorem dX11_forget_55 : decode cX11_forget 55 = .ok (.aload_n 0, 1) := by decide +kernel
theorem dX11_forget_56 : decode cX11_forget 56 = .ok (.getfield 50, 3) := by decide +kernel
theorem dX11_forget_59 : decode cX11_forget 59 = .ok (.aload_n 3, 1) := by decide +kernel
theorem dX11_forget_60 : decode cX11_forget 60 = .ok (.aload_n 0, 1) := by decide +kernel
theorem dX11_forget_61 : decode cX11_forget 61 = .ok (.getfield 50, 3) := by decide +kernel
theorem dX11_forget_64 : decode cX11_forget 64 = .ok (.aload 4, 2) := by decide +kernel
theorem dX11_forget_66 : decode cX11_forget 66 = .ok (.invokevirtual 173, 3) := by decide +kernel
theorem dX11_forget_69 : decode cX11_forget 69 = .ok (.aload_n 0, 1) := by decide +kernel
theorem dX11_forget_70 : decode cX11_forget 70 = .ok (.getfield 50, 3) := by decide +kernel
theorem dX11_forget_73 : decode cX11_forget 73 = .ok (.getfield 177, 3) := by decide +kernel
theorem dX11_forget_76 : decode cX11_forget 76 = .ok (.invokevirtual 167, 3) := by decide +kernel
theorem dX11_forget_79 : decode cX11_forget 79 = .ok (.istore 8, 2) := by decide +kernel
theorem dX11_forget_81 : decode cX11_forget 81 = .ok (.iload 8, 2) := by decide +kernel
theorem dX11_forget_83 : decode cX11_forget 83 = .ok (.iload 6, 2) := by decide +kernel
theorem dX11_forget_85 : decode cX11_forget 85 = .ok (.if_icmp .le 11, 3) := by decide +kernel
theorem dX11_forget_88 : decode cX11_forget 88 = .ok (.iload 8, 2) := by decide +kernel
theorem dX11_forget_90 : decode cX11_forget 90 = .ok (.istore 6, 2) := by decide +kernel
theorem dX11_forget_92 : decode cX11_forget 92 = .ok (.iload 7, 2) := by decide +kernel
theorem dX11_forget_94 : decode cX11_forget 94 = .ok (.istore 5, 2) := by decide +kernel
theorem dX11_forget_96 : decode cX11_forget 96 = .ok (.iinc 7 1, 3) := by decide +kernel
theorem dX11_forget_99 : decode cX11_forget 99 = .ok (.goto (-65), 3) := by decide +kernel
theorem dX11_forget_102 : decode cX11_forget 102 = .ok (.iload_n 2, 1) := by decide +kernel
theorem dX11_forget_103 : decode cX11_forget 103 = .ok (.ifCond .ne 8, 3) := by decide +kernel
theorem dX11_forget_106 : decode cX11_forget 106 = .ok (.iload 5, 2) := by decide +kernel
theorem dX11_forget_108 : decode cX11_forget 108 = .ok (.goto 5, 3) := by decide +kernel
theorem dX11_forget_111 : decode cX11_forget 111 = .ok (.iload 6, 2) := by decide +kernel
theorem dX11_forget_113 : decode cX11_forget 113 = .ok (.ireturn, 1) := by decide +kernel
theorem dX11_caught_0 : decode cX11_caught 0 = .ok (.aload_n 0, 1) := by decide +kernel
theorem dX11_caught_1 : decode cX11_caught 1 = .ok (.iload_n 1, 1) := by decide +kernel
theorem dX11_caught_2 : decode cX11_caught 2 = .ok (.invokevirtual 95, 3) := by decide +kernel
theorem dX11_caught_5 : decode cX11_caught 5 = .ok (.astore_n 3, 1) := by decide +kernel
theorem dX11_caught_6 : decode cX11_caught 6 = .ok (.aload_n 3, 1) := by decide +kernel
theorem dX11_caught_7 : decode cX11_caught 7 = .ok (.ifnonnull 5, 3) := by decide +kernel
theorem dX11_caught_10 : decode cX11_caught 10 = .ok (.iconst (-1), 1) := by decide +kernel
theorem dX11_caught_11 : decode cX11_caught 11 = .ok (.ireturn, 1) := by decide +kernel
theorem dX11_caught_12 : decode cX11_caught 12 = .ok (.iload_n 2, 1) := by decide +kernel
theorem dX11_caught_13 : decode cX11_caught 13 = .ok (.ifCond .lt 9, 3) := by decide +kernel
theorem dX11_caught_16 : decode cX11_caught 16 = .ok (.iload_n 2, 1) := by decide +kernel
theorem dX11_caught_17 : decode cX11_caught 17 = .ok (.bipush 20, 2) := by decide +kernel
theorem dX11_caught_19 : decode cX11_caught 19 = .ok (.if_icmp .le 6, 3) := by decide +kernel
theorem dX11_caught_22 : decode cX11_caught 22 = .ok (.bipush (-2), 2) := by decide +kernel
theorem dX11_caught_24 : decode cX11_caught 24 = .ok (.ireturn, 1) := by decide +kernel
theorem dX11_caught_25 : decode cX11_caught 25 = .ok (.aload_n 0, 1) := by decide +kernel
theorem dX11_caught_26 : decode cX11_caught 26 = .ok (.invokevirtual 219, 3) := by decide +kernel
theorem dX11_caught_29 : decode cX11_caught 29 = .ok (.astore 4, 2) := by decide +kernel
theorem dX11_caught_31 : decode cX11_caught 31 = .ok (.iconst 0, 1) := by decide +kernel
theorem dX11_caught_32 : decode cX11_caught 32 = .ok (.istore 5, 2) := by decide +kernel
theorem dX11_caught_34 : decode cX11_caught 34 = .ok (.iconst 0, 1) := by decide +kernel
theorem dX11_caught_35 : decode cX11_caught 35 = .ok (.istore 6, 2) := by decide +kernel
theorem dX11_caught_37 : decode cX11_caught 37 = .ok (.iload 6, 2) := by decide +kernel
theorem dX11_caught_39 : decode cX11_caught 39 = .ok (.iload_n 2, 1) := by decide +kernel
theorem dX11_caught_40 : decode cX11_caught 40 = .ok (.if_icmp .ge 52, 3) := by decide +kernel
theorem dX11_caught_43 : decode cX11_caught 43 = .ok (.aload_n 0, 1) := by decide +kernel
theorem dX11_caught_44 : decode cX11_caught 44 = .ok (.aload 4, 2) := by decide +kernel
theorem dX11_caught_46 : decode cX11_caught 46 = .ok (.aload_n 3, 1) := by decide +kernel
theorem dX11_caught_47 : decode cX11_caught 47 = .ok (.invokevirtual 116, 3) := by decide +kernel
theorem dX11_caught_50 : decode cX11_caught 50 = .ok (.aload_n 3, 1) := by decide +kernel
theorem dX11_caught_51 : decode cX11_caught 51 = .ok (.aload_n 0, 1) := by decide +kernel
theorem dX11_caught_52 : decode cX11_caught 52 = .ok (.getfield 50, 3) := by decide +kernel
theorem dX11_caught_55 : decode cX11_caught 55 = .ok (.aload 4, 2) := by decide +kernel
theorem dX11_caught_57 : decode cX11_caught 57 = .ok (.invokevirtual 173, 3) := by decide +kernel
theorem dX11_caught_60 : decode cX11_caught 60 = .ok (.istore 7, 2) := by decide +kernel
theorem dX11_caught_62 : decode cX11_caught 62 = .ok (.iload 7, 2) := by decide +kernel
theorem dX11_caught_64 : decode cX11_caught 64 = .ok (.aload_n 0, 1) := by decide +kernel
theorem dX11_caught_65 : decode cX11_caught 65 = .ok (.getfield 50, 3) := by decide +kernel
theorem dX11_caught_68 : decode cX11_caught 68 = .ok (.getfield 177, 3) := by decide +kernel
theorem dX11_caught_71 : decode cX11_caught 71 = .ok (.if_icmp .ne 6, 3) := by decide +kernel
theorem dX11_caught_74 : decode cX11_caught 74 = .ok (.iinc 5 1, 3) := by decide +kernel
theorem dX11_caught_77 : decode cX11_caught 77 = .ok (.aload 4, 2) := by decide +kernel
theorem dX11_caught_79 : decode cX11_caught 79 = .ok (.iload_n 1, 1) := by decide +kernel
theorem dX11_caught_80 : decode cX11_caught 80 = .ok (.iload 7, 2) := by decide +kernel
theorem dX11_caught_82 : decode cX11_caught 82 = .ok (.iconst 0, 1) := by decide +kernel
theorem dX11_caught_83 : decode cX11_caught 83 = .ok (.invokevirtual 180, 3) := by decide +kernel
theorem dX11_caught_86 : decode cX11_caught 86 = .ok (.iinc 6 1, 3) := by decide +kernel
theorem dX11_caught_89 : decode cX11_caught 89 = .ok (.goto (-52), 3) := by decide +kernel
theorem dX11_caught_92 : decode cX11_caught 92 = .ok (.iload 5, 2) := by decide +kernel
theorem dX11_caught_94 : decode cX11_caught 94 = .ok (.ireturn, 1) := by decide +kernel
theorem dX11_see_0 : decode cX11_see 0 = .ok (.iload_n 1, 1) := by decide +kernel
theorem dX11_see_1 : decode cX11_see 1 = .ok (.iconst (-1), 1) := by decide +kernel
theorem dX11_see_2 : decode cX11_see 2 = .ok (.if_icmp .ne 14, 3) := by decide +kernel
theorem dX11_see_5 : decode cX11_see 5 = .ok (.aload_n 0, 1) := by decide +kernel
theorem dX11_see_6 : decode cX11_see 6 = .ok (.getfield 36, 3) := by decide +kernel
theorem dX11_see_9 : decode cX11_see 9 = .ok (.getfield 223, 3) := by decide +kernel
theorem dX11_see_12 : decode cX11_see 12 = .ok (.invokevirtual 155, 3) := by decide +kernel
theorem dX11_see_15 : decode cX11_see 15 = .ok (.ireturn, 1) := by decide +kernel
theorem dX11_see_16 : decode cX11_see 16 = .ok (.iload_n 1, 1) := by decide +kernel
theorem dX11_see_17 : decode cX11_see 17 = .ok (.invokestatic 128, 3) := by decide +kernel
theorem dX11_see_20 : decode cX11_see 20 = .ok (.ifCond .ne 5, 3) := by decide +kernel
theorem dX11_see_23 : decode cX11_see 23 = .ok (.iconst (-1), 1) := by decide +kernel
theorem dX11_see_24 : decode cX11_see 24 = .ok (.ireturn, 1) := by decide +kernel
theorem dX11_see_25 : decode cX11_see 25 = .ok (.aload_n 0, 1) := by decide +kernel
theorem dX11_see_26 : decode cX11_see 26 = .ok (.getfield 36, 3) := by decide +kernel
theorem dX11_see_29 : decode cX11_see 29 = .ok (.getfield 223, 3) := by decide +kernel
theorem dX11_see_32 : decode cX11_see 32 = .ok (.iload_n 1, 1) := by decide +kernel
theorem dX11_see_33 : decode cX11_see 33 = .ok (.invokevirtual 142, 3) := by decide +kernel
theorem dX11_see_36 : decode cX11_see 36 = .ok (.ifCond .eq 16, 3) := by decide +kernel
theorem dX11_see_39 : decode cX11_see 39 = .ok (.aload_n 0, 1) := by decide +kernel
theorem dX11_see_40 : decode cX11_see 40 = .ok (.getfield 36, 3) := by decide +kernel
theorem dX11_see_43 : decode cX11_see 43 = .ok (.getfield 223, 3) := by decide +kernel
theorem dX11_see_46 : decode cX11_see 46 = .ok (.getfield 145, 3) := by decide +kernel
theorem dX11_see_49 : decode cX11_see 49 = .ok (.goto 5, 3) := by decide +kernel
theorem dX11_see_52 : decode cX11_see 52 = .ok (.bipush (-4), 2) := by decide +kernel
theorem dX11_see_54 : decode cX11_see 54 = .ok (.ireturn, 1) := by decide +kernel
theorem dX11_who_0 : decode cX11_who 0 = .ok (.iconst 0, 1) := by decide +kernel
theorem dX11_who_1 : decode cX11_who 1 = .ok (.istore_n 1, 1) := by decide +kernel
theorem dX11_who_2 : decode cX11_who 2 = .ok (.iconst 0, 1) := by decide +kernel
theorem dX11_who_3 : decode cX11_who 3 = .ok (.istore_n 2, 1) := by decide +kernel
theorem dX11_who_4 : decode cX11_who 4 = .ok (.iload_n 2, 1) := by decide +kernel
theorem dX11_who_5 : decode cX11_who 5 = .ok (.aload_n 0, 1) := by decide +kernel
theorem dX11_who_6 : decode cX11_who 6 = .ok (.getfield 36, 3) := by decide +kernel
theorem dX11_who_9 : decode cX11_who 9 = .ok (.getfield 88, 3) := by decide +kernel
theorem dX11_who_12 : decode cX11_who 12 = .ok (.if_icmp .ge 33, 3) := by decide +kernel
theorem dX11_who_15 : decode cX11_who 15 = .ok (.aload_n 0, 1) := by decide +kernel
theorem dX11_who_16 : decode cX11_who 16 = .ok (.iload_n 2, 1) := by decide +kernel
theorem dX11_who_17 : decode cX11_who 17 = .ok (.invokevirtual 95, 3) := by decide +kernel
theorem dX11_who_20 : decode cX11_who 20 = .ok (.astore_n 3, 1) := by decide +kernel
theorem dX11_who_21 : decode cX11_who 21 = .ok (.aload_n 3, 1) := by decide +kernel
theorem dX11_who_22 : decode cX11_who 22 = .ok (.ifnull 17, 3) := by decide +kernel
theorem dX11_who_25 : decode cX11_who 25 = .ok (.aload_n 0, 1) := by decide +kernel
theorem dX11_who_26 : decode cX11_who 26 = .ok (.aload_n 3, 1) := by decide +kernel
theorem dX11_who_27 : decode cX11_who 27 = .ok (.invokevirtual 226, 3) := by decide +kernel
theorem dX11_who_30 : decode cX11_who 30 = .ok (.ifCond .eq 9, 3) := by decide +kernel
theorem dX11_who_33 : decode cX11_who 33 = .ok (.iload_n 1, 1) := by decide +kernel
theorem dX11_who_34 : decode cX11_who 34 = .ok (.iconst 1, 1) := by decide +kernel
theorem dX11_who_35 : decode cX11_who 35 = .ok (.iload_n 2, 1) := by decide +kernel
theorem dX11_who_36 : decode cX11_who 36 = .ok (.ishl, 1) := by decide +kernel
theorem dX11_who_37 : decode cX11_who 37 = .ok (.ior, 1) := by decide +kernel
theorem dX11_who_38 : decode cX11_who 38 = .ok (.istore_n 1, 1) := by decide +kernel
theorem dX11_who_39 : decode cX11_who 39 = .ok (.iinc 2 1, 3) := by decide +kernel
theorem dX11_who_42 : decode cX11_who 42 = .ok (.goto (-38), 3) := by decide +kernel
theorem dX11_who_45 : decode cX11_who 45 = .ok (.iload_n 1, 1) := by decide +kernel
theorem dX11_who_46 : decode cX11_who 46 = .ok (.ireturn, 1) := by decide +kernel
theorem dX11_odds_0 : decode cX11_odds 0 = .ok (.aload_n 0, 1) := by decide +kernel
theorem dX11_odds_1 : decode cX11_odds 1 = .ok (.iload_n 1, 1) := by decide +kernel
theorem dX11_odds_2 : decode cX11_odds 2 = .ok (.invokevirtual 95, 3) := by decide +kernel
theorem dX11_odds_5 : decode cX11_odds 5 = .ok (.astore_n 3, 1) := by decide +kernel
theorem dX11_odds_6 : decode cX11_odds 6 = .ok (.aload_n 3, 1) := by decide +kernel
theorem dX11_odds_7 : decode cX11_odds 7 = .ok (.ifnull 10, 3) := by decide +kernel
theorem dX11_odds_10 : decode cX11_odds 10 = .ok (.iload_n 2, 1) := by decide +kernel
theorem dX11_odds_11 : decode cX11_odds 11 = .ok (.invokestatic 184, 3) := by decide +kernel
theorem dX11_odds_14 : decode cX11_odds 14 = .ok (.ifCond .ne 7, 3) := by decide +kernel
theorem dX11_odds_17 : decode cX11_odds 17 = .ok (.ldc2_w 197, 3) := by decide +kernel
theorem dX11_odds_20 : decode cX11_odds 20 = .ok (.lreturn, 1) := by decide +kernel
theorem dX11_odds_21 : decode cX11_odds 21 = .ok (.aload_n 0, 1) := by decide +kernel
theorem dX11_odds_22 : decode cX11_odds 22 = .ok (.aload_n 0, 1) := by decide +kernel
theorem dX11_odds_23 : decode cX11_odds 23 = .ok (.getfield 36, 3) := by decide +kernel
theorem dX11_odds_26 : decode cX11_odds 26 = .ok (.aload_n 3, 1) := by decide +kernel
theorem dX11_odds_27 : decode cX11_odds 27 = .ok (.invokevirtual 116, 3) := by decide +kernel
theorem dX11_odds_30 : decode cX11_odds 30 = .ok (.lconst 0, 1) := by decide +kernel
theorem dX11_odds_31 : decode cX11_odds 31 = .ok (.lstore 4, 2) := by decide +kernel
theorem dX11_odds_33 : decode cX11_odds 33 = .ok (.iconst 0, 1) := by decide +kernel
theorem dX11_odds_34 : decode cX11_odds 34 = .ok (.istore 6, 2) := by decide +kernel
theorem dX11_odds_36 : decode cX11_odds 36 = .ok (.iload 6, 2) := by decide +kernel
theorem dX11_odds_38 : decode cX11_odds 38 = .ok (.iconst 3, 1) := by decide +kernel
theorem dX11_odds_39 : decode cX11_odds 39 = .ok (.if_icmp .ge 31, 3) := by decide +kernel
theorem dX11_odds_42 : decode cX11_odds 42 = .ok (.lload 4, 2) := by decide +kernel
theorem dX11_odds_44 : decode cX11_odds 44 = .ok (.aload_n 0, 1) := by decide +kernel
theorem dX11_odds_45 : decode cX11_odds 45 = .ok (.getfield 50, 3) := by decide +kernel
theorem dX11_odds_48 : decode cX11_odds 48 = .ok (.iload 6, 2) := by decide +kernel
theorem dX11_odds_50 : decode cX11_odds 50 = .ok (.aload_n 0, 1) := by decide +kernel
theorem dX11_odds_51 : decode cX11_odds 51 = .ok (.getfield 50, 3) := by decide +kernel
theorem dX11_odds_54 : decode cX11_odds 54 = .ok (.getfield 177, 3) := by decide +kernel
theorem dX11_odds_57 : decode cX11_odds 57 = .ok (.invokevirtual 167, 3) := by decide +kernel
theorem dX11_odds_60 : decode cX11_odds 60 = .ok (.i2l, 1) := by decide +kernel
theorem dX11_odds_61 : decode cX11_odds 61 = .ok (.ladd, 1) := by decide +kernel
theorem dX11_odds_62 : decode cX11_odds 62 = .ok (.lstore 4, 2) := by decide +kernel
theorem dX11_odds_64 : decode cX11_odds 64 = .ok (.iinc 6 1, 3) := by decide +kernel
theorem dX11_odds_67 : decode cX11_odds 67 = .ok (.goto (-31), 3) := by decide +kernel
theorem dX11_odds_70 : decode cX11_odds 70 = .ok (.lload 4, 2) := by decide +kernel
theorem dX11_odds_72 : decode cX11_odds 72 = .ok (.ldc2_w 230, 3) := by decide +kernel
theorem dX11_odds_75 : decode cX11_odds 75 = .ok (.iload_n 2, 1) := by decide +kernel
theorem dX11_odds_76 : decode cX11_odds 76 = .ok (.invokestatic 206, 3) := by decide +kernel
theorem dX11_odds_79 : decode cX11_odds 79 = .ok (.lreturn, 1) := by decide +kernel
theorem dX11_mean_0 : decode cX11_mean 0 = .ok (.iload_n 1, 1) := by decide +kernel
theorem dX11_mean_1 : decode cX11_mean 1 = .ok (.invokestatic 184, 3) := by decide +kernel
theorem dX11_mean_4 : decode cX11_mean 4 = .ok (.ifCond .eq 14, 3) := by decide +kernel
theorem dX11_mean_7 : decode cX11_mean 7 = .ok (.aload_n 0, 1) := by decide +kernel
theorem dX11_mean_8 : decode cX11_mean 8 = .ok (.getfield 36, 3) := by decide +kernel
theorem dX11_mean_11 : decode cX11_mean 11 = .ok (.getfield 88, 3) := by decide +kernel
theorem dX11_mean_14 : decode cX11_mean 14 = .ok (.iconst 1, 1) := by decide +kernel
theorem dX11_mean_15 : decode cX11_mean 15 = .ok (.if_icmp .ge 7, 3) := by decide +kernel
theorem dX11_mean_18 : decode cX11_mean 18 = .ok (.ldc2_w 197, 3) := by decide +kernel
theorem dX11_mean_21 : decode cX11_mean 21 = .ok (.lreturn, 1) := by decide +kernel
theorem dX11_mean_22 : decode cX11_mean 22 = .ok (.lconst 0, 1) := by decide +kernel
theorem dX11_mean_23 : decode cX11_mean 23 = .ok (.lstore_n 2, 1) := by decide +kernel
theorem dX11_mean_24 : decode cX11_mean 24 = .ok (.iconst 0, 1) := by decide +kernel
theorem dX11_mean_25 : decode cX11_mean 25 = .ok (.istore 4, 2) := by decide +kernel
theorem dX11_mean_27 : decode cX11_mean 27 = .ok (.iload 4, 2) := by decide +kernel
theorem dX11_mean_29 : decode cX11_mean 29 = .ok (.aload_n 0, 1) := by decide +kernel
theorem dX11_mean_30 : decode cX11_mean 30 = .ok (.getfield 36, 3) := by decide +kernel
theorem dX11_mean_33 : decode cX11_mean 33 = .ok (.getfield 88, 3) := by decide +kernel
theorem dX11_mean_36 : decode cX11_mean 36 = .ok (.if_icmp .ge 63, 3) := by decide +kernel
theorem dX11_mean_39 : decode cX11_mean 39 = .ok (.aload_n 0, 1) := by decide +kernel
theorem dX11_mean_40 : decode cX11_mean 40 = .ok (.iload 4, 2) := by decide +kernel
theorem dX11_mean_42 : decode cX11_mean 42 = .ok (.invokevirtual 95, 3) := by decide +kernel
theorem dX11_mean_45 : decode cX11_mean 45 = .ok (.astore 5, 2) := by decide +kernel
theorem dX11_mean_47 : decode cX11_mean 47 = .ok (.aload 5, 2) := by decide +kernel
theorem dX11_mean_49 : decode cX11_mean 49 = .ok (.ifnull 44, 3) := by decide +kernel
theorem dX11_mean_52 : decode cX11_mean 52 = .ok (.aload_n 0, 1) := by decide +kernel
theorem dX11_mean_53 : decode cX11_mean 53 = .ok (.aload_n 0, 1) := by decide +kernel
theorem dX11_mean_54 : decode cX11_mean 54 = .ok (.getfield 36, 3) := by decide +kernel
theorem dX11_mean_57 : decode cX11_mean 57 = .ok (.aload 5, 2) := by decide +kernel
theorem dX11_mean_59 : decode cX11_mean 59 = .ok (.invokevirtual 116, 3) := by decide +kernel
theorem dX11_mean_62 : decode cX11_mean 62 = .ok (.lload_n 2, 1) := by decide +kernel
theorem dX11_mean_63 : decode cX11_mean 63 = .ok (.aload_n 0, 1) := by decide +kernel
theorem dX11_mean_64 : decode cX11_mean 64 = .ok (.getfield 50, 3) := by decide +kernel
theorem dX11_mean_67 : decode cX11_mean 67 = .ok (.aload 5, 2) := by decide +kernel
theorem dX11_mean_69 : decode cX11_mean 69 = .ok (.aload_n 0, 1) := by decide +kernel
theorem dX11_mean_70 : decode cX11_mean 70 = .ok (.getfield 50, 3) := by decide +kernel
theorem dX11_mean_73 : decode cX11_mean 73 = .ok (.aload_n 0, 1) := by decide +kernel
theorem dX11_mean_74 : decode cX11_mean 74 = .ok (.getfield 36, 3) := by decide +kernel
theorem dX11_mean_77 : decode cX11_mean 77 = .ok (.invokevirtual 173, 3) := by decide +kernel
theorem dX11_mean_80 : decode cX11_mean 80 = .ok (.aload_n 0, 1) := by decide +kernel
theorem dX11_mean_81 : decode cX11_mean 81 = .ok (.getfield 50, 3) := by decide +kernel
theorem dX11_mean_84 : decode cX11_mean 84 = .ok (.getfield 177, 3) := by decide +kernel
theorem dX11_mean_87 : decode cX11_mean 87 = .ok (.invokevirtual 167, 3) := by decide +kernel
theorem dX11_mean_90 : decode cX11_mean 90 = .ok (.i2l, 1) := by decide +kernel
theorem dX11_mean_91 : decode cX11_mean 91 = .ok (.ladd, 1) := by decide +kernel
theorem dX11_mean_92 : decode cX11_mean 92 = .ok (.lstore_n 2, 1) := by decide +kernel
theorem dX11_mean_93 : decode cX11_mean 93 = .ok (.iinc 4 1, 3) := by decide +kernel
theorem dX11_mean_96 : decode cX11_mean 96 = .ok (.goto (-69), 3) := by decide +kernel
theorem dX11_mean_99 : decode cX11_mean 99 = .ok (.lload_n 2, 1) := by decide +kernel
theorem dX11_mean_100 : decode cX11_mean 100 = .ok (.aload_n 0, 1) := by decide +kernel
theorem dX11_mean_101 : decode cX11_mean 101 = .ok (.getfield 36, 3) := by decide +kernel
theorem dX11_mean_104 : decode cX11_mean 104 = .ok (.getfield 88, 3) := by decide +kernel
theorem dX11_mean_107 : decode cX11_mean 107 = .ok (.i2l, 1) := by decide +kernel
theorem dX11_mean_108 : decode cX11_mean 108 = .ok (.iload_n 1, 1) := by decide +kernel
theorem dX11_mean_109 : decode cX11_mean 109 = .ok (.invokestatic 206, 3) := by decide +kernel
theorem dX11_mean_112 : decode cX11_mean 112 = .ok (.lreturn, 1) := by decide +kernel
theorem dX11_book_0 : decode cX11_book 0 = .ok (.iload_n 1, 1) := by decide +kernel
theorem dX11_book_1 : decode cX11_book 1 = .ok (.iconst (-1), 1) := by decide +kernel
theorem dX11_book_2 : decode cX11_book 2 = .ok (.if_icmp .ne 25, 3) := by decide +kernel
theorem dX11_book_5 : decode cX11_book 5 = .ok (.aload_n 0, 1) := by decide +kernel
theorem dX11_book_6 : decode cX11_book 6 = .ok (.getfield 36, 3) := by decide +kernel
theorem dX11_book_9 : decode cX11_book 9 = .ok (.getfield 232, 3) := by decide +kernel
theorem dX11_book_12 : decode cX11_book 12 = .ok (.invokevirtual 155, 3) := by decide +kernel
theorem dX11_book_15 : decode cX11_book 15 = .ok (.pop, 1) := by decide +kernel
theorem dX11_book_16 : decode cX11_book 16 = .ok (.aload_n 0, 1) := by decide +kernel
theorem dX11_book_17 : decode cX11_book 17 = .ok (.getfield 36, 3) := by decide +kernel
theorem dX11_book_20 : decode cX11_book 20 = .ok (.getfield 235, 3) := by decide +kernel
theorem dX11_book_23 : decode cX11_book 23 = .ok (.invokevirtual 155, 3) := by decide +kernel
theorem dX11_book_26 : decode cX11_book 26 = .ok (.ireturn, 1) := by decide +kernel
theorem dX11_book_27 : decode cX11_book 27 = .ok (.aload_n 0, 1) := by decide +kernel
theorem dX11_book_28 : decode cX11_book 28 = .ok (.iload_n 1, 1) := by decide +kernel
theorem dX11_book_29 : decode cX11_book 29 = .ok (.invokevirtual 95, 3) := by decide +kernel
theorem dX11_book_32 : decode cX11_book 32 = .ok (.ifnonnull 5, 3) := by decide +kernel
theorem dX11_book_35 : decode cX11_book 35 = .ok (.iconst (-1), 1) := by decide +kernel
theorem dX11_book_36 : decode cX11_book 36 = .ok (.ireturn, 1) := by decide +kernel
theorem dX11_book_37 : decode cX11_book 37 = .ok (.iload_n 2, 1) := by decide +kernel
theorem dX11_book_38 : decode cX11_book 38 = .ok (.invokestatic 170, 3) := by decide +kernel
theorem dX11_book_41 : decode cX11_book 41 = .ok (.ifCond .ne 6, 3) := by decide +kernel
theorem dX11_book_44 : decode cX11_book 44 = .ok (.bipush (-2), 2) := by decide +kernel
theorem dX11_book_46 : decode cX11_book 46 = .ok (.ireturn, 1) := by decide +kernel
theorem dX11_book_47 : decode cX11_book 47 = .ok (.aload_n 0, 1) := by decide +kernel
theorem dX11_book_48 : decode cX11_book 48 = .ok (.getfield 36, 3) := by decide +kernel
theorem dX11_book_51 : decode cX11_book 51 = .ok (.getfield 235, 3) := by decide +kernel
theorem dX11_book_54 : decode cX11_book 54 = .ok (.iload_n 1, 1) := by decide +kernel
theorem dX11_book_55 : decode cX11_book 55 = .ok (.invokevirtual 142, 3) := by decide +kernel
theorem dX11_book_58 : decode cX11_book 58 = .ok (.ifCond .ne 6, 3) := by decide +kernel
theorem dX11_book_61 : decode cX11_book 61 = .ok (.bipush (-4), 2) := by decide +kernel
theorem dX11_book_63 : decode cX11_book 63 = .ok (.ireturn, 1) := by decide +kernel
theorem dX11_book_64 : decode cX11_book 64 = .ok (.aload_n 0, 1) := by decide +kernel
theorem dX11_book_65 : decode cX11_book 65 = .ok (.getfield 36, 3) := by decide +kernel
theorem dX11_book_68 : decode cX11_book 68 = .ok (.getfield 232, 3) := by decide +kernel
theorem dX11_book_71 : decode cX11_book 71 = .ok (.iload_n 2, 1) := by decide +kernel
theorem dX11_book_72 : decode cX11_book 72 = .ok (.invokevirtual 142, 3) := by decide +kernel
theorem dX11_book_75 : decode cX11_book 75 = .ok (.pop, 1) := by decide +kernel
theorem dX11_book_76 : decode cX11_book 76 = .ok (.aload_n 0, 1) := by decide +kernel
theorem dX11_book_77 : decode cX11_book 77 = .ok (.getfield 36, 3) := by decide +kernel
theorem dX11_book_80 : decode cX11_book 80 = .ok (.getfield 235, 3) := by decide +kernel
theorem dX11_book_83 : decode cX11_book 83 = .ok (.getfield 145, 3) := by decide +kernel
theorem dX11_book_86 : decode cX11_book 86 = .ok (.ireturn, 1) := by decide +kernel
theorem dX11_looked_0 : decode cX11_looked 0 = .ok (.aload_n 0, 1) := by decide +kernel
theorem dX11_looked_1 : decode cX11_looked 1 = .ok (.invokevirtual 219, 3) := by decide +kernel
theorem dX11_looked_4 : decode cX11_looked 4 = .ok (.astore_n 1, 1) := by decide +kernel
theorem dX11_looked_5 : decode cX11_looked 5 = .ok (.iconst 0, 1) := by decide +kernel
theorem dX11_looked_6 : decode cX11_looked 6 = .ok (.istore_n 2, 1) := by decide +kernel
theorem dX11_looked_7 : decode cX11_looked 7 = .ok (.iload_n 2, 1) := by decide +kernel
theorem dX11_looked_8 : decode cX11_looked 8 = .ok (.aload_n 0, 1) := by decide +kernel
theorem dX11_looked_9 : decode cX11_looked 9 = .ok (.getfield 36, 3) := by decide +kernel
theorem dX11_looked_12 : decode cX11_looked 12 = .ok (.getfield 235, 3) := by decide +kernel
theorem dX11_looked_15 : decode cX11_looked 15 = .ok (.getfield 145, 3) := by decide +kernel
theorem dX11_looked_18 : decode cX11_looked 18 = .ok (.if_icmp .ge 89, 3) := by decide +kernel
theorem dX11_looked_21 : decode cX11_looked 21 = .ok (.aload_n 0, 1) := by decide +kernel
theorem dX11_looked_22 : decode cX11_looked 22 = .ok (.aload_n 0, 1) := by decide +kernel
theorem dX11_looked_23 : decode cX11_looked 23 = .ok (.getfield 36, 3) := by decide +kernel
theorem dX11_looked_26 : decode cX11_looked 26 = .ok (.getfield 235, 3) := by decide +kernel
theorem dX11_looked_29 : decode cX11_looked 29 = .ok (.iload_n 2, 1) := by decide +kernel
theorem dX11_looked_30 : decode cX11_looked 30 = .ok (.invokevirtual 238, 3) := by decide +kernel
theorem dX11_looked_33 : decode cX11_looked 33 = .ok (.invokevirtual 95, 3) := by decide +kernel
theorem dX11_looked_36 : decode cX11_looked 36 = .ok (.astore_n 3, 1) := by decide +kernel
theorem dX11_looked_37 : decode cX11_looked 37 = .ok (.aload_n 3, 1) := by decide +kernel
theorem dX11_looked_38 : decode cX11_looked 38 = .ok (.ifnull 63, 3) := by decide +kernel
theorem dX11_looked_41 : decode cX11_looked 41 = .ok (.aload_n 0, 1) := by decide +kernel
theorem dX11_looked_42 : decode cX11_looked 42 = .ok (.aload_n 1, 1) := by decide +kernel
theorem dX11_looked_43 : decode cX11_looked 43 = .ok (.aload_n 3, 1) := by decide +kernel
theorem dX11_looked_44 : decode cX11_looked 44 = .ok (.invokevirtual 116, 3) := by decide +kernel
theorem dX11_looked_47 : decode cX11_looked 47 = .ok (.aload_n 3, 1) := by decide +kernel
theorem dX11_looked_48 : decode cX11_looked 48 = .ok (.aload_n 0, 1) := by decide +kernel
theorem dX11_looked_49 : decode cX11_looked 49 = .ok (.getfield 50, 3) := by decide +kernel
theorem dX11_looked_52 : decode cX11_looked 52 = .ok (.aload_n 1, 1) := by decide +kernel
theorem dX11_looked_53 : decode cX11_looked 53 = .ok (.invokevirtual 173, 3) := by decide +kernel
theorem dX11_looked_56 : decode cX11_looked 56 = .ok (.istore 4, 2) := by decide +kernel
theorem dX11_looked_58 : decode cX11_looked 58 = .ok (.aload_n 0, 1) := by decide +kernel
theorem dX11_looked_59 : decode cX11_looked 59 = .ok (.getfield 36, 3) := by decide +kernel
theorem dX11_looked_62 : decode cX11_looked 62 = .ok (.getfield 232, 3) := by decide +kernel
theorem dX11_looked_65 : decode cX11_looked 65 = .ok (.iload_n 2, 1) := by decide +kernel
theorem dX11_looked_66 : decode cX11_looked 66 = .ok (.invokevirtual 238, 3) := by decide +kernel
theorem dX11_looked_69 : decode cX11_looked 69 = .ok (.aload_n 0, 1) := by decide +kernel
theorem dX11_looked_70 : decode cX11_looked 70 = .ok (.getfield 50, 3) := by decide +kernel
theorem dX11_looked_73 : decode cX11_looked 73 = .ok (.iload 4, 2) := by decide +kernel
theorem dX11_looked_75 : decode cX11_looked 75 = .ok (.aload_n 0, 1) := by decide +kernel
theorem dX11_looked_76 : decode cX11_looked 76 = .ok (.getfield 50, 3) := by decide +kernel
theorem dX11_looked_79 : decode cX11_looked 79 = .ok (.getfield 177, 3) := by decide +kernel
theorem dX11_looked_82 : decode cX11_looked 82 = .ok (.invokevirtual 167, 3) := by decide +kernel
theorem dX11_looked_85 : decode cX11_looked 85 = .ok (.if_icmp .lt 5, 3) := by decide +kernel
theorem dX11_looked_88 : decode cX11_looked 88 = .ok (.iload_n 2, 1) := by decide +kernel
theorem dX11_looked_89 : decode cX11_looked 89 = .ok (.ireturn, 1) := by decide +kernel
theorem dX11_looked_90 : decode cX11_looked 90 = .ok (.aload_n 1, 1) := by decide +kernel
theorem dX11_looked_91 : decode cX11_looked 91 = .ok (.aload_n 3, 1) := by decide +kernel
theorem dX11_looked_92 : decode cX11_looked 92 = .ok (.getfield 241, 3) := by decide +kernel
theorem dX11_looked_95 : decode cX11_looked 95 = .ok (.iload 4, 2) := by decide +kernel
theorem dX11_looked_97 : decode cX11_looked 97 = .ok (.iconst 1, 1) := by decide +kernel
theorem dX11_looked_98 : decode cX11_looked 98 = .ok (.invokevirtual 180, 3) := by decide +kernel
theorem dX11_looked_101 : decode cX11_looked 101 = .ok (.iinc 2 1, 3) := by decide +kernel
theorem dX11_looked_104 : decode cX11_looked 104 = .ok (.goto (-97), 3) := by decide +kernel
theorem dX11_looked_107 : decode cX11_looked 107 = .ok (.bipush (-5), 2) := by decide +kernel
theorem dX11_looked_109 : decode cX11_looked 109 = .ok (.ireturn, 1) := by decide +kernel
theorem dX11_judge_0 : decode cX11_judge 0 = .ok (.aload_n 0, 1) := by decide +kernel
theorem dX11_judge_1 : decode cX11_judge 1 = .ok (.iload_n 1, 1) := by decide +kernel
theorem dX11_judge_2 : decode cX11_judge 2 = .ok (.invokevirtual 244, 3) := by decide +kernel
theorem dX11_judge_5 : decode cX11_judge 5 = .ok (.ifCond .ne 5, 3) := by decide +kernel
theorem dX11_judge_8 : decode cX11_judge 8 = .ok (.iconst (-1), 1) := by decide +kernel
theorem dX11_judge_9 : decode cX11_judge 9 = .ok (.ireturn, 1) := by decide +kernel
theorem dX11_judge_10 : decode cX11_judge 10 = .ok (.aload_n 0, 1) := by decide +kernel
theorem dX11_judge_11 : decode cX11_judge 11 = .ok (.getfield 62, 3) := by decide +kernel
theorem dX11_judge_14 : decode cX11_judge 14 = .ok (.iload_n 1, 1) := by decide +kernel
theorem dX11_judge_15 : decode cX11_judge 15 = .ok (.iaload, 1) := by decide +kernel
theorem dX11_judge_16 : decode cX11_judge 16 = .ok (.iconst (-1), 1) := by decide +kernel
theorem dX11_judge_17 : decode cX11_judge 17 = .ok (.if_icmp .eq 15, 3) := by decide +kernel
theorem dX11_judge_20 : decode cX11_judge 20 = .ok (.aload_n 0, 1) := by decide +kernel
theorem dX11_judge_21 : decode cX11_judge 21 = .ok (.getfield 62, 3) := by decide +kernel
theorem dX11_judge_24 : decode cX11_judge 24 = .ok (.iload_n 1, 1) := by decide +kernel
theorem dX11_judge_25 : decode cX11_judge 25 = .ok (.iaload, 1) := by decide +kernel
theorem dX11_judge_26 : decode cX11_judge 26 = .ok (.ifCond .eq 6, 3) := by decide +kernel
theorem dX11_judge_29 : decode cX11_judge 29 = .ok (.bipush (-12), 2) := by decide +kernel
theorem dX11_judge_31 : decode cX11_judge 31 = .ok (.ireturn, 1) := by decide +kernel
theorem dX11_judge_32 : decode cX11_judge 32 = .ok (.iconst 0, 1) := by decide +kernel
theorem dX11_judge_33 : decode cX11_judge 33 = .ok (.istore_n 3, 1) := by decide +kernel
theorem dX11_judge_34 : decode cX11_judge 34 = .ok (.iload_n 3, 1) := by decide +kernel
theorem dX11_judge_35 : decode cX11_judge 35 = .ok (.aload_n 0, 1) := by decide +kernel
theorem dX11_judge_36 : decode cX11_judge 36 = .ok (.getfield 36, 3) := by decide +kernel
theorem dX11_judge_39 : decode cX11_judge 39 = .ok (.getfield 88, 3) := by decide +kernel
theorem dX11_judge_42 : decode cX11_judge 42 = .ok (.if_icmp .ge 59, 3) := by decide +kernel
theorem dX11_judge_45 : decode cX11_judge 45 = .ok (.aload_n 0, 1) := by decide +kernel
theorem dX11_judge_46 : decode cX11_judge 46 = .ok (.iload_n 1, 1) := by decide +kernel
theorem dX11_judge_47 : decode cX11_judge 47 = .ok (.iload_n 2, 1) := by decide +kernel
theorem dX11_judge_48 : decode cX11_judge 48 = .ok (.invokevirtual 247, 3) := by decide +kernel
theorem dX11_judge_51 : decode cX11_judge 51 = .ok (.ifCond .eq 14, 3) := by decide +kernel
theorem dX11_judge_54 : decode cX11_judge 54 = .ok (.aload_n 0, 1) := by decide +kernel
theorem dX11_judge_55 : decode cX11_judge 55 = .ok (.iload_n 1, 1) := by decide +kernel
theorem dX11_judge_56 : decode cX11_judge 56 = .ok (.iload_n 2, 1) := by decide +kernel
theorem dX11_judge_57 : decode cX11_judge 57 = .ok (.iload_n 3, 1) := by decide +kernel
theorem dX11_judge_58 : decode cX11_judge 58 = .ok (.iadd, 1) := by decide +kernel
theorem dX11_judge_59 : decode cX11_judge 59 = .ok (.invokevirtual 247, 3) := by decide +kernel
theorem dX11_judge_62 : decode cX11_judge 62 = .ok (.ifCond .ne 8, 3) := by decide +kernel
theorem dX11_judge_65 : decode cX11_judge 65 = .ok (.bipush 100, 2) := by decide +kernel
theorem dX11_judge_67 : decode cX11_judge 67 = .ok (.iload_n 3, 1) := by decide +kernel
theorem dX11_judge_68 : decode cX11_judge 68 = .ok (.iadd, 1) := by decide +kernel
theorem dX11_judge_69 : decode cX11_judge 69 = .ok (.ireturn, 1) := by decide +kernel
theorem dX11_judge_70 : decode cX11_judge 70 = .ok (.aload_n 0, 1) := by decide +kernel
theorem dX11_judge_71 : decode cX11_judge 71 = .ok (.getfield 59, 3) := by decide +kernel
theorem dX11_judge_74 : decode cX11_judge 74 = .ok (.iload_n 1, 1) := by decide +kernel
theorem dX11_judge_75 : decode cX11_judge 75 = .ok (.aaload, 1) := by decide +kernel
theorem dX11_judge_76 : decode cX11_judge 76 = .ok (.iload_n 2, 1) := by decide +kernel
theorem dX11_judge_77 : decode cX11_judge 77 = .ok (.iload_n 3, 1) := by decide +kernel
theorem dX11_judge_78 : decode cX11_judge 78 = .ok (.iadd, 1) := by decide +kernel
theorem dX11_judge_79 : decode cX11_judge 79 = .ok (.laload, 1) := by decide +kernel
theorem dX11_judge_80 : decode cX11_judge 80 = .ok (.aload_n 0, 1) := by decide +kernel
theorem dX11_judge_81 : decode cX11_judge 81 = .ok (.getfield 36, 3) := by decide +kernel
theorem dX11_judge_84 : decode cX11_judge 84 = .ok (.iload_n 3, 1) := by decide +kernel
theorem dX11_judge_85 : decode cX11_judge 85 = .ok (.invokevirtual 106, 3) := by decide +kernel
theorem dX11_judge_88 : decode cX11_judge 88 = .ok (.i2l, 1) := by decide +kernel
theorem dX11_judge_89 : decode cX11_judge 89 = .ok (.lcmp, 1) := by decide +kernel
theorem dX11_judge_90 : decode cX11_judge 90 = .ok (.ifCond .eq 5, 3) := by decide +kernel
theorem dX11_judge_93 : decode cX11_judge 93 = .ok (.iload_n 3, 1) := by decide +kernel
theorem dX11_judge_94 : decode cX11_judge 94 = .ok (.ireturn, 1) := by decide +kernel
theorem dX11_judge_95 : decode cX11_judge 95 = .ok (.iinc 3 1, 3) := by decide +kernel
theorem dX11_judge_98 : decode cX11_judge 98 = .ok (.goto (-64), 3) := by decide +kernel
theorem dX11_judge_101 : decode cX11_judge 101 = .ok (.bipush (-5), 2) := by decide +kernel
theorem dX11_judge_103 : decode cX11_judge 103 = .ok (.ireturn, 1) := by decide +kernel
theorem dX11_image_0 : decode cX11_image 0 = .ok (.aload_n 0, 1) := by decide +kernel
theorem dX11_image_1 : decode cX11_image 1 = .ok (.getfield 40, 3) := by decide +kernel
theorem dX11_image_4 : decode cX11_image 4 = .ok (.aload_n 0, 1) := by decide +kernel
theorem dX11_image_5 : decode cX11_image 5 = .ok (.getfield 36, 3) := by decide +kernel
theorem dX11_image_8 : decode cX11_image 8 = .ok (.invokevirtual 251, 3) := by decide +kernel
theorem dX11_image_11 : decode cX11_image 11 = .ok (.aload_n 0, 1) := by decide +kernel
theorem dX11_image_12 : decode cX11_image 12 = .ok (.iconst 1, 1) := by decide +kernel
theorem dX11_image_13 : decode cX11_image 13 = .ok (.putfield 255, 3) := by decide +kernel
theorem dX11_image_16 : decode cX11_image 16 = .ok (.aload_n 0, 1) := by decide +kernel
theorem dX11_image_17 : decode cX11_image 17 = .ok (.getfield 36, 3) := by decide +kernel
theorem dX11_image_20 : decode cX11_image 20 = .ok (.getfield 88, 3) := by decide +kernel
theorem dX11_image_23 : decode cX11_image 23 = .ok (.ireturn, 1) := by decide +kernel
theorem dX11_undo_0 : decode cX11_undo 0 = .ok (.aload_n 0, 1) := by decide +kernel
theorem dX11_undo_1 : decode cX11_undo 1 = .ok (.getfield 255, 3) := by decide +kernel
theorem dX11_undo_4 : decode cX11_undo 4 = .ok (.ifCond .ne 6, 3) := by decide +kernel
theorem dX11_undo_7 : decode cX11_undo 7 = .ok (.bipush (-3), 2) := by decide +kernel
theorem dX11_undo_9 : decode cX11_undo 9 = .ok (.ireturn, 1) := by decide +kernel
theorem dX11_undo_10 : decode cX11_undo 10 = .ok (.aload_n 0, 1) := by decide +kernel
theorem dX11_undo_11 : decode cX11_undo 11 = .ok (.getfield 36, 3) := by decide +kernel
theorem dX11_undo_14 : decode cX11_undo 14 = .ok (.aload_n 0, 1) := by decide +kernel
theorem dX11_undo_15 : decode cX11_undo 15 = .ok (.getfield 40, 3) := by decide +kernel
theorem dX11_undo_18 : decode cX11_undo 18 = .ok (.invokevirtual 251, 3) := by decide +kernel
theorem dX11_undo_21 : decode cX11_undo 21 = .ok (.aload_n 0, 1) := by decide +kernel
theorem dX11_undo_22 : decode cX11_undo 22 = .ok (.getfield 36, 3) := by decide +kernel
theorem dX11_undo_25 : decode cX11_undo 25 = .ok (.getfield 88, 3) := by decide +kernel
theorem dX11_undo_28 : decode cX11_undo 28 = .ok (.ireturn, 1) := by decide +kernel
theorem dX11_act_0 : decode cX11_act 0 = .ok (.aload_n 0, 1) := by decide +kernel
theorem dX11_act_1 : decode cX11_act 1 = .ok (.getfield 54, 3) := by decide +kernel
theorem dX11_act_4 : decode cX11_act 4 = .ok (.invokevirtual 155, 3) := by decide +kernel
theorem dX11_act_7 : decode cX11_act 7 = .ok (.pop, 1) := by decide +kernel
theorem dX11_act_8 : decode cX11_act 8 = .ok (.aload_n 0, 1) := by decide +kernel
theorem dX11_act_9 : decode cX11_act 9 = .ok (.iload_n 1, 1) := by decide +kernel
theorem dX11_act_10 : decode cX11_act 10 = .ok (.invokevirtual 95, 3) := by decide +kernel
theorem dX11_act_13 : decode cX11_act 13 = .ok (.astore 4, 2) := by decide +kernel
theorem dX11_act_15 : decode cX11_act 15 = .ok (.aload 4, 2) := by decide +kernel
theorem dX11_act_17 : decode cX11_act 17 = .ok (.ifnonnull 5, 3) := by decide +kernel
theorem dX11_act_20 : decode cX11_act 20 = .ok (.iconst 0, 1) := by decide +kernel
theorem dX11_act_21 : decode cX11_act 21 = .ok (.ireturn, 1) := by decide +kernel
theorem dX11_act_22 : decode cX11_act 22 = .ok (.iload_n 2, 1) := by decide +kernel
theorem dX11_act_23 : decode cX11_act 23 = .ok (.tableswitch 58 0 2 #[25, 36, 47], 25) := by decide +kernel
theorem dX11_act_48 : decode cX11_act 48 = .ok (.aload 4, 2) := by decide +kernel
theorem dX11_act_50 : decode cX11_act 50 = .ok (.iload_n 3, 1) := by decide +kernel
theorem dX11_act_51 : decode cX11_act 51 = .ok (.aload_n 0, 1) := by decide +kernel
theorem dX11_act_52 : decode cX11_act 52 = .ok (.getfield 54, 3) := by decide +kernel
theorem dX11_act_55 : decode cX11_act 55 = .ok (.invokevirtual 259, 3) := by decide +kernel
theorem dX11_act_58 : decode cX11_act 58 = .ok (.ireturn, 1) := by decide +kernel
theorem dX11_act_59 : decode cX11_act 59 = .ok (.aload 4, 2) := by decide +kernel
theorem dX11_act_61 : decode cX11_act 61 = .ok (.iload_n 3, 1) := by decide +kernel
theorem dX11_act_62 : decode cX11_act 62 = .ok (.aload_n 0, 1) := by decide +kernel
theorem dX11_act_63 : decode cX11_act 63 = .ok (.getfield 54, 3) := by decide +kernel
theorem dX11_act_66 : decode cX11_act 66 = .ok (.invokevirtual 263, 3) := by decide +kernel
theorem dX11_act_69 : decode cX11_act 69 = .ok (.ireturn, 1) := by decide +kernel
theorem dX11_act_70 : decode cX11_act 70 = .ok (.aload 4, 2) := by decide +kernel
theorem dX11_act_72 : decode cX11_act 72 = .ok (.iload_n 3, 1) := by decide +kernel
theorem dX11_act_73 : decode cX11_act 73 = .ok (.aload_n 0, 1) := by decide +kernel
theorem dX11_act_74 : decode cX11_act 74 = .ok (.getfield 54, 3) := by decide +kernel
theorem dX11_act_77 : decode cX11_act 77 = .ok (.invokevirtual 266, 3) := by decide +kernel
theorem dX11_act_80 : decode cX11_act 80 = .ok (.ireturn, 1) := by decide +kernel
theorem dX11_act_81 : decode cX11_act 81 = .ok (.iconst 0, 1) := by decide +kernel
theorem dX11_act_82 : decode cX11_act 82 = .ok (.ireturn, 1) := by decide +kernel
theorem dX11_trace_0 : decode cX11_trace 0 = .ok (.aload_n 0, 1) := by decide +kernel
theorem dX11_trace_1 : decode cX11_trace 1 = .ok (.getfield 54, 3) := by decide +kernel
theorem dX11_trace_4 : decode cX11_trace 4 = .ok (.iload_n 1, 1) := by decide +kernel
theorem dX11_trace_5 : decode cX11_trace 5 = .ok (.invokevirtual 238, 3) := by decide +kernel
theorem dX11_trace_8 : decode cX11_trace 8 = .ok (.ireturn, 1) := by decide +kernel
theorem dX11_taken_0 : decode cX11_taken 0 = .ok (.iload_n 2, 1) := by decide +kernel
theorem dX11_taken_1 : decode cX11_taken 1 = .ok (.ifCond .lt 9, 3) := by decide +kernel
theorem dX11_taken_4 : decode cX11_taken 4 = .ok (.iload_n 2, 1) := by decide +kernel
theorem dX11_taken_5 : decode cX11_taken 5 = .ok (.bipush 7, 2) := by decide +kernel
theorem dX11_taken_7 : decode cX11_taken 7 = .ok (.if_icmp .lt 6, 3) := by decide +kernel
theorem dX11_taken_10 : decode cX11_taken 10 = .ok (.bipush (-2), 2) := by decide +kernel
theorem dX11_taken_12 : decode cX11_taken 12 = .ok (.ireturn, 1) := by decide +kernel
theorem dX11_taken_13 : decode cX11_taken 13 = .ok (.aload_n 0, 1) := by decide +kernel
theorem dX11_taken_14 : decode cX11_taken 14 = .ok (.iload_n 1, 1) := by decide +kernel
theorem dX11_taken_15 : decode cX11_taken 15 = .ok (.invokevirtual 95, 3) := by decide +kernel
theorem dX11_taken_18 : decode cX11_taken 18 = .ok (.astore_n 3, 1) := by decide +kernel
theorem dX11_taken_19 : decode cX11_taken 19 = .ok (.aload_n 3, 1) := by decide +kernel
theorem dX11_taken_20 : decode cX11_taken 20 = .ok (.ifnonnull 6, 3) := by decide +kernel
theorem dX11_taken_23 : decode cX11_taken 23 = .ok (.bipush (-11), 2) := by decide +kernel
theorem dX11_taken_25 : decode cX11_taken 25 = .ok (.ireturn, 1) := by decide +kernel
theorem dX11_taken_26 : decode cX11_taken 26 = .ok (.aload_n 3, 1) := by decide +kernel
theorem dX11_taken_27 : decode cX11_taken 27 = .ok (.iload_n 2, 1) := by decide +kernel
theorem dX11_taken_28 : decode cX11_taken 28 = .ok (.invokestatic 269, 3) := by decide +kernel
theorem dX11_taken_31 : decode cX11_taken 31 = .ok (.ifCond .eq 10, 3) := by decide +kernel
theorem dX11_taken_34 : decode cX11_taken 34 = .ok (.aload_n 3, 1) := by decide +kernel
theorem dX11_taken_35 : decode cX11_taken 35 = .ok (.invokevirtual 99, 3) := by decide +kernel
theorem dX11_taken_38 : decode cX11_taken 38 = .ok (.goto 5, 3) := by decide +kernel
theorem dX11_taken_41 : decode cX11_taken 41 = .ok (.bipush (-12), 2) := by decide +kernel
theorem dX11_taken_43 : decode cX11_taken 43 = .ok (.ireturn, 1) := by decide +kernel
theorem dX11_count_0 : decode cX11_count 0 = .ok (.iload_n 1, 1) := by decide +kernel
theorem dX11_count_1 : decode cX11_count 1 = .ok (.tableswitch 105 0 6 #[43, 51, 56, 67, 78, 89, 97], 43) := by decide +kernel
theorem dX11_count_44 : decode cX11_count 44 = .ok (.aload_n 0, 1) := by decide +kernel
theorem dX11_count_45 : decode cX11_count 45 = .ok (.getfield 36, 3) := by decide +kernel
theorem dX11_count_48 : decode cX11_count 48 = .ok (.getfield 88, 3) := by decide +kernel
theorem dX11_count_51 : decode cX11_count 51 = .ok (.ireturn, 1) := by decide +kernel
theorem dX11_count_52 : decode cX11_count 52 = .ok (.aload_n 0, 1) := by decide +kernel
theorem dX11_count_53 : decode cX11_count 53 = .ok (.getfield 148, 3) := by decide +kernel
theorem dX11_count_56 : decode cX11_count 56 = .ok (.ireturn, 1) := by decide +kernel
theorem dX11_count_57 : decode cX11_count 57 = .ok (.aload_n 0, 1) := by decide +kernel
theorem dX11_count_58 : decode cX11_count 58 = .ok (.getfield 36, 3) := by decide +kernel
theorem dX11_count_61 : decode cX11_count 61 = .ok (.getfield 194, 3) := by decide +kernel
theorem dX11_count_64 : decode cX11_count 64 = .ok (.getfield 145, 3) := by decide +kernel
theorem dX11_count_67 : decode cX11_count 67 = .ok (.ireturn, 1) := by decide +kernel
theorem dX11_count_68 : decode cX11_count 68 = .ok (.aload_n 0, 1) := by decide +kernel
theorem dX11_count_69 : decode cX11_count 69 = .ok (.getfield 36, 3) := by decide +kernel
theorem dX11_count_72 : decode cX11_count 72 = .ok (.getfield 223, 3) := by decide +kernel
theorem dX11_count_75 : decode cX11_count 75 = .ok (.getfield 145, 3) := by decide +kernel
theorem dX11_count_78 : decode cX11_count 78 = .ok (.ireturn, 1) := by decide +kernel
theorem dX11_count_79 : decode cX11_count 79 = .ok (.aload_n 0, 1) := by decide +kernel
theorem dX11_count_80 : decode cX11_count 80 = .ok (.getfield 36, 3) := by decide +kernel
theorem dX11_count_83 : decode cX11_count 83 = .ok (.getfield 235, 3) := by decide +kernel
theorem dX11_count_86 : decode cX11_count 86 = .ok (.getfield 145, 3) := by decide +kernel
theorem dX11_count_89 : decode cX11_count 89 = .ok (.ireturn, 1) := by decide +kernel
theorem dX11_count_90 : decode cX11_count 90 = .ok (.aload_n 0, 1) := by decide +kernel
theorem dX11_count_91 : decode cX11_count 91 = .ok (.getfield 29, 3) := by decide +kernel
theorem dX11_count_94 : decode cX11_count 94 = .ok (.getfield 145, 3) := by decide +kernel
theorem dX11_count_97 : decode cX11_count 97 = .ok (.ireturn, 1) := by decide +kernel
theorem dX11_count_98 : decode cX11_count 98 = .ok (.aload_n 0, 1) := by decide +kernel
theorem dX11_count_99 : decode cX11_count 99 = .ok (.getfield 54, 3) := by decide +kernel
theorem dX11_count_102 : decode cX11_count 102 = .ok (.getfield 273, 3) := by decide +kernel
theorem dX11_count_105 : decode cX11_count 105 = .ok (.ireturn, 1) := by decide +kernel
theorem dX11_count_106 : decode cX11_count 106 = .ok (.bipush (-2), 2) := by decide +kernel
theorem dX11_count_108 : decode cX11_count 108 = .ok (.ireturn, 1) := by decide +kernel
theorem dX11_tape_0 : decode cX11_tape 0 = .ok (.aload_n 0, 1) := by decide +kernel
theorem dX11_tape_1 : decode cX11_tape 1 = .ok (.iload_n 1, 1) := by decide +kernel
theorem dX11_tape_2 : decode cX11_tape 2 = .ok (.invokevirtual 244, 3) := by decide +kernel
theorem dX11_tape_5 : decode cX11_tape 5 = .ok (.ifCond .ne 5, 3) := by decide +kernel
theorem dX11_tape_8 : decode cX11_tape 8 = .ok (.iconst (-1), 1) := by decide +kernel
theorem dX11_tape_9 : decode cX11_tape 9 = .ok (.ireturn, 1) := by decide +kernel
theorem dX11_tape_10 : decode cX11_tape 10 = .ok (.iload_n 2, 1) := by decide +kernel
theorem dX11_tape_11 : decode cX11_tape 11 = .ok (.iconst (-1), 1) := by decide +kernel
theorem dX11_tape_12 : decode cX11_tape 12 = .ok (.if_icmp .lt 8, 3) := by decide +kernel
theorem dX11_tape_15 : decode cX11_tape 15 = .ok (.iload_n 2, 1) := by decide +kernel
theorem dX11_tape_16 : decode cX11_tape 16 = .ok (.iconst 4, 1) := by decide +kernel
theorem dX11_tape_17 : decode cX11_tape 17 = .ok (.if_icmp .le 6, 3) := by decide +kernel
theorem dX11_tape_20 : decode cX11_tape 20 = .ok (.bipush (-2), 2) := by decide +kernel
theorem dX11_tape_22 : decode cX11_tape 22 = .ok (.ireturn, 1) := by decide +kernel
theorem dX11_tape_23 : decode cX11_tape 23 = .ok (.iload_n 2, 1) := by decide +kernel
theorem dX11_tape_24 : decode cX11_tape 24 = .ok (.iconst (-1), 1) := by decide +kernel
theorem dX11_tape_25 : decode cX11_tape 25 = .ok (.if_icmp .eq 12, 3) := by decide +kernel
theorem dX11_tape_28 : decode cX11_tape 28 = .ok (.iload_n 3, 1) := by decide +kernel
theorem dX11_tape_29 : decode cX11_tape 29 = .ok (.bipush 60, 2) := by decide +kernel
theorem dX11_tape_31 : decode cX11_tape 31 = .ok (.if_icmp .le 6, 3) := by decide +kernel
theorem dX11_tape_34 : decode cX11_tape 34 = .ok (.bipush (-2), 2) := by decide +kernel
theorem dX11_tape_36 : decode cX11_tape 36 = .ok (.ireturn, 1) := by decide +kernel
theorem dX11_tape_37 : decode cX11_tape 37 = .ok (.iload_n 2, 1) := by decide +kernel
theorem dX11_tape_38 : decode cX11_tape 38 = .ok (.iconst (-1), 1) := by decide +kernel
theorem dX11_tape_39 : decode cX11_tape 39 = .ok (.if_icmp .eq 10, 3) := by decide +kernel
theorem dX11_tape_42 : decode cX11_tape 42 = .ok (.iload_n 3, 1) := by decide +kernel
theorem dX11_tape_43 : decode cX11_tape 43 = .ok (.ifCond .ge 6, 3) := by decide +kernel
theorem dX11_tape_46 : decode cX11_tape 46 = .ok (.bipush (-14), 2) := by decide +kernel
theorem dX11_tape_48 : decode cX11_tape 48 = .ok (.ireturn, 1) := by decide +kernel
theorem dX11_tape_49 : decode cX11_tape 49 = .ok (.aload_n 0, 1) := by decide +kernel
theorem dX11_tape_50 : decode cX11_tape 50 = .ok (.getfield 62, 3) := by decide +kernel
theorem dX11_tape_53 : decode cX11_tape 53 = .ok (.iload_n 1, 1) := by decide +kernel
theorem dX11_tape_54 : decode cX11_tape 54 = .ok (.iload_n 2, 1) := by decide +kernel
theorem dX11_tape_55 : decode cX11_tape 55 = .ok (.iastore, 1) := by decide +kernel
theorem dX11_tape_56 : decode cX11_tape 56 = .ok (.aload_n 0, 1) := by decide +kernel
theorem dX11_tape_57 : decode cX11_tape 57 = .ok (.getfield 72, 3) := by decide +kernel
theorem dX11_tape_60 : decode cX11_tape 60 = .ok (.iload_n 1, 1) := by decide +kernel
theorem dX11_tape_61 : decode cX11_tape 61 = .ok (.iload_n 2, 1) := by decide +kernel
theorem dX11_tape_62 : decode cX11_tape 62 = .ok (.iconst (-1), 1) := by decide +kernel
theorem dX11_tape_63 : decode cX11_tape 63 = .ok (.if_icmp .ne 7, 3) := by decide +kernel
theorem dX11_tape_66 : decode cX11_tape 66 = .ok (.iconst 0, 1) := by decide +kernel
theorem dX11_tape_67 : decode cX11_tape 67 = .ok (.goto 4, 3) := by decide +kernel
theorem dX11_tape_70 : decode cX11_tape 70 = .ok (.iload_n 3, 1) := by decide +kernel
theorem dX11_tape_71 : decode cX11_tape 71 = .ok (.iastore, 1) := by decide +kernel
theorem dX11_tape_72 : decode cX11_tape 72 = .ok (.aload_n 0, 1) := by decide +kernel
theorem dX11_tape_73 : decode cX11_tape 73 = .ok (.getfield 59, 3) := by decide +kernel
theorem dX11_tape_76 : decode cX11_tape 76 = .ok (.iload_n 1, 1) := by decide +kernel
theorem dX11_tape_77 : decode cX11_tape 77 = .ok (.aaload, 1) := by decide +kernel
theorem dX11_tape_78 : decode cX11_tape 78 = .ok (.lconst 0, 1) := by decide +kernel
theorem dX11_tape_79 : decode cX11_tape 79 = .ok (.invokestatic 276, 3) := by decide +kernel
theorem dX11_tape_82 : decode cX11_tape 82 = .ok (.iconst 1, 1) := by decide +kernel
theorem dX11_tape_83 : decode cX11_tape 83 = .ok (.ireturn, 1) := by decide +kernel
theorem dX11_item_0 : decode cX11_item 0 = .ok (.aload_n 0, 1) := by decide +kernel
theorem dX11_item_1 : decode cX11_item 1 = .ok (.iload_n 1, 1) := by decide +kernel
theorem dX11_item_2 : decode cX11_item 2 = .ok (.invokevirtual 244, 3) := by decide +kernel
theorem dX11_item_5 : decode cX11_item 5 = .ok (.ifCond .ne 5, 3) := by decide +kernel
theorem dX11_item_8 : decode cX11_item 8 = .ok (.iconst (-1), 1) := by decide +kernel
theorem dX11_item_9 : decode cX11_item 9 = .ok (.ireturn, 1) := by decide +kernel
theorem dX11_item_10 : decode cX11_item 10 = .ok (.aload_n 0, 1) := by decide +kernel
theorem dX11_item_11 : decode cX11_item 11 = .ok (.getfield 62, 3) := by decide +kernel
theorem dX11_item_14 : decode cX11_item 14 = .ok (.iload_n 1, 1) := by decide +kernel
theorem dX11_item_15 : decode cX11_item 15 = .ok (.iaload, 1) := by decide +kernel
theorem dX11_item_16 : decode cX11_item 16 = .ok (.iconst (-1), 1) := by decide +kernel
theorem dX11_item_17 : decode cX11_item 17 = .ok (.if_icmp .ne 6, 3) := by decide +kernel
theorem dX11_item_20 : decode cX11_item 20 = .ok (.bipush (-11), 2) := by decide +kernel
theorem dX11_item_22 : decode cX11_item 22 = .ok (.ireturn, 1) := by decide +kernel
theorem dX11_item_23 : decode cX11_item 23 = .ok (.aload_n 0, 1) := by decide +kernel
theorem dX11_item_24 : decode cX11_item 24 = .ok (.iload_n 1, 1) := by decide +kernel
theorem dX11_item_25 : decode cX11_item 25 = .ok (.iload_n 2, 1) := by decide +kernel
theorem dX11_item_26 : decode cX11_item 26 = .ok (.invokevirtual 247, 3) := by decide +kernel
theorem dX11_item_29 : decode cX11_item 29 = .ok (.ifCond .ne 6, 3) := by decide +kernel
theorem dX11_item_32 : decode cX11_item 32 = .ok (.bipush (-13), 2) := by decide +kernel
theorem dX11_item_34 : decode cX11_item 34 = .ok (.ireturn, 1) := by decide +kernel
theorem dX11_item_35 : decode cX11_item 35 = .ok (.aload_n 0, 1) := by decide +kernel
theorem dX11_item_36 : decode cX11_item 36 = .ok (.getfield 59, 3) := by decide +kernel
theorem dX11_item_39 : decode cX11_item 39 = .ok (.iload_n 1, 1) := by decide +kernel
theorem dX11_item_40 : decode cX11_item 40 = .ok (.aaload, 1) := by decide +kernel
theorem dX11_item_41 : decode cX11_item 41 = .ok (.iload_n 2, 1) := by decide +kernel
theorem dX11_item_42 : decode cX11_item 42 = .ok (.aload_n 0, 1) := by decide +kernel
theorem dX11_item_43 : decode cX11_item 43 = .ok (.getfield 62, 3) := by decide +kernel
theorem dX11_item_46 : decode cX11_item 46 = .ok (.iload_n 1, 1) := by decide +kernel
theorem dX11_item_47 : decode cX11_item 47 = .ok (.iaload, 1) := by decide +kernel
theorem dX11_item_48 : decode cX11_item 48 = .ok (.lload_n 3, 1) := by decide +kernel
theorem dX11_item_49 : decode cX11_item 49 = .ok (.invokestatic 279, 3) := by decide +kernel
theorem dX11_item_52 : decode cX11_item 52 = .ok (.lastore, 1) := by decide +kernel
theorem dX11_item_53 : decode cX11_item 53 = .ok (.iconst 1, 1) := by decide +kernel
theorem dX11_item_54 : decode cX11_item 54 = .ok (.ireturn, 1) := by decide +kernel
theorem dX11_read_0 : decode cX11_read 0 = .ok (.aload_n 0, 1) := by decide +kernel
theorem dX11_read_1 : decode cX11_read 1 = .ok (.iload_n 1, 1) := by decide +kernel
theorem dX11_read_2 : decode cX11_read 2 = .ok (.invokevirtual 244, 3) := by decide +kernel
theorem dX11_read_5 : decode cX11_read 5 = .ok (.ifCond .eq 23, 3) := by decide +kernel
theorem dX11_read_8 : decode cX11_read 8 = .ok (.aload_n 0, 1) := by decide +kernel
theorem dX11_read_9 : decode cX11_read 9 = .ok (.iload_n 1, 1) := by decide +kernel
theorem dX11_read_10 : decode cX11_read 10 = .ok (.iload_n 2, 1) := by decide +kernel
theorem dX11_read_11 : decode cX11_read 11 = .ok (.invokevirtual 247, 3) := by decide +kernel
theorem dX11_read_14 : decode cX11_read 14 = .ok (.ifCond .eq 14, 3) := by decide +kernel
theorem dX11_read_17 : decode cX11_read 17 = .ok (.aload_n 0, 1) := by decide +kernel
theorem dX11_read_18 : decode cX11_read 18 = .ok (.getfield 59, 3) := by decide +kernel
theorem dX11_read_21 : decode cX11_read 21 = .ok (.iload_n 1, 1) := by decide +kernel
theorem dX11_read_22 : decode cX11_read 22 = .ok (.aaload, 1) := by decide +kernel
theorem dX11_read_23 : decode cX11_read 23 = .ok (.iload_n 2, 1) := by decide +kernel
theorem dX11_read_24 : decode cX11_read 24 = .ok (.laload, 1) := by decide +kernel
theorem dX11_read_25 : decode cX11_read 25 = .ok (.goto 6, 3) := by decide +kernel
theorem dX11_read_28 : decode cX11_read 28 = .ok (.ldc2_w 197, 3) := by decide +kernel
theorem dX11_read_31 : decode cX11_read 31 = .ok (.lreturn, 1) := by decide +kernel
theorem dX11_shift_0 : decode cX11_shift 0 = .ok (.aload_n 0, 1) := by decide +kernel
theorem dX11_shift_1 : decode cX11_shift 1 = .ok (.iload_n 1, 1) := by decide +kernel
theorem dX11_shift_2 : decode cX11_shift 2 = .ok (.invokevirtual 244, 3) := by decide +kernel
theorem dX11_shift_5 : decode cX11_shift 5 = .ok (.ifCond .eq 11, 3) := by decide +kernel
theorem dX11_shift_8 : decode cX11_shift 8 = .ok (.aload_n 0, 1) := by decide +kernel
theorem dX11_shift_9 : decode cX11_shift 9 = .ok (.iload_n 3, 1) := by decide +kernel
theorem dX11_shift_10 : decode cX11_shift 10 = .ok (.invokevirtual 244, 3) := by decide +kernel
theorem dX11_shift_13 : decode cX11_shift 13 = .ok (.ifCond .ne 5, 3) := by decide +kernel
theorem dX11_shift_16 : decode cX11_shift 16 = .ok (.iconst (-1), 1) := by decide +kernel
theorem dX11_shift_17 : decode cX11_shift 17 = .ok (.ireturn, 1) := by decide +kernel
theorem dX11_shift_18 : decode cX11_shift 18 = .ok (.aload_n 0, 1) := by decide +kernel
theorem dX11_shift_19 : decode cX11_shift 19 = .ok (.getfield 62, 3) := by decide +kernel
theorem dX11_shift_22 : decode cX11_shift 22 = .ok (.iload_n 1, 1) := by decide +kernel
theorem dX11_shift_23 : decode cX11_shift 23 = .ok (.iaload, 1) := by decide +kernel
theorem dX11_shift_24 : decode cX11_shift 24 = .ok (.iconst (-1), 1) := by decide +kernel
theorem dX11_shift_25 : decode cX11_shift 25 = .ok (.if_icmp .eq 13, 3) := by decide +kernel
theorem dX11_shift_28 : decode cX11_shift 28 = .ok (.aload_n 0, 1) := by decide +kernel
theorem dX11_shift_29 : decode cX11_shift 29 = .ok (.getfield 62, 3) := by decide +kernel
theorem dX11_shift_32 : decode cX11_shift 32 = .ok (.iload_n 3, 1) := by decide +kernel
theorem dX11_shift_33 : decode cX11_shift 33 = .ok (.iaload, 1) := by decide +kernel
theorem dX11_shift_34 : decode cX11_shift 34 = .ok (.iconst (-1), 1) := by decide +kernel
theorem dX11_shift_35 : decode cX11_shift 35 = .ok (.if_icmp .ne 6, 3) := by decide +kernel
theorem dX11_shift_38 : decode cX11_shift 38 = .ok (.bipush (-11), 2) := by decide +kernel
theorem dX11_shift_40 : decode cX11_shift 40 = .ok (.ireturn, 1) := by decide +kernel
theorem dX11_shift_41 : decode cX11_shift 41 = .ok (.aload_n 0, 1) := by decide +kernel
theorem dX11_shift_42 : decode cX11_shift 42 = .ok (.getfield 62, 3) := by decide +kernel
theorem dX11_shift_45 : decode cX11_shift 45 = .ok (.iload_n 1, 1) := by decide +kernel
theorem dX11_shift_46 : decode cX11_shift 46 = .ok (.iaload, 1) := by decide +kernel
theorem dX11_shift_47 : decode cX11_shift 47 = .ok (.aload_n 0, 1) := by decide +kernel
theorem dX11_shift_48 : decode cX11_shift 48 = .ok (.getfield 62, 3) := by decide +kernel
theorem dX11_shift_51 : decode cX11_shift 51 = .ok (.iload_n 3, 1) := by decide +kernel
theorem dX11_shift_52 : decode cX11_shift 52 = .ok (.iaload, 1) := by decide +kernel
theorem dX11_shift_53 : decode cX11_shift 53 = .ok (.if_icmp .eq 6, 3) := by decide +kernel
theorem dX11_shift_56 : decode cX11_shift 56 = .ok (.bipush (-12), 2) := by decide +kernel
theorem dX11_shift_58 : decode cX11_shift 58 = .ok (.ireturn, 1) := by decide +kernel
theorem dX11_shift_59 : decode cX11_shift 59 = .ok (.aload_n 0, 1) := by decide +kernel
theorem dX11_shift_60 : decode cX11_shift 60 = .ok (.iload_n 1, 1) := by decide +kernel
theorem dX11_shift_61 : decode cX11_shift 61 = .ok (.iload_n 2, 1) := by decide +kernel
theorem dX11_shift_62 : decode cX11_shift 62 = .ok (.iload 5, 2) := by decide +kernel
theorem dX11_shift_64 : decode cX11_shift 64 = .ok (.invokevirtual 283, 3) := by decide +kernel
theorem dX11_shift_67 : decode cX11_shift 67 = .ok (.ifCond .eq 15, 3) := by decide +kernel
theorem dX11_shift_70 : decode cX11_shift 70 = .ok (.aload_n 0, 1) := by decide +kernel
theorem dX11_shift_71 : decode cX11_shift 71 = .ok (.iload_n 3, 1) := by decide +kernel
theorem dX11_shift_72 : decode cX11_shift 72 = .ok (.iload 4, 2) := by decide +kernel
theorem dX11_shift_74 : decode cX11_shift 74 = .ok (.iload 5, 2) := by decide +kernel
theorem dX11_shift_76 : decode cX11_shift 76 = .ok (.invokevirtual 283, 3) := by decide +kernel
theorem dX11_shift_79 : decode cX11_shift 79 = .ok (.ifCond .ne 6, 3) := by decide +kernel
theorem dX11_shift_82 : decode cX11_shift 82 = .ok (.bipush (-13), 2) := by decide +kernel
theorem dX11_shift_84 : decode cX11_shift 84 = .ok (.ireturn, 1) := by decide +kernel
theorem dX11_shift_85 : decode cX11_shift 85 = .ok (.aload_n 0, 1) := by decide +kernel
theorem dX11_shift_86 : decode cX11_shift 86 = .ok (.getfield 59, 3) := by decide +kernel
theorem dX11_shift_89 : decode cX11_shift 89 = .ok (.iload_n 1, 1) := by decide +kernel
theorem dX11_shift_90 : decode cX11_shift 90 = .ok (.aaload, 1) := by decide +kernel
theorem dX11_shift_91 : decode cX11_shift 91 = .ok (.iload_n 2, 1) := by decide +kernel
theorem dX11_shift_92 : decode cX11_shift 92 = .ok (.aload_n 0, 1) := by decide +kernel
theorem dX11_shift_93 : decode cX11_shift 93 = .ok (.getfield 59, 3) := by decide +kernel
theorem dX11_shift_96 : decode cX11_shift 96 = .ok (.iload_n 3, 1) := by decide +kernel
theorem dX11_shift_97 : decode cX11_shift 97 = .ok (.aaload, 1) := by decide +kernel
theorem dX11_shift_98 : decode cX11_shift 98 = .ok (.iload 4, 2) := by decide +kernel
theorem dX11_shift_100 : decode cX11_shift 100 = .ok (.iload 5, 2) := by decide +kernel
theorem dX11_shift_102 : decode cX11_shift 102 = .ok (.invokestatic 287, 3) := by decide +kernel
theorem dX11_shift_105 : decode cX11_shift 105 = .ok (.iload 5, 2) := by decide +kernel
theorem dX11_shift_107 : decode cX11_shift 107 = .ok (.ireturn, 1) := by decide +kernel
theorem dX11_isSide_0 : decode cX11_isSide 0 = .ok (.iload_n 0, 1) := by decide +kernel
theorem dX11_isSide_1 : decode cX11_isSide 1 = .ok (.ifCond .lt 12, 3) := by decide +kernel
theorem dX11_isSide_4 : decode cX11_isSide 4 = .ok (.iload_n 0, 1) := by decide +kernel
theorem dX11_isSide_5 : decode cX11_isSide 5 = .ok (.iconst 3, 1) := by decide +kernel
theorem dX11_isSide_6 : decode cX11_isSide 6 = .ok (.if_icmp .ge 7, 3) := by decide +kernel
theorem dX11_isSide_9 : decode cX11_isSide 9 = .ok (.iconst 1, 1) := by decide +kernel
theorem dX11_isSide_10 : decode cX11_isSide 10 = .ok (.goto 4, 3) := by decide +kernel
theorem dX11_isSide_13 : decode cX11_isSide 13 = .ok (.iconst 0, 1) := by decide +kernel
theorem dX11_isSide_14 : decode cX11_isSide 14 = .ok (.ireturn, 1) := by decide +kernel
theorem dX11_isDraw_0 : decode cX11_isDraw 0 = .ok (.iload_n 0, 1) := by decide +kernel
theorem dX11_isDraw_1 : decode cX11_isDraw 1 = .ok (.ifCond .lt 13, 3) := by decide +kernel
theorem dX11_isDraw_4 : decode cX11_isDraw 4 = .ok (.iload_n 0, 1) := by decide +kernel
theorem dX11_isDraw_5 : decode cX11_isDraw 5 = .ok (.bipush 100, 2) := by decide +kernel
theorem dX11_isDraw_7 : decode cX11_isDraw 7 = .ok (.if_icmp .ge 7, 3) := by decide +kernel
theorem dX11_isDraw_10 : decode cX11_isDraw 10 = .ok (.iconst 1, 1) := by decide +kernel
theorem dX11_isDraw_11 : decode cX11_isDraw 11 = .ok (.goto 4, 3) := by decide +kernel
theorem dX11_isDraw_14 : decode cX11_isDraw 14 = .ok (.iconst 0, 1) := by decide +kernel
theorem dX11_isDraw_15 : decode cX11_isDraw 15 = .ok (.ireturn, 1) := by decide +kernel
theorem dX11_isHalf_0 : decode cX11_isHalf 0 = .ok (.iload_n 0, 1) := by decide +kernel
theorem dX11_isHalf_1 : decode cX11_isHalf 1 = .ok (.ifCond .eq 8, 3) := by decide +kernel
theorem dX11_isHalf_4 : decode cX11_isHalf 4 = .ok (.iload_n 0, 1) := by decide +kernel
theorem dX11_isHalf_5 : decode cX11_isHalf 5 = .ok (.iconst 1, 1) := by decide +kernel
theorem dX11_isHalf_6 : decode cX11_isHalf 6 = .ok (.if_icmp .ne 7, 3) := by decide +kernel
theorem dX11_isHalf_9 : decode cX11_isHalf 9 = .ok (.iconst 1, 1) := by decide +kernel
theorem dX11_isHalf_10 : decode cX11_isHalf 10 = .ok (.goto 4, 3) := by decide +kernel
theorem dX11_isHalf_13 : decode cX11_isHalf 13 = .ok (.iconst 0, 1) := by decide +kernel
theorem dX11_isHalf_14 : decode cX11_isHalf 14 = .ok (.ireturn, 1) := by decide +kernel
theorem dX11_find_0 : decode cX11_find 0 = .ok (.iload_n 1, 1) := by decide +kernel
theorem dX11_find_1 : decode cX11_find 1 = .ok (.ifCond .lt 23, 3) := by decide +kernel
theorem dX11_find_4 : decode cX11_find 4 = .ok (.iload_n 1, 1) := by decide +kernel
theorem dX11_find_5 : decode cX11_find 5 = .ok (.aload_n 0, 1) := by decide +kernel
theorem dX11_find_6 : decode cX11_find 6 = .ok (.getfield 36, 3) := by decide +kernel
theorem dX11_find_9 : decode cX11_find 9 = .ok (.getfield 88, 3) := by decide +kernel
theorem dX11_find_12 : decode cX11_find 12 = .ok (.if_icmp .ge 12, 3) := by decide +kernel
theorem dX11_find_15 : decode cX11_find 15 = .ok (.iload_n 1, 1) := by decide +kernel
theorem dX11_find_16 : decode cX11_find 16 = .ok (.aload_n 0, 1) := by decide +kernel
theorem dX11_find_17 : decode cX11_find 17 = .ok (.getfield 13, 3) := by decide +kernel
theorem dX11_find_20 : decode cX11_find 20 = .ok (.arraylength, 1) := by decide +kernel
theorem dX11_find_21 : decode cX11_find 21 = .ok (.if_icmp .lt 5, 3) := by decide +kernel
theorem dX11_find_24 : decode cX11_find 24 = .ok (.aconst_null, 1) := by decide +kernel
theorem dX11_find_25 : decode cX11_find 25 = .ok (.areturn, 1) := by decide +kernel
theorem dX11_find_26 : decode cX11_find 26 = .ok (.aload_n 0, 1) := by decide +kernel
theorem dX11_find_27 : decode cX11_find 27 = .ok (.getfield 13, 3) := by decide +kernel
theorem dX11_find_30 : decode cX11_find 30 = .ok (.iload_n 1, 1) := by decide +kernel
theorem dX11_find_31 : decode cX11_find 31 = .ok (.aaload, 1) := by decide +kernel
theorem dX11_find_32 : decode cX11_find 32 = .ok (.areturn, 1) := by decide +kernel
theorem dX11_newShooter_0 : decode cX11_newShooter 0 = .ok (.iload_n 0, 1) := by decide +kernel
theorem dX11_newShooter_1 : decode cX11_newShooter 1 = .ok (.tableswitch 99 1 6 #[39, 49, 59, 69, 79, 89], 39) := by decide +kernel
theorem dX11_newShooter_40 : decode cX11_newShooter 40 = .ok (.new 293, 3) := by decide +kernel
theorem dX11_newShooter_43 : decode cX11_newShooter 43 = .ok (.dup, 1) := by decide +kernel
theorem dX11_newShooter_44 : decode cX11_newShooter 44 = .ok (.iload_n 1, 1) := by decide +kernel
theorem dX11_newShooter_45 : decode cX11_newShooter 45 = .ok (.iload_n 2, 1) := by decide +kernel
theorem dX11_newShooter_46 : decode cX11_newShooter 46 = .ok (.invokespecial 295, 3) := by decide +kernel
theorem dX11_newShooter_49 : decode cX11_newShooter 49 = .ok (.areturn, 1) := by decide +kernel
theorem dX11_newShooter_50 : decode cX11_newShooter 50 = .ok (.new 297, 3) := by decide +kernel
theorem dX11_newShooter_53 : decode cX11_newShooter 53 = .ok (.dup, 1) := by decide +kernel
theorem dX11_newShooter_54 : decode cX11_newShooter 54 = .ok (.iload_n 1, 1) := by decide +kernel
theorem dX11_newShooter_55 : decode cX11_newShooter 55 = .ok (.iload_n 2, 1) := by decide +kernel
theorem dX11_newShooter_56 : decode cX11_newShooter 56 = .ok (.invokespecial 299, 3) := by decide +kernel
theorem dX11_newShooter_59 : decode cX11_newShooter 59 = .ok (.areturn, 1) := by decide +kernel
theorem dX11_newShooter_60 : decode cX11_newShooter 60 = .ok (.new 300, 3) := by decide +kernel
theorem dX11_newShooter_63 : decode cX11_newShooter 63 = .ok (.dup, 1) := by decide +kernel
theorem dX11_newShooter_64 : decode cX11_newShooter 64 = .ok (.iload_n 1, 1) := by decide +kernel
theorem dX11_newShooter_65 : decode cX11_newShooter 65 = .ok (.iload_n 2, 1) := by decide +kernel
theorem dX11_newShooter_66 : decode cX11_newShooter 66 = .ok (.invokespecial 302, 3) := by decide +kernel
theorem dX11_newShooter_69 : decode cX11_newShooter 69 = .ok (.areturn, 1) := by decide +kernel
theorem dX11_newShooter_70 : decode cX11_newShooter 70 = .ok (.new 303, 3) := by decide +kernel
theorem dX11_newShooter_73 : decode cX11_newShooter 73 = .ok (.dup, 1) := by decide +kernel
theorem dX11_newShooter_74 : decode cX11_newShooter 74 = .ok (.iload_n 1, 1) := by decide +kernel
theorem dX11_newShooter_75 : decode cX11_newShooter 75 = .ok (.iload_n 2, 1) := by decide +kernel
theorem dX11_newShooter_76 : decode cX11_newShooter 76 = .ok (.invokespecial 305, 3) := by decide +kernel
theorem dX11_newShooter_79 : decode cX11_newShooter 79 = .ok (.areturn, 1) := by decide +kernel
theorem dX11_newShooter_80 : decode cX11_newShooter 80 = .ok (.new 306, 3) := by decide +kernel
theorem dX11_newShooter_83 : decode cX11_newShooter 83 = .ok (.dup, 1) := by decide +kernel
theorem dX11_newShooter_84 : decode cX11_newShooter 84 = .ok (.iload_n 1, 1) := by decide +kernel
theorem dX11_newShooter_85 : decode cX11_newShooter 85 = .ok (.iload_n 2, 1) := by decide +kernel
theorem dX11_newShooter_86 : decode cX11_newShooter 86 = .ok (.invokespecial 308, 3) := by decide +kernel
theorem dX11_newShooter_89 : decode cX11_newShooter 89 = .ok (.areturn, 1) := by decide +kernel
theorem dX11_newShooter_90 : decode cX11_newShooter 90 = .ok (.new 132, 3) := by decide +kernel
theorem dX11_newShooter_93 : decode cX11_newShooter 93 = .ok (.dup, 1) := by decide +kernel
theorem dX11_newShooter_94 : decode cX11_newShooter 94 = .ok (.iload_n 1, 1) := by decide +kernel
theorem dX11_newShooter_95 : decode cX11_newShooter 95 = .ok (.iload_n 2, 1) := by decide +kernel
theorem dX11_newShooter_96 : decode cX11_newShooter 96 = .ok (.invokespecial 309, 3) := by decide +kernel
theorem dX11_newShooter_99 : decode cX11_newShooter 99 = .ok (.areturn, 1) := by decide +kernel
theorem dX11_newShooter_100 : decode cX11_newShooter 100 = .ok (.new 11, 3) := by decide +kernel
theorem dX11_newShooter_103 : decode cX11_newShooter 103 = .ok (.dup, 1) := by decide +kernel
theorem dX11_newShooter_104 : decode cX11_newShooter 104 = .ok (.iload_n 1, 1) := by decide +kernel
theorem dX11_newShooter_105 : decode cX11_newShooter 105 = .ok (.iload_n 2, 1) := by decide +kernel
theorem dX11_newShooter_106 : decode cX11_newShooter 106 = .ok (.invokespecial 310, 3) := by decide +kernel
theorem dX11_newShooter_109 : decode cX11_newShooter 109 = .ok (.areturn, 1) := by decide +kernel
theorem dX11_isOfKind_0 : decode cX11_isOfKind 0 = .ok (.iload_n 1, 1) := by decide +kernel
theorem dX11_isOfKind_1 : decode cX11_isOfKind 1 = .ok (.tableswitch 75 0 6 #[43, 45, 50, 55, 60, 65, 70], 43) := by decide +kernel
theorem dX11_isOfKind_44 : decode cX11_isOfKind 44 = .ok (.iconst 1, 1) := by decide +kernel
theorem dX11_isOfKind_45 : decode cX11_isOfKind 45 = .ok (.ireturn, 1) := by decide +kernel
theorem dX11_isOfKind_46 : decode cX11_isOfKind 46 = .ok (.aload_n 0, 1) := by decide +kernel
theorem dX11_isOfKind_47 : decode cX11_isOfKind 47 = .ok (.instanceof 293, 3) := by decide +kernel
theorem dX11_isOfKind_50 : decode cX11_isOfKind 50 = .ok (.ireturn, 1) := by decide +kernel
theorem dX11_isOfKind_51 : decode cX11_isOfKind 51 = .ok (.aload_n 0, 1) := by decide +kernel
theorem dX11_isOfKind_52 : decode cX11_isOfKind 52 = .ok (.instanceof 297, 3) := by decide +kernel
theorem dX11_isOfKind_55 : decode cX11_isOfKind 55 = .ok (.ireturn, 1) := by decide +kernel
theorem dX11_isOfKind_56 : decode cX11_isOfKind 56 = .ok (.aload_n 0, 1) := by decide +kernel
theorem dX11_isOfKind_57 : decode cX11_isOfKind 57 = .ok (.instanceof 300, 3) := by decide +kernel
theorem dX11_isOfKind_60 : decode cX11_isOfKind 60 = .ok (.ireturn, 1) := by decide +kernel
theorem dX11_isOfKind_61 : decode cX11_isOfKind 61 = .ok (.aload_n 0, 1) := by decide +kernel
theorem dX11_isOfKind_62 : decode cX11_isOfKind 62 = .ok (.instanceof 303, 3) := by decide +kernel
theorem dX11_isOfKind_65 : decode cX11_isOfKind 65 = .ok (.ireturn, 1) := by decide +kernel
theorem dX11_isOfKind_66 : decode cX11_isOfKind 66 = .ok (.aload_n 0, 1) := by decide +kernel
theorem dX11_isOfKind_67 : decode cX11_isOfKind 67 = .ok (.instanceof 306, 3) := by decide +kernel
theorem dX11_isOfKind_70 : decode cX11_isOfKind 70 = .ok (.ireturn, 1) := by decide +kernel
theorem dX11_isOfKind_71 : decode cX11_isOfKind 71 = .ok (.aload_n 0, 1) := by decide +kernel
theorem dX11_isOfKind_72 : decode cX11_isOfKind 72 = .ok (.instanceof 132, 3) := by decide +kernel
theorem dX11_isOfKind_75 : decode cX11_isOfKind 75 = .ok (.ireturn, 1) := by decide +kernel
theorem dX11_isOfKind_76 : decode cX11_isOfKind 76 = .ok (.iconst 0, 1) := by decide +kernel
theorem dX11_isOfKind_77 : decode cX11_isOfKind 77 = .ok (.ireturn, 1) := by decide +kernel
theorem dX11_look_0 : decode cX11_look 0 = .ok (.aload_n 0, 1) := by decide +kernel
theorem dX11_look_1 : decode cX11_look 1 = .ok (.getfield 36, 3) := by decide +kernel
