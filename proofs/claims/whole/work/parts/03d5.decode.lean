theorem dX12_aim_133 : decode cX12_aim 133 = .ok (.iadd, 1) := by decide +kernel
theorem dX12_aim_134 : decode cX12_aim 134 = .ok (.iaload, 1) := by decide +kernel
theorem dX12_aim_135 : decode cX12_aim 135 = .ok (.goto 8, 3) := by decide +kernel
theorem dX12_aim_138 : decode cX12_aim 138 = .ok (.aload_n 0, 1) := by decide +kernel
theorem dX12_aim_139 : decode cX12_aim 139 = .ok (.iload_n 1, 1) := by decide +kernel
theorem dX12_aim_140 : decode cX12_aim 140 = .ok (.invokevirtual 309, 3) := by decide +kernel
theorem dX12_aim_143 : decode cX12_aim 143 = .ok (.ireturn, 1) := by decide +kernel
theorem dX12_aim_144 : decode cX12_aim 144 = .ok (.aload_n 0, 1) := by decide +kernel
theorem dX12_aim_145 : decode cX12_aim 145 = .ok (.iload_n 1, 1) := by decide +kernel
theorem dX12_aim_146 : decode cX12_aim 146 = .ok (.invokevirtual 293, 3) := by decide +kernel
theorem dX12_aim_149 : decode cX12_aim 149 = .ok (.ireturn, 1) := by decide +kernel
theorem dX12_of_0 : decode cX12_of 0 = .ok (.aload_n 0, 1) := by decide +kernel
theorem dX12_of_1 : decode cX12_of 1 = .ok (.iload_n 1, 1) := by decide +kernel
theorem dX12_of_2 : decode cX12_of 2 = .ok (.invokevirtual 219, 3) := by decide +kernel
theorem dX12_of_5 : decode cX12_of 5 = .ok (.ifCond .ne 5, 3) := by decide +kernel
theorem dX12_of_8 : decode cX12_of 8 = .ok (.iconst (-1), 1) := by decide +kernel
theorem dX12_of_9 : decode cX12_of 9 = .ok (.ireturn, 1) := by decide +kernel
theorem dX12_of_10 : decode cX12_of 10 = .ok (.aload_n 0, 1) := by decide +kernel
theorem dX12_of_11 : decode cX12_of 11 = .ok (.iload_n 2, 1) := by decide +kernel
theorem dX12_of_12 : decode cX12_of 12 = .ok (.bipush 10, 2) := by decide +kernel
theorem dX12_of_14 : decode cX12_of 14 = .ok (.bipush 12, 2) := by decide +kernel
theorem dX12_of_16 : decode cX12_of 16 = .ok (.invokevirtual 215, 3) := by decide +kernel
theorem dX12_of_19 : decode cX12_of 19 = .ok (.ifCond .eq 13, 3) := by decide +kernel
theorem dX12_of_22 : decode cX12_of 22 = .ok (.aload_n 0, 1) := by decide +kernel
theorem dX12_of_23 : decode cX12_of 23 = .ok (.iload_n 1, 1) := by decide +kernel
theorem dX12_of_24 : decode cX12_of 24 = .ok (.iload_n 2, 1) := by decide +kernel
theorem dX12_of_25 : decode cX12_of 25 = .ok (.bipush 10, 2) := by decide +kernel
theorem dX12_of_27 : decode cX12_of 27 = .ok (.isub, 1) := by decide +kernel
theorem dX12_of_28 : decode cX12_of 28 = .ok (.invokevirtual 299, 3) := by decide +kernel
theorem dX12_of_31 : decode cX12_of 31 = .ok (.ireturn, 1) := by decide +kernel
theorem dX12_of_32 : decode cX12_of 32 = .ok (.aload_n 0, 1) := by decide +kernel
theorem dX12_of_33 : decode cX12_of 33 = .ok (.iload_n 2, 1) := by decide +kernel
theorem dX12_of_34 : decode cX12_of 34 = .ok (.bipush 20, 2) := by decide +kernel
theorem dX12_of_36 : decode cX12_of 36 = .ok (.bipush 22, 2) := by decide +kernel
theorem dX12_of_38 : decode cX12_of 38 = .ok (.invokevirtual 215, 3) := by decide +kernel
theorem dX12_of_41 : decode cX12_of 41 = .ok (.ifCond .eq 13, 3) := by decide +kernel
theorem dX12_of_44 : decode cX12_of 44 = .ok (.aload_n 0, 1) := by decide +kernel
theorem dX12_of_45 : decode cX12_of 45 = .ok (.iload_n 1, 1) := by decide +kernel
theorem dX12_of_46 : decode cX12_of 46 = .ok (.iload_n 2, 1) := by decide +kernel
theorem dX12_of_47 : decode cX12_of 47 = .ok (.bipush 20, 2) := by decide +kernel
theorem dX12_of_49 : decode cX12_of 49 = .ok (.isub, 1) := by decide +kernel
theorem dX12_of_50 : decode cX12_of 50 = .ok (.invokevirtual 311, 3) := by decide +kernel
theorem dX12_of_53 : decode cX12_of 53 = .ok (.ireturn, 1) := by decide +kernel
theorem dX12_of_54 : decode cX12_of 54 = .ok (.iload_n 2, 1) := by decide +kernel
theorem dX12_of_55 : decode cX12_of 55 = .ok (.tableswitch 88 0 6 #[41, 48, 55, 62, 69, 76, 82], 41) := by decide +kernel
theorem dX12_of_96 : decode cX12_of 96 = .ok (.aload_n 0, 1) := by decide +kernel
theorem dX12_of_97 : decode cX12_of 97 = .ok (.getfield 19, 3) := by decide +kernel
theorem dX12_of_100 : decode cX12_of 100 = .ok (.iload_n 1, 1) := by decide +kernel
theorem dX12_of_101 : decode cX12_of 101 = .ok (.iaload, 1) := by decide +kernel
theorem dX12_of_102 : decode cX12_of 102 = .ok (.ireturn, 1) := by decide +kernel
theorem dX12_of_103 : decode cX12_of 103 = .ok (.aload_n 0, 1) := by decide +kernel
theorem dX12_of_104 : decode cX12_of 104 = .ok (.getfield 23, 3) := by decide +kernel
theorem dX12_of_107 : decode cX12_of 107 = .ok (.iload_n 1, 1) := by decide +kernel
theorem dX12_of_108 : decode cX12_of 108 = .ok (.iaload, 1) := by decide +kernel
theorem dX12_of_109 : decode cX12_of 109 = .ok (.ireturn, 1) := by decide +kernel
theorem dX12_of_110 : decode cX12_of 110 = .ok (.aload_n 0, 1) := by decide +kernel
theorem dX12_of_111 : decode cX12_of 111 = .ok (.getfield 26, 3) := by decide +kernel
theorem dX12_of_114 : decode cX12_of 114 = .ok (.iload_n 1, 1) := by decide +kernel
theorem dX12_of_115 : decode cX12_of 115 = .ok (.iaload, 1) := by decide +kernel
theorem dX12_of_116 : decode cX12_of 116 = .ok (.ireturn, 1) := by decide +kernel
theorem dX12_of_117 : decode cX12_of 117 = .ok (.aload_n 0, 1) := by decide +kernel
theorem dX12_of_118 : decode cX12_of 118 = .ok (.getfield 29, 3) := by decide +kernel
theorem dX12_of_121 : decode cX12_of 121 = .ok (.iload_n 1, 1) := by decide +kernel
theorem dX12_of_122 : decode cX12_of 122 = .ok (.iaload, 1) := by decide +kernel
theorem dX12_of_123 : decode cX12_of 123 = .ok (.ireturn, 1) := by decide +kernel
theorem dX12_of_124 : decode cX12_of 124 = .ok (.aload_n 0, 1) := by decide +kernel
theorem dX12_of_125 : decode cX12_of 125 = .ok (.getfield 32, 3) := by decide +kernel
theorem dX12_of_128 : decode cX12_of 128 = .ok (.iload_n 1, 1) := by decide +kernel
theorem dX12_of_129 : decode cX12_of 129 = .ok (.iaload, 1) := by decide +kernel
theorem dX12_of_130 : decode cX12_of 130 = .ok (.ireturn, 1) := by decide +kernel
theorem dX12_of_131 : decode cX12_of 131 = .ok (.aload_n 0, 1) := by decide +kernel
theorem dX12_of_132 : decode cX12_of 132 = .ok (.iload_n 1, 1) := by decide +kernel
theorem dX12_of_133 : decode cX12_of 133 = .ok (.invokevirtual 314, 3) := by decide +kernel
theorem dX12_of_136 : decode cX12_of 136 = .ok (.ireturn, 1) := by decide +kernel
theorem dX12_of_137 : decode cX12_of 137 = .ok (.aload_n 0, 1) := by decide +kernel
theorem dX12_of_138 : decode cX12_of 138 = .ok (.iload_n 1, 1) := by decide +kernel
theorem dX12_of_139 : decode cX12_of 139 = .ok (.invokevirtual 296, 3) := by decide +kernel
theorem dX12_of_142 : decode cX12_of 142 = .ok (.ireturn, 1) := by decide +kernel
theorem dX12_of_143 : decode cX12_of 143 = .ok (.iconst (-1), 1) := by decide +kernel
theorem dX12_of_144 : decode cX12_of 144 = .ok (.ireturn, 1) := by decide +kernel
theorem dX12_told_0 : decode cX12_told 0 = .ok (.iload_n 1, 1) := by decide +kernel
theorem dX12_told_1 : decode cX12_told 1 = .ok (.ifCond .ne 10, 3) := by decide +kernel
theorem dX12_told_4 : decode cX12_told 4 = .ok (.aload_n 0, 1) := by decide +kernel
theorem dX12_told_5 : decode cX12_told 5 = .ok (.getfield 13, 3) := by decide +kernel
theorem dX12_told_8 : decode cX12_told 8 = .ok (.goto 16, 3) := by decide +kernel
theorem dX12_told_11 : decode cX12_told 11 = .ok (.iload_n 1, 1) := by decide +kernel
theorem dX12_told_12 : decode cX12_told 12 = .ok (.iconst 1, 1) := by decide +kernel
theorem dX12_told_13 : decode cX12_told 13 = .ok (.if_icmp .ne 10, 3) := by decide +kernel
theorem dX12_told_16 : decode cX12_told 16 = .ok (.aload_n 0, 1) := by decide +kernel
theorem dX12_told_17 : decode cX12_told 17 = .ok (.getfield 16, 3) := by decide +kernel
theorem dX12_told_20 : decode cX12_told 20 = .ok (.goto 4, 3) := by decide +kernel
theorem dX12_told_23 : decode cX12_told 23 = .ok (.iconst (-1), 1) := by decide +kernel
theorem dX12_told_24 : decode cX12_told 24 = .ok (.ireturn, 1) := by decide +kernel
theorem dX12_chanceOf_0 : decode cX12_chanceOf 0 = .ok (.aload_n 0, 1) := by decide +kernel
theorem dX12_chanceOf_1 : decode cX12_chanceOf 1 = .ok (.iload_n 1, 1) := by decide +kernel
theorem dX12_chanceOf_2 : decode cX12_chanceOf 2 = .ok (.iload_n 2, 1) := by decide +kernel
theorem dX12_chanceOf_3 : decode cX12_chanceOf 3 = .ok (.invokevirtual 299, 3) := by decide +kernel
theorem dX12_chanceOf_6 : decode cX12_chanceOf 6 = .ok (.iload_n 2, 1) := by decide +kernel
theorem dX12_chanceOf_7 : decode cX12_chanceOf 7 = .ok (.iload_n 3, 1) := by decide +kernel
theorem dX12_chanceOf_8 : decode cX12_chanceOf 8 = .ok (.if_icmp .ne 12, 3) := by decide +kernel
theorem dX12_chanceOf_11 : decode cX12_chanceOf 11 = .ok (.aload_n 0, 1) := by decide +kernel
theorem dX12_chanceOf_12 : decode cX12_chanceOf 12 = .ok (.iload_n 1, 1) := by decide +kernel
theorem dX12_chanceOf_13 : decode cX12_chanceOf 13 = .ok (.iload_n 2, 1) := by decide +kernel
theorem dX12_chanceOf_14 : decode cX12_chanceOf 14 = .ok (.invokevirtual 311, 3) := by decide +kernel
theorem dX12_chanceOf_17 : decode cX12_chanceOf 17 = .ok (.goto 4, 3) := by decide +kernel
theorem dX12_chanceOf_20 : decode cX12_chanceOf 20 = .ok (.iconst 0, 1) := by decide +kernel
theorem dX12_chanceOf_21 : decode cX12_chanceOf 21 = .ok (.isub, 1) := by decide +kernel
theorem dX12_chanceOf_22 : decode cX12_chanceOf 22 = .ok (.istore 4, 2) := by decide +kernel
theorem dX12_chanceOf_24 : decode cX12_chanceOf 24 = .ok (.iload 4, 2) := by decide +kernel
theorem dX12_chanceOf_26 : decode cX12_chanceOf 26 = .ok (.ifCond .ge 7, 3) := by decide +kernel
theorem dX12_chanceOf_29 : decode cX12_chanceOf 29 = .ok (.iconst 0, 1) := by decide +kernel
theorem dX12_chanceOf_30 : decode cX12_chanceOf 30 = .ok (.goto 5, 3) := by decide +kernel
theorem dX12_chanceOf_33 : decode cX12_chanceOf 33 = .ok (.iload 4, 2) := by decide +kernel
theorem dX12_chanceOf_35 : decode cX12_chanceOf 35 = .ok (.ireturn, 1) := by decide +kernel
theorem dX12_chance_0 : decode cX12_chance 0 = .ok (.aload_n 0, 1) := by decide +kernel
theorem dX12_chance_1 : decode cX12_chance 1 = .ok (.iload_n 1, 1) := by decide +kernel
theorem dX12_chance_2 : decode cX12_chance 2 = .ok (.invokevirtual 219, 3) := by decide +kernel
theorem dX12_chance_5 : decode cX12_chance 5 = .ok (.ifCond .eq 29, 3) := by decide +kernel
theorem dX12_chance_8 : decode cX12_chance 8 = .ok (.aload_n 0, 1) := by decide +kernel
theorem dX12_chance_9 : decode cX12_chance 9 = .ok (.iload_n 2, 1) := by decide +kernel
theorem dX12_chance_10 : decode cX12_chance 10 = .ok (.invokevirtual 223, 3) := by decide +kernel
theorem dX12_chance_13 : decode cX12_chance 13 = .ok (.ifCond .eq 21, 3) := by decide +kernel
theorem dX12_chance_16 : decode cX12_chance 16 = .ok (.aload_n 0, 1) := by decide +kernel
theorem dX12_chance_17 : decode cX12_chance 17 = .ok (.iload_n 3, 1) := by decide +kernel
theorem dX12_chance_18 : decode cX12_chance 18 = .ok (.invokevirtual 223, 3) := by decide +kernel
theorem dX12_chance_21 : decode cX12_chance 21 = .ok (.ifCond .eq 13, 3) := by decide +kernel
theorem dX12_chance_24 : decode cX12_chance 24 = .ok (.aload_n 0, 1) := by decide +kernel
theorem dX12_chance_25 : decode cX12_chance 25 = .ok (.iload_n 1, 1) := by decide +kernel
theorem dX12_chance_26 : decode cX12_chance 26 = .ok (.iload_n 2, 1) := by decide +kernel
theorem dX12_chance_27 : decode cX12_chance 27 = .ok (.iload_n 3, 1) := by decide +kernel
theorem dX12_chance_28 : decode cX12_chance 28 = .ok (.invokevirtual 317, 3) := by decide +kernel
theorem dX12_chance_31 : decode cX12_chance 31 = .ok (.goto 4, 3) := by decide +kernel
theorem dX12_chance_34 : decode cX12_chance 34 = .ok (.iconst (-1), 1) := by decide +kernel
theorem dX12_chance_35 : decode cX12_chance 35 = .ok (.ireturn, 1) := by decide +kernel
theorem dX12_chanceNow_0 : decode cX12_chanceNow 0 = .ok (.aload_n 0, 1) := by decide +kernel
theorem dX12_chanceNow_1 : decode cX12_chanceNow 1 = .ok (.iload_n 1, 1) := by decide +kernel
theorem dX12_chanceNow_2 : decode cX12_chanceNow 2 = .ok (.aload_n 0, 1) := by decide +kernel
theorem dX12_chanceNow_3 : decode cX12_chanceNow 3 = .ok (.iload_n 1, 1) := by decide +kernel
theorem dX12_chanceNow_4 : decode cX12_chanceNow 4 = .ok (.invokevirtual 314, 3) := by decide +kernel
theorem dX12_chanceNow_7 : decode cX12_chanceNow 7 = .ok (.aload_n 0, 1) := by decide +kernel
theorem dX12_chanceNow_8 : decode cX12_chanceNow 8 = .ok (.iload_n 1, 1) := by decide +kernel
theorem dX12_chanceNow_9 : decode cX12_chanceNow 9 = .ok (.invokevirtual 296, 3) := by decide +kernel
theorem dX12_chanceNow_12 : decode cX12_chanceNow 12 = .ok (.invokevirtual 317, 3) := by decide +kernel
theorem dX12_chanceNow_15 : decode cX12_chanceNow 15 = .ok (.ireturn, 1) := by decide +kernel
theorem dX12_more_0 : decode cX12_more 0 = .ok (.iload_n 1, 1) := by decide +kernel
theorem dX12_more_1 : decode cX12_more 1 = .ok (.sipush 999, 3) := by decide +kernel
theorem dX12_more_4 : decode cX12_more 4 = .ok (.if_icmp .ge 9, 3) := by decide +kernel
theorem dX12_more_7 : decode cX12_more 7 = .ok (.iload_n 1, 1) := by decide +kernel
theorem dX12_more_8 : decode cX12_more 8 = .ok (.iconst 1, 1) := by decide +kernel
theorem dX12_more_9 : decode cX12_more 9 = .ok (.iadd, 1) := by decide +kernel
theorem dX12_more_10 : decode cX12_more 10 = .ok (.goto 6, 3) := by decide +kernel
theorem dX12_more_13 : decode cX12_more 13 = .ok (.sipush 999, 3) := by decide +kernel
theorem dX12_more_16 : decode cX12_more 16 = .ok (.ireturn, 1) := by decide +kernel
theorem dX12_goes_0 : decode cX12_goes 0 = .ok (.aload_n 0, 1) := by decide +kernel
theorem dX12_goes_1 : decode cX12_goes 1 = .ok (.iload_n 1, 1) := by decide +kernel
theorem dX12_goes_2 : decode cX12_goes 2 = .ok (.invokevirtual 314, 3) := by decide +kernel
theorem dX12_goes_5 : decode cX12_goes 5 = .ok (.istore_n 3, 1) := by decide +kernel
theorem dX12_goes_6 : decode cX12_goes 6 = .ok (.aload_n 0, 1) := by decide +kernel
theorem dX12_goes_7 : decode cX12_goes 7 = .ok (.getfield 26, 3) := by decide +kernel
theorem dX12_goes_10 : decode cX12_goes 10 = .ok (.iload_n 1, 1) := by decide +kernel
theorem dX12_goes_11 : decode cX12_goes 11 = .ok (.iload_n 3, 1) := by decide +kernel
theorem dX12_goes_12 : decode cX12_goes 12 = .ok (.iastore, 1) := by decide +kernel
theorem dX12_goes_13 : decode cX12_goes 13 = .ok (.aload_n 0, 1) := by decide +kernel
theorem dX12_goes_14 : decode cX12_goes 14 = .ok (.getfield 29, 3) := by decide +kernel
theorem dX12_goes_17 : decode cX12_goes 17 = .ok (.iload_n 1, 1) := by decide +kernel
theorem dX12_goes_18 : decode cX12_goes 18 = .ok (.aload_n 0, 1) := by decide +kernel
theorem dX12_goes_19 : decode cX12_goes 19 = .ok (.aload_n 0, 1) := by decide +kernel
theorem dX12_goes_20 : decode cX12_goes 20 = .ok (.getfield 29, 3) := by decide +kernel
theorem dX12_goes_23 : decode cX12_goes 23 = .ok (.iload_n 1, 1) := by decide +kernel
theorem dX12_goes_24 : decode cX12_goes 24 = .ok (.iaload, 1) := by decide +kernel
theorem dX12_goes_25 : decode cX12_goes 25 = .ok (.invokevirtual 320, 3) := by decide +kernel
theorem dX12_goes_28 : decode cX12_goes 28 = .ok (.iastore, 1) := by decide +kernel
theorem dX12_goes_29 : decode cX12_goes 29 = .ok (.aload_n 0, 1) := by decide +kernel
theorem dX12_goes_30 : decode cX12_goes 30 = .ok (.aload_n 0, 1) := by decide +kernel
theorem dX12_goes_31 : decode cX12_goes 31 = .ok (.aload_n 0, 1) := by decide +kernel
theorem dX12_goes_32 : decode cX12_goes 32 = .ok (.getfield 13, 3) := by decide +kernel
theorem dX12_goes_35 : decode cX12_goes 35 = .ok (.invokevirtual 320, 3) := by decide +kernel
theorem dX12_goes_38 : decode cX12_goes 38 = .ok (.putfield 13, 3) := by decide +kernel
theorem dX12_goes_41 : decode cX12_goes 41 = .ok (.iload_n 2, 1) := by decide +kernel
theorem dX12_goes_42 : decode cX12_goes 42 = .ok (.ifCond .eq 31, 3) := by decide +kernel
theorem dX12_goes_45 : decode cX12_goes 45 = .ok (.aload_n 0, 1) := by decide +kernel
theorem dX12_goes_46 : decode cX12_goes 46 = .ok (.getfield 32, 3) := by decide +kernel
theorem dX12_goes_49 : decode cX12_goes 49 = .ok (.iload_n 1, 1) := by decide +kernel
theorem dX12_goes_50 : decode cX12_goes 50 = .ok (.aload_n 0, 1) := by decide +kernel
theorem dX12_goes_51 : decode cX12_goes 51 = .ok (.aload_n 0, 1) := by decide +kernel
theorem dX12_goes_52 : decode cX12_goes 52 = .ok (.getfield 32, 3) := by decide +kernel
theorem dX12_goes_55 : decode cX12_goes 55 = .ok (.iload_n 1, 1) := by decide +kernel
theorem dX12_goes_56 : decode cX12_goes 56 = .ok (.iaload, 1) := by decide +kernel
theorem dX12_goes_57 : decode cX12_goes 57 = .ok (.invokevirtual 320, 3) := by decide +kernel
theorem dX12_goes_60 : decode cX12_goes 60 = .ok (.iastore, 1) := by decide +kernel
theorem dX12_goes_61 : decode cX12_goes 61 = .ok (.aload_n 0, 1) := by decide +kernel
theorem dX12_goes_62 : decode cX12_goes 62 = .ok (.aload_n 0, 1) := by decide +kernel
theorem dX12_goes_63 : decode cX12_goes 63 = .ok (.aload_n 0, 1) := by decide +kernel
theorem dX12_goes_64 : decode cX12_goes 64 = .ok (.getfield 16, 3) := by decide +kernel
theorem dX12_goes_67 : decode cX12_goes 67 = .ok (.invokevirtual 320, 3) := by decide +kernel
theorem dX12_goes_70 : decode cX12_goes 70 = .ok (.putfield 16, 3) := by decide +kernel
theorem dX12_goes_73 : decode cX12_goes 73 = .ok (.iload_n 3, 1) := by decide +kernel
theorem dX12_goes_74 : decode cX12_goes 74 = .ok (.ireturn, 1) := by decide +kernel
theorem dX12_shoot_0 : decode cX12_shoot 0 = .ok (.aload_n 0, 1) := by decide +kernel
theorem dX12_shoot_1 : decode cX12_shoot 1 = .ok (.iload_n 1, 1) := by decide +kernel
theorem dX12_shoot_2 : decode cX12_shoot 2 = .ok (.invokevirtual 219, 3) := by decide +kernel
theorem dX12_shoot_5 : decode cX12_shoot 5 = .ok (.ifCond .ne 5, 3) := by decide +kernel
theorem dX12_shoot_8 : decode cX12_shoot 8 = .ok (.iconst (-1), 1) := by decide +kernel
theorem dX12_shoot_9 : decode cX12_shoot 9 = .ok (.ireturn, 1) := by decide +kernel
theorem dX12_shoot_10 : decode cX12_shoot 10 = .ok (.aload_n 0, 1) := by decide +kernel
theorem dX12_shoot_11 : decode cX12_shoot 11 = .ok (.iload_n 2, 1) := by decide +kernel
theorem dX12_shoot_12 : decode cX12_shoot 12 = .ok (.iconst 0, 1) := by decide +kernel
theorem dX12_shoot_13 : decode cX12_shoot 13 = .ok (.bipush 99, 2) := by decide +kernel
theorem dX12_shoot_15 : decode cX12_shoot 15 = .ok (.invokevirtual 215, 3) := by decide +kernel
theorem dX12_shoot_18 : decode cX12_shoot 18 = .ok (.ifCond .ne 6, 3) := by decide +kernel
theorem dX12_shoot_21 : decode cX12_shoot 21 = .ok (.bipush (-2), 2) := by decide +kernel
theorem dX12_shoot_23 : decode cX12_shoot 23 = .ok (.ireturn, 1) := by decide +kernel
theorem dX12_shoot_24 : decode cX12_shoot 24 = .ok (.aload_n 0, 1) := by decide +kernel
theorem dX12_shoot_25 : decode cX12_shoot 25 = .ok (.getfield 13, 3) := by decide +kernel
theorem dX12_shoot_28 : decode cX12_shoot 28 = .ok (.sipush 999, 3) := by decide +kernel
theorem dX12_shoot_31 : decode cX12_shoot 31 = .ok (.if_icmp .ne 6, 3) := by decide +kernel
theorem dX12_shoot_34 : decode cX12_shoot 34 = .ok (.bipush (-3), 2) := by decide +kernel
theorem dX12_shoot_36 : decode cX12_shoot 36 = .ok (.ireturn, 1) := by decide +kernel
theorem dX12_shoot_37 : decode cX12_shoot 37 = .ok (.iload_n 2, 1) := by decide +kernel
theorem dX12_shoot_38 : decode cX12_shoot 38 = .ok (.aload_n 0, 1) := by decide +kernel
theorem dX12_shoot_39 : decode cX12_shoot 39 = .ok (.iload_n 1, 1) := by decide +kernel
theorem dX12_shoot_40 : decode cX12_shoot 40 = .ok (.invokevirtual 323, 3) := by decide +kernel
theorem dX12_shoot_43 : decode cX12_shoot 43 = .ok (.if_icmp .ge 7, 3) := by decide +kernel
theorem dX12_shoot_46 : decode cX12_shoot 46 = .ok (.iconst 1, 1) := by decide +kernel
theorem dX12_shoot_47 : decode cX12_shoot 47 = .ok (.goto 4, 3) := by decide +kernel
theorem dX12_shoot_50 : decode cX12_shoot 50 = .ok (.iconst 0, 1) := by decide +kernel
theorem dX12_shoot_51 : decode cX12_shoot 51 = .ok (.istore_n 3, 1) := by decide +kernel
theorem dX12_shoot_52 : decode cX12_shoot 52 = .ok (.aload_n 0, 1) := by decide +kernel
theorem dX12_shoot_53 : decode cX12_shoot 53 = .ok (.iload_n 1, 1) := by decide +kernel
theorem dX12_shoot_54 : decode cX12_shoot 54 = .ok (.iload_n 3, 1) := by decide +kernel
theorem dX12_shoot_55 : decode cX12_shoot 55 = .ok (.invokevirtual 326, 3) := by decide +kernel
theorem dX12_shoot_58 : decode cX12_shoot 58 = .ok (.istore 4, 2) := by decide +kernel
theorem dX12_shoot_60 : decode cX12_shoot 60 = .ok (.iload_n 3, 1) := by decide +kernel
theorem dX12_shoot_61 : decode cX12_shoot 61 = .ok (.ifCond .eq 11, 3) := by decide +kernel
theorem dX12_shoot_64 : decode cX12_shoot 64 = .ok (.iload 4, 2) := by decide +kernel
theorem dX12_shoot_66 : decode cX12_shoot 66 = .ok (.bipush 10, 2) := by decide +kernel
theorem dX12_shoot_68 : decode cX12_shoot 68 = .ok (.iadd, 1) := by decide +kernel
theorem dX12_shoot_69 : decode cX12_shoot 69 = .ok (.goto 5, 3) := by decide +kernel
theorem dX12_shoot_72 : decode cX12_shoot 72 = .ok (.iload 4, 2) := by decide +kernel
theorem dX12_shoot_74 : decode cX12_shoot 74 = .ok (.ireturn, 1) := by decide +kernel
theorem dX12_anew_0 : decode cX12_anew 0 = .ok (.aload_n 0, 1) := by decide +kernel
theorem dX12_anew_1 : decode cX12_anew 1 = .ok (.getfield 16, 3) := by decide +kernel
theorem dX12_anew_4 : decode cX12_anew 4 = .ok (.istore_n 1, 1) := by decide +kernel
theorem dX12_anew_5 : decode cX12_anew 5 = .ok (.aload_n 0, 1) := by decide +kernel
theorem dX12_anew_6 : decode cX12_anew 6 = .ok (.iconst 0, 1) := by decide +kernel
theorem dX12_anew_7 : decode cX12_anew 7 = .ok (.putfield 13, 3) := by decide +kernel
theorem dX12_anew_10 : decode cX12_anew 10 = .ok (.aload_n 0, 1) := by decide +kernel
theorem dX12_anew_11 : decode cX12_anew 11 = .ok (.iconst 0, 1) := by decide +kernel
theorem dX12_anew_12 : decode cX12_anew 12 = .ok (.putfield 16, 3) := by decide +kernel
theorem dX12_anew_15 : decode cX12_anew 15 = .ok (.iload_n 1, 1) := by decide +kernel
theorem dX12_anew_16 : decode cX12_anew 16 = .ok (.ireturn, 1) := by decide +kernel
theorem dX12_best_0 : decode cX12_best 0 = .ok (.aload_n 0, 1) := by decide +kernel
theorem dX12_best_1 : decode cX12_best 1 = .ok (.iload_n 1, 1) := by decide +kernel
theorem dX12_best_2 : decode cX12_best 2 = .ok (.invokevirtual 219, 3) := by decide +kernel
theorem dX12_best_5 : decode cX12_best 5 = .ok (.ifCond .eq 13, 3) := by decide +kernel
theorem dX12_best_8 : decode cX12_best 8 = .ok (.aload_n 0, 1) := by decide +kernel
theorem dX12_best_9 : decode cX12_best 9 = .ok (.iload_n 2, 1) := by decide +kernel
theorem dX12_best_10 : decode cX12_best 10 = .ok (.iconst 0, 1) := by decide +kernel
theorem dX12_best_11 : decode cX12_best 11 = .ok (.iconst 1, 1) := by decide +kernel
theorem dX12_best_12 : decode cX12_best 12 = .ok (.invokevirtual 215, 3) := by decide +kernel
theorem dX12_best_15 : decode cX12_best 15 = .ok (.ifCond .ne 5, 3) := by decide +kernel
theorem dX12_best_18 : decode cX12_best 18 = .ok (.iconst (-1), 1) := by decide +kernel
theorem dX12_best_19 : decode cX12_best 19 = .ok (.ireturn, 1) := by decide +kernel
theorem dX12_best_20 : decode cX12_best 20 = .ok (.aload_n 0, 1) := by decide +kernel
theorem dX12_best_21 : decode cX12_best 21 = .ok (.iload_n 1, 1) := by decide +kernel
theorem dX12_best_22 : decode cX12_best 22 = .ok (.invokevirtual 296, 3) := by decide +kernel
theorem dX12_best_25 : decode cX12_best 25 = .ok (.istore_n 3, 1) := by decide +kernel
theorem dX12_best_26 : decode cX12_best 26 = .ok (.iconst 0, 1) := by decide +kernel
theorem dX12_best_27 : decode cX12_best 27 = .ok (.istore 4, 2) := by decide +kernel
theorem dX12_best_29 : decode cX12_best 29 = .ok (.iconst 1, 1) := by decide +kernel
theorem dX12_best_30 : decode cX12_best 30 = .ok (.istore 5, 2) := by decide +kernel
theorem dX12_best_32 : decode cX12_best 32 = .ok (.iload 5, 2) := by decide +kernel
theorem dX12_best_34 : decode cX12_best 34 = .ok (.iconst 3, 1) := by decide +kernel
theorem dX12_best_35 : decode cX12_best 35 = .ok (.if_icmp .ge 32, 3) := by decide +kernel
theorem dX12_best_38 : decode cX12_best 38 = .ok (.aload_n 0, 1) := by decide +kernel
theorem dX12_best_39 : decode cX12_best 39 = .ok (.iload_n 1, 1) := by decide +kernel
theorem dX12_best_40 : decode cX12_best 40 = .ok (.iload 5, 2) := by decide +kernel
theorem dX12_best_42 : decode cX12_best 42 = .ok (.iload_n 3, 1) := by decide +kernel
theorem dX12_best_43 : decode cX12_best 43 = .ok (.invokevirtual 317, 3) := by decide +kernel
theorem dX12_best_46 : decode cX12_best 46 = .ok (.aload_n 0, 1) := by decide +kernel
theorem dX12_best_47 : decode cX12_best 47 = .ok (.iload_n 1, 1) := by decide +kernel
theorem dX12_best_48 : decode cX12_best 48 = .ok (.iload 4, 2) := by decide +kernel
theorem dX12_best_50 : decode cX12_best 50 = .ok (.iload_n 3, 1) := by decide +kernel
theorem dX12_best_51 : decode cX12_best 51 = .ok (.invokevirtual 317, 3) := by decide +kernel
theorem dX12_best_54 : decode cX12_best 54 = .ok (.if_icmp .le 7, 3) := by decide +kernel
theorem dX12_best_57 : decode cX12_best 57 = .ok (.iload 5, 2) := by decide +kernel
theorem dX12_best_59 : decode cX12_best 59 = .ok (.istore 4, 2) := by decide +kernel
theorem dX12_best_61 : decode cX12_best 61 = .ok (.iinc 5 1, 3) := by decide +kernel
theorem dX12_best_64 : decode cX12_best 64 = .ok (.goto (-32), 3) := by decide +kernel
theorem dX12_best_67 : decode cX12_best 67 = .ok (.iload_n 2, 1) := by decide +kernel
theorem dX12_best_68 : decode cX12_best 68 = .ok (.ifCond .ne 8, 3) := by decide +kernel
theorem dX12_best_71 : decode cX12_best 71 = .ok (.iload 4, 2) := by decide +kernel
theorem dX12_best_73 : decode cX12_best 73 = .ok (.goto 11, 3) := by decide +kernel
theorem dX12_best_76 : decode cX12_best 76 = .ok (.aload_n 0, 1) := by decide +kernel
theorem dX12_best_77 : decode cX12_best 77 = .ok (.iload_n 1, 1) := by decide +kernel
theorem dX12_best_78 : decode cX12_best 78 = .ok (.iload 4, 2) := by decide +kernel
theorem dX12_best_80 : decode cX12_best 80 = .ok (.iload_n 3, 1) := by decide +kernel
theorem dX12_best_81 : decode cX12_best 81 = .ok (.invokevirtual 317, 3) := by decide +kernel
theorem dX12_best_84 : decode cX12_best 84 = .ok (.ireturn, 1) := by decide +kernel
theorem dX12_mixed_0 : decode cX12_mixed 0 = .ok (.sipush 9999, 3) := by decide +kernel
theorem dX12_mixed_3 : decode cX12_mixed 3 = .ok (.istore 4, 2) := by decide +kernel
theorem dX12_mixed_5 : decode cX12_mixed 5 = .ok (.iconst 0, 1) := by decide +kernel
theorem dX12_mixed_6 : decode cX12_mixed 6 = .ok (.istore 5, 2) := by decide +kernel
theorem dX12_mixed_8 : decode cX12_mixed 8 = .ok (.iload 5, 2) := by decide +kernel
theorem dX12_mixed_10 : decode cX12_mixed 10 = .ok (.iconst 3, 1) := by decide +kernel
theorem dX12_mixed_11 : decode cX12_mixed 11 = .ok (.if_icmp .ge 64, 3) := by decide +kernel
theorem dX12_mixed_14 : decode cX12_mixed 14 = .ok (.iload_n 2, 1) := by decide +kernel
theorem dX12_mixed_15 : decode cX12_mixed 15 = .ok (.aload_n 0, 1) := by decide +kernel
theorem dX12_mixed_16 : decode cX12_mixed 16 = .ok (.iload_n 1, 1) := by decide +kernel
theorem dX12_mixed_17 : decode cX12_mixed 17 = .ok (.iconst 0, 1) := by decide +kernel
theorem dX12_mixed_18 : decode cX12_mixed 18 = .ok (.iload 5, 2) := by decide +kernel
theorem dX12_mixed_20 : decode cX12_mixed 20 = .ok (.invokevirtual 317, 3) := by decide +kernel
theorem dX12_mixed_23 : decode cX12_mixed 23 = .ok (.imul, 1) := by decide +kernel
theorem dX12_mixed_24 : decode cX12_mixed 24 = .ok (.iload_n 3, 1) := by decide +kernel
theorem dX12_mixed_25 : decode cX12_mixed 25 = .ok (.aload_n 0, 1) := by decide +kernel
theorem dX12_mixed_26 : decode cX12_mixed 26 = .ok (.iload_n 1, 1) := by decide +kernel
theorem dX12_mixed_27 : decode cX12_mixed 27 = .ok (.iconst 1, 1) := by decide +kernel
theorem dX12_mixed_28 : decode cX12_mixed 28 = .ok (.iload 5, 2) := by decide +kernel
theorem dX12_mixed_30 : decode cX12_mixed 30 = .ok (.invokevirtual 317, 3) := by decide +kernel
theorem dX12_mixed_33 : decode cX12_mixed 33 = .ok (.imul, 1) := by decide +kernel
theorem dX12_mixed_34 : decode cX12_mixed 34 = .ok (.iadd, 1) := by decide +kernel
theorem dX12_mixed_35 : decode cX12_mixed 35 = .ok (.bipush 10, 2) := by decide +kernel
theorem dX12_mixed_37 : decode cX12_mixed 37 = .ok (.iload_n 2, 1) := by decide +kernel
theorem dX12_mixed_38 : decode cX12_mixed 38 = .ok (.isub, 1) := by decide +kernel
theorem dX12_mixed_39 : decode cX12_mixed 39 = .ok (.iload_n 3, 1) := by decide +kernel
theorem dX12_mixed_40 : decode cX12_mixed 40 = .ok (.isub, 1) := by decide +kernel
theorem dX12_mixed_41 : decode cX12_mixed 41 = .ok (.aload_n 0, 1) := by decide +kernel
theorem dX12_mixed_42 : decode cX12_mixed 42 = .ok (.iload_n 1, 1) := by decide +kernel
theorem dX12_mixed_43 : decode cX12_mixed 43 = .ok (.iconst 2, 1) := by decide +kernel
theorem dX12_mixed_44 : decode cX12_mixed 44 = .ok (.iload 5, 2) := by decide +kernel
theorem dX12_mixed_46 : decode cX12_mixed 46 = .ok (.invokevirtual 317, 3) := by decide +kernel
theorem dX12_mixed_49 : decode cX12_mixed 49 = .ok (.imul, 1) := by decide +kernel
theorem dX12_mixed_50 : decode cX12_mixed 50 = .ok (.iadd, 1) := by decide +kernel
theorem dX12_mixed_51 : decode cX12_mixed 51 = .ok (.istore 6, 2) := by decide +kernel
theorem dX12_mixed_53 : decode cX12_mixed 53 = .ok (.iload 6, 2) := by decide +kernel
theorem dX12_mixed_55 : decode cX12_mixed 55 = .ok (.iload 4, 2) := by decide +kernel
theorem dX12_mixed_57 : decode cX12_mixed 57 = .ok (.if_icmp .ge 8, 3) := by decide +kernel
theorem dX12_mixed_60 : decode cX12_mixed 60 = .ok (.iload 6, 2) := by decide +kernel
theorem dX12_mixed_62 : decode cX12_mixed 62 = .ok (.goto 5, 3) := by decide +kernel
theorem dX12_mixed_65 : decode cX12_mixed 65 = .ok (.iload 4, 2) := by decide +kernel
theorem dX12_mixed_67 : decode cX12_mixed 67 = .ok (.istore 4, 2) := by decide +kernel
theorem dX12_mixed_69 : decode cX12_mixed 69 = .ok (.iinc 5 1, 3) := by decide +kernel
theorem dX12_mixed_72 : decode cX12_mixed 72 = .ok (.goto (-64), 3) := by decide +kernel
theorem dX12_mixed_75 : decode cX12_mixed 75 = .ok (.iload 4, 2) := by decide +kernel
theorem dX12_mixed_77 : decode cX12_mixed 77 = .ok (.ireturn, 1) := by decide +kernel
theorem dX12_mix_0 : decode cX12_mix 0 = .ok (.aload_n 0, 1) := by decide +kernel
theorem dX12_mix_1 : decode cX12_mix 1 = .ok (.iload_n 1, 1) := by decide +kernel
theorem dX12_mix_2 : decode cX12_mix 2 = .ok (.invokevirtual 219, 3) := by decide +kernel
theorem dX12_mix_5 : decode cX12_mix 5 = .ok (.ifCond .eq 13, 3) := by decide +kernel
theorem dX12_mix_8 : decode cX12_mix 8 = .ok (.aload_n 0, 1) := by decide +kernel
theorem dX12_mix_9 : decode cX12_mix 9 = .ok (.iload_n 2, 1) := by decide +kernel
theorem dX12_mix_10 : decode cX12_mix 10 = .ok (.iconst 0, 1) := by decide +kernel
theorem dX12_mix_11 : decode cX12_mix 11 = .ok (.iconst 1, 1) := by decide +kernel
theorem dX12_mix_12 : decode cX12_mix 12 = .ok (.invokevirtual 215, 3) := by decide +kernel
theorem dX12_mix_15 : decode cX12_mix 15 = .ok (.ifCond .ne 5, 3) := by decide +kernel
theorem dX12_mix_18 : decode cX12_mix 18 = .ok (.iconst (-1), 1) := by decide +kernel
theorem dX12_mix_19 : decode cX12_mix 19 = .ok (.ireturn, 1) := by decide +kernel
theorem dX12_mix_20 : decode cX12_mix 20 = .ok (.iconst 0, 1) := by decide +kernel
theorem dX12_mix_21 : decode cX12_mix 21 = .ok (.istore_n 3, 1) := by decide +kernel
theorem dX12_mix_22 : decode cX12_mix 22 = .ok (.iconst (-1), 1) := by decide +kernel
theorem dX12_mix_23 : decode cX12_mix 23 = .ok (.istore 4, 2) := by decide +kernel
theorem dX12_mix_25 : decode cX12_mix 25 = .ok (.iconst 0, 1) := by decide +kernel
theorem dX12_mix_26 : decode cX12_mix 26 = .ok (.istore 5, 2) := by decide +kernel
theorem dX12_mix_28 : decode cX12_mix 28 = .ok (.iload 5, 2) := by decide +kernel
theorem dX12_mix_30 : decode cX12_mix 30 = .ok (.bipush 11, 2) := by decide +kernel
theorem dX12_mix_32 : decode cX12_mix 32 = .ok (.if_icmp .ge 74, 3) := by decide +kernel
theorem dX12_mix_35 : decode cX12_mix 35 = .ok (.iconst 0, 1) := by decide +kernel
theorem dX12_mix_36 : decode cX12_mix 36 = .ok (.istore 6, 2) := by decide +kernel
theorem dX12_mix_38 : decode cX12_mix 38 = .ok (.iload 6, 2) := by decide +kernel
theorem dX12_mix_40 : decode cX12_mix 40 = .ok (.bipush 11, 2) := by decide +kernel
theorem dX12_mix_42 : decode cX12_mix 42 = .ok (.iload 5, 2) := by decide +kernel
theorem dX12_mix_44 : decode cX12_mix 44 = .ok (.isub, 1) := by decide +kernel
theorem dX12_mix_45 : decode cX12_mix 45 = .ok (.if_icmp .ge 55, 3) := by decide +kernel
theorem dX12_mix_48 : decode cX12_mix 48 = .ok (.aload_n 0, 1) := by decide +kernel
theorem dX12_mix_49 : decode cX12_mix 49 = .ok (.iload_n 1, 1) := by decide +kernel
theorem dX12_mix_50 : decode cX12_mix 50 = .ok (.iload 5, 2) := by decide +kernel
theorem dX12_mix_52 : decode cX12_mix 52 = .ok (.iload 6, 2) := by decide +kernel
theorem dX12_mix_54 : decode cX12_mix 54 = .ok (.invokevirtual 330, 3) := by decide +kernel
theorem dX12_mix_57 : decode cX12_mix 57 = .ok (.istore 7, 2) := by decide +kernel
theorem dX12_mix_59 : decode cX12_mix 59 = .ok (.iload 7, 2) := by decide +kernel
theorem dX12_mix_61 : decode cX12_mix 61 = .ok (.iload 4, 2) := by decide +kernel
theorem dX12_mix_63 : decode cX12_mix 63 = .ok (.if_icmp .gt 6, 3) := by decide +kernel
theorem dX12_mix_66 : decode cX12_mix 66 = .ok (.goto 28, 3) := by decide +kernel
theorem dX12_mix_69 : decode cX12_mix 69 = .ok (.bipush 100, 2) := by decide +kernel
theorem dX12_mix_71 : decode cX12_mix 71 = .ok (.iload 5, 2) := by decide +kernel
theorem dX12_mix_73 : decode cX12_mix 73 = .ok (.imul, 1) := by decide +kernel
theorem dX12_mix_74 : decode cX12_mix 74 = .ok (.bipush 10, 2) := by decide +kernel
theorem dX12_mix_76 : decode cX12_mix 76 = .ok (.iload 6, 2) := by decide +kernel
theorem dX12_mix_78 : decode cX12_mix 78 = .ok (.imul, 1) := by decide +kernel
theorem dX12_mix_79 : decode cX12_mix 79 = .ok (.iadd, 1) := by decide +kernel
theorem dX12_mix_80 : decode cX12_mix 80 = .ok (.bipush 10, 2) := by decide +kernel
theorem dX12_mix_82 : decode cX12_mix 82 = .ok (.iadd, 1) := by decide +kernel
theorem dX12_mix_83 : decode cX12_mix 83 = .ok (.iload 5, 2) := by decide +kernel
theorem dX12_mix_85 : decode cX12_mix 85 = .ok (.isub, 1) := by decide +kernel
theorem dX12_mix_86 : decode cX12_mix 86 = .ok (.iload 6, 2) := by decide +kernel
theorem dX12_mix_88 : decode cX12_mix 88 = .ok (.isub, 1) := by decide +kernel
theorem dX12_mix_89 : decode cX12_mix 89 = .ok (.istore_n 3, 1) := by decide +kernel
theorem dX12_mix_90 : decode cX12_mix 90 = .ok (.iload 7, 2) := by decide +kernel
theorem dX12_mix_92 : decode cX12_mix 92 = .ok (.istore 4, 2) := by decide +kernel
theorem dX12_mix_94 : decode cX12_mix 94 = .ok (.iinc 6 1, 3) := by decide +kernel
theorem dX12_mix_97 : decode cX12_mix 97 = .ok (.goto (-59), 3) := by decide +kernel
theorem dX12_mix_100 : decode cX12_mix 100 = .ok (.iinc 5 1, 3) := by decide +kernel
theorem dX12_mix_103 : decode cX12_mix 103 = .ok (.goto (-75), 3) := by decide +kernel
theorem dX12_mix_106 : decode cX12_mix 106 = .ok (.iload_n 2, 1) := by decide +kernel
theorem dX12_mix_107 : decode cX12_mix 107 = .ok (.ifCond .ne 7, 3) := by decide +kernel
theorem dX12_mix_110 : decode cX12_mix 110 = .ok (.iload_n 3, 1) := by decide +kernel
theorem dX12_mix_111 : decode cX12_mix 111 = .ok (.goto 5, 3) := by decide +kernel
theorem dX12_mix_114 : decode cX12_mix 114 = .ok (.iload 4, 2) := by decide +kernel
theorem dX12_mix_116 : decode cX12_mix 116 = .ok (.ireturn, 1) := by decide +kernel
theorem dX12_save_0 : decode cX12_save 0 = .ok (.aload_n 0, 1) := by decide +kernel
theorem dX12_save_1 : decode cX12_save 1 = .ok (.aload_n 0, 1) := by decide +kernel
theorem dX12_save_2 : decode cX12_save 2 = .ok (.getfield 13, 3) := by decide +kernel
theorem dX12_save_5 : decode cX12_save 5 = .ok (.putfield 93, 3) := by decide +kernel
theorem dX12_save_8 : decode cX12_save 8 = .ok (.aload_n 0, 1) := by decide +kernel
theorem dX12_save_9 : decode cX12_save 9 = .ok (.aload_n 0, 1) := by decide +kernel
theorem dX12_save_10 : decode cX12_save 10 = .ok (.getfield 16, 3) := by decide +kernel
theorem dX12_save_13 : decode cX12_save 13 = .ok (.putfield 96, 3) := by decide +kernel
theorem dX12_save_16 : decode cX12_save 16 = .ok (.iconst 0, 1) := by decide +kernel
theorem dX12_save_17 : decode cX12_save 17 = .ok (.istore_n 1, 1) := by decide +kernel
theorem dX12_save_18 : decode cX12_save 18 = .ok (.iload_n 1, 1) := by decide +kernel
theorem dX12_save_19 : decode cX12_save 19 = .ok (.bipush 6, 2) := by decide +kernel
theorem dX12_save_21 : decode cX12_save 21 = .ok (.if_icmp .ge 45, 3) := by decide +kernel
theorem dX12_save_24 : decode cX12_save 24 = .ok (.aload_n 0, 1) := by decide +kernel
theorem dX12_save_25 : decode cX12_save 25 = .ok (.getfield 99, 3) := by decide +kernel
theorem dX12_save_28 : decode cX12_save 28 = .ok (.iload_n 1, 1) := by decide +kernel
theorem dX12_save_29 : decode cX12_save 29 = .ok (.aload_n 0, 1) := by decide +kernel
theorem dX12_save_30 : decode cX12_save 30 = .ok (.getfield 26, 3) := by decide +kernel
theorem dX12_save_33 : decode cX12_save 33 = .ok (.iload_n 1, 1) := by decide +kernel
theorem dX12_save_34 : decode cX12_save 34 = .ok (.iaload, 1) := by decide +kernel
theorem dX12_save_35 : decode cX12_save 35 = .ok (.iastore, 1) := by decide +kernel
theorem dX12_save_36 : decode cX12_save 36 = .ok (.aload_n 0, 1) := by decide +kernel
theorem dX12_save_37 : decode cX12_save 37 = .ok (.getfield 102, 3) := by decide +kernel
theorem dX12_save_40 : decode cX12_save 40 = .ok (.iload_n 1, 1) := by decide +kernel
theorem dX12_save_41 : decode cX12_save 41 = .ok (.aload_n 0, 1) := by decide +kernel
theorem dX12_save_42 : decode cX12_save 42 = .ok (.getfield 29, 3) := by decide +kernel
theorem dX12_save_45 : decode cX12_save 45 = .ok (.iload_n 1, 1) := by decide +kernel
theorem dX12_save_46 : decode cX12_save 46 = .ok (.iaload, 1) := by decide +kernel
theorem dX12_save_47 : decode cX12_save 47 = .ok (.iastore, 1) := by decide +kernel
theorem dX12_save_48 : decode cX12_save 48 = .ok (.aload_n 0, 1) := by decide +kernel
theorem dX12_save_49 : decode cX12_save 49 = .ok (.getfield 105, 3) := by decide +kernel
theorem dX12_save_52 : decode cX12_save 52 = .ok (.iload_n 1, 1) := by decide +kernel
theorem dX12_save_53 : decode cX12_save 53 = .ok (.aload_n 0, 1) := by decide +kernel
theorem dX12_save_54 : decode cX12_save 54 = .ok (.getfield 32, 3) := by decide +kernel
theorem dX12_save_57 : decode cX12_save 57 = .ok (.iload_n 1, 1) := by decide +kernel
theorem dX12_save_58 : decode cX12_save 58 = .ok (.iaload, 1) := by decide +kernel
theorem dX12_save_59 : decode cX12_save 59 = .ok (.iastore, 1) := by decide +kernel
theorem dX12_save_60 : decode cX12_save 60 = .ok (.iinc 1 1, 3) := by decide +kernel
theorem dX12_save_63 : decode cX12_save 63 = .ok (.goto (-45), 3) := by decide +kernel
theorem dX12_save_66 : decode cX12_save 66 = .ok (.return_, 1) := by decide +kernel
theorem dX12_putBack_0 : decode cX12_putBack 0 = .ok (.aload_n 0, 1) := by decide +kernel
theorem dX12_putBack_1 : decode cX12_putBack 1 = .ok (.aload_n 0, 1) := by decide +kernel
theorem dX12_putBack_2 : decode cX12_putBack 2 = .ok (.getfield 93, 3) := by decide +kernel
theorem dX12_putBack_5 : decode cX12_putBack 5 = .ok (.putfield 13, 3) := by decide +kernel
theorem dX12_putBack_8 : decode cX12_putBack 8 = .ok (.aload_n 0, 1) := by decide +kernel
theorem dX12_putBack_9 : decode cX12_putBack 9 = .ok (.aload_n 0, 1) := by decide +kernel
theorem dX12_putBack_10 : decode cX12_putBack 10 = .ok (.getfield 96, 3) := by decide +kernel
theorem dX12_putBack_13 : decode cX12_putBack 13 = .ok (.putfield 16, 3) := by decide +kernel
theorem dX12_putBack_16 : decode cX12_putBack 16 = .ok (.iconst 0, 1) := by decide +kernel
theorem dX12_putBack_17 : decode cX12_putBack 17 = .ok (.istore_n 1, 1) := by decide +kernel
theorem dX12_putBack_18 : decode cX12_putBack 18 = .ok (.iload_n 1, 1) := by decide +kernel
theorem dX12_putBack_19 : decode cX12_putBack 19 = .ok (.bipush 6, 2) := by decide +kernel
theorem dX12_putBack_21 : decode cX12_putBack 21 = .ok (.if_icmp .ge 45, 3) := by decide +kernel
theorem dX12_putBack_24 : decode cX12_putBack 24 = .ok (.aload_n 0, 1) := by decide +kernel
theorem dX12_putBack_25 : decode cX12_putBack 25 = .ok (.getfield 26, 3) := by decide +kernel
theorem dX12_putBack_28 : decode cX12_putBack 28 = .ok (.iload_n 1, 1) := by decide +kernel
theorem dX12_putBack_29 : decode cX12_putBack 29 = .ok (.aload_n 0, 1) := by decide +kernel
theorem dX12_putBack_30 : decode cX12_putBack 30 = .ok (.getfield 99, 3) := by decide +kernel
theorem dX12_putBack_33 : decode cX12_putBack 33 = .ok (.iload_n 1, 1) := by decide +kernel
theorem dX12_putBack_34 : decode cX12_putBack 34 = .ok (.iaload, 1) := by decide +kernel
theorem dX12_putBack_35 : decode cX12_putBack 35 = .ok (.iastore, 1) := by decide +kernel
theorem dX12_putBack_36 : decode cX12_putBack 36 = .ok (.aload_n 0, 1) := by decide +kernel
theorem dX12_putBack_37 : decode cX12_putBack 37 = .ok (.getfield 29, 3) := by decide +kernel
theorem dX12_putBack_40 : decode cX12_putBack 40 = .ok (.iload_n 1, 1) := by decide +kernel
theorem dX12_putBack_41 : decode cX12_putBack 41 = .ok (.aload_n 0, 1) := by decide +kernel
theorem dX12_putBack_42 : decode cX12_putBack 42 = .ok (.getfield 102, 3) := by decide +kernel
theorem dX12_putBack_45 : decode cX12_putBack 45 = .ok (.iload_n 1, 1) := by decide +kernel
theorem dX12_putBack_46 : decode cX12_putBack 46 = .ok (.iaload, 1) := by decide +kernel
theorem dX12_putBack_47 : decode cX12_putBack 47 = .ok (.iastore, 1) := by decide +kernel
theorem dX12_putBack_48 : decode cX12_putBack 48 = .ok (.aload_n 0, 1) := by decide +kernel
theorem dX12_putBack_49 : decode cX12_putBack 49 = .ok (.getfield 32, 3) := by decide +kernel
theorem dX12_putBack_52 : decode cX12_putBack 52 = .ok (.iload_n 1, 1) := by decide +kernel
theorem dX12_putBack_53 : decode cX12_putBack 53 = .ok (.aload_n 0, 1) := by decide +kernel
theorem dX12_putBack_54 : decode cX12_putBack 54 = .ok (.getfield 105, 3) := by decide +kernel
theorem dX12_putBack_57 : decode cX12_putBack 57 = .ok (.iload_n 1, 1) := by decide +kernel
theorem dX12_putBack_58 : decode cX12_putBack 58 = .ok (.iaload, 1) := by decide +kernel
theorem dX12_putBack_59 : decode cX12_putBack 59 = .ok (.iastore, 1) := by decide +kernel
theorem dX12_putBack_60 : decode cX12_putBack 60 = .ok (.iinc 1 1, 3) := by decide +kernel
theorem dX12_putBack_63 : decode cX12_putBack 63 = .ok (.goto (-45), 3) := by decide +kernel
theorem dX12_putBack_66 : decode cX12_putBack 66 = .ok (.return_, 1) := by decide +kernel
theorem dX12_line_0 : decode cX12_line 0 = .ok (.iload_n 1, 1) := by decide +kernel
theorem dX12_line_1 : decode cX12_line 1 = .ok (.iconst (-1), 1) := by decide +kernel
theorem dX12_line_2 : decode cX12_line 2 = .ok (.if_icmp .ne 10, 3) := by decide +kernel
theorem dX12_line_5 : decode cX12_line 5 = .ok (.aload_n 0, 1) := by decide +kernel
theorem dX12_line_6 : decode cX12_line 6 = .ok (.iconst 0, 1) := by decide +kernel
theorem dX12_line_7 : decode cX12_line 7 = .ok (.putfield 108, 3) := by decide +kernel
theorem dX12_line_10 : decode cX12_line 10 = .ok (.iconst 0, 1) := by decide +kernel
theorem dX12_line_11 : decode cX12_line 11 = .ok (.ireturn, 1) := by decide +kernel
theorem dX12_line_12 : decode cX12_line 12 = .ok (.aload_n 0, 1) := by decide +kernel
theorem dX12_line_13 : decode cX12_line 13 = .ok (.iload_n 1, 1) := by decide +kernel
theorem dX12_line_14 : decode cX12_line 14 = .ok (.invokevirtual 219, 3) := by decide +kernel
theorem dX12_line_17 : decode cX12_line 17 = .ok (.ifCond .ne 5, 3) := by decide +kernel
theorem dX12_line_20 : decode cX12_line 20 = .ok (.iconst (-1), 1) := by decide +kernel
theorem dX12_line_21 : decode cX12_line 21 = .ok (.ireturn, 1) := by decide +kernel
theorem dX12_line_22 : decode cX12_line 22 = .ok (.aload_n 0, 1) := by decide +kernel
theorem dX12_line_23 : decode cX12_line 23 = .ok (.getfield 108, 3) := by decide +kernel
theorem dX12_line_26 : decode cX12_line 26 = .ok (.iconst 4, 1) := by decide +kernel
theorem dX12_line_27 : decode cX12_line 27 = .ok (.if_icmp .ne 6, 3) := by decide +kernel
theorem dX12_line_30 : decode cX12_line 30 = .ok (.bipush (-4), 2) := by decide +kernel
theorem dX12_line_32 : decode cX12_line 32 = .ok (.ireturn, 1) := by decide +kernel
theorem dX12_line_33 : decode cX12_line 33 = .ok (.aload_n 0, 1) := by decide +kernel
theorem dX12_line_34 : decode cX12_line 34 = .ok (.getfield 111, 3) := by decide +kernel
theorem dX12_line_37 : decode cX12_line 37 = .ok (.aload_n 0, 1) := by decide +kernel
theorem dX12_line_38 : decode cX12_line 38 = .ok (.getfield 108, 3) := by decide +kernel
theorem dX12_line_41 : decode cX12_line 41 = .ok (.iload_n 1, 1) := by decide +kernel
theorem dX12_line_42 : decode cX12_line 42 = .ok (.iastore, 1) := by decide +kernel
theorem dX12_line_43 : decode cX12_line 43 = .ok (.aload_n 0, 1) := by decide +kernel
theorem dX12_line_44 : decode cX12_line 44 = .ok (.dup, 1) := by decide +kernel
theorem dX12_line_45 : decode cX12_line 45 = .ok (.getfield 108, 3) := by decide +kernel
theorem dX12_line_48 : decode cX12_line 48 = .ok (.iconst 1, 1) := by decide +kernel
theorem dX12_line_49 : decode cX12_line 49 = .ok (.iadd, 1) := by decide +kernel
theorem dX12_line_50 : decode cX12_line 50 = .ok (.putfield 108, 3) := by decide +kernel
theorem dX12_line_53 : decode cX12_line 53 = .ok (.aload_n 0, 1) := by decide +kernel
theorem dX12_line_54 : decode cX12_line 54 = .ok (.getfield 108, 3) := by decide +kernel
theorem dX12_line_57 : decode cX12_line 57 = .ok (.ireturn, 1) := by decide +kernel
theorem dX12_layParts_0 : decode cX12_layParts 0 = .ok (.iconst 0, 1) := by decide +kernel
theorem dX12_layParts_1 : decode cX12_layParts 1 = .ok (.istore_n 1, 1) := by decide +kernel
theorem dX12_layParts_2 : decode cX12_layParts 2 = .ok (.iload_n 1, 1) := by decide +kernel
theorem dX12_layParts_3 : decode cX12_layParts 3 = .ok (.iconst 5, 1) := by decide +kernel
theorem dX12_layParts_4 : decode cX12_layParts 4 = .ok (.if_icmp .ge 16, 3) := by decide +kernel
theorem dX12_layParts_7 : decode cX12_layParts 7 = .ok (.aload_n 0, 1) := by decide +kernel
theorem dX12_layParts_8 : decode cX12_layParts 8 = .ok (.getfield 120, 3) := by decide +kernel
theorem dX12_layParts_11 : decode cX12_layParts 11 = .ok (.iload_n 1, 1) := by decide +kernel
theorem dX12_layParts_12 : decode cX12_layParts 12 = .ok (.lconst 0, 1) := by decide +kernel
theorem dX12_layParts_13 : decode cX12_layParts 13 = .ok (.lastore, 1) := by decide +kernel
theorem dX12_layParts_14 : decode cX12_layParts 14 = .ok (.iinc 1 1, 3) := by decide +kernel
theorem dX12_layParts_17 : decode cX12_layParts 17 = .ok (.goto (-15), 3) := by decide +kernel
theorem dX12_layParts_20 : decode cX12_layParts 20 = .ok (.iconst 0, 1) := by decide +kernel
theorem dX12_layParts_21 : decode cX12_layParts 21 = .ok (.istore_n 1, 1) := by decide +kernel
theorem dX12_layParts_22 : decode cX12_layParts 22 = .ok (.iload_n 1, 1) := by decide +kernel
theorem dX12_layParts_23 : decode cX12_layParts 23 = .ok (.iconst 1, 1) := by decide +kernel
theorem dX12_layParts_24 : decode cX12_layParts 24 = .ok (.aload_n 0, 1) := by decide +kernel
theorem dX12_layParts_25 : decode cX12_layParts 25 = .ok (.getfield 108, 3) := by decide +kernel
theorem dX12_layParts_28 : decode cX12_layParts 28 = .ok (.ishl, 1) := by decide +kernel
theorem dX12_layParts_29 : decode cX12_layParts 29 = .ok (.if_icmp .ge 127, 3) := by decide +kernel
theorem dX12_layParts_32 : decode cX12_layParts 32 = .ok (.aload_n 0, 1) := by decide +kernel
theorem dX12_layParts_33 : decode cX12_layParts 33 = .ok (.invokevirtual 333, 3) := by decide +kernel
theorem dX12_layParts_36 : decode cX12_layParts 36 = .ok (.lconst 1, 1) := by decide +kernel
theorem dX12_layParts_37 : decode cX12_layParts 37 = .ok (.lstore_n 2, 1) := by decide +kernel
theorem dX12_layParts_38 : decode cX12_layParts 38 = .ok (.iconst 0, 1) := by decide +kernel
theorem dX12_layParts_39 : decode cX12_layParts 39 = .ok (.istore 4, 2) := by decide +kernel
theorem dX12_layParts_41 : decode cX12_layParts 41 = .ok (.iconst 0, 1) := by decide +kernel
theorem dX12_layParts_42 : decode cX12_layParts 42 = .ok (.istore 5, 2) := by decide +kernel
theorem dX12_layParts_44 : decode cX12_layParts 44 = .ok (.iload 5, 2) := by decide +kernel
theorem dX12_layParts_46 : decode cX12_layParts 46 = .ok (.aload_n 0, 1) := by decide +kernel
theorem dX12_layParts_47 : decode cX12_layParts 47 = .ok (.getfield 108, 3) := by decide +kernel
theorem dX12_layParts_50 : decode cX12_layParts 50 = .ok (.if_icmp .ge 85, 3) := by decide +kernel
theorem dX12_layParts_53 : decode cX12_layParts 53 = .ok (.aload_n 0, 1) := by decide +kernel
theorem dX12_layParts_54 : decode cX12_layParts 54 = .ok (.getfield 111, 3) := by decide +kernel
theorem dX12_layParts_57 : decode cX12_layParts 57 = .ok (.aload_n 0, 1) := by decide +kernel
theorem dX12_layParts_58 : decode cX12_layParts 58 = .ok (.getfield 114, 3) := by decide +kernel
theorem dX12_layParts_61 : decode cX12_layParts 61 = .ok (.iload 5, 2) := by decide +kernel
theorem dX12_layParts_63 : decode cX12_layParts 63 = .ok (.iaload, 1) := by decide +kernel
theorem dX12_layParts_64 : decode cX12_layParts 64 = .ok (.iaload, 1) := by decide +kernel
theorem dX12_layParts_65 : decode cX12_layParts 65 = .ok (.istore 6, 2) := by decide +kernel
theorem dX12_layParts_67 : decode cX12_layParts 67 = .ok (.aload_n 0, 1) := by decide +kernel
theorem dX12_layParts_68 : decode cX12_layParts 68 = .ok (.iload_n 1, 1) := by decide +kernel
theorem dX12_layParts_69 : decode cX12_layParts 69 = .ok (.iload 5, 2) := by decide +kernel
theorem dX12_layParts_71 : decode cX12_layParts 71 = .ok (.invokevirtual 336, 3) := by decide +kernel
theorem dX12_layParts_74 : decode cX12_layParts 74 = .ok (.istore 7, 2) := by decide +kernel
theorem dX12_layParts_76 : decode cX12_layParts 76 = .ok (.aload_n 0, 1) := by decide +kernel
theorem dX12_layParts_77 : decode cX12_layParts 77 = .ok (.iload 6, 2) := by decide +kernel
theorem dX12_layParts_79 : decode cX12_layParts 79 = .ok (.invokevirtual 323, 3) := by decide +kernel
theorem dX12_layParts_82 : decode cX12_layParts 82 = .ok (.istore 8, 2) := by decide +kernel
theorem dX12_layParts_84 : decode cX12_layParts 84 = .ok (.lload_n 2, 1) := by decide +kernel
theorem dX12_layParts_85 : decode cX12_layParts 85 = .ok (.iload 7, 2) := by decide +kernel
theorem dX12_layParts_87 : decode cX12_layParts 87 = .ok (.ifCond .eq 9, 3) := by decide +kernel
theorem dX12_layParts_90 : decode cX12_layParts 90 = .ok (.iload 8, 2) := by decide +kernel
theorem dX12_layParts_92 : decode cX12_layParts 92 = .ok (.i2l, 1) := by decide +kernel
theorem dX12_layParts_93 : decode cX12_layParts 93 = .ok (.goto 9, 3) := by decide +kernel
theorem dX12_layParts_96 : decode cX12_layParts 96 = .ok (.bipush 100, 2) := by decide +kernel
theorem dX12_layParts_98 : decode cX12_layParts 98 = .ok (.iload 8, 2) := by decide +kernel
theorem dX12_layParts_100 : decode cX12_layParts 100 = .ok (.isub, 1) := by decide +kernel
theorem dX12_layParts_101 : decode cX12_layParts 101 = .ok (.i2l, 1) := by decide +kernel
theorem dX12_layParts_102 : decode cX12_layParts 102 = .ok (.lmul, 1) := by decide +kernel
theorem dX12_layParts_103 : decode cX12_layParts 103 = .ok (.lstore_n 2, 1) := by decide +kernel
theorem dX12_layParts_104 : decode cX12_layParts 104 = .ok (.iload 4, 2) := by decide +kernel
theorem dX12_layParts_106 : decode cX12_layParts 106 = .ok (.iload 7, 2) := by decide +kernel
theorem dX12_layParts_108 : decode cX12_layParts 108 = .ok (.ifCond .eq 7, 3) := by decide +kernel
theorem dX12_layParts_111 : decode cX12_layParts 111 = .ok (.iconst 1, 1) := by decide +kernel
theorem dX12_layParts_112 : decode cX12_layParts 112 = .ok (.goto 4, 3) := by decide +kernel
theorem dX12_layParts_115 : decode cX12_layParts 115 = .ok (.iconst 0, 1) := by decide +kernel
theorem dX12_layParts_116 : decode cX12_layParts 116 = .ok (.iadd, 1) := by decide +kernel
theorem dX12_layParts_117 : decode cX12_layParts 117 = .ok (.istore 4, 2) := by decide +kernel
theorem dX12_layParts_119 : decode cX12_layParts 119 = .ok (.aload_n 0, 1) := by decide +kernel
theorem dX12_layParts_120 : decode cX12_layParts 120 = .ok (.iload 6, 2) := by decide +kernel
theorem dX12_layParts_122 : decode cX12_layParts 122 = .ok (.iload 7, 2) := by decide +kernel
theorem dX12_layParts_124 : decode cX12_layParts 124 = .ok (.invokevirtual 326, 3) := by decide +kernel
theorem dX12_layParts_127 : decode cX12_layParts 127 = .ok (.istore 9, 2) := by decide +kernel
theorem dX12_layParts_129 : decode cX12_layParts 129 = .ok (.iinc 5 1, 3) := by decide +kernel
theorem dX12_layParts_132 : decode cX12_layParts 132 = .ok (.goto (-88), 3) := by decide +kernel
theorem dX12_layParts_135 : decode cX12_layParts 135 = .ok (.aload_n 0, 1) := by decide +kernel
theorem dX12_layParts_136 : decode cX12_layParts 136 = .ok (.invokevirtual 339, 3) := by decide +kernel
theorem dX12_layParts_139 : decode cX12_layParts 139 = .ok (.aload_n 0, 1) := by decide +kernel
theorem dX12_layParts_140 : decode cX12_layParts 140 = .ok (.getfield 120, 3) := by decide +kernel
theorem dX12_layParts_143 : decode cX12_layParts 143 = .ok (.iload 4, 2) := by decide +kernel
theorem dX12_layParts_145 : decode cX12_layParts 145 = .ok (.dup2, 1) := by decide +kernel
theorem dX12_layParts_146 : decode cX12_layParts 146 = .ok (.laload, 1) := by decide +kernel
theorem dX12_layParts_147 : decode cX12_layParts 147 = .ok (.lload_n 2, 1) := by decide +kernel
theorem dX12_layParts_148 : decode cX12_layParts 148 = .ok (.ladd, 1) := by decide +kernel
theorem dX12_layParts_149 : decode cX12_layParts 149 = .ok (.lastore, 1) := by decide +kernel
theorem dX12_layParts_150 : decode cX12_layParts 150 = .ok (.iinc 1 1, 3) := by decide +kernel
theorem dX12_layParts_153 : decode cX12_layParts 153 = .ok (.goto (-131), 3) := by decide +kernel
theorem dX12_layParts_156 : decode cX12_layParts 156 = .ok (.return_, 1) := by decide +kernel
theorem dX12_layInOrder_0 : decode cX12_layInOrder 0 = .ok (.iconst 0, 1) := by decide +kernel
theorem dX12_layInOrder_1 : decode cX12_layInOrder 1 = .ok (.istore_n 1, 1) := by decide +kernel
theorem dX12_layInOrder_2 : decode cX12_layInOrder 2 = .ok (.iload_n 1, 1) := by decide +kernel
theorem dX12_layInOrder_3 : decode cX12_layInOrder 3 = .ok (.iconst 4, 1) := by decide +kernel
theorem dX12_layInOrder_4 : decode cX12_layInOrder 4 = .ok (.if_icmp .ge 16, 3) := by decide +kernel
theorem dX12_layInOrder_7 : decode cX12_layInOrder 7 = .ok (.aload_n 0, 1) := by decide +kernel
theorem dX12_layInOrder_8 : decode cX12_layInOrder 8 = .ok (.getfield 114, 3) := by decide +kernel
theorem dX12_layInOrder_11 : decode cX12_layInOrder 11 = .ok (.iload_n 1, 1) := by decide +kernel
theorem dX12_layInOrder_12 : decode cX12_layInOrder 12 = .ok (.iload_n 1, 1) := by decide +kernel
theorem dX12_layInOrder_13 : decode cX12_layInOrder 13 = .ok (.iastore, 1) := by decide +kernel
theorem dX12_layInOrder_14 : decode cX12_layInOrder 14 = .ok (.iinc 1 1, 3) := by decide +kernel
theorem dX12_layInOrder_17 : decode cX12_layInOrder 17 = .ok (.goto (-15), 3) := by decide +kernel
theorem dX12_layInOrder_20 : decode cX12_layInOrder 20 = .ok (.aload_n 0, 1) := by decide +kernel
theorem dX12_layInOrder_21 : decode cX12_layInOrder 21 = .ok (.invokevirtual 342, 3) := by decide +kernel
theorem dX12_layInOrder_24 : decode cX12_layInOrder 24 = .ok (.return_, 1) := by decide +kernel
theorem dX12_hundreds_0 : decode cX12_hundreds 0 = .ok (.lconst 1, 1) := by decide +kernel
theorem dX12_hundreds_1 : decode cX12_hundreds 1 = .ok (.lstore_n 2, 1) := by decide +kernel
theorem dX12_hundreds_2 : decode cX12_hundreds 2 = .ok (.iconst 0, 1) := by decide +kernel
theorem dX12_hundreds_3 : decode cX12_hundreds 3 = .ok (.istore 4, 2) := by decide +kernel
theorem dX12_hundreds_5 : decode cX12_hundreds 5 = .ok (.iload 4, 2) := by decide +kernel
theorem dX12_hundreds_7 : decode cX12_hundreds 7 = .ok (.iload_n 1, 1) := by decide +kernel
theorem dX12_hundreds_8 : decode cX12_hundreds 8 = .ok (.if_icmp .ge 15, 3) := by decide +kernel
theorem dX12_hundreds_11 : decode cX12_hundreds 11 = .ok (.lload_n 2, 1) := by decide +kernel
theorem dX12_hundreds_12 : decode cX12_hundreds 12 = .ok (.ldc2_w 345, 3) := by decide +kernel
theorem dX12_hundreds_15 : decode cX12_hundreds 15 = .ok (.lmul, 1) := by decide +kernel
theorem dX12_hundreds_16 : decode cX12_hundreds 16 = .ok (.lstore_n 2, 1) := by decide +kernel
theorem dX12_hundreds_17 : decode cX12_hundreds 17 = .ok (.iinc 4 1, 3) := by decide +kernel
theorem dX12_hundreds_20 : decode cX12_hundreds 20 = .ok (.goto (-15), 3) := by decide +kernel
theorem dX12_hundreds_23 : decode cX12_hundreds 23 = .ok (.lload_n 2, 1) := by decide +kernel
theorem dX12_hundreds_24 : decode cX12_hundreds 24 = .ok (.lreturn, 1) := by decide +kernel
theorem dX12_divisor_0 : decode cX12_divisor 0 = .ok (.lload_n 1, 1) := by decide +kernel
theorem dX12_divisor_1 : decode cX12_divisor 1 = .ok (.lstore 5, 2) := by decide +kernel
theorem dX12_divisor_3 : decode cX12_divisor 3 = .ok (.lload_n 3, 1) := by decide +kernel
theorem dX12_divisor_4 : decode cX12_divisor 4 = .ok (.lstore 7, 2) := by decide +kernel
theorem dX12_divisor_6 : decode cX12_divisor 6 = .ok (.lload 7, 2) := by decide +kernel
theorem dX12_divisor_8 : decode cX12_divisor 8 = .ok (.lconst 0, 1) := by decide +kernel
theorem dX12_divisor_9 : decode cX12_divisor 9 = .ok (.lcmp, 1) := by decide +kernel
theorem dX12_divisor_10 : decode cX12_divisor 10 = .ok (.ifCond .eq 21, 3) := by decide +kernel
theorem dX12_divisor_13 : decode cX12_divisor 13 = .ok (.lload 5, 2) := by decide +kernel
theorem dX12_divisor_15 : decode cX12_divisor 15 = .ok (.lload 7, 2) := by decide +kernel
theorem dX12_divisor_17 : decode cX12_divisor 17 = .ok (.lrem, 1) := by decide +kernel
theorem dX12_divisor_18 : decode cX12_divisor 18 = .ok (.lstore 9, 2) := by decide +kernel
theorem dX12_divisor_20 : decode cX12_divisor 20 = .ok (.lload 7, 2) := by decide +kernel
theorem dX12_divisor_22 : decode cX12_divisor 22 = .ok (.lstore 5, 2) := by decide +kernel
theorem dX12_divisor_24 : decode cX12_divisor 24 = .ok (.lload 9, 2) := by decide +kernel
theorem dX12_divisor_26 : decode cX12_divisor 26 = .ok (.lstore 7, 2) := by decide +kernel
theorem dX12_divisor_28 : decode cX12_divisor 28 = .ok (.goto (-22), 3) := by decide +kernel
theorem dX12_divisor_31 : decode cX12_divisor 31 = .ok (.lload 5, 2) := by decide +kernel
theorem dX12_divisor_33 : decode cX12_divisor 33 = .ok (.lreturn, 1) := by decide +kernel
theorem dX12_lowest_0 : decode cX12_lowest 0 = .ok (.aload_n 0, 1) := by decide +kernel
theorem dX12_lowest_1 : decode cX12_lowest 1 = .ok (.lload_n 1, 1) := by decide +kernel
theorem dX12_lowest_2 : decode cX12_lowest 2 = .ok (.lload_n 3, 1) := by decide +kernel
theorem dX12_lowest_3 : decode cX12_lowest 3 = .ok (.invokevirtual 347, 3) := by decide +kernel
theorem dX12_lowest_6 : decode cX12_lowest 6 = .ok (.lstore 6, 2) := by decide +kernel
theorem dX12_lowest_8 : decode cX12_lowest 8 = .ok (.iload 5, 2) := by decide +kernel
theorem dX12_lowest_10 : decode cX12_lowest 10 = .ok (.ifCond .ne 10, 3) := by decide +kernel
theorem dX12_lowest_13 : decode cX12_lowest 13 = .ok (.lload_n 1, 1) := by decide +kernel
theorem dX12_lowest_14 : decode cX12_lowest 14 = .ok (.lload 6, 2) := by decide +kernel
theorem dX12_lowest_16 : decode cX12_lowest 16 = .ok (.ldiv, 1) := by decide +kernel
theorem dX12_lowest_17 : decode cX12_lowest 17 = .ok (.goto 7, 3) := by decide +kernel
theorem dX12_lowest_20 : decode cX12_lowest 20 = .ok (.lload_n 3, 1) := by decide +kernel
theorem dX12_lowest_21 : decode cX12_lowest 21 = .ok (.lload 6, 2) := by decide +kernel
theorem dX12_lowest_23 : decode cX12_lowest 23 = .ok (.ldiv, 1) := by decide +kernel
theorem dX12_lowest_24 : decode cX12_lowest 24 = .ok (.lreturn, 1) := by decide +kernel
theorem dX12_likely_0 : decode cX12_likely 0 = .ok (.aload_n 0, 1) := by decide +kernel
theorem dX12_likely_1 : decode cX12_likely 1 = .ok (.iload_n 1, 1) := by decide +kernel
theorem dX12_likely_2 : decode cX12_likely 2 = .ok (.iconst 0, 1) := by decide +kernel
theorem dX12_likely_3 : decode cX12_likely 3 = .ok (.iconst 4, 1) := by decide +kernel
theorem dX12_likely_4 : decode cX12_likely 4 = .ok (.invokevirtual 215, 3) := by decide +kernel
theorem dX12_likely_7 : decode cX12_likely 7 = .ok (.ifCond .eq 13, 3) := by decide +kernel
theorem dX12_likely_10 : decode cX12_likely 10 = .ok (.aload_n 0, 1) := by decide +kernel
theorem dX12_likely_11 : decode cX12_likely 11 = .ok (.iload_n 2, 1) := by decide +kernel
theorem dX12_likely_12 : decode cX12_likely 12 = .ok (.iconst 0, 1) := by decide +kernel
theorem dX12_likely_13 : decode cX12_likely 13 = .ok (.iconst 1, 1) := by decide +kernel
theorem dX12_likely_14 : decode cX12_likely 14 = .ok (.invokevirtual 215, 3) := by decide +kernel
theorem dX12_likely_17 : decode cX12_likely 17 = .ok (.ifCond .ne 7, 3) := by decide +kernel
theorem dX12_likely_20 : decode cX12_likely 20 = .ok (.ldc2_w 351, 3) := by decide +kernel
theorem dX12_likely_23 : decode cX12_likely 23 = .ok (.lreturn, 1) := by decide +kernel
theorem dX12_likely_24 : decode cX12_likely 24 = .ok (.aload_n 0, 1) := by decide +kernel
theorem dX12_likely_25 : decode cX12_likely 25 = .ok (.invokevirtual 353, 3) := by decide +kernel
theorem dX12_likely_28 : decode cX12_likely 28 = .ok (.aload_n 0, 1) := by decide +kernel
theorem dX12_likely_29 : decode cX12_likely 29 = .ok (.aload_n 0, 1) := by decide +kernel
theorem dX12_likely_30 : decode cX12_likely 30 = .ok (.getfield 120, 3) := by decide +kernel
theorem dX12_likely_33 : decode cX12_likely 33 = .ok (.iload_n 1, 1) := by decide +kernel
theorem dX12_likely_34 : decode cX12_likely 34 = .ok (.laload, 1) := by decide +kernel
theorem dX12_likely_35 : decode cX12_likely 35 = .ok (.aload_n 0, 1) := by decide +kernel
theorem dX12_likely_36 : decode cX12_likely 36 = .ok (.aload_n 0, 1) := by decide +kernel
theorem dX12_likely_37 : decode cX12_likely 37 = .ok (.getfield 108, 3) := by decide +kernel
theorem dX12_likely_40 : decode cX12_likely 40 = .ok (.invokevirtual 356, 3) := by decide +kernel
theorem dX12_likely_43 : decode cX12_likely 43 = .ok (.iload_n 2, 1) := by decide +kernel
theorem dX12_likely_44 : decode cX12_likely 44 = .ok (.invokevirtual 360, 3) := by decide +kernel
theorem dX12_likely_47 : decode cX12_likely 47 = .ok (.lreturn, 1) := by decide +kernel
theorem dX12_layOrder_0 : decode cX12_layOrder 0 = .ok (.iconst 1, 1) := by decide +kernel
theorem dX12_layOrder_1 : decode cX12_layOrder 1 = .ok (.istore_n 2, 1) := by decide +kernel
theorem dX12_layOrder_2 : decode cX12_layOrder 2 = .ok (.iconst 2, 1) := by decide +kernel
theorem dX12_layOrder_3 : decode cX12_layOrder 3 = .ok (.istore_n 3, 1) := by decide +kernel
theorem dX12_layOrder_4 : decode cX12_layOrder 4 = .ok (.iload_n 3, 1) := by decide +kernel
theorem dX12_layOrder_5 : decode cX12_layOrder 5 = .ok (.aload_n 0, 1) := by decide +kernel
theorem dX12_layOrder_6 : decode cX12_layOrder 6 = .ok (.getfield 108, 3) := by decide +kernel
theorem dX12_layOrder_9 : decode cX12_layOrder 9 = .ok (.if_icmp .gt 13, 3) := by decide +kernel
theorem dX12_layOrder_12 : decode cX12_layOrder 12 = .ok (.iload_n 2, 1) := by decide +kernel
theorem dX12_layOrder_13 : decode cX12_layOrder 13 = .ok (.iload_n 3, 1) := by decide +kernel
theorem dX12_layOrder_14 : decode cX12_layOrder 14 = .ok (.imul, 1) := by decide +kernel
theorem dX12_layOrder_15 : decode cX12_layOrder 15 = .ok (.istore_n 2, 1) := by decide +kernel
theorem dX12_layOrder_16 : decode cX12_layOrder 16 = .ok (.iinc 3 1, 3) := by decide +kernel
theorem dX12_layOrder_19 : decode cX12_layOrder 19 = .ok (.goto (-15), 3) := by decide +kernel
theorem dX12_layOrder_22 : decode cX12_layOrder 22 = .ok (.iload_n 1, 1) := by decide +kernel
theorem dX12_layOrder_23 : decode cX12_layOrder 23 = .ok (.iload_n 2, 1) := by decide +kernel
theorem dX12_layOrder_24 : decode cX12_layOrder 24 = .ok (.if_icmp .lt 5, 3) := by decide +kernel
theorem dX12_layOrder_27 : decode cX12_layOrder 27 = .ok (.iconst 0, 1) := by decide +kernel
theorem dX12_layOrder_28 : decode cX12_layOrder 28 = .ok (.ireturn, 1) := by decide +kernel
theorem dX12_layOrder_29 : decode cX12_layOrder 29 = .ok (.iconst 1, 1) := by decide +kernel
theorem dX12_layOrder_30 : decode cX12_layOrder 30 = .ok (.aload_n 0, 1) := by decide +kernel
theorem dX12_layOrder_31 : decode cX12_layOrder 31 = .ok (.getfield 108, 3) := by decide +kernel
theorem dX12_layOrder_34 : decode cX12_layOrder 34 = .ok (.ishl, 1) := by decide +kernel
theorem dX12_layOrder_35 : decode cX12_layOrder 35 = .ok (.iconst 1, 1) := by decide +kernel
theorem dX12_layOrder_36 : decode cX12_layOrder 36 = .ok (.isub, 1) := by decide +kernel
theorem dX12_layOrder_37 : decode cX12_layOrder 37 = .ok (.istore_n 3, 1) := by decide +kernel
theorem dX12_layOrder_38 : decode cX12_layOrder 38 = .ok (.iload_n 1, 1) := by decide +kernel
theorem dX12_layOrder_39 : decode cX12_layOrder 39 = .ok (.istore 4, 2) := by decide +kernel
theorem dX12_layOrder_41 : decode cX12_layOrder 41 = .ok (.iconst 0, 1) := by decide +kernel
theorem dX12_layOrder_42 : decode cX12_layOrder 42 = .ok (.istore 5, 2) := by decide +kernel
theorem dX12_layOrder_44 : decode cX12_layOrder 44 = .ok (.iload 5, 2) := by decide +kernel
theorem dX12_layOrder_46 : decode cX12_layOrder 46 = .ok (.aload_n 0, 1) := by decide +kernel
theorem dX12_layOrder_47 : decode cX12_layOrder 47 = .ok (.getfield 108, 3) := by decide +kernel
theorem dX12_layOrder_50 : decode cX12_layOrder 50 = .ok (.if_icmp .ge 93, 3) := by decide +kernel
theorem dX12_layOrder_53 : decode cX12_layOrder 53 = .ok (.iload_n 2, 1) := by decide +kernel
theorem dX12_layOrder_54 : decode cX12_layOrder 54 = .ok (.aload_n 0, 1) := by decide +kernel
theorem dX12_layOrder_55 : decode cX12_layOrder 55 = .ok (.getfield 108, 3) := by decide +kernel
theorem dX12_layOrder_58 : decode cX12_layOrder 58 = .ok (.iload 5, 2) := by decide +kernel
theorem dX12_layOrder_60 : decode cX12_layOrder 60 = .ok (.isub, 1) := by decide +kernel
theorem dX12_layOrder_61 : decode cX12_layOrder 61 = .ok (.idiv, 1) := by decide +kernel
theorem dX12_layOrder_62 : decode cX12_layOrder 62 = .ok (.istore_n 2, 1) := by decide +kernel
theorem dX12_layOrder_63 : decode cX12_layOrder 63 = .ok (.iload 4, 2) := by decide +kernel
theorem dX12_layOrder_65 : decode cX12_layOrder 65 = .ok (.iload_n 2, 1) := by decide +kernel
theorem dX12_layOrder_66 : decode cX12_layOrder 66 = .ok (.idiv, 1) := by decide +kernel
theorem dX12_layOrder_67 : decode cX12_layOrder 67 = .ok (.istore 6, 2) := by decide +kernel
theorem dX12_layOrder_69 : decode cX12_layOrder 69 = .ok (.iload 4, 2) := by decide +kernel
theorem dX12_layOrder_71 : decode cX12_layOrder 71 = .ok (.iload_n 2, 1) := by decide +kernel
theorem dX12_layOrder_72 : decode cX12_layOrder 72 = .ok (.irem, 1) := by decide +kernel
theorem dX12_layOrder_73 : decode cX12_layOrder 73 = .ok (.istore 4, 2) := by decide +kernel
theorem dX12_layOrder_75 : decode cX12_layOrder 75 = .ok (.iconst 0, 1) := by decide +kernel
theorem dX12_layOrder_76 : decode cX12_layOrder 76 = .ok (.istore 7, 2) := by decide +kernel
theorem dX12_layOrder_78 : decode cX12_layOrder 78 = .ok (.aload_n 0, 1) := by decide +kernel
theorem dX12_layOrder_79 : decode cX12_layOrder 79 = .ok (.iload_n 3, 1) := by decide +kernel
theorem dX12_layOrder_80 : decode cX12_layOrder 80 = .ok (.iload 7, 2) := by decide +kernel
theorem dX12_layOrder_82 : decode cX12_layOrder 82 = .ok (.invokevirtual 336, 3) := by decide +kernel
theorem dX12_layOrder_85 : decode cX12_layOrder 85 = .ok (.ifCond .eq 8, 3) := by decide +kernel
theorem dX12_layOrder_88 : decode cX12_layOrder 88 = .ok (.iload 6, 2) := by decide +kernel
theorem dX12_layOrder_90 : decode cX12_layOrder 90 = .ok (.ifCond .le 29, 3) := by decide +kernel
theorem dX12_layOrder_93 : decode cX12_layOrder 93 = .ok (.iload 6, 2) := by decide +kernel
theorem dX12_layOrder_95 : decode cX12_layOrder 95 = .ok (.aload_n 0, 1) := by decide +kernel
theorem dX12_layOrder_96 : decode cX12_layOrder 96 = .ok (.iload_n 3, 1) := by decide +kernel
theorem dX12_layOrder_97 : decode cX12_layOrder 97 = .ok (.iload 7, 2) := by decide +kernel
theorem dX12_layOrder_99 : decode cX12_layOrder 99 = .ok (.invokevirtual 336, 3) := by decide +kernel
theorem dX12_layOrder_102 : decode cX12_layOrder 102 = .ok (.ifCond .eq 7, 3) := by decide +kernel
theorem dX12_layOrder_105 : decode cX12_layOrder 105 = .ok (.iconst 1, 1) := by decide +kernel
theorem dX12_layOrder_106 : decode cX12_layOrder 106 = .ok (.goto 4, 3) := by decide +kernel
theorem dX12_layOrder_109 : decode cX12_layOrder 109 = .ok (.iconst 0, 1) := by decide +kernel
theorem dX12_layOrder_110 : decode cX12_layOrder 110 = .ok (.isub, 1) := by decide +kernel
theorem dX12_layOrder_111 : decode cX12_layOrder 111 = .ok (.istore 6, 2) := by decide +kernel
theorem dX12_layOrder_113 : decode cX12_layOrder 113 = .ok (.iinc 7 1, 3) := by decide +kernel
theorem dX12_layOrder_116 : decode cX12_layOrder 116 = .ok (.goto (-38), 3) := by decide +kernel
theorem dX12_layOrder_119 : decode cX12_layOrder 119 = .ok (.aload_n 0, 1) := by decide +kernel
theorem dX12_layOrder_120 : decode cX12_layOrder 120 = .ok (.getfield 114, 3) := by decide +kernel
theorem dX12_layOrder_123 : decode cX12_layOrder 123 = .ok (.iload 5, 2) := by decide +kernel
theorem dX12_layOrder_125 : decode cX12_layOrder 125 = .ok (.iload 7, 2) := by decide +kernel
theorem dX12_layOrder_127 : decode cX12_layOrder 127 = .ok (.iastore, 1) := by decide +kernel
theorem dX12_layOrder_128 : decode cX12_layOrder 128 = .ok (.iload_n 3, 1) := by decide +kernel
theorem dX12_layOrder_129 : decode cX12_layOrder 129 = .ok (.iconst 1, 1) := by decide +kernel
theorem dX12_layOrder_130 : decode cX12_layOrder 130 = .ok (.iload 7, 2) := by decide +kernel
theorem dX12_layOrder_132 : decode cX12_layOrder 132 = .ok (.ishl, 1) := by decide +kernel
theorem dX12_layOrder_133 : decode cX12_layOrder 133 = .ok (.iconst (-1), 1) := by decide +kernel
theorem dX12_layOrder_134 : decode cX12_layOrder 134 = .ok (.ixor, 1) := by decide +kernel
theorem dX12_layOrder_135 : decode cX12_layOrder 135 = .ok (.iand, 1) := by decide +kernel
theorem dX12_layOrder_136 : decode cX12_layOrder 136 = .ok (.istore_n 3, 1) := by decide +kernel
theorem dX12_layOrder_137 : decode cX12_layOrder 137 = .ok (.iinc 5 1, 3) := by decide +kernel
theorem dX12_layOrder_140 : decode cX12_layOrder 140 = .ok (.goto (-96), 3) := by decide +kernel
theorem dX12_layOrder_143 : decode cX12_layOrder 143 = .ok (.iconst 1, 1) := by decide +kernel
theorem dX12_layOrder_144 : decode cX12_layOrder 144 = .ok (.ireturn, 1) := by decide +kernel
theorem dX12_order_0 : decode cX12_order 0 = .ok (.aload_n 0, 1) := by decide +kernel
theorem dX12_order_1 : decode cX12_order 1 = .ok (.iload_n 1, 1) := by decide +kernel
theorem dX12_order_2 : decode cX12_order 2 = .ok (.iconst 0, 1) := by decide +kernel
theorem dX12_order_3 : decode cX12_order 3 = .ok (.iconst 3, 1) := by decide +kernel
theorem dX12_order_4 : decode cX12_order 4 = .ok (.invokevirtual 215, 3) := by decide +kernel
theorem dX12_order_7 : decode cX12_order 7 = .ok (.ifCond .ne 5, 3) := by decide +kernel
theorem dX12_order_10 : decode cX12_order 10 = .ok (.iconst (-1), 1) := by decide +kernel
theorem dX12_order_11 : decode cX12_order 11 = .ok (.ireturn, 1) := by decide +kernel
theorem dX12_order_12 : decode cX12_order 12 = .ok (.iload_n 1, 1) := by decide +kernel
theorem dX12_order_13 : decode cX12_order 13 = .ok (.aload_n 0, 1) := by decide +kernel
theorem dX12_order_14 : decode cX12_order 14 = .ok (.getfield 108, 3) := by decide +kernel
theorem dX12_order_17 : decode cX12_order 17 = .ok (.if_icmp .lt 6, 3) := by decide +kernel
theorem dX12_order_20 : decode cX12_order 20 = .ok (.bipush (-5), 2) := by decide +kernel
theorem dX12_order_22 : decode cX12_order 22 = .ok (.ireturn, 1) := by decide +kernel
theorem dX12_order_23 : decode cX12_order 23 = .ok (.ldc2_w 364, 3) := by decide +kernel
theorem dX12_order_26 : decode cX12_order 26 = .ok (.lstore_n 2, 1) := by decide +kernel
theorem dX12_order_27 : decode cX12_order 27 = .ok (.iconst 0, 1) := by decide +kernel
theorem dX12_order_28 : decode cX12_order 28 = .ok (.istore 4, 2) := by decide +kernel
theorem dX12_order_30 : decode cX12_order 30 = .ok (.aload_n 0, 1) := by decide +kernel
theorem dX12_order_31 : decode cX12_order 31 = .ok (.iload 4, 2) := by decide +kernel
theorem dX12_order_33 : decode cX12_order 33 = .ok (.invokevirtual 366, 3) := by decide +kernel
theorem dX12_order_36 : decode cX12_order 36 = .ok (.ifCond .eq 103, 3) := by decide +kernel
theorem dX12_order_39 : decode cX12_order 39 = .ok (.aload_n 0, 1) := by decide +kernel
theorem dX12_order_40 : decode cX12_order 40 = .ok (.invokevirtual 342, 3) := by decide +kernel
theorem dX12_order_43 : decode cX12_order 43 = .ok (.lconst 0, 1) := by decide +kernel
theorem dX12_order_44 : decode cX12_order 44 = .ok (.lstore 5, 2) := by decide +kernel
theorem dX12_order_46 : decode cX12_order 46 = .ok (.iconst 0, 1) := by decide +kernel
theorem dX12_order_47 : decode cX12_order 47 = .ok (.istore 7, 2) := by decide +kernel
theorem dX12_order_49 : decode cX12_order 49 = .ok (.iload 7, 2) := by decide +kernel
theorem dX12_order_51 : decode cX12_order 51 = .ok (.aload_n 0, 1) := by decide +kernel
theorem dX12_order_52 : decode cX12_order 52 = .ok (.getfield 108, 3) := by decide +kernel
theorem dX12_order_55 : decode cX12_order 55 = .ok (.if_icmp .gt 36, 3) := by decide +kernel
theorem dX12_order_58 : decode cX12_order 58 = .ok (.lload 5, 2) := by decide +kernel
theorem dX12_order_60 : decode cX12_order 60 = .ok (.iconst 2, 1) := by decide +kernel
theorem dX12_order_61 : decode cX12_order 61 = .ok (.iload 7, 2) := by decide +kernel
theorem dX12_order_63 : decode cX12_order 63 = .ok (.imul, 1) := by decide +kernel
theorem dX12_order_64 : decode cX12_order 64 = .ok (.aload_n 0, 1) := by decide +kernel
theorem dX12_order_65 : decode cX12_order 65 = .ok (.getfield 108, 3) := by decide +kernel
theorem dX12_order_68 : decode cX12_order 68 = .ok (.if_icmp .le 13, 3) := by decide +kernel
theorem dX12_order_71 : decode cX12_order 71 = .ok (.aload_n 0, 1) := by decide +kernel
theorem dX12_order_72 : decode cX12_order 72 = .ok (.getfield 120, 3) := by decide +kernel
theorem dX12_order_75 : decode cX12_order 75 = .ok (.iload 7, 2) := by decide +kernel
theorem dX12_order_77 : decode cX12_order 77 = .ok (.laload, 1) := by decide +kernel
theorem dX12_order_78 : decode cX12_order 78 = .ok (.goto 4, 3) := by decide +kernel
theorem dX12_order_81 : decode cX12_order 81 = .ok (.lconst 0, 1) := by decide +kernel
theorem dX12_order_82 : decode cX12_order 82 = .ok (.ladd, 1) := by decide +kernel
theorem dX12_order_83 : decode cX12_order 83 = .ok (.lstore 5, 2) := by decide +kernel
theorem dX12_order_85 : decode cX12_order 85 = .ok (.iinc 7 1, 3) := by decide +kernel
theorem dX12_order_88 : decode cX12_order 88 = .ok (.goto (-39), 3) := by decide +kernel
theorem dX12_order_91 : decode cX12_order 91 = .ok (.lload 5, 2) := by decide +kernel
theorem dX12_order_93 : decode cX12_order 93 = .ok (.lload_n 2, 1) := by decide +kernel
theorem dX12_order_94 : decode cX12_order 94 = .ok (.lcmp, 1) := by decide +kernel
theorem dX12_order_95 : decode cX12_order 95 = .ok (.ifCond .gt 6, 3) := by decide +kernel
theorem dX12_order_98 : decode cX12_order 98 = .ok (.goto 35, 3) := by decide +kernel
theorem dX12_order_101 : decode cX12_order 101 = .ok (.lload 5, 2) := by decide +kernel
theorem dX12_order_103 : decode cX12_order 103 = .ok (.lstore_n 2, 1) := by decide +kernel
theorem dX12_order_104 : decode cX12_order 104 = .ok (.iconst 0, 1) := by decide +kernel
theorem dX12_order_105 : decode cX12_order 105 = .ok (.istore 7, 2) := by decide +kernel
theorem dX12_order_107 : decode cX12_order 107 = .ok (.iload 7, 2) := by decide +kernel
theorem dX12_order_109 : decode cX12_order 109 = .ok (.iconst 4, 1) := by decide +kernel
theorem dX12_order_110 : decode cX12_order 110 = .ok (.if_icmp .ge 23, 3) := by decide +kernel
theorem dX12_order_113 : decode cX12_order 113 = .ok (.aload_n 0, 1) := by decide +kernel
theorem dX12_order_114 : decode cX12_order 114 = .ok (.getfield 117, 3) := by decide +kernel
theorem dX12_order_117 : decode cX12_order 117 = .ok (.iload 7, 2) := by decide +kernel
theorem dX12_order_119 : decode cX12_order 119 = .ok (.aload_n 0, 1) := by decide +kernel
theorem dX12_order_120 : decode cX12_order 120 = .ok (.getfield 114, 3) := by decide +kernel
theorem dX12_order_123 : decode cX12_order 123 = .ok (.iload 7, 2) := by decide +kernel
theorem dX12_order_125 : decode cX12_order 125 = .ok (.iaload, 1) := by decide +kernel
theorem dX12_order_126 : decode cX12_order 126 = .ok (.iastore, 1) := by decide +kernel
theorem dX12_order_127 : decode cX12_order 127 = .ok (.iinc 7 1, 3) := by decide +kernel
theorem dX12_order_130 : decode cX12_order 130 = .ok (.goto (-23), 3) := by decide +kernel
theorem dX12_order_133 : decode cX12_order 133 = .ok (.iinc 4 1, 3) := by decide +kernel
theorem dX12_order_136 : decode cX12_order 136 = .ok (.goto (-106), 3) := by decide +kernel
theorem dX12_order_139 : decode cX12_order 139 = .ok (.aload_n 0, 1) := by decide +kernel
theorem dX12_order_140 : decode cX12_order 140 = .ok (.getfield 117, 3) := by decide +kernel
theorem dX12_order_143 : decode cX12_order 143 = .ok (.iload_n 1, 1) := by decide +kernel
theorem dX12_order_144 : decode cX12_order 144 = .ok (.iaload, 1) := by decide +kernel
theorem dX12_order_145 : decode cX12_order 145 = .ok (.ireturn, 1) := by decide +kernel
theorem dX12_layOthers_0 : decode cX12_layOthers 0 = .ok (.iconst 0, 1) := by decide +kernel
theorem dX12_layOthers_1 : decode cX12_layOthers 1 = .ok (.istore_n 2, 1) := by decide +kernel
theorem dX12_layOthers_2 : decode cX12_layOthers 2 = .ok (.iload_n 2, 1) := by decide +kernel
theorem dX12_layOthers_3 : decode cX12_layOthers 3 = .ok (.iconst 5, 1) := by decide +kernel
theorem dX12_layOthers_4 : decode cX12_layOthers 4 = .ok (.if_icmp .ge 24, 3) := by decide +kernel
theorem dX12_layOthers_7 : decode cX12_layOthers 7 = .ok (.aload_n 0, 1) := by decide +kernel
theorem dX12_layOthers_8 : decode cX12_layOthers 8 = .ok (.getfield 124, 3) := by decide +kernel
theorem dX12_layOthers_11 : decode cX12_layOthers 11 = .ok (.iload_n 2, 1) := by decide +kernel
theorem dX12_layOthers_12 : decode cX12_layOthers 12 = .ok (.iload_n 2, 1) := by decide +kernel
theorem dX12_layOthers_13 : decode cX12_layOthers 13 = .ok (.ifCond .ne 7, 3) := by decide +kernel
theorem dX12_layOthers_16 : decode cX12_layOthers 16 = .ok (.lconst 1, 1) := by decide +kernel
theorem dX12_layOthers_17 : decode cX12_layOthers 17 = .ok (.goto 4, 3) := by decide +kernel
theorem dX12_layOthers_20 : decode cX12_layOthers 20 = .ok (.lconst 0, 1) := by decide +kernel
theorem dX12_layOthers_21 : decode cX12_layOthers 21 = .ok (.lastore, 1) := by decide +kernel
theorem dX12_layOthers_22 : decode cX12_layOthers 22 = .ok (.iinc 2 1, 3) := by decide +kernel
theorem dX12_layOthers_25 : decode cX12_layOthers 25 = .ok (.goto (-23), 3) := by decide +kernel
theorem dX12_layOthers_28 : decode cX12_layOthers 28 = .ok (.iconst 0, 1) := by decide +kernel
theorem dX12_layOthers_29 : decode cX12_layOthers 29 = .ok (.istore_n 2, 1) := by decide +kernel
theorem dX12_layOthers_30 : decode cX12_layOthers 30 = .ok (.iload_n 2, 1) := by decide +kernel
theorem dX12_layOthers_31 : decode cX12_layOthers 31 = .ok (.aload_n 0, 1) := by decide +kernel
theorem dX12_layOthers_32 : decode cX12_layOthers 32 = .ok (.getfield 108, 3) := by decide +kernel
theorem dX12_layOthers_35 : decode cX12_layOthers 35 = .ok (.if_icmp .ge 59, 3) := by decide +kernel
theorem dX12_layOthers_38 : decode cX12_layOthers 38 = .ok (.iconst 4, 1) := by decide +kernel
theorem dX12_layOthers_39 : decode cX12_layOthers 39 = .ok (.istore_n 3, 1) := by decide +kernel
theorem dX12_layOthers_40 : decode cX12_layOthers 40 = .ok (.iload_n 3, 1) := by decide +kernel
theorem dX12_layOthers_41 : decode cX12_layOthers 41 = .ok (.ifCond .lt 47, 3) := by decide +kernel
theorem dX12_layOthers_44 : decode cX12_layOthers 44 = .ok (.aload_n 0, 1) := by decide +kernel
theorem dX12_layOthers_45 : decode cX12_layOthers 45 = .ok (.getfield 124, 3) := by decide +kernel
theorem dX12_layOthers_48 : decode cX12_layOthers 48 = .ok (.iload_n 3, 1) := by decide +kernel
theorem dX12_layOthers_49 : decode cX12_layOthers 49 = .ok (.aload_n 0, 1) := by decide +kernel
theorem dX12_layOthers_50 : decode cX12_layOthers 50 = .ok (.getfield 124, 3) := by decide +kernel
theorem dX12_layOthers_53 : decode cX12_layOthers 53 = .ok (.iload_n 3, 1) := by decide +kernel
theorem dX12_layOthers_54 : decode cX12_layOthers 54 = .ok (.laload, 1) := by decide +kernel
theorem dX12_layOthers_55 : decode cX12_layOthers 55 = .ok (.bipush 100, 2) := by decide +kernel
theorem dX12_layOthers_57 : decode cX12_layOthers 57 = .ok (.iload_n 1, 1) := by decide +kernel
theorem dX12_layOthers_58 : decode cX12_layOthers 58 = .ok (.isub, 1) := by decide +kernel
theorem dX12_layOthers_59 : decode cX12_layOthers 59 = .ok (.i2l, 1) := by decide +kernel
theorem dX12_layOthers_60 : decode cX12_layOthers 60 = .ok (.lmul, 1) := by decide +kernel
theorem dX12_layOthers_61 : decode cX12_layOthers 61 = .ok (.iload_n 3, 1) := by decide +kernel
theorem dX12_layOthers_62 : decode cX12_layOthers 62 = .ok (.ifCond .ne 7, 3) := by decide +kernel
theorem dX12_layOthers_65 : decode cX12_layOthers 65 = .ok (.lconst 0, 1) := by decide +kernel
theorem dX12_layOthers_66 : decode cX12_layOthers 66 = .ok (.goto 14, 3) := by decide +kernel
theorem dX12_layOthers_69 : decode cX12_layOthers 69 = .ok (.aload_n 0, 1) := by decide +kernel
theorem dX12_layOthers_70 : decode cX12_layOthers 70 = .ok (.getfield 124, 3) := by decide +kernel
theorem dX12_layOthers_73 : decode cX12_layOthers 73 = .ok (.iload_n 3, 1) := by decide +kernel
theorem dX12_layOthers_74 : decode cX12_layOthers 74 = .ok (.iconst 1, 1) := by decide +kernel
theorem dX12_layOthers_75 : decode cX12_layOthers 75 = .ok (.isub, 1) := by decide +kernel
theorem dX12_layOthers_76 : decode cX12_layOthers 76 = .ok (.laload, 1) := by decide +kernel
theorem dX12_layOthers_77 : decode cX12_layOthers 77 = .ok (.iload_n 1, 1) := by decide +kernel
theorem dX12_layOthers_78 : decode cX12_layOthers 78 = .ok (.i2l, 1) := by decide +kernel
theorem dX12_layOthers_79 : decode cX12_layOthers 79 = .ok (.lmul, 1) := by decide +kernel
theorem dX12_layOthers_80 : decode cX12_layOthers 80 = .ok (.ladd, 1) := by decide +kernel
theorem dX12_layOthers_81 : decode cX12_layOthers 81 = .ok (.lastore, 1) := by decide +kernel
theorem dX12_layOthers_82 : decode cX12_layOthers 82 = .ok (.iinc 3 (-1), 3) := by decide +kernel
theorem dX12_layOthers_85 : decode cX12_layOthers 85 = .ok (.goto (-45), 3) := by decide +kernel
theorem dX12_layOthers_88 : decode cX12_layOthers 88 = .ok (.iinc 2 1, 3) := by decide +kernel
theorem dX12_layOthers_91 : decode cX12_layOthers 91 = .ok (.goto (-61), 3) := by decide +kernel
theorem dX12_layOthers_94 : decode cX12_layOthers 94 = .ok (.return_, 1) := by decide +kernel
theorem dX12_win_0 : decode cX12_win 0 = .ok (.aload_n 0, 1) := by decide +kernel
theorem dX12_win_1 : decode cX12_win 1 = .ok (.iload_n 1, 1) := by decide +kernel
theorem dX12_win_2 : decode cX12_win 2 = .ok (.iconst 0, 1) := by decide +kernel
theorem dX12_win_3 : decode cX12_win 3 = .ok (.bipush 100, 2) := by decide +kernel
theorem dX12_win_5 : decode cX12_win 5 = .ok (.invokevirtual 215, 3) := by decide +kernel
theorem dX12_win_8 : decode cX12_win 8 = .ok (.ifCond .eq 23, 3) := by decide +kernel
theorem dX12_win_11 : decode cX12_win 11 = .ok (.aload_n 0, 1) := by decide +kernel
theorem dX12_win_12 : decode cX12_win 12 = .ok (.iload_n 2, 1) := by decide +kernel
theorem dX12_win_13 : decode cX12_win 13 = .ok (.iconst 0, 1) := by decide +kernel
theorem dX12_win_14 : decode cX12_win 14 = .ok (.iconst 1, 1) := by decide +kernel
theorem dX12_win_15 : decode cX12_win 15 = .ok (.invokevirtual 215, 3) := by decide +kernel
theorem dX12_win_18 : decode cX12_win 18 = .ok (.ifCond .eq 13, 3) := by decide +kernel
theorem dX12_win_21 : decode cX12_win 21 = .ok (.aload_n 0, 1) := by decide +kernel
theorem dX12_win_22 : decode cX12_win 22 = .ok (.iload_n 3, 1) := by decide +kernel
theorem dX12_win_23 : decode cX12_win 23 = .ok (.iconst 0, 1) := by decide +kernel
theorem dX12_win_24 : decode cX12_win 24 = .ok (.iconst 1, 1) := by decide +kernel
theorem dX12_win_25 : decode cX12_win 25 = .ok (.invokevirtual 215, 3) := by decide +kernel
theorem dX12_win_28 : decode cX12_win 28 = .ok (.ifCond .ne 7, 3) := by decide +kernel
theorem dX12_win_31 : decode cX12_win 31 = .ok (.ldc2_w 351, 3) := by decide +kernel
theorem dX12_win_34 : decode cX12_win 34 = .ok (.lreturn, 1) := by decide +kernel
theorem dX12_win_35 : decode cX12_win 35 = .ok (.aload_n 0, 1) := by decide +kernel
theorem dX12_win_36 : decode cX12_win 36 = .ok (.invokevirtual 353, 3) := by decide +kernel
theorem dX12_win_39 : decode cX12_win 39 = .ok (.aload_n 0, 1) := by decide +kernel
theorem dX12_win_40 : decode cX12_win 40 = .ok (.iload_n 1, 1) := by decide +kernel
theorem dX12_win_41 : decode cX12_win 41 = .ok (.invokevirtual 369, 3) := by decide +kernel
theorem dX12_win_44 : decode cX12_win 44 = .ok (.lconst 0, 1) := by decide +kernel
theorem dX12_win_45 : decode cX12_win 45 = .ok (.lstore 4, 2) := by decide +kernel
theorem dX12_win_47 : decode cX12_win 47 = .ok (.iconst 0, 1) := by decide +kernel
theorem dX12_win_48 : decode cX12_win 48 = .ok (.istore 6, 2) := by decide +kernel
theorem dX12_win_50 : decode cX12_win 50 = .ok (.iload 6, 2) := by decide +kernel
theorem dX12_win_52 : decode cX12_win 52 = .ok (.aload_n 0, 1) := by decide +kernel
theorem dX12_win_53 : decode cX12_win 53 = .ok (.getfield 108, 3) := by decide +kernel
theorem dX12_win_56 : decode cX12_win 56 = .ok (.if_icmp .gt 74, 3) := by decide +kernel
theorem dX12_win_59 : decode cX12_win 59 = .ok (.iconst 0, 1) := by decide +kernel
theorem dX12_win_60 : decode cX12_win 60 = .ok (.istore 7, 2) := by decide +kernel
theorem dX12_win_62 : decode cX12_win 62 = .ok (.iload 7, 2) := by decide +kernel
theorem dX12_win_64 : decode cX12_win 64 = .ok (.aload_n 0, 1) := by decide +kernel
theorem dX12_win_65 : decode cX12_win 65 = .ok (.getfield 108, 3) := by decide +kernel
theorem dX12_win_68 : decode cX12_win 68 = .ok (.if_icmp .gt 56, 3) := by decide +kernel
theorem dX12_win_71 : decode cX12_win 71 = .ok (.lload 4, 2) := by decide +kernel
theorem dX12_win_73 : decode cX12_win 73 = .ok (.iload_n 2, 1) := by decide +kernel
theorem dX12_win_74 : decode cX12_win 74 = .ok (.ifCond .ne 10, 3) := by decide +kernel
theorem dX12_win_77 : decode cX12_win 77 = .ok (.iload 6, 2) := by decide +kernel
theorem dX12_win_79 : decode cX12_win 79 = .ok (.iload 7, 2) := by decide +kernel
theorem dX12_win_81 : decode cX12_win 81 = .ok (.if_icmp .gt 15, 3) := by decide +kernel
theorem dX12_win_84 : decode cX12_win 84 = .ok (.iload_n 2, 1) := by decide +kernel
theorem dX12_win_85 : decode cX12_win 85 = .ok (.iconst 1, 1) := by decide +kernel
theorem dX12_win_86 : decode cX12_win 86 = .ok (.if_icmp .ne 28, 3) := by decide +kernel
theorem dX12_win_89 : decode cX12_win 89 = .ok (.iload 6, 2) := by decide +kernel
theorem dX12_win_91 : decode cX12_win 91 = .ok (.iload 7, 2) := by decide +kernel
theorem dX12_win_93 : decode cX12_win 93 = .ok (.if_icmp .ne 21, 3) := by decide +kernel
theorem dX12_win_96 : decode cX12_win 96 = .ok (.aload_n 0, 1) := by decide +kernel
theorem dX12_win_97 : decode cX12_win 97 = .ok (.getfield 120, 3) := by decide +kernel
theorem dX12_win_100 : decode cX12_win 100 = .ok (.iload 6, 2) := by decide +kernel
theorem dX12_win_102 : decode cX12_win 102 = .ok (.laload, 1) := by decide +kernel
theorem dX12_win_103 : decode cX12_win 103 = .ok (.aload_n 0, 1) := by decide +kernel
theorem dX12_win_104 : decode cX12_win 104 = .ok (.getfield 124, 3) := by decide +kernel
theorem dX12_win_107 : decode cX12_win 107 = .ok (.iload 7, 2) := by decide +kernel
theorem dX12_win_109 : decode cX12_win 109 = .ok (.laload, 1) := by decide +kernel
theorem dX12_win_110 : decode cX12_win 110 = .ok (.lmul, 1) := by decide +kernel
theorem dX12_win_111 : decode cX12_win 111 = .ok (.goto 4, 3) := by decide +kernel
theorem dX12_win_114 : decode cX12_win 114 = .ok (.lconst 0, 1) := by decide +kernel
theorem dX12_win_115 : decode cX12_win 115 = .ok (.ladd, 1) := by decide +kernel
theorem dX12_win_116 : decode cX12_win 116 = .ok (.lstore 4, 2) := by decide +kernel
theorem dX12_win_118 : decode cX12_win 118 = .ok (.iinc 7 1, 3) := by decide +kernel
theorem dX12_win_121 : decode cX12_win 121 = .ok (.goto (-59), 3) := by decide +kernel
theorem dX12_win_124 : decode cX12_win 124 = .ok (.iinc 6 1, 3) := by decide +kernel
theorem dX12_win_127 : decode cX12_win 127 = .ok (.goto (-77), 3) := by decide +kernel
theorem dX12_win_130 : decode cX12_win 130 = .ok (.aload_n 0, 1) := by decide +kernel
theorem dX12_win_131 : decode cX12_win 131 = .ok (.lload 4, 2) := by decide +kernel
theorem dX12_win_133 : decode cX12_win 133 = .ok (.aload_n 0, 1) := by decide +kernel
theorem dX12_win_134 : decode cX12_win 134 = .ok (.iconst 2, 1) := by decide +kernel
theorem dX12_win_135 : decode cX12_win 135 = .ok (.aload_n 0, 1) := by decide +kernel
theorem dX12_win_136 : decode cX12_win 136 = .ok (.getfield 108, 3) := by decide +kernel
theorem dX12_win_139 : decode cX12_win 139 = .ok (.imul, 1) := by decide +kernel
theorem dX12_win_140 : decode cX12_win 140 = .ok (.invokevirtual 356, 3) := by decide +kernel
theorem dX12_win_143 : decode cX12_win 143 = .ok (.iload_n 3, 1) := by decide +kernel
theorem dX12_win_144 : decode cX12_win 144 = .ok (.invokevirtual 360, 3) := by decide +kernel
theorem dX12_win_147 : decode cX12_win 147 = .ok (.lreturn, 1) := by decide +kernel
theorem dX12_worth_0 : decode cX12_worth 0 = .ok (.aload_n 0, 1) := by decide +kernel
theorem dX12_worth_1 : decode cX12_worth 1 = .ok (.iload_n 1, 1) := by decide +kernel
theorem dX12_worth_2 : decode cX12_worth 2 = .ok (.invokevirtual 219, 3) := by decide +kernel
theorem dX12_worth_5 : decode cX12_worth 5 = .ok (.ifCond .eq 23, 3) := by decide +kernel
theorem dX12_worth_8 : decode cX12_worth 8 = .ok (.aload_n 0, 1) := by decide +kernel
theorem dX12_worth_9 : decode cX12_worth 9 = .ok (.iload_n 1, 1) := by decide +kernel
theorem dX12_worth_10 : decode cX12_worth 10 = .ok (.aload_n 0, 1) := by decide +kernel
theorem dX12_worth_11 : decode cX12_worth 11 = .ok (.iload_n 1, 1) := by decide +kernel
theorem dX12_worth_12 : decode cX12_worth 12 = .ok (.invokevirtual 314, 3) := by decide +kernel
theorem dX12_worth_15 : decode cX12_worth 15 = .ok (.iconst 1, 1) := by decide +kernel
theorem dX12_worth_16 : decode cX12_worth 16 = .ok (.invokevirtual 317, 3) := by decide +kernel
theorem dX12_worth_19 : decode cX12_worth 19 = .ok (.aload_n 0, 1) := by decide +kernel
theorem dX12_worth_20 : decode cX12_worth 20 = .ok (.iload_n 1, 1) := by decide +kernel
theorem dX12_worth_21 : decode cX12_worth 21 = .ok (.invokevirtual 323, 3) := by decide +kernel
theorem dX12_worth_24 : decode cX12_worth 24 = .ok (.isub, 1) := by decide +kernel
theorem dX12_worth_25 : decode cX12_worth 25 = .ok (.goto 6, 3) := by decide +kernel
theorem dX12_worth_28 : decode cX12_worth 28 = .ok (.sipush (-1001), 3) := by decide +kernel
theorem dX12_worth_31 : decode cX12_worth 31 = .ok (.ireturn, 1) := by decide +kernel
theorem dX12_stop_0 : decode cX12_stop 0 = .ok (.aload_n 0, 1) := by decide +kernel
theorem dX12_stop_1 : decode cX12_stop 1 = .ok (.iload_n 1, 1) := by decide +kernel
theorem dX12_stop_2 : decode cX12_stop 2 = .ok (.invokevirtual 219, 3) := by decide +kernel
theorem dX12_stop_5 : decode cX12_stop 5 = .ok (.ifCond .eq 27, 3) := by decide +kernel
theorem dX12_stop_8 : decode cX12_stop 8 = .ok (.aload_n 0, 1) := by decide +kernel
theorem dX12_stop_9 : decode cX12_stop 9 = .ok (.iload_n 1, 1) := by decide +kernel
theorem dX12_stop_10 : decode cX12_stop 10 = .ok (.aload_n 0, 1) := by decide +kernel
theorem dX12_stop_11 : decode cX12_stop 11 = .ok (.iload_n 1, 1) := by decide +kernel
theorem dX12_stop_12 : decode cX12_stop 12 = .ok (.invokevirtual 309, 3) := by decide +kernel
theorem dX12_stop_15 : decode cX12_stop 15 = .ok (.aload_n 0, 1) := by decide +kernel
theorem dX12_stop_16 : decode cX12_stop 16 = .ok (.iload_n 1, 1) := by decide +kernel
theorem dX12_stop_17 : decode cX12_stop 17 = .ok (.invokevirtual 296, 3) := by decide +kernel
theorem dX12_stop_20 : decode cX12_stop 20 = .ok (.invokevirtual 317, 3) := by decide +kernel
theorem dX12_stop_23 : decode cX12_stop 23 = .ok (.aload_n 0, 1) := by decide +kernel
theorem dX12_stop_24 : decode cX12_stop 24 = .ok (.iload_n 1, 1) := by decide +kernel
theorem dX12_stop_25 : decode cX12_stop 25 = .ok (.invokevirtual 323, 3) := by decide +kernel
theorem dX12_stop_28 : decode cX12_stop 28 = .ok (.isub, 1) := by decide +kernel
theorem dX12_stop_29 : decode cX12_stop 29 = .ok (.goto 6, 3) := by decide +kernel
theorem dX12_stop_32 : decode cX12_stop 32 = .ok (.sipush (-1001), 3) := by decide +kernel
theorem dX12_stop_35 : decode cX12_stop 35 = .ok (.ireturn, 1) := by decide +kernel
theorem dX12_forget_0 : decode cX12_forget 0 = .ok (.aload_n 0, 1) := by decide +kernel
theorem dX12_forget_1 : decode cX12_forget 1 = .ok (.iload_n 1, 1) := by decide +kernel
theorem dX12_forget_2 : decode cX12_forget 2 = .ok (.invokevirtual 219, 3) := by decide +kernel
theorem dX12_forget_5 : decode cX12_forget 5 = .ok (.ifCond .eq 13, 3) := by decide +kernel
theorem dX12_forget_8 : decode cX12_forget 8 = .ok (.aload_n 0, 1) := by decide +kernel
theorem dX12_forget_9 : decode cX12_forget 9 = .ok (.iload_n 2, 1) := by decide +kernel
theorem dX12_forget_10 : decode cX12_forget 10 = .ok (.iconst 0, 1) := by decide +kernel
theorem dX12_forget_11 : decode cX12_forget 11 = .ok (.iconst 1, 1) := by decide +kernel
theorem dX12_forget_12 : decode cX12_forget 12 = .ok (.invokevirtual 215, 3) := by decide +kernel
theorem dX12_forget_15 : decode cX12_forget 15 = .ok (.ifCond .ne 5, 3) := by decide +kernel
theorem dX12_forget_18 : decode cX12_forget 18 = .ok (.iconst (-1), 1) := by decide +kernel
theorem dX12_forget_19 : decode cX12_forget 19 = .ok (.ireturn, 1) := by decide +kernel
theorem dX12_forget_20 : decode cX12_forget 20 = .ok (.aload_n 0, 1) := by decide +kernel
theorem dX12_forget_21 : decode cX12_forget 21 = .ok (.getfield 26, 3) := by decide +kernel
theorem dX12_forget_24 : decode cX12_forget 24 = .ok (.iload_n 1, 1) := by decide +kernel
theorem dX12_forget_25 : decode cX12_forget 25 = .ok (.iaload, 1) := by decide +kernel
theorem dX12_forget_26 : decode cX12_forget 26 = .ok (.istore_n 3, 1) := by decide +kernel
theorem dX12_forget_27 : decode cX12_forget 27 = .ok (.iconst 0, 1) := by decide +kernel
theorem dX12_forget_28 : decode cX12_forget 28 = .ok (.istore 4, 2) := by decide +kernel
theorem dX12_forget_30 : decode cX12_forget 30 = .ok (.iconst (-1), 1) := by decide +kernel
theorem dX12_forget_31 : decode cX12_forget 31 = .ok (.istore 5, 2) := by decide +kernel
theorem dX12_forget_33 : decode cX12_forget 33 = .ok (.iconst 0, 1) := by decide +kernel
theorem dX12_forget_34 : decode cX12_forget 34 = .ok (.istore 6, 2) := by decide +kernel
theorem dX12_forget_36 : decode cX12_forget 36 = .ok (.iload 6, 2) := by decide +kernel
theorem dX12_forget_38 : decode cX12_forget 38 = .ok (.iconst 4, 1) := by decide +kernel
theorem dX12_forget_39 : decode cX12_forget 39 = .ok (.if_icmp .ge 42, 3) := by decide +kernel
theorem dX12_forget_42 : decode cX12_forget 42 = .ok (.aload_n 0, 1) := by decide +kernel
theorem dX12_forget_43 : decode cX12_forget 43 = .ok (.getfield 26, 3) := by decide +kernel
theorem dX12_forget_46 : decode cX12_forget 46 = .ok (.iload_n 1, 1) := by decide +kernel
theorem dX12_forget_47 : decode cX12_forget 47 = .ok (.iload 6, 2) := by decide +kernel
theorem dX12_forget_49 : decode cX12_forget 49 = .ok (.iastore, 1) := by decide +kernel
theorem dX12_forget_50 : decode cX12_forget 50 = .ok (.aload_n 0, 1) := by decide +kernel
theorem dX12_forget_51 : decode cX12_forget 51 = .ok (.iload_n 1, 1) := by decide +kernel
theorem dX12_forget_52 : decode cX12_forget 52 = .ok (.invokevirtual 323, 3) := by decide +kernel
theorem dX12_forget_55 : decode cX12_forget 55 = .ok (.istore 7, 2) := by decide +kernel
theorem dX12_forget_57 : decode cX12_forget 57 = .ok (.iload 7, 2) := by decide +kernel
theorem dX12_forget_59 : decode cX12_forget 59 = .ok (.iload 5, 2) := by decide +kernel
theorem dX12_forget_61 : decode cX12_forget 61 = .ok (.if_icmp .gt 6, 3) := by decide +kernel
theorem dX12_forget_64 : decode cX12_forget 64 = .ok (.goto 11, 3) := by decide +kernel
theorem dX12_forget_67 : decode cX12_forget 67 = .ok (.iload 6, 2) := by decide +kernel
theorem dX12_forget_69 : decode cX12_forget 69 = .ok (.istore 4, 2) := by decide +kernel
theorem dX12_forget_71 : decode cX12_forget 71 = .ok (.iload 7, 2) := by decide +kernel
theorem dX12_forget_73 : decode cX12_forget 73 = .ok (.istore 5, 2) := by decide +kernel
theorem dX12_forget_75 : decode cX12_forget 75 = .ok (.iinc 6 1, 3) := by decide +kernel
theorem dX12_forget_78 : decode cX12_forget 78 = .ok (.goto (-42), 3) := by decide +kernel
theorem dX12_forget_81 : decode cX12_forget 81 = .ok (.aload_n 0, 1) := by decide +kernel
theorem dX12_forget_82 : decode cX12_forget 82 = .ok (.getfield 26, 3) := by decide +kernel
theorem dX12_forget_85 : decode cX12_forget 85 = .ok (.iload_n 1, 1) := by decide +kernel
theorem dX12_forget_86 : decode cX12_forget 86 = .ok (.iload_n 3, 1) := by decide +kernel
theorem dX12_forget_87 : decode cX12_forget 87 = .ok (.iastore, 1) := by decide +kernel
theorem dX12_forget_88 : decode cX12_forget 88 = .ok (.iload_n 2, 1) := by decide +kernel
theorem dX12_forget_89 : decode cX12_forget 89 = .ok (.ifCond .ne 8, 3) := by decide +kernel
theorem dX12_forget_92 : decode cX12_forget 92 = .ok (.iload 4, 2) := by decide +kernel
theorem dX12_forget_94 : decode cX12_forget 94 = .ok (.goto 5, 3) := by decide +kernel
