theorem dX0_init_0 : decode cX0_init 0 = .ok (.aload_n 0, 1) := by decide +kernel
theorem dX0_init_1 : decode cX0_init 1 = .ok (.iload_n 1, 1) := by decide +kernel
theorem dX0_init_2 : decode cX0_init 2 = .ok (.iload_n 2, 1) := by decide +kernel
theorem dX0_init_3 : decode cX0_init 3 = .ok (.invokespecial 3, 3) := by decide +kernel
theorem dX0_init_6 : decode cX0_init 6 = .ok (.return_, 1) := by decide +kernel
theorem dX0_kind_0 : decode cX0_kind 0 = .ok (.iconst 4, 1) := by decide +kernel
theorem dX0_kind_1 : decode cX0_kind 1 = .ok (.ireturn, 1) := by decide +kernel
theorem dX0_side_0 : decode cX0_side 0 = .ok (.aload_n 2, 1) := by decide +kernel
theorem dX0_side_1 : decode cX0_side 1 = .ok (.aload_n 0, 1) := by decide +kernel
theorem dX0_side_2 : decode cX0_side 2 = .ok (.getfield 9, 3) := by decide +kernel
theorem dX0_side_5 : decode cX0_side 5 = .ok (.invokevirtual 15, 3) := by decide +kernel
theorem dX0_side_8 : decode cX0_side 8 = .ok (.iconst 2, 1) := by decide +kernel
theorem dX0_side_9 : decode cX0_side 9 = .ok (.irem, 1) := by decide +kernel
theorem dX0_side_10 : decode cX0_side 10 = .ok (.ifCond .ne 12, 3) := by decide +kernel
theorem dX0_side_13 : decode cX0_side 13 = .ok (.aload_n 0, 1) := by decide +kernel
theorem dX0_side_14 : decode cX0_side 14 = .ok (.aload_n 1, 1) := by decide +kernel
theorem dX0_side_15 : decode cX0_side 15 = .ok (.aload_n 2, 1) := by decide +kernel
theorem dX0_side_16 : decode cX0_side 16 = .ok (.invokespecial 21, 3) := by decide +kernel
theorem dX0_side_19 : decode cX0_side 19 = .ok (.goto 4, 3) := by decide +kernel
theorem dX0_side_22 : decode cX0_side 22 = .ok (.iconst 1, 1) := by decide +kernel
theorem dX0_side_23 : decode cX0_side 23 = .ok (.ireturn, 1) := by decide +kernel
theorem dX0_aims_0 : decode cX0_aims 0 = .ok (.aload_n 2, 1) := by decide +kernel
theorem dX0_aims_1 : decode cX0_aims 1 = .ok (.bipush 50, 2) := by decide +kernel
theorem dX0_aims_3 : decode cX0_aims 3 = .ok (.invokevirtual 25, 3) := by decide +kernel
theorem dX0_aims_6 : decode cX0_aims 6 = .ok (.pop, 1) := by decide +kernel
theorem dX0_aims_7 : decode cX0_aims 7 = .ok (.aload_n 0, 1) := by decide +kernel
theorem dX0_aims_8 : decode cX0_aims 8 = .ok (.iload_n 1, 1) := by decide +kernel
theorem dX0_aims_9 : decode cX0_aims 9 = .ok (.aload_n 2, 1) := by decide +kernel
theorem dX0_aims_10 : decode cX0_aims 10 = .ok (.invokespecial 31, 3) := by decide +kernel
theorem dX0_aims_13 : decode cX0_aims 13 = .ok (.ineg, 1) := by decide +kernel
theorem dX0_aims_14 : decode cX0_aims 14 = .ok (.ireturn, 1) := by decide +kernel
theorem dX0_shows_0 : decode cX0_shows 0 = .ok (.aload_n 2, 1) := by decide +kernel
theorem dX0_shows_1 : decode cX0_shows 1 = .ok (.bipush 51, 2) := by decide +kernel
theorem dX0_shows_3 : decode cX0_shows 3 = .ok (.invokevirtual 25, 3) := by decide +kernel
theorem dX0_shows_6 : decode cX0_shows 6 = .ok (.pop, 1) := by decide +kernel
theorem dX0_shows_7 : decode cX0_shows 7 = .ok (.aload_n 0, 1) := by decide +kernel
theorem dX0_shows_8 : decode cX0_shows 8 = .ok (.iload_n 1, 1) := by decide +kernel
theorem dX0_shows_9 : decode cX0_shows 9 = .ok (.iconst 1, 1) := by decide +kernel
theorem dX0_shows_10 : decode cX0_shows 10 = .ok (.iadd, 1) := by decide +kernel
theorem dX0_shows_11 : decode cX0_shows 11 = .ok (.aload_n 2, 1) := by decide +kernel
theorem dX0_shows_12 : decode cX0_shows 12 = .ok (.invokespecial 35, 3) := by decide +kernel
theorem dX0_shows_15 : decode cX0_shows 15 = .ok (.ireturn, 1) := by decide +kernel
theorem dX1_init_0 : decode cX1_init 0 = .ok (.aload_n 0, 1) := by decide +kernel
theorem dX1_init_1 : decode cX1_init 1 = .ok (.invokespecial 3, 3) := by decide +kernel
theorem dX1_init_4 : decode cX1_init 4 = .ok (.aload_n 0, 1) := by decide +kernel
theorem dX1_init_5 : decode cX1_init 5 = .ok (.bipush 10, 2) := by decide +kernel
theorem dX1_init_7 : decode cX1_init 7 = .ok (.newarray .int, 2) := by decide +kernel
theorem dX1_init_9 : decode cX1_init 9 = .ok (.putfield 9, 3) := by decide +kernel
theorem dX1_init_12 : decode cX1_init 12 = .ok (.aload_n 0, 1) := by decide +kernel
theorem dX1_init_13 : decode cX1_init 13 = .ok (.bipush 10, 2) := by decide +kernel
theorem dX1_init_15 : decode cX1_init 15 = .ok (.newarray .int, 2) := by decide +kernel
theorem dX1_init_17 : decode cX1_init 17 = .ok (.putfield 15, 3) := by decide +kernel
theorem dX1_init_20 : decode cX1_init 20 = .ok (.aload_n 0, 1) := by decide +kernel
theorem dX1_init_21 : decode cX1_init 21 = .ok (.bipush 10, 2) := by decide +kernel
theorem dX1_init_23 : decode cX1_init 23 = .ok (.newarray .int, 2) := by decide +kernel
theorem dX1_init_25 : decode cX1_init 25 = .ok (.putfield 18, 3) := by decide +kernel
theorem dX1_init_28 : decode cX1_init 28 = .ok (.aload_n 0, 1) := by decide +kernel
theorem dX1_init_29 : decode cX1_init 29 = .ok (.bipush 10, 2) := by decide +kernel
theorem dX1_init_31 : decode cX1_init 31 = .ok (.newarray .int, 2) := by decide +kernel
theorem dX1_init_33 : decode cX1_init 33 = .ok (.putfield 21, 3) := by decide +kernel
theorem dX1_init_36 : decode cX1_init 36 = .ok (.aload_n 0, 1) := by decide +kernel
theorem dX1_init_37 : decode cX1_init 37 = .ok (.bipush 100, 2) := by decide +kernel
theorem dX1_init_39 : decode cX1_init 39 = .ok (.newarray .int, 2) := by decide +kernel
theorem dX1_init_41 : decode cX1_init 41 = .ok (.putfield 24, 3) := by decide +kernel
theorem dX1_init_44 : decode cX1_init 44 = .ok (.aload_n 0, 1) := by decide +kernel
theorem dX1_init_45 : decode cX1_init 45 = .ok (.bipush 6, 2) := by decide +kernel
theorem dX1_init_47 : decode cX1_init 47 = .ok (.newarray .int, 2) := by decide +kernel
theorem dX1_init_49 : decode cX1_init 49 = .ok (.putfield 27, 3) := by decide +kernel
theorem dX1_init_52 : decode cX1_init 52 = .ok (.return_, 1) := by decide +kernel
theorem dX1_parse_0 : decode cX1_parse 0 = .ok (.aload_n 0, 1) := by decide +kernel
theorem dX1_parse_1 : decode cX1_parse 1 = .ok (.iconst 0, 1) := by decide +kernel
theorem dX1_parse_2 : decode cX1_parse 2 = .ok (.putfield 30, 3) := by decide +kernel
theorem dX1_parse_5 : decode cX1_parse 5 = .ok (.aload_n 0, 1) := by decide +kernel
theorem dX1_parse_6 : decode cX1_parse 6 = .ok (.iconst 0, 1) := by decide +kernel
theorem dX1_parse_7 : decode cX1_parse 7 = .ok (.putfield 34, 3) := by decide +kernel
theorem dX1_parse_10 : decode cX1_parse 10 = .ok (.aload_n 0, 1) := by decide +kernel
theorem dX1_parse_11 : decode cX1_parse 11 = .ok (.iconst 0, 1) := by decide +kernel
theorem dX1_parse_12 : decode cX1_parse 12 = .ok (.putfield 37, 3) := by decide +kernel
theorem dX1_parse_15 : decode cX1_parse 15 = .ok (.iconst 0, 1) := by decide +kernel
theorem dX1_parse_16 : decode cX1_parse 16 = .ok (.istore_n 2, 1) := by decide +kernel
theorem dX1_parse_17 : decode cX1_parse 17 = .ok (.iload_n 2, 1) := by decide +kernel
theorem dX1_parse_18 : decode cX1_parse 18 = .ok (.bipush 10, 2) := by decide +kernel
theorem dX1_parse_20 : decode cX1_parse 20 = .ok (.if_icmp .ge 77, 3) := by decide +kernel
theorem dX1_parse_23 : decode cX1_parse 23 = .ok (.aload_n 0, 1) := by decide +kernel
theorem dX1_parse_24 : decode cX1_parse 24 = .ok (.aload_n 1, 1) := by decide +kernel
theorem dX1_parse_25 : decode cX1_parse 25 = .ok (.iload_n 2, 1) := by decide +kernel
theorem dX1_parse_26 : decode cX1_parse 26 = .ok (.invokevirtual 40, 3) := by decide +kernel
theorem dX1_parse_29 : decode cX1_parse 29 = .ok (.ifCond .ne 8, 3) := by decide +kernel
theorem dX1_parse_32 : decode cX1_parse 32 = .ok (.aload_n 0, 1) := by decide +kernel
theorem dX1_parse_33 : decode cX1_parse 33 = .ok (.getfield 37, 3) := by decide +kernel
theorem dX1_parse_36 : decode cX1_parse 36 = .ok (.ireturn, 1) := by decide +kernel
theorem dX1_parse_37 : decode cX1_parse 37 = .ok (.aload_n 0, 1) := by decide +kernel
theorem dX1_parse_38 : decode cX1_parse 38 = .ok (.iload_n 2, 1) := by decide +kernel
theorem dX1_parse_39 : decode cX1_parse 39 = .ok (.iconst 1, 1) := by decide +kernel
theorem dX1_parse_40 : decode cX1_parse 40 = .ok (.iadd, 1) := by decide +kernel
theorem dX1_parse_41 : decode cX1_parse 41 = .ok (.putfield 30, 3) := by decide +kernel
theorem dX1_parse_44 : decode cX1_parse 44 = .ok (.aload_n 0, 1) := by decide +kernel
theorem dX1_parse_45 : decode cX1_parse 45 = .ok (.getfield 37, 3) := by decide +kernel
theorem dX1_parse_48 : decode cX1_parse 48 = .ok (.aload_n 1, 1) := by decide +kernel
theorem dX1_parse_49 : decode cX1_parse 49 = .ok (.getfield 44, 3) := by decide +kernel
theorem dX1_parse_52 : decode cX1_parse 52 = .ok (.if_icmp .lt 5, 3) := by decide +kernel
theorem dX1_parse_55 : decode cX1_parse 55 = .ok (.iconst (-1), 1) := by decide +kernel
theorem dX1_parse_56 : decode cX1_parse 56 = .ok (.ireturn, 1) := by decide +kernel
theorem dX1_parse_57 : decode cX1_parse 57 = .ok (.aload_n 1, 1) := by decide +kernel
theorem dX1_parse_58 : decode cX1_parse 58 = .ok (.aload_n 0, 1) := by decide +kernel
theorem dX1_parse_59 : decode cX1_parse 59 = .ok (.getfield 37, 3) := by decide +kernel
theorem dX1_parse_62 : decode cX1_parse 62 = .ok (.invokevirtual 49, 3) := by decide +kernel
theorem dX1_parse_65 : decode cX1_parse 65 = .ok (.bipush 59, 2) := by decide +kernel
theorem dX1_parse_67 : decode cX1_parse 67 = .ok (.if_icmp .eq 8, 3) := by decide +kernel
theorem dX1_parse_70 : decode cX1_parse 70 = .ok (.aload_n 0, 1) := by decide +kernel
theorem dX1_parse_71 : decode cX1_parse 71 = .ok (.getfield 37, 3) := by decide +kernel
theorem dX1_parse_74 : decode cX1_parse 74 = .ok (.ireturn, 1) := by decide +kernel
theorem dX1_parse_75 : decode cX1_parse 75 = .ok (.iload_n 2, 1) := by decide +kernel
theorem dX1_parse_76 : decode cX1_parse 76 = .ok (.bipush 9, 2) := by decide +kernel
theorem dX1_parse_78 : decode cX1_parse 78 = .ok (.if_icmp .ge 13, 3) := by decide +kernel
theorem dX1_parse_81 : decode cX1_parse 81 = .ok (.aload_n 0, 1) := by decide +kernel
theorem dX1_parse_82 : decode cX1_parse 82 = .ok (.dup, 1) := by decide +kernel
theorem dX1_parse_83 : decode cX1_parse 83 = .ok (.getfield 37, 3) := by decide +kernel
theorem dX1_parse_86 : decode cX1_parse 86 = .ok (.iconst 1, 1) := by decide +kernel
theorem dX1_parse_87 : decode cX1_parse 87 = .ok (.iadd, 1) := by decide +kernel
theorem dX1_parse_88 : decode cX1_parse 88 = .ok (.putfield 37, 3) := by decide +kernel
theorem dX1_parse_91 : decode cX1_parse 91 = .ok (.iinc 2 1, 3) := by decide +kernel
theorem dX1_parse_94 : decode cX1_parse 94 = .ok (.goto (-77), 3) := by decide +kernel
theorem dX1_parse_97 : decode cX1_parse 97 = .ok (.aload_n 0, 1) := by decide +kernel
theorem dX1_parse_98 : decode cX1_parse 98 = .ok (.getfield 37, 3) := by decide +kernel
theorem dX1_parse_101 : decode cX1_parse 101 = .ok (.ireturn, 1) := by decide +kernel
theorem dX1_clause_0 : decode cX1_clause 0 = .ok (.aload_n 0, 1) := by decide +kernel
theorem dX1_clause_1 : decode cX1_clause 1 = .ok (.aload_n 1, 1) := by decide +kernel
theorem dX1_clause_2 : decode cX1_clause 2 = .ok (.invokevirtual 53, 3) := by decide +kernel
theorem dX1_clause_5 : decode cX1_clause 5 = .ok (.istore_n 3, 1) := by decide +kernel
theorem dX1_clause_6 : decode cX1_clause 6 = .ok (.iload_n 3, 1) := by decide +kernel
theorem dX1_clause_7 : decode cX1_clause 7 = .ok (.iconst (-1), 1) := by decide +kernel
theorem dX1_clause_8 : decode cX1_clause 8 = .ok (.if_icmp .eq 16, 3) := by decide +kernel
theorem dX1_clause_11 : decode cX1_clause 11 = .ok (.iload_n 2, 1) := by decide +kernel
theorem dX1_clause_12 : decode cX1_clause 12 = .ok (.ifCond .lt 12, 3) := by decide +kernel
theorem dX1_clause_15 : decode cX1_clause 15 = .ok (.iload_n 2, 1) := by decide +kernel
theorem dX1_clause_16 : decode cX1_clause 16 = .ok (.aload_n 0, 1) := by decide +kernel
theorem dX1_clause_17 : decode cX1_clause 17 = .ok (.getfield 9, 3) := by decide +kernel
theorem dX1_clause_20 : decode cX1_clause 20 = .ok (.arraylength, 1) := by decide +kernel
theorem dX1_clause_21 : decode cX1_clause 21 = .ok (.if_icmp .lt 5, 3) := by decide +kernel
theorem dX1_clause_24 : decode cX1_clause 24 = .ok (.iconst 0, 1) := by decide +kernel
theorem dX1_clause_25 : decode cX1_clause 25 = .ok (.ireturn, 1) := by decide +kernel
theorem dX1_clause_26 : decode cX1_clause 26 = .ok (.iconst 0, 1) := by decide +kernel
theorem dX1_clause_27 : decode cX1_clause 27 = .ok (.istore 4, 2) := by decide +kernel
theorem dX1_clause_29 : decode cX1_clause 29 = .ok (.iload_n 3, 1) := by decide +kernel
theorem dX1_clause_30 : decode cX1_clause 30 = .ok (.ifCond .eq 8, 3) := by decide +kernel
theorem dX1_clause_33 : decode cX1_clause 33 = .ok (.iload_n 3, 1) := by decide +kernel
theorem dX1_clause_34 : decode cX1_clause 34 = .ok (.iconst 1, 1) := by decide +kernel
theorem dX1_clause_35 : decode cX1_clause 35 = .ok (.if_icmp .ne 24, 3) := by decide +kernel
theorem dX1_clause_38 : decode cX1_clause 38 = .ok (.aload_n 0, 1) := by decide +kernel
theorem dX1_clause_39 : decode cX1_clause 39 = .ok (.aload_n 1, 1) := by decide +kernel
theorem dX1_clause_40 : decode cX1_clause 40 = .ok (.bipush 32, 2) := by decide +kernel
theorem dX1_clause_42 : decode cX1_clause 42 = .ok (.invokevirtual 57, 3) := by decide +kernel
theorem dX1_clause_45 : decode cX1_clause 45 = .ok (.ifCond .eq 11, 3) := by decide +kernel
theorem dX1_clause_48 : decode cX1_clause 48 = .ok (.aload_n 0, 1) := by decide +kernel
theorem dX1_clause_49 : decode cX1_clause 49 = .ok (.aload_n 1, 1) := by decide +kernel
theorem dX1_clause_50 : decode cX1_clause 50 = .ok (.invokevirtual 61, 3) := by decide +kernel
theorem dX1_clause_53 : decode cX1_clause 53 = .ok (.goto 4, 3) := by decide +kernel
theorem dX1_clause_56 : decode cX1_clause 56 = .ok (.iconst (-1), 1) := by decide +kernel
theorem dX1_clause_57 : decode cX1_clause 57 = .ok (.istore 4, 2) := by decide +kernel
theorem dX1_clause_59 : decode cX1_clause 59 = .ok (.iload 4, 2) := by decide +kernel
theorem dX1_clause_61 : decode cX1_clause 61 = .ok (.iconst (-1), 1) := by decide +kernel
theorem dX1_clause_62 : decode cX1_clause 62 = .ok (.if_icmp .eq 13, 3) := by decide +kernel
theorem dX1_clause_65 : decode cX1_clause 65 = .ok (.aload_n 0, 1) := by decide +kernel
theorem dX1_clause_66 : decode cX1_clause 66 = .ok (.aload_n 1, 1) := by decide +kernel
theorem dX1_clause_67 : decode cX1_clause 67 = .ok (.bipush 32, 2) := by decide +kernel
theorem dX1_clause_69 : decode cX1_clause 69 = .ok (.invokevirtual 57, 3) := by decide +kernel
theorem dX1_clause_72 : decode cX1_clause 72 = .ok (.ifCond .ne 5, 3) := by decide +kernel
theorem dX1_clause_75 : decode cX1_clause 75 = .ok (.iconst 0, 1) := by decide +kernel
theorem dX1_clause_76 : decode cX1_clause 76 = .ok (.ireturn, 1) := by decide +kernel
theorem dX1_clause_77 : decode cX1_clause 77 = .ok (.aload_n 0, 1) := by decide +kernel
theorem dX1_clause_78 : decode cX1_clause 78 = .ok (.getfield 9, 3) := by decide +kernel
theorem dX1_clause_81 : decode cX1_clause 81 = .ok (.iload_n 2, 1) := by decide +kernel
theorem dX1_clause_82 : decode cX1_clause 82 = .ok (.iload_n 3, 1) := by decide +kernel
theorem dX1_clause_83 : decode cX1_clause 83 = .ok (.iastore, 1) := by decide +kernel
theorem dX1_clause_84 : decode cX1_clause 84 = .ok (.aload_n 0, 1) := by decide +kernel
theorem dX1_clause_85 : decode cX1_clause 85 = .ok (.getfield 15, 3) := by decide +kernel
theorem dX1_clause_88 : decode cX1_clause 88 = .ok (.iload_n 2, 1) := by decide +kernel
theorem dX1_clause_89 : decode cX1_clause 89 = .ok (.iload 4, 2) := by decide +kernel
theorem dX1_clause_91 : decode cX1_clause 91 = .ok (.iastore, 1) := by decide +kernel
theorem dX1_clause_92 : decode cX1_clause 92 = .ok (.aload_n 0, 1) := by decide +kernel
theorem dX1_clause_93 : decode cX1_clause 93 = .ok (.getfield 18, 3) := by decide +kernel
theorem dX1_clause_96 : decode cX1_clause 96 = .ok (.iload_n 2, 1) := by decide +kernel
theorem dX1_clause_97 : decode cX1_clause 97 = .ok (.aload_n 0, 1) := by decide +kernel
theorem dX1_clause_98 : decode cX1_clause 98 = .ok (.getfield 34, 3) := by decide +kernel
theorem dX1_clause_101 : decode cX1_clause 101 = .ok (.iastore, 1) := by decide +kernel
theorem dX1_clause_102 : decode cX1_clause 102 = .ok (.aload_n 0, 1) := by decide +kernel
theorem dX1_clause_103 : decode cX1_clause 103 = .ok (.aload_n 1, 1) := by decide +kernel
theorem dX1_clause_104 : decode cX1_clause 104 = .ok (.iconst 0, 1) := by decide +kernel
theorem dX1_clause_105 : decode cX1_clause 105 = .ok (.invokevirtual 64, 3) := by decide +kernel
theorem dX1_clause_108 : decode cX1_clause 108 = .ok (.istore 5, 2) := by decide +kernel
theorem dX1_clause_110 : decode cX1_clause 110 = .ok (.aload_n 0, 1) := by decide +kernel
theorem dX1_clause_111 : decode cX1_clause 111 = .ok (.getfield 21, 3) := by decide +kernel
theorem dX1_clause_114 : decode cX1_clause 114 = .ok (.iload_n 2, 1) := by decide +kernel
theorem dX1_clause_115 : decode cX1_clause 115 = .ok (.aload_n 0, 1) := by decide +kernel
theorem dX1_clause_116 : decode cX1_clause 116 = .ok (.getfield 34, 3) := by decide +kernel
theorem dX1_clause_119 : decode cX1_clause 119 = .ok (.iastore, 1) := by decide +kernel
theorem dX1_clause_120 : decode cX1_clause 120 = .ok (.iload 5, 2) := by decide +kernel
theorem dX1_clause_122 : decode cX1_clause 122 = .ok (.ireturn, 1) := by decide +kernel
theorem dX1_word_0 : decode cX1_word 0 = .ok (.iconst 0, 1) := by decide +kernel
theorem dX1_word_1 : decode cX1_word 1 = .ok (.istore_n 2, 1) := by decide +kernel
theorem dX1_word_2 : decode cX1_word 2 = .ok (.iconst 0, 1) := by decide +kernel
theorem dX1_word_3 : decode cX1_word 3 = .ok (.istore_n 3, 1) := by decide +kernel
theorem dX1_word_4 : decode cX1_word 4 = .ok (.iload_n 3, 1) := by decide +kernel
theorem dX1_word_5 : decode cX1_word 5 = .ok (.iconst 5, 1) := by decide +kernel
theorem dX1_word_6 : decode cX1_word 6 = .ok (.if_icmp .ge 54, 3) := by decide +kernel
theorem dX1_word_9 : decode cX1_word 9 = .ok (.iload_n 3, 1) := by decide +kernel
theorem dX1_word_10 : decode cX1_word 10 = .ok (.invokestatic 67, 3) := by decide +kernel
theorem dX1_word_13 : decode cX1_word 13 = .ok (.astore 4, 2) := by decide +kernel
theorem dX1_word_15 : decode cX1_word 15 = .ok (.aload_n 0, 1) := by decide +kernel
theorem dX1_word_16 : decode cX1_word 16 = .ok (.aload_n 1, 1) := by decide +kernel
theorem dX1_word_17 : decode cX1_word 17 = .ok (.aload 4, 2) := by decide +kernel
theorem dX1_word_19 : decode cX1_word 19 = .ok (.invokevirtual 71, 3) := by decide +kernel
theorem dX1_word_22 : decode cX1_word 22 = .ok (.istore 5, 2) := by decide +kernel
theorem dX1_word_24 : decode cX1_word 24 = .ok (.iload 5, 2) := by decide +kernel
theorem dX1_word_26 : decode cX1_word 26 = .ok (.aload 4, 2) := by decide +kernel
theorem dX1_word_28 : decode cX1_word 28 = .ok (.invokevirtual 75, 3) := by decide +kernel
theorem dX1_word_31 : decode cX1_word 31 = .ok (.if_icmp .ne 16, 3) := by decide +kernel
theorem dX1_word_34 : decode cX1_word 34 = .ok (.aload_n 0, 1) := by decide +kernel
theorem dX1_word_35 : decode cX1_word 35 = .ok (.dup, 1) := by decide +kernel
theorem dX1_word_36 : decode cX1_word 36 = .ok (.getfield 37, 3) := by decide +kernel
theorem dX1_word_39 : decode cX1_word 39 = .ok (.iload 5, 2) := by decide +kernel
theorem dX1_word_41 : decode cX1_word 41 = .ok (.iadd, 1) := by decide +kernel
theorem dX1_word_42 : decode cX1_word 42 = .ok (.putfield 37, 3) := by decide +kernel
theorem dX1_word_45 : decode cX1_word 45 = .ok (.iload_n 3, 1) := by decide +kernel
theorem dX1_word_46 : decode cX1_word 46 = .ok (.ireturn, 1) := by decide +kernel
theorem dX1_word_47 : decode cX1_word 47 = .ok (.iload_n 2, 1) := by decide +kernel
theorem dX1_word_48 : decode cX1_word 48 = .ok (.iload 5, 2) := by decide +kernel
theorem dX1_word_50 : decode cX1_word 50 = .ok (.invokestatic 81, 3) := by decide +kernel
theorem dX1_word_53 : decode cX1_word 53 = .ok (.istore_n 2, 1) := by decide +kernel
theorem dX1_word_54 : decode cX1_word 54 = .ok (.iinc 3 1, 3) := by decide +kernel
theorem dX1_word_57 : decode cX1_word 57 = .ok (.goto (-53), 3) := by decide +kernel
theorem dX1_word_60 : decode cX1_word 60 = .ok (.aload_n 0, 1) := by decide +kernel
theorem dX1_word_61 : decode cX1_word 61 = .ok (.dup, 1) := by decide +kernel
theorem dX1_word_62 : decode cX1_word 62 = .ok (.getfield 37, 3) := by decide +kernel
theorem dX1_word_65 : decode cX1_word 65 = .ok (.iload_n 2, 1) := by decide +kernel
theorem dX1_word_66 : decode cX1_word 66 = .ok (.iadd, 1) := by decide +kernel
theorem dX1_word_67 : decode cX1_word 67 = .ok (.putfield 37, 3) := by decide +kernel
theorem dX1_word_70 : decode cX1_word 70 = .ok (.iconst (-1), 1) := by decide +kernel
theorem dX1_word_71 : decode cX1_word 71 = .ok (.ireturn, 1) := by decide +kernel
theorem dX1_spelling_0 : decode cX1_spelling 0 = .ok (.iload_n 0, 1) := by decide +kernel
theorem dX1_spelling_1 : decode cX1_spelling 1 = .ok (.tableswitch 43 0 3 #[31, 34, 37, 40], 31) := by decide +kernel
theorem dX1_spelling_32 : decode cX1_spelling 32 = .ok (.ldc 87, 2) := by decide +kernel
theorem dX1_spelling_34 : decode cX1_spelling 34 = .ok (.areturn, 1) := by decide +kernel
theorem dX1_spelling_35 : decode cX1_spelling 35 = .ok (.ldc 89, 2) := by decide +kernel
theorem dX1_spelling_37 : decode cX1_spelling 37 = .ok (.areturn, 1) := by decide +kernel
theorem dX1_spelling_38 : decode cX1_spelling 38 = .ok (.ldc 91, 2) := by decide +kernel
theorem dX1_spelling_40 : decode cX1_spelling 40 = .ok (.areturn, 1) := by decide +kernel
theorem dX1_spelling_41 : decode cX1_spelling 41 = .ok (.ldc 93, 2) := by decide +kernel
theorem dX1_spelling_43 : decode cX1_spelling 43 = .ok (.areturn, 1) := by decide +kernel
theorem dX1_spelling_44 : decode cX1_spelling 44 = .ok (.ldc 95, 2) := by decide +kernel
theorem dX1_spelling_46 : decode cX1_spelling 46 = .ok (.areturn, 1) := by decide +kernel
theorem dX1_alike_0 : decode cX1_alike 0 = .ok (.iconst 0, 1) := by decide +kernel
theorem dX1_alike_1 : decode cX1_alike 1 = .ok (.istore_n 3, 1) := by decide +kernel
theorem dX1_alike_2 : decode cX1_alike 2 = .ok (.iload_n 3, 1) := by decide +kernel
theorem dX1_alike_3 : decode cX1_alike 3 = .ok (.aload_n 2, 1) := by decide +kernel
theorem dX1_alike_4 : decode cX1_alike 4 = .ok (.invokevirtual 75, 3) := by decide +kernel
theorem dX1_alike_7 : decode cX1_alike 7 = .ok (.if_icmp .ge 27, 3) := by decide +kernel
theorem dX1_alike_10 : decode cX1_alike 10 = .ok (.aload_n 1, 1) := by decide +kernel
theorem dX1_alike_11 : decode cX1_alike 11 = .ok (.aload_n 0, 1) := by decide +kernel
theorem dX1_alike_12 : decode cX1_alike 12 = .ok (.getfield 37, 3) := by decide +kernel
theorem dX1_alike_15 : decode cX1_alike 15 = .ok (.iload_n 3, 1) := by decide +kernel
theorem dX1_alike_16 : decode cX1_alike 16 = .ok (.iadd, 1) := by decide +kernel
theorem dX1_alike_17 : decode cX1_alike 17 = .ok (.invokevirtual 49, 3) := by decide +kernel
theorem dX1_alike_20 : decode cX1_alike 20 = .ok (.aload_n 2, 1) := by decide +kernel
theorem dX1_alike_21 : decode cX1_alike 21 = .ok (.iload_n 3, 1) := by decide +kernel
theorem dX1_alike_22 : decode cX1_alike 22 = .ok (.invokevirtual 97, 3) := by decide +kernel
theorem dX1_alike_25 : decode cX1_alike 25 = .ok (.if_icmp .ne 9, 3) := by decide +kernel
theorem dX1_alike_28 : decode cX1_alike 28 = .ok (.iinc 3 1, 3) := by decide +kernel
theorem dX1_alike_31 : decode cX1_alike 31 = .ok (.goto (-29), 3) := by decide +kernel
theorem dX1_alike_34 : decode cX1_alike 34 = .ok (.iload_n 3, 1) := by decide +kernel
theorem dX1_alike_35 : decode cX1_alike 35 = .ok (.ireturn, 1) := by decide +kernel
theorem dX1_skip_0 : decode cX1_skip 0 = .ok (.aload_n 1, 1) := by decide +kernel
theorem dX1_skip_1 : decode cX1_skip 1 = .ok (.aload_n 0, 1) := by decide +kernel
theorem dX1_skip_2 : decode cX1_skip 2 = .ok (.getfield 37, 3) := by decide +kernel
theorem dX1_skip_5 : decode cX1_skip 5 = .ok (.invokevirtual 49, 3) := by decide +kernel
theorem dX1_skip_8 : decode cX1_skip 8 = .ok (.iload_n 2, 1) := by decide +kernel
theorem dX1_skip_9 : decode cX1_skip 9 = .ok (.if_icmp .eq 5, 3) := by decide +kernel
theorem dX1_skip_12 : decode cX1_skip 12 = .ok (.iconst 0, 1) := by decide +kernel
theorem dX1_skip_13 : decode cX1_skip 13 = .ok (.ireturn, 1) := by decide +kernel
theorem dX1_skip_14 : decode cX1_skip 14 = .ok (.aload_n 0, 1) := by decide +kernel
theorem dX1_skip_15 : decode cX1_skip 15 = .ok (.dup, 1) := by decide +kernel
theorem dX1_skip_16 : decode cX1_skip 16 = .ok (.getfield 37, 3) := by decide +kernel
theorem dX1_skip_19 : decode cX1_skip 19 = .ok (.iconst 1, 1) := by decide +kernel
theorem dX1_skip_20 : decode cX1_skip 20 = .ok (.iadd, 1) := by decide +kernel
theorem dX1_skip_21 : decode cX1_skip 21 = .ok (.putfield 37, 3) := by decide +kernel
theorem dX1_skip_24 : decode cX1_skip 24 = .ok (.iconst 1, 1) := by decide +kernel
theorem dX1_skip_25 : decode cX1_skip 25 = .ok (.ireturn, 1) := by decide +kernel
theorem dX1_number_0 : decode cX1_number 0 = .ok (.aload_n 1, 1) := by decide +kernel
theorem dX1_number_1 : decode cX1_number 1 = .ok (.aload_n 0, 1) := by decide +kernel
theorem dX1_number_2 : decode cX1_number 2 = .ok (.getfield 37, 3) := by decide +kernel
theorem dX1_number_5 : decode cX1_number 5 = .ok (.invokevirtual 49, 3) := by decide +kernel
theorem dX1_number_8 : decode cX1_number 8 = .ok (.invokestatic 101, 3) := by decide +kernel
theorem dX1_number_11 : decode cX1_number 11 = .ok (.ifCond .ne 5, 3) := by decide +kernel
theorem dX1_number_14 : decode cX1_number 14 = .ok (.iconst (-1), 1) := by decide +kernel
theorem dX1_number_15 : decode cX1_number 15 = .ok (.ireturn, 1) := by decide +kernel
theorem dX1_number_16 : decode cX1_number 16 = .ok (.aload_n 1, 1) := by decide +kernel
theorem dX1_number_17 : decode cX1_number 17 = .ok (.aload_n 0, 1) := by decide +kernel
theorem dX1_number_18 : decode cX1_number 18 = .ok (.getfield 37, 3) := by decide +kernel
theorem dX1_number_21 : decode cX1_number 21 = .ok (.invokevirtual 49, 3) := by decide +kernel
theorem dX1_number_24 : decode cX1_number 24 = .ok (.bipush 48, 2) := by decide +kernel
theorem dX1_number_26 : decode cX1_number 26 = .ok (.isub, 1) := by decide +kernel
theorem dX1_number_27 : decode cX1_number 27 = .ok (.istore_n 2, 1) := by decide +kernel
theorem dX1_number_28 : decode cX1_number 28 = .ok (.aload_n 0, 1) := by decide +kernel
theorem dX1_number_29 : decode cX1_number 29 = .ok (.dup, 1) := by decide +kernel
theorem dX1_number_30 : decode cX1_number 30 = .ok (.getfield 37, 3) := by decide +kernel
theorem dX1_number_33 : decode cX1_number 33 = .ok (.iconst 1, 1) := by decide +kernel
theorem dX1_number_34 : decode cX1_number 34 = .ok (.iadd, 1) := by decide +kernel
theorem dX1_number_35 : decode cX1_number 35 = .ok (.putfield 37, 3) := by decide +kernel
theorem dX1_number_38 : decode cX1_number 38 = .ok (.aload_n 1, 1) := by decide +kernel
theorem dX1_number_39 : decode cX1_number 39 = .ok (.aload_n 0, 1) := by decide +kernel
theorem dX1_number_40 : decode cX1_number 40 = .ok (.getfield 37, 3) := by decide +kernel
theorem dX1_number_43 : decode cX1_number 43 = .ok (.invokevirtual 49, 3) := by decide +kernel
theorem dX1_number_46 : decode cX1_number 46 = .ok (.invokestatic 101, 3) := by decide +kernel
theorem dX1_number_49 : decode cX1_number 49 = .ok (.ifCond .eq 30, 3) := by decide +kernel
theorem dX1_number_52 : decode cX1_number 52 = .ok (.bipush 10, 2) := by decide +kernel
theorem dX1_number_54 : decode cX1_number 54 = .ok (.iload_n 2, 1) := by decide +kernel
theorem dX1_number_55 : decode cX1_number 55 = .ok (.imul, 1) := by decide +kernel
theorem dX1_number_56 : decode cX1_number 56 = .ok (.aload_n 1, 1) := by decide +kernel
theorem dX1_number_57 : decode cX1_number 57 = .ok (.aload_n 0, 1) := by decide +kernel
theorem dX1_number_58 : decode cX1_number 58 = .ok (.getfield 37, 3) := by decide +kernel
theorem dX1_number_61 : decode cX1_number 61 = .ok (.invokevirtual 49, 3) := by decide +kernel
theorem dX1_number_64 : decode cX1_number 64 = .ok (.iadd, 1) := by decide +kernel
theorem dX1_number_65 : decode cX1_number 65 = .ok (.bipush 48, 2) := by decide +kernel
theorem dX1_number_67 : decode cX1_number 67 = .ok (.isub, 1) := by decide +kernel
theorem dX1_number_68 : decode cX1_number 68 = .ok (.istore_n 2, 1) := by decide +kernel
theorem dX1_number_69 : decode cX1_number 69 = .ok (.aload_n 0, 1) := by decide +kernel
theorem dX1_number_70 : decode cX1_number 70 = .ok (.dup, 1) := by decide +kernel
theorem dX1_number_71 : decode cX1_number 71 = .ok (.getfield 37, 3) := by decide +kernel
theorem dX1_number_74 : decode cX1_number 74 = .ok (.iconst 1, 1) := by decide +kernel
theorem dX1_number_75 : decode cX1_number 75 = .ok (.iadd, 1) := by decide +kernel
theorem dX1_number_76 : decode cX1_number 76 = .ok (.putfield 37, 3) := by decide +kernel
theorem dX1_number_79 : decode cX1_number 79 = .ok (.iload_n 2, 1) := by decide +kernel
theorem dX1_number_80 : decode cX1_number 80 = .ok (.ireturn, 1) := by decide +kernel
theorem dX1_isDigit_0 : decode cX1_isDigit 0 = .ok (.iload_n 0, 1) := by decide +kernel
theorem dX1_isDigit_1 : decode cX1_isDigit 1 = .ok (.bipush 48, 2) := by decide +kernel
theorem dX1_isDigit_3 : decode cX1_isDigit 3 = .ok (.if_icmp .lt 13, 3) := by decide +kernel
theorem dX1_isDigit_6 : decode cX1_isDigit 6 = .ok (.iload_n 0, 1) := by decide +kernel
theorem dX1_isDigit_7 : decode cX1_isDigit 7 = .ok (.bipush 57, 2) := by decide +kernel
theorem dX1_isDigit_9 : decode cX1_isDigit 9 = .ok (.if_icmp .gt 7, 3) := by decide +kernel
theorem dX1_isDigit_12 : decode cX1_isDigit 12 = .ok (.iconst 1, 1) := by decide +kernel
theorem dX1_isDigit_13 : decode cX1_isDigit 13 = .ok (.goto 4, 3) := by decide +kernel
theorem dX1_isDigit_16 : decode cX1_isDigit 16 = .ok (.iconst 0, 1) := by decide +kernel
theorem dX1_isDigit_17 : decode cX1_isDigit 17 = .ok (.ireturn, 1) := by decide +kernel
theorem dX1_either_0 : decode cX1_either 0 = .ok (.aload_n 0, 1) := by decide +kernel
theorem dX1_either_1 : decode cX1_either 1 = .ok (.aload_n 1, 1) := by decide +kernel
theorem dX1_either_2 : decode cX1_either 2 = .ok (.iload_n 2, 1) := by decide +kernel
theorem dX1_either_3 : decode cX1_either 3 = .ok (.invokevirtual 105, 3) := by decide +kernel
theorem dX1_either_6 : decode cX1_either 6 = .ok (.istore_n 3, 1) := by decide +kernel
theorem dX1_either_7 : decode cX1_either 7 = .ok (.iconst 0, 1) := by decide +kernel
theorem dX1_either_8 : decode cX1_either 8 = .ok (.istore 4, 2) := by decide +kernel
theorem dX1_either_10 : decode cX1_either 10 = .ok (.iload 4, 2) := by decide +kernel
theorem dX1_either_12 : decode cX1_either 12 = .ok (.bipush 100, 2) := by decide +kernel
theorem dX1_either_14 : decode cX1_either 14 = .ok (.if_icmp .ge 47, 3) := by decide +kernel
theorem dX1_either_17 : decode cX1_either 17 = .ok (.iload_n 3, 1) := by decide +kernel
theorem dX1_either_18 : decode cX1_either 18 = .ok (.ifCond .eq 43, 3) := by decide +kernel
theorem dX1_either_21 : decode cX1_either 21 = .ok (.aload_n 0, 1) := by decide +kernel
theorem dX1_either_22 : decode cX1_either 22 = .ok (.aload_n 1, 1) := by decide +kernel
theorem dX1_either_23 : decode cX1_either 23 = .ok (.bipush 124, 2) := by decide +kernel
theorem dX1_either_25 : decode cX1_either 25 = .ok (.invokevirtual 57, 3) := by decide +kernel
theorem dX1_either_28 : decode cX1_either 28 = .ok (.ifCond .eq 33, 3) := by decide +kernel
theorem dX1_either_31 : decode cX1_either 31 = .ok (.aload_n 0, 1) := by decide +kernel
theorem dX1_either_32 : decode cX1_either 32 = .ok (.aload_n 1, 1) := by decide +kernel
theorem dX1_either_33 : decode cX1_either 33 = .ok (.iload_n 2, 1) := by decide +kernel
theorem dX1_either_34 : decode cX1_either 34 = .ok (.invokevirtual 105, 3) := by decide +kernel
theorem dX1_either_37 : decode cX1_either 37 = .ok (.ifCond .eq 16, 3) := by decide +kernel
theorem dX1_either_40 : decode cX1_either 40 = .ok (.aload_n 0, 1) := by decide +kernel
theorem dX1_either_41 : decode cX1_either 41 = .ok (.bipush (-2), 2) := by decide +kernel
theorem dX1_either_43 : decode cX1_either 43 = .ok (.invokevirtual 108, 3) := by decide +kernel
theorem dX1_either_46 : decode cX1_either 46 = .ok (.ifCond .eq 7, 3) := by decide +kernel
theorem dX1_either_49 : decode cX1_either 49 = .ok (.iconst 1, 1) := by decide +kernel
theorem dX1_either_50 : decode cX1_either 50 = .ok (.goto 4, 3) := by decide +kernel
theorem dX1_either_53 : decode cX1_either 53 = .ok (.iconst 0, 1) := by decide +kernel
theorem dX1_either_54 : decode cX1_either 54 = .ok (.istore_n 3, 1) := by decide +kernel
theorem dX1_either_55 : decode cX1_either 55 = .ok (.iinc 4 1, 3) := by decide +kernel
theorem dX1_either_58 : decode cX1_either 58 = .ok (.goto (-48), 3) := by decide +kernel
theorem dX1_either_61 : decode cX1_either 61 = .ok (.iload_n 3, 1) := by decide +kernel
theorem dX1_either_62 : decode cX1_either 62 = .ok (.ireturn, 1) := by decide +kernel
theorem dX1_both_0 : decode cX1_both 0 = .ok (.aload_n 0, 1) := by decide +kernel
theorem dX1_both_1 : decode cX1_both 1 = .ok (.aload_n 1, 1) := by decide +kernel
theorem dX1_both_2 : decode cX1_both 2 = .ok (.iload_n 2, 1) := by decide +kernel
theorem dX1_both_3 : decode cX1_both 3 = .ok (.invokevirtual 111, 3) := by decide +kernel
theorem dX1_both_6 : decode cX1_both 6 = .ok (.istore_n 3, 1) := by decide +kernel
theorem dX1_both_7 : decode cX1_both 7 = .ok (.iconst 0, 1) := by decide +kernel
theorem dX1_both_8 : decode cX1_both 8 = .ok (.istore 4, 2) := by decide +kernel
theorem dX1_both_10 : decode cX1_both 10 = .ok (.iload 4, 2) := by decide +kernel
theorem dX1_both_12 : decode cX1_both 12 = .ok (.bipush 100, 2) := by decide +kernel
theorem dX1_both_14 : decode cX1_both 14 = .ok (.if_icmp .ge 46, 3) := by decide +kernel
theorem dX1_both_17 : decode cX1_both 17 = .ok (.iload_n 3, 1) := by decide +kernel
theorem dX1_both_18 : decode cX1_both 18 = .ok (.ifCond .eq 42, 3) := by decide +kernel
theorem dX1_both_21 : decode cX1_both 21 = .ok (.aload_n 0, 1) := by decide +kernel
theorem dX1_both_22 : decode cX1_both 22 = .ok (.aload_n 1, 1) := by decide +kernel
theorem dX1_both_23 : decode cX1_both 23 = .ok (.bipush 38, 2) := by decide +kernel
theorem dX1_both_25 : decode cX1_both 25 = .ok (.invokevirtual 57, 3) := by decide +kernel
theorem dX1_both_28 : decode cX1_both 28 = .ok (.ifCond .eq 32, 3) := by decide +kernel
theorem dX1_both_31 : decode cX1_both 31 = .ok (.aload_n 0, 1) := by decide +kernel
theorem dX1_both_32 : decode cX1_both 32 = .ok (.aload_n 1, 1) := by decide +kernel
theorem dX1_both_33 : decode cX1_both 33 = .ok (.iload_n 2, 1) := by decide +kernel
theorem dX1_both_34 : decode cX1_both 34 = .ok (.invokevirtual 111, 3) := by decide +kernel
theorem dX1_both_37 : decode cX1_both 37 = .ok (.ifCond .eq 15, 3) := by decide +kernel
theorem dX1_both_40 : decode cX1_both 40 = .ok (.aload_n 0, 1) := by decide +kernel
theorem dX1_both_41 : decode cX1_both 41 = .ok (.iconst (-1), 1) := by decide +kernel
theorem dX1_both_42 : decode cX1_both 42 = .ok (.invokevirtual 108, 3) := by decide +kernel
theorem dX1_both_45 : decode cX1_both 45 = .ok (.ifCond .eq 7, 3) := by decide +kernel
theorem dX1_both_48 : decode cX1_both 48 = .ok (.iconst 1, 1) := by decide +kernel
theorem dX1_both_49 : decode cX1_both 49 = .ok (.goto 4, 3) := by decide +kernel
theorem dX1_both_52 : decode cX1_both 52 = .ok (.iconst 0, 1) := by decide +kernel
theorem dX1_both_53 : decode cX1_both 53 = .ok (.istore_n 3, 1) := by decide +kernel
theorem dX1_both_54 : decode cX1_both 54 = .ok (.iinc 4 1, 3) := by decide +kernel
theorem dX1_both_57 : decode cX1_both 57 = .ok (.goto (-47), 3) := by decide +kernel
theorem dX1_both_60 : decode cX1_both 60 = .ok (.iload_n 3, 1) := by decide +kernel
theorem dX1_both_61 : decode cX1_both 61 = .ok (.ireturn, 1) := by decide +kernel
theorem dX1_unit_0 : decode cX1_unit 0 = .ok (.iload_n 2, 1) := by decide +kernel
theorem dX1_unit_1 : decode cX1_unit 1 = .ok (.iconst 4, 1) := by decide +kernel
theorem dX1_unit_2 : decode cX1_unit 2 = .ok (.if_icmp .ge 22, 3) := by decide +kernel
theorem dX1_unit_5 : decode cX1_unit 5 = .ok (.aload_n 0, 1) := by decide +kernel
theorem dX1_unit_6 : decode cX1_unit 6 = .ok (.aload_n 1, 1) := by decide +kernel
theorem dX1_unit_7 : decode cX1_unit 7 = .ok (.bipush 33, 2) := by decide +kernel
theorem dX1_unit_9 : decode cX1_unit 9 = .ok (.invokevirtual 57, 3) := by decide +kernel
theorem dX1_unit_12 : decode cX1_unit 12 = .ok (.ifCond .eq 12, 3) := by decide +kernel
theorem dX1_unit_15 : decode cX1_unit 15 = .ok (.aload_n 0, 1) := by decide +kernel
theorem dX1_unit_16 : decode cX1_unit 16 = .ok (.aload_n 1, 1) := by decide +kernel
theorem dX1_unit_17 : decode cX1_unit 17 = .ok (.iload_n 2, 1) := by decide +kernel
theorem dX1_unit_18 : decode cX1_unit 18 = .ok (.iconst 1, 1) := by decide +kernel
theorem dX1_unit_19 : decode cX1_unit 19 = .ok (.iadd, 1) := by decide +kernel
theorem dX1_unit_20 : decode cX1_unit 20 = .ok (.invokevirtual 114, 3) := by decide +kernel
theorem dX1_unit_23 : decode cX1_unit 23 = .ok (.ireturn, 1) := by decide +kernel
theorem dX1_unit_24 : decode cX1_unit 24 = .ok (.iload_n 2, 1) := by decide +kernel
theorem dX1_unit_25 : decode cX1_unit 25 = .ok (.iconst 4, 1) := by decide +kernel
theorem dX1_unit_26 : decode cX1_unit 26 = .ok (.if_icmp .ge 40, 3) := by decide +kernel
theorem dX1_unit_29 : decode cX1_unit 29 = .ok (.aload_n 0, 1) := by decide +kernel
theorem dX1_unit_30 : decode cX1_unit 30 = .ok (.aload_n 1, 1) := by decide +kernel
theorem dX1_unit_31 : decode cX1_unit 31 = .ok (.bipush 40, 2) := by decide +kernel
theorem dX1_unit_33 : decode cX1_unit 33 = .ok (.invokevirtual 57, 3) := by decide +kernel
theorem dX1_unit_36 : decode cX1_unit 36 = .ok (.ifCond .eq 30, 3) := by decide +kernel
theorem dX1_unit_39 : decode cX1_unit 39 = .ok (.aload_n 0, 1) := by decide +kernel
theorem dX1_unit_40 : decode cX1_unit 40 = .ok (.aload_n 1, 1) := by decide +kernel
theorem dX1_unit_41 : decode cX1_unit 41 = .ok (.iload_n 2, 1) := by decide +kernel
theorem dX1_unit_42 : decode cX1_unit 42 = .ok (.iconst 1, 1) := by decide +kernel
theorem dX1_unit_43 : decode cX1_unit 43 = .ok (.iadd, 1) := by decide +kernel
theorem dX1_unit_44 : decode cX1_unit 44 = .ok (.invokevirtual 64, 3) := by decide +kernel
theorem dX1_unit_47 : decode cX1_unit 47 = .ok (.ifCond .eq 17, 3) := by decide +kernel
theorem dX1_unit_50 : decode cX1_unit 50 = .ok (.aload_n 0, 1) := by decide +kernel
theorem dX1_unit_51 : decode cX1_unit 51 = .ok (.aload_n 1, 1) := by decide +kernel
theorem dX1_unit_52 : decode cX1_unit 52 = .ok (.bipush 41, 2) := by decide +kernel
theorem dX1_unit_54 : decode cX1_unit 54 = .ok (.invokevirtual 57, 3) := by decide +kernel
theorem dX1_unit_57 : decode cX1_unit 57 = .ok (.ifCond .eq 7, 3) := by decide +kernel
theorem dX1_unit_60 : decode cX1_unit 60 = .ok (.iconst 1, 1) := by decide +kernel
theorem dX1_unit_61 : decode cX1_unit 61 = .ok (.goto 4, 3) := by decide +kernel
theorem dX1_unit_64 : decode cX1_unit 64 = .ok (.iconst 0, 1) := by decide +kernel
theorem dX1_unit_65 : decode cX1_unit 65 = .ok (.ireturn, 1) := by decide +kernel
theorem dX1_unit_66 : decode cX1_unit 66 = .ok (.aload_n 0, 1) := by decide +kernel
theorem dX1_unit_67 : decode cX1_unit 67 = .ok (.aload_n 1, 1) := by decide +kernel
theorem dX1_unit_68 : decode cX1_unit 68 = .ok (.ldc 117, 2) := by decide +kernel
theorem dX1_unit_70 : decode cX1_unit 70 = .ok (.invokevirtual 119, 3) := by decide +kernel
theorem dX1_unit_73 : decode cX1_unit 73 = .ok (.istore_n 3, 1) := by decide +kernel
theorem dX1_unit_74 : decode cX1_unit 74 = .ok (.iload_n 3, 1) := by decide +kernel
theorem dX1_unit_75 : decode cX1_unit 75 = .ok (.iconst (-1), 1) := by decide +kernel
theorem dX1_unit_76 : decode cX1_unit 76 = .ok (.if_icmp .ne 7, 3) := by decide +kernel
theorem dX1_unit_79 : decode cX1_unit 79 = .ok (.iconst (-1), 1) := by decide +kernel
theorem dX1_unit_80 : decode cX1_unit 80 = .ok (.goto 10, 3) := by decide +kernel
theorem dX1_unit_83 : decode cX1_unit 83 = .ok (.aload_n 0, 1) := by decide +kernel
theorem dX1_unit_84 : decode cX1_unit 84 = .ok (.aload_n 1, 1) := by decide +kernel
theorem dX1_unit_85 : decode cX1_unit 85 = .ok (.ldc 122, 2) := by decide +kernel
theorem dX1_unit_87 : decode cX1_unit 87 = .ok (.invokevirtual 119, 3) := by decide +kernel
theorem dX1_unit_90 : decode cX1_unit 90 = .ok (.istore 4, 2) := by decide +kernel
theorem dX1_unit_92 : decode cX1_unit 92 = .ok (.iload 4, 2) := by decide +kernel
theorem dX1_unit_94 : decode cX1_unit 94 = .ok (.iconst (-1), 1) := by decide +kernel
theorem dX1_unit_95 : decode cX1_unit 95 = .ok (.if_icmp .ne 7, 3) := by decide +kernel
theorem dX1_unit_98 : decode cX1_unit 98 = .ok (.iconst (-1), 1) := by decide +kernel
theorem dX1_unit_99 : decode cX1_unit 99 = .ok (.goto 8, 3) := by decide +kernel
theorem dX1_unit_102 : decode cX1_unit 102 = .ok (.aload_n 0, 1) := by decide +kernel
theorem dX1_unit_103 : decode cX1_unit 103 = .ok (.aload_n 1, 1) := by decide +kernel
theorem dX1_unit_104 : decode cX1_unit 104 = .ok (.invokevirtual 61, 3) := by decide +kernel
theorem dX1_unit_107 : decode cX1_unit 107 = .ok (.istore 5, 2) := by decide +kernel
theorem dX1_unit_109 : decode cX1_unit 109 = .ok (.iload 5, 2) := by decide +kernel
theorem dX1_unit_111 : decode cX1_unit 111 = .ok (.iconst (-1), 1) := by decide +kernel
theorem dX1_unit_112 : decode cX1_unit 112 = .ok (.if_icmp .eq 26, 3) := by decide +kernel
theorem dX1_unit_115 : decode cX1_unit 115 = .ok (.aload_n 0, 1) := by decide +kernel
theorem dX1_unit_116 : decode cX1_unit 116 = .ok (.iload_n 3, 1) := by decide +kernel
theorem dX1_unit_117 : decode cX1_unit 117 = .ok (.iconst 3, 1) := by decide +kernel
theorem dX1_unit_118 : decode cX1_unit 118 = .ok (.imul, 1) := by decide +kernel
theorem dX1_unit_119 : decode cX1_unit 119 = .ok (.iload 4, 2) := by decide +kernel
theorem dX1_unit_121 : decode cX1_unit 121 = .ok (.iadd, 1) := by decide +kernel
theorem dX1_unit_122 : decode cX1_unit 122 = .ok (.bipush 100, 2) := by decide +kernel
theorem dX1_unit_124 : decode cX1_unit 124 = .ok (.imul, 1) := by decide +kernel
theorem dX1_unit_125 : decode cX1_unit 125 = .ok (.iload 5, 2) := by decide +kernel
theorem dX1_unit_127 : decode cX1_unit 127 = .ok (.iadd, 1) := by decide +kernel
theorem dX1_unit_128 : decode cX1_unit 128 = .ok (.invokevirtual 108, 3) := by decide +kernel
theorem dX1_unit_131 : decode cX1_unit 131 = .ok (.ifCond .eq 7, 3) := by decide +kernel
theorem dX1_unit_134 : decode cX1_unit 134 = .ok (.iconst 1, 1) := by decide +kernel
theorem dX1_unit_135 : decode cX1_unit 135 = .ok (.goto 4, 3) := by decide +kernel
theorem dX1_unit_138 : decode cX1_unit 138 = .ok (.iconst 0, 1) := by decide +kernel
theorem dX1_unit_139 : decode cX1_unit 139 = .ok (.ireturn, 1) := by decide +kernel
theorem dX1_negated_0 : decode cX1_negated 0 = .ok (.aload_n 0, 1) := by decide +kernel
theorem dX1_negated_1 : decode cX1_negated 1 = .ok (.aload_n 1, 1) := by decide +kernel
theorem dX1_negated_2 : decode cX1_negated 2 = .ok (.iload_n 2, 1) := by decide +kernel
theorem dX1_negated_3 : decode cX1_negated 3 = .ok (.invokevirtual 111, 3) := by decide +kernel
theorem dX1_negated_6 : decode cX1_negated 6 = .ok (.ifCond .eq 16, 3) := by decide +kernel
theorem dX1_negated_9 : decode cX1_negated 9 = .ok (.aload_n 0, 1) := by decide +kernel
theorem dX1_negated_10 : decode cX1_negated 10 = .ok (.bipush (-3), 2) := by decide +kernel
theorem dX1_negated_12 : decode cX1_negated 12 = .ok (.invokevirtual 108, 3) := by decide +kernel
theorem dX1_negated_15 : decode cX1_negated 15 = .ok (.ifCond .eq 7, 3) := by decide +kernel
theorem dX1_negated_18 : decode cX1_negated 18 = .ok (.iconst 1, 1) := by decide +kernel
theorem dX1_negated_19 : decode cX1_negated 19 = .ok (.goto 4, 3) := by decide +kernel
theorem dX1_negated_22 : decode cX1_negated 22 = .ok (.iconst 0, 1) := by decide +kernel
theorem dX1_negated_23 : decode cX1_negated 23 = .ok (.ireturn, 1) := by decide +kernel
theorem dX1_oneOf_0 : decode cX1_oneOf 0 = .ok (.aload_n 1, 1) := by decide +kernel
theorem dX1_oneOf_1 : decode cX1_oneOf 1 = .ok (.aload_n 0, 1) := by decide +kernel
theorem dX1_oneOf_2 : decode cX1_oneOf 2 = .ok (.getfield 37, 3) := by decide +kernel
theorem dX1_oneOf_5 : decode cX1_oneOf 5 = .ok (.invokevirtual 49, 3) := by decide +kernel
theorem dX1_oneOf_8 : decode cX1_oneOf 8 = .ok (.istore_n 3, 1) := by decide +kernel
theorem dX1_oneOf_9 : decode cX1_oneOf 9 = .ok (.iload_n 3, 1) := by decide +kernel
theorem dX1_oneOf_10 : decode cX1_oneOf 10 = .ok (.ifCond .ge 5, 3) := by decide +kernel
theorem dX1_oneOf_13 : decode cX1_oneOf 13 = .ok (.iconst (-1), 1) := by decide +kernel
theorem dX1_oneOf_14 : decode cX1_oneOf 14 = .ok (.ireturn, 1) := by decide +kernel
theorem dX1_oneOf_15 : decode cX1_oneOf 15 = .ok (.aload_n 2, 1) := by decide +kernel
theorem dX1_oneOf_16 : decode cX1_oneOf 16 = .ok (.iload_n 3, 1) := by decide +kernel
theorem dX1_oneOf_17 : decode cX1_oneOf 17 = .ok (.i2c, 1) := by decide +kernel
theorem dX1_oneOf_18 : decode cX1_oneOf 18 = .ok (.invokevirtual 124, 3) := by decide +kernel
theorem dX1_oneOf_21 : decode cX1_oneOf 21 = .ok (.istore 4, 2) := by decide +kernel
theorem dX1_oneOf_23 : decode cX1_oneOf 23 = .ok (.iload 4, 2) := by decide +kernel
theorem dX1_oneOf_25 : decode cX1_oneOf 25 = .ok (.ifCond .lt 13, 3) := by decide +kernel
theorem dX1_oneOf_28 : decode cX1_oneOf 28 = .ok (.aload_n 0, 1) := by decide +kernel
theorem dX1_oneOf_29 : decode cX1_oneOf 29 = .ok (.dup, 1) := by decide +kernel
theorem dX1_oneOf_30 : decode cX1_oneOf 30 = .ok (.getfield 37, 3) := by decide +kernel
theorem dX1_oneOf_33 : decode cX1_oneOf 33 = .ok (.iconst 1, 1) := by decide +kernel
theorem dX1_oneOf_34 : decode cX1_oneOf 34 = .ok (.iadd, 1) := by decide +kernel
theorem dX1_oneOf_35 : decode cX1_oneOf 35 = .ok (.putfield 37, 3) := by decide +kernel
theorem dX1_oneOf_38 : decode cX1_oneOf 38 = .ok (.iload 4, 2) := by decide +kernel
theorem dX1_oneOf_40 : decode cX1_oneOf 40 = .ok (.ireturn, 1) := by decide +kernel
theorem dX1_addStep_0 : decode cX1_addStep 0 = .ok (.aload_n 0, 1) := by decide +kernel
theorem dX1_addStep_1 : decode cX1_addStep 1 = .ok (.getfield 34, 3) := by decide +kernel
theorem dX1_addStep_4 : decode cX1_addStep 4 = .ok (.ifCond .lt 15, 3) := by decide +kernel
theorem dX1_addStep_7 : decode cX1_addStep 7 = .ok (.aload_n 0, 1) := by decide +kernel
theorem dX1_addStep_8 : decode cX1_addStep 8 = .ok (.getfield 34, 3) := by decide +kernel
theorem dX1_addStep_11 : decode cX1_addStep 11 = .ok (.aload_n 0, 1) := by decide +kernel
theorem dX1_addStep_12 : decode cX1_addStep 12 = .ok (.getfield 24, 3) := by decide +kernel
theorem dX1_addStep_15 : decode cX1_addStep 15 = .ok (.arraylength, 1) := by decide +kernel
theorem dX1_addStep_16 : decode cX1_addStep 16 = .ok (.if_icmp .lt 5, 3) := by decide +kernel
theorem dX1_addStep_19 : decode cX1_addStep 19 = .ok (.iconst 0, 1) := by decide +kernel
theorem dX1_addStep_20 : decode cX1_addStep 20 = .ok (.ireturn, 1) := by decide +kernel
theorem dX1_addStep_21 : decode cX1_addStep 21 = .ok (.aload_n 0, 1) := by decide +kernel
theorem dX1_addStep_22 : decode cX1_addStep 22 = .ok (.getfield 24, 3) := by decide +kernel
theorem dX1_addStep_25 : decode cX1_addStep 25 = .ok (.aload_n 0, 1) := by decide +kernel
theorem dX1_addStep_26 : decode cX1_addStep 26 = .ok (.getfield 34, 3) := by decide +kernel
theorem dX1_addStep_29 : decode cX1_addStep 29 = .ok (.iload_n 1, 1) := by decide +kernel
theorem dX1_addStep_30 : decode cX1_addStep 30 = .ok (.iastore, 1) := by decide +kernel
theorem dX1_addStep_31 : decode cX1_addStep 31 = .ok (.aload_n 0, 1) := by decide +kernel
theorem dX1_addStep_32 : decode cX1_addStep 32 = .ok (.dup, 1) := by decide +kernel
theorem dX1_addStep_33 : decode cX1_addStep 33 = .ok (.getfield 34, 3) := by decide +kernel
theorem dX1_addStep_36 : decode cX1_addStep 36 = .ok (.iconst 1, 1) := by decide +kernel
theorem dX1_addStep_37 : decode cX1_addStep 37 = .ok (.iadd, 1) := by decide +kernel
theorem dX1_addStep_38 : decode cX1_addStep 38 = .ok (.putfield 34, 3) := by decide +kernel
theorem dX1_addStep_41 : decode cX1_addStep 41 = .ok (.iconst 1, 1) := by decide +kernel
theorem dX1_addStep_42 : decode cX1_addStep 42 = .ok (.ireturn, 1) := by decide +kernel
theorem dX1_tell_0 : decode cX1_tell 0 = .ok (.aload_n 1, 1) := by decide +kernel
theorem dX1_tell_1 : decode cX1_tell 1 = .ok (.aload_n 2, 1) := by decide +kernel
theorem dX1_tell_2 : decode cX1_tell 2 = .ok (.getfield 127, 3) := by decide +kernel
theorem dX1_tell_5 : decode cX1_tell 5 = .ok (.invokevirtual 131, 3) := by decide +kernel
theorem dX1_tell_8 : decode cX1_tell 8 = .ok (.istore 4, 2) := by decide +kernel
theorem dX1_tell_10 : decode cX1_tell 10 = .ok (.aload_n 0, 1) := by decide +kernel
theorem dX1_tell_11 : decode cX1_tell 11 = .ok (.aload_n 1, 1) := by decide +kernel
theorem dX1_tell_12 : decode cX1_tell 12 = .ok (.aload_n 2, 1) := by decide +kernel
theorem dX1_tell_13 : decode cX1_tell 13 = .ok (.invokevirtual 136, 3) := by decide +kernel
theorem dX1_tell_16 : decode cX1_tell 16 = .ok (.aload_n 3, 1) := by decide +kernel
theorem dX1_tell_17 : decode cX1_tell 17 = .ok (.iload 4, 2) := by decide +kernel
theorem dX1_tell_19 : decode cX1_tell 19 = .ok (.invokevirtual 140, 3) := by decide +kernel
theorem dX1_tell_22 : decode cX1_tell 22 = .ok (.iconst 0, 1) := by decide +kernel
theorem dX1_tell_23 : decode cX1_tell 23 = .ok (.istore 5, 2) := by decide +kernel
theorem dX1_tell_25 : decode cX1_tell 25 = .ok (.iconst 0, 1) := by decide +kernel
theorem dX1_tell_26 : decode cX1_tell 26 = .ok (.istore 6, 2) := by decide +kernel
theorem dX1_tell_28 : decode cX1_tell 28 = .ok (.iconst 0, 1) := by decide +kernel
theorem dX1_tell_29 : decode cX1_tell 29 = .ok (.istore 7, 2) := by decide +kernel
theorem dX1_tell_31 : decode cX1_tell 31 = .ok (.iconst 0, 1) := by decide +kernel
theorem dX1_tell_32 : decode cX1_tell 32 = .ok (.istore 8, 2) := by decide +kernel
theorem dX1_tell_34 : decode cX1_tell 34 = .ok (.iload 8, 2) := by decide +kernel
theorem dX1_tell_36 : decode cX1_tell 36 = .ok (.aload_n 0, 1) := by decide +kernel
theorem dX1_tell_37 : decode cX1_tell 37 = .ok (.getfield 30, 3) := by decide +kernel
theorem dX1_tell_40 : decode cX1_tell 40 = .ok (.if_icmp .ge 131, 3) := by decide +kernel
theorem dX1_tell_43 : decode cX1_tell 43 = .ok (.iload 8, 2) := by decide +kernel
theorem dX1_tell_45 : decode cX1_tell 45 = .ok (.aload_n 0, 1) := by decide +kernel
theorem dX1_tell_46 : decode cX1_tell 46 = .ok (.getfield 9, 3) := by decide +kernel
theorem dX1_tell_49 : decode cX1_tell 49 = .ok (.arraylength, 1) := by decide +kernel
theorem dX1_tell_50 : decode cX1_tell 50 = .ok (.if_icmp .ge 121, 3) := by decide +kernel
theorem dX1_tell_53 : decode cX1_tell 53 = .ok (.aload_n 0, 1) := by decide +kernel
theorem dX1_tell_54 : decode cX1_tell 54 = .ok (.aload_n 0, 1) := by decide +kernel
theorem dX1_tell_55 : decode cX1_tell 55 = .ok (.getfield 18, 3) := by decide +kernel
theorem dX1_tell_58 : decode cX1_tell 58 = .ok (.iload 8, 2) := by decide +kernel
theorem dX1_tell_60 : decode cX1_tell 60 = .ok (.iaload, 1) := by decide +kernel
theorem dX1_tell_61 : decode cX1_tell 61 = .ok (.aload_n 0, 1) := by decide +kernel
theorem dX1_tell_62 : decode cX1_tell 62 = .ok (.getfield 21, 3) := by decide +kernel
theorem dX1_tell_65 : decode cX1_tell 65 = .ok (.iload 8, 2) := by decide +kernel
theorem dX1_tell_67 : decode cX1_tell 67 = .ok (.iaload, 1) := by decide +kernel
theorem dX1_tell_68 : decode cX1_tell 68 = .ok (.invokevirtual 146, 3) := by decide +kernel
theorem dX1_tell_71 : decode cX1_tell 71 = .ok (.istore 9, 2) := by decide +kernel
theorem dX1_tell_73 : decode cX1_tell 73 = .ok (.aload_n 0, 1) := by decide +kernel
theorem dX1_tell_74 : decode cX1_tell 74 = .ok (.getfield 9, 3) := by decide +kernel
theorem dX1_tell_77 : decode cX1_tell 77 = .ok (.iload 8, 2) := by decide +kernel
theorem dX1_tell_79 : decode cX1_tell 79 = .ok (.iaload, 1) := by decide +kernel
theorem dX1_tell_80 : decode cX1_tell 80 = .ok (.ifCond .ne 22, 3) := by decide +kernel
theorem dX1_tell_83 : decode cX1_tell 83 = .ok (.iconst 1, 1) := by decide +kernel
theorem dX1_tell_84 : decode cX1_tell 84 = .ok (.istore 5, 2) := by decide +kernel
theorem dX1_tell_86 : decode cX1_tell 86 = .ok (.aload_n 3, 1) := by decide +kernel
theorem dX1_tell_87 : decode cX1_tell 87 = .ok (.iload 9, 2) := by decide +kernel
theorem dX1_tell_89 : decode cX1_tell 89 = .ok (.aload_n 0, 1) := by decide +kernel
theorem dX1_tell_90 : decode cX1_tell 90 = .ok (.getfield 15, 3) := by decide +kernel
theorem dX1_tell_93 : decode cX1_tell 93 = .ok (.iload 8, 2) := by decide +kernel
theorem dX1_tell_95 : decode cX1_tell 95 = .ok (.iaload, 1) := by decide +kernel
theorem dX1_tell_96 : decode cX1_tell 96 = .ok (.invokevirtual 149, 3) := by decide +kernel
theorem dX1_tell_99 : decode cX1_tell 99 = .ok (.goto 66, 3) := by decide +kernel
theorem dX1_tell_102 : decode cX1_tell 102 = .ok (.aload_n 0, 1) := by decide +kernel
theorem dX1_tell_103 : decode cX1_tell 103 = .ok (.getfield 9, 3) := by decide +kernel
theorem dX1_tell_106 : decode cX1_tell 106 = .ok (.iload 8, 2) := by decide +kernel
theorem dX1_tell_108 : decode cX1_tell 108 = .ok (.iaload, 1) := by decide +kernel
theorem dX1_tell_109 : decode cX1_tell 109 = .ok (.iconst 1, 1) := by decide +kernel
theorem dX1_tell_110 : decode cX1_tell 110 = .ok (.if_icmp .ne 22, 3) := by decide +kernel
theorem dX1_tell_113 : decode cX1_tell 113 = .ok (.iconst 1, 1) := by decide +kernel
theorem dX1_tell_114 : decode cX1_tell 114 = .ok (.istore 6, 2) := by decide +kernel
theorem dX1_tell_116 : decode cX1_tell 116 = .ok (.aload_n 3, 1) := by decide +kernel
theorem dX1_tell_117 : decode cX1_tell 117 = .ok (.iload 9, 2) := by decide +kernel
theorem dX1_tell_119 : decode cX1_tell 119 = .ok (.aload_n 0, 1) := by decide +kernel
theorem dX1_tell_120 : decode cX1_tell 120 = .ok (.getfield 15, 3) := by decide +kernel
theorem dX1_tell_123 : decode cX1_tell 123 = .ok (.iload 8, 2) := by decide +kernel
theorem dX1_tell_125 : decode cX1_tell 125 = .ok (.iaload, 1) := by decide +kernel
theorem dX1_tell_126 : decode cX1_tell 126 = .ok (.invokevirtual 153, 3) := by decide +kernel
theorem dX1_tell_129 : decode cX1_tell 129 = .ok (.goto 36, 3) := by decide +kernel
theorem dX1_tell_132 : decode cX1_tell 132 = .ok (.iload 7, 2) := by decide +kernel
theorem dX1_tell_134 : decode cX1_tell 134 = .ok (.ifCond .ne 31, 3) := by decide +kernel
theorem dX1_tell_137 : decode cX1_tell 137 = .ok (.iload 9, 2) := by decide +kernel
theorem dX1_tell_139 : decode cX1_tell 139 = .ok (.iload 4, 2) := by decide +kernel
theorem dX1_tell_141 : decode cX1_tell 141 = .ok (.ishr, 1) := by decide +kernel
theorem dX1_tell_142 : decode cX1_tell 142 = .ok (.iconst 1, 1) := by decide +kernel
theorem dX1_tell_143 : decode cX1_tell 143 = .ok (.iand, 1) := by decide +kernel
theorem dX1_tell_144 : decode cX1_tell 144 = .ok (.iconst 1, 1) := by decide +kernel
theorem dX1_tell_145 : decode cX1_tell 145 = .ok (.if_icmp .ne 20, 3) := by decide +kernel
theorem dX1_tell_148 : decode cX1_tell 148 = .ok (.iconst 1, 1) := by decide +kernel
theorem dX1_tell_149 : decode cX1_tell 149 = .ok (.istore 7, 2) := by decide +kernel
theorem dX1_tell_151 : decode cX1_tell 151 = .ok (.aload_n 3, 1) := by decide +kernel
theorem dX1_tell_152 : decode cX1_tell 152 = .ok (.aload_n 0, 1) := by decide +kernel
theorem dX1_tell_153 : decode cX1_tell 153 = .ok (.getfield 9, 3) := by decide +kernel
theorem dX1_tell_156 : decode cX1_tell 156 = .ok (.iload 8, 2) := by decide +kernel
theorem dX1_tell_158 : decode cX1_tell 158 = .ok (.iaload, 1) := by decide +kernel
theorem dX1_tell_159 : decode cX1_tell 159 = .ok (.invokestatic 156, 3) := by decide +kernel
theorem dX1_tell_162 : decode cX1_tell 162 = .ok (.putfield 159, 3) := by decide +kernel
theorem dX1_tell_165 : decode cX1_tell 165 = .ok (.iinc 8 1, 3) := by decide +kernel
theorem dX1_tell_168 : decode cX1_tell 168 = .ok (.goto (-134), 3) := by decide +kernel
theorem dX1_tell_171 : decode cX1_tell 171 = .ok (.aload_n 3, 1) := by decide +kernel
theorem dX1_tell_172 : decode cX1_tell 172 = .ok (.iload 5, 2) := by decide +kernel
theorem dX1_tell_174 : decode cX1_tell 174 = .ok (.iload 6, 2) := by decide +kernel
theorem dX1_tell_176 : decode cX1_tell 176 = .ok (.invokevirtual 162, 3) := by decide +kernel
theorem dX1_tell_179 : decode cX1_tell 179 = .ok (.return_, 1) := by decide +kernel
theorem dX1_setValues_0 : decode cX1_setValues 0 = .ok (.aload_n 0, 1) := by decide +kernel
theorem dX1_setValues_1 : decode cX1_setValues 1 = .ok (.getfield 27, 3) := by decide +kernel
theorem dX1_setValues_4 : decode cX1_setValues 4 = .ok (.iconst 0, 1) := by decide +kernel
theorem dX1_setValues_5 : decode cX1_setValues 5 = .ok (.aload_n 2, 1) := by decide +kernel
theorem dX1_setValues_6 : decode cX1_setValues 6 = .ok (.getfield 127, 3) := by decide +kernel
theorem dX1_setValues_9 : decode cX1_setValues 9 = .ok (.iastore, 1) := by decide +kernel
theorem dX1_setValues_10 : decode cX1_setValues 10 = .ok (.aload_n 0, 1) := by decide +kernel
theorem dX1_setValues_11 : decode cX1_setValues 11 = .ok (.getfield 27, 3) := by decide +kernel
theorem dX1_setValues_14 : decode cX1_setValues 14 = .ok (.iconst 1, 1) := by decide +kernel
theorem dX1_setValues_15 : decode cX1_setValues 15 = .ok (.aload_n 2, 1) := by decide +kernel
theorem dX1_setValues_16 : decode cX1_setValues 16 = .ok (.invokevirtual 166, 3) := by decide +kernel
theorem dX1_setValues_19 : decode cX1_setValues 19 = .ok (.iastore, 1) := by decide +kernel
theorem dX1_setValues_20 : decode cX1_setValues 20 = .ok (.aload_n 0, 1) := by decide +kernel
theorem dX1_setValues_21 : decode cX1_setValues 21 = .ok (.getfield 27, 3) := by decide +kernel
theorem dX1_setValues_24 : decode cX1_setValues 24 = .ok (.iconst 3, 1) := by decide +kernel
theorem dX1_setValues_25 : decode cX1_setValues 25 = .ok (.aload_n 1, 1) := by decide +kernel
theorem dX1_setValues_26 : decode cX1_setValues 26 = .ok (.aload_n 2, 1) := by decide +kernel
theorem dX1_setValues_27 : decode cX1_setValues 27 = .ok (.getfield 127, 3) := by decide +kernel
theorem dX1_setValues_30 : decode cX1_setValues 30 = .ok (.invokevirtual 169, 3) := by decide +kernel
theorem dX1_setValues_33 : decode cX1_setValues 33 = .ok (.bipush 10, 2) := by decide +kernel
theorem dX1_setValues_35 : decode cX1_setValues 35 = .ok (.irem, 1) := by decide +kernel
theorem dX1_setValues_36 : decode cX1_setValues 36 = .ok (.iastore, 1) := by decide +kernel
theorem dX1_setValues_37 : decode cX1_setValues 37 = .ok (.aload_n 0, 1) := by decide +kernel
theorem dX1_setValues_38 : decode cX1_setValues 38 = .ok (.getfield 27, 3) := by decide +kernel
theorem dX1_setValues_41 : decode cX1_setValues 41 = .ok (.iconst 4, 1) := by decide +kernel
theorem dX1_setValues_42 : decode cX1_setValues 42 = .ok (.aload_n 1, 1) := by decide +kernel
theorem dX1_setValues_43 : decode cX1_setValues 43 = .ok (.getfield 172, 3) := by decide +kernel
theorem dX1_setValues_46 : decode cX1_setValues 46 = .ok (.bipush 10, 2) := by decide +kernel
theorem dX1_setValues_48 : decode cX1_setValues 48 = .ok (.irem, 1) := by decide +kernel
theorem dX1_setValues_49 : decode cX1_setValues 49 = .ok (.iastore, 1) := by decide +kernel
theorem dX1_setValues_50 : decode cX1_setValues 50 = .ok (.aload_n 0, 1) := by decide +kernel
theorem dX1_setValues_51 : decode cX1_setValues 51 = .ok (.getfield 27, 3) := by decide +kernel
theorem dX1_setValues_54 : decode cX1_setValues 54 = .ok (.iconst 5, 1) := by decide +kernel
theorem dX1_setValues_55 : decode cX1_setValues 55 = .ok (.aload_n 1, 1) := by decide +kernel
theorem dX1_setValues_56 : decode cX1_setValues 56 = .ok (.getfield 175, 3) := by decide +kernel
theorem dX1_setValues_59 : decode cX1_setValues 59 = .ok (.bipush 10, 2) := by decide +kernel
theorem dX1_setValues_61 : decode cX1_setValues 61 = .ok (.irem, 1) := by decide +kernel
theorem dX1_setValues_62 : decode cX1_setValues 62 = .ok (.iastore, 1) := by decide +kernel
theorem dX1_setValues_63 : decode cX1_setValues 63 = .ok (.return_, 1) := by decide +kernel
theorem dX1_sideOf_0 : decode cX1_sideOf 0 = .ok (.iload_n 0, 1) := by decide +kernel
theorem dX1_sideOf_1 : decode cX1_sideOf 1 = .ok (.iconst 2, 1) := by decide +kernel
theorem dX1_sideOf_2 : decode cX1_sideOf 2 = .ok (.if_icmp .ne 5, 3) := by decide +kernel
theorem dX1_sideOf_5 : decode cX1_sideOf 5 = .ok (.iconst 0, 1) := by decide +kernel
theorem dX1_sideOf_6 : decode cX1_sideOf 6 = .ok (.ireturn, 1) := by decide +kernel
theorem dX1_sideOf_7 : decode cX1_sideOf 7 = .ok (.iload_n 0, 1) := by decide +kernel
theorem dX1_sideOf_8 : decode cX1_sideOf 8 = .ok (.iconst 3, 1) := by decide +kernel
theorem dX1_sideOf_9 : decode cX1_sideOf 9 = .ok (.if_icmp .ne 7, 3) := by decide +kernel
theorem dX1_sideOf_12 : decode cX1_sideOf 12 = .ok (.iconst 2, 1) := by decide +kernel
theorem dX1_sideOf_13 : decode cX1_sideOf 13 = .ok (.goto 4, 3) := by decide +kernel
theorem dX1_sideOf_16 : decode cX1_sideOf 16 = .ok (.iconst 1, 1) := by decide +kernel
theorem dX1_sideOf_17 : decode cX1_sideOf 17 = .ok (.ireturn, 1) := by decide +kernel
theorem dX1_holds_0 : decode cX1_holds 0 = .ok (.lconst 0, 1) := by decide +kernel
theorem dX1_holds_1 : decode cX1_holds 1 = .ok (.lstore_n 3, 1) := by decide +kernel
theorem dX1_holds_2 : decode cX1_holds 2 = .ok (.iconst 0, 1) := by decide +kernel
theorem dX1_holds_3 : decode cX1_holds 3 = .ok (.iload_n 1, 1) := by decide +kernel
theorem dX1_holds_4 : decode cX1_holds 4 = .ok (.invokestatic 81, 3) := by decide +kernel
theorem dX1_holds_7 : decode cX1_holds 7 = .ok (.istore 5, 2) := by decide +kernel
theorem dX1_holds_9 : decode cX1_holds 9 = .ok (.iload 5, 2) := by decide +kernel
theorem dX1_holds_11 : decode cX1_holds 11 = .ok (.iload_n 2, 1) := by decide +kernel
theorem dX1_holds_12 : decode cX1_holds 12 = .ok (.if_icmp .ge 108, 3) := by decide +kernel
theorem dX1_holds_15 : decode cX1_holds 15 = .ok (.iload 5, 2) := by decide +kernel
theorem dX1_holds_17 : decode cX1_holds 17 = .ok (.aload_n 0, 1) := by decide +kernel
theorem dX1_holds_18 : decode cX1_holds 18 = .ok (.getfield 24, 3) := by decide +kernel
theorem dX1_holds_21 : decode cX1_holds 21 = .ok (.arraylength, 1) := by decide +kernel
theorem dX1_holds_22 : decode cX1_holds 22 = .ok (.if_icmp .ge 98, 3) := by decide +kernel
theorem dX1_holds_25 : decode cX1_holds 25 = .ok (.lload_n 3, 1) := by decide +kernel
theorem dX1_holds_26 : decode cX1_holds 26 = .ok (.ldc2_w 178, 3) := by decide +kernel
theorem dX1_holds_29 : decode cX1_holds 29 = .ok (.land, 1) := by decide +kernel
theorem dX1_holds_30 : decode cX1_holds 30 = .ok (.lstore 6, 2) := by decide +kernel
theorem dX1_holds_32 : decode cX1_holds 32 = .ok (.aload_n 0, 1) := by decide +kernel
theorem dX1_holds_33 : decode cX1_holds 33 = .ok (.getfield 24, 3) := by decide +kernel
theorem dX1_holds_36 : decode cX1_holds 36 = .ok (.iload 5, 2) := by decide +kernel
theorem dX1_holds_38 : decode cX1_holds 38 = .ok (.iaload, 1) := by decide +kernel
theorem dX1_holds_39 : decode cX1_holds 39 = .ok (.tableswitch 58 (-3) (-1) #[49, 39, 25], 25) := by decide +kernel
theorem dX1_holds_64 : decode cX1_holds 64 = .ok (.lload_n 3, 1) := by decide +kernel
theorem dX1_holds_65 : decode cX1_holds 65 = .ok (.iconst 4, 1) := by decide +kernel
theorem dX1_holds_66 : decode cX1_holds 66 = .ok (.lushr, 1) := by decide +kernel
theorem dX1_holds_67 : decode cX1_holds 67 = .ok (.lload 6, 2) := by decide +kernel
theorem dX1_holds_69 : decode cX1_holds 69 = .ok (.ldc2_w 180, 3) := by decide +kernel
theorem dX1_holds_72 : decode cX1_holds 72 = .ok (.lor, 1) := by decide +kernel
theorem dX1_holds_73 : decode cX1_holds 73 = .ok (.land, 1) := by decide +kernel
theorem dX1_holds_74 : decode cX1_holds 74 = .ok (.lstore_n 3, 1) := by decide +kernel
theorem dX1_holds_75 : decode cX1_holds 75 = .ok (.goto 39, 3) := by decide +kernel
theorem dX1_holds_78 : decode cX1_holds 78 = .ok (.lload_n 3, 1) := by decide +kernel
theorem dX1_holds_79 : decode cX1_holds 79 = .ok (.iconst 4, 1) := by decide +kernel
theorem dX1_holds_80 : decode cX1_holds 80 = .ok (.lushr, 1) := by decide +kernel
theorem dX1_holds_81 : decode cX1_holds 81 = .ok (.lload 6, 2) := by decide +kernel
theorem dX1_holds_83 : decode cX1_holds 83 = .ok (.lor, 1) := by decide +kernel
theorem dX1_holds_84 : decode cX1_holds 84 = .ok (.lstore_n 3, 1) := by decide +kernel
theorem dX1_holds_85 : decode cX1_holds 85 = .ok (.goto 29, 3) := by decide +kernel
theorem dX1_holds_88 : decode cX1_holds 88 = .ok (.lload_n 3, 1) := by decide +kernel
theorem dX1_holds_89 : decode cX1_holds 89 = .ok (.ldc2_w 178, 3) := by decide +kernel
theorem dX1_holds_92 : decode cX1_holds 92 = .ok (.lxor, 1) := by decide +kernel
theorem dX1_holds_93 : decode cX1_holds 93 = .ok (.lstore_n 3, 1) := by decide +kernel
theorem dX1_holds_94 : decode cX1_holds 94 = .ok (.goto 20, 3) := by decide +kernel
theorem dX1_holds_97 : decode cX1_holds 97 = .ok (.lload_n 3, 1) := by decide +kernel
theorem dX1_holds_98 : decode cX1_holds 98 = .ok (.iconst 4, 1) := by decide +kernel
theorem dX1_holds_99 : decode cX1_holds 99 = .ok (.lshl, 1) := by decide +kernel
theorem dX1_holds_100 : decode cX1_holds 100 = .ok (.aload_n 0, 1) := by decide +kernel
theorem dX1_holds_101 : decode cX1_holds 101 = .ok (.aload_n 0, 1) := by decide +kernel
theorem dX1_holds_102 : decode cX1_holds 102 = .ok (.getfield 24, 3) := by decide +kernel
theorem dX1_holds_105 : decode cX1_holds 105 = .ok (.iload 5, 2) := by decide +kernel
theorem dX1_holds_107 : decode cX1_holds 107 = .ok (.iaload, 1) := by decide +kernel
theorem dX1_holds_108 : decode cX1_holds 108 = .ok (.invokevirtual 182, 3) := by decide +kernel
theorem dX1_holds_111 : decode cX1_holds 111 = .ok (.i2l, 1) := by decide +kernel
theorem dX1_holds_112 : decode cX1_holds 112 = .ok (.lor, 1) := by decide +kernel
theorem dX1_holds_113 : decode cX1_holds 113 = .ok (.lstore_n 3, 1) := by decide +kernel
theorem dX1_holds_114 : decode cX1_holds 114 = .ok (.iinc 5 1, 3) := by decide +kernel
theorem dX1_holds_117 : decode cX1_holds 117 = .ok (.goto (-108), 3) := by decide +kernel
theorem dX1_holds_120 : decode cX1_holds 120 = .ok (.lload_n 3, 1) := by decide +kernel
theorem dX1_holds_121 : decode cX1_holds 121 = .ok (.ldc2_w 178, 3) := by decide +kernel
theorem dX1_holds_124 : decode cX1_holds 124 = .ok (.land, 1) := by decide +kernel
theorem dX1_holds_125 : decode cX1_holds 125 = .ok (.l2i, 1) := by decide +kernel
theorem dX1_holds_126 : decode cX1_holds 126 = .ok (.ireturn, 1) := by decide +kernel
theorem dX1_tested_0 : decode cX1_tested 0 = .ok (.iload_n 1, 1) := by decide +kernel
theorem dX1_tested_1 : decode cX1_tested 1 = .ok (.bipush 100, 2) := by decide +kernel
theorem dX1_tested_3 : decode cX1_tested 3 = .ok (.irem, 1) := by decide +kernel
theorem dX1_tested_4 : decode cX1_tested 4 = .ok (.istore_n 2, 1) := by decide +kernel
theorem dX1_tested_5 : decode cX1_tested 5 = .ok (.iload_n 1, 1) := by decide +kernel
theorem dX1_tested_6 : decode cX1_tested 6 = .ok (.bipush 100, 2) := by decide +kernel
theorem dX1_tested_8 : decode cX1_tested 8 = .ok (.idiv, 1) := by decide +kernel
theorem dX1_tested_9 : decode cX1_tested 9 = .ok (.iconst 3, 1) := by decide +kernel
theorem dX1_tested_10 : decode cX1_tested 10 = .ok (.irem, 1) := by decide +kernel
theorem dX1_tested_11 : decode cX1_tested 11 = .ok (.istore_n 3, 1) := by decide +kernel
theorem dX1_tested_12 : decode cX1_tested 12 = .ok (.iload_n 1, 1) := by decide +kernel
theorem dX1_tested_13 : decode cX1_tested 13 = .ok (.sipush 300, 3) := by decide +kernel
theorem dX1_tested_16 : decode cX1_tested 16 = .ok (.idiv, 1) := by decide +kernel
theorem dX1_tested_17 : decode cX1_tested 17 = .ok (.istore 4, 2) := by decide +kernel
theorem dX1_tested_19 : decode cX1_tested 19 = .ok (.iload 4, 2) := by decide +kernel
theorem dX1_tested_21 : decode cX1_tested 21 = .ok (.iconst 2, 1) := by decide +kernel
theorem dX1_tested_22 : decode cX1_tested 22 = .ok (.if_icmp .eq 48, 3) := by decide +kernel
theorem dX1_tested_25 : decode cX1_tested 25 = .ok (.iload 4, 2) := by decide +kernel
theorem dX1_tested_27 : decode cX1_tested 27 = .ok (.ifCond .lt 23, 3) := by decide +kernel
theorem dX1_tested_30 : decode cX1_tested 30 = .ok (.iload 4, 2) := by decide +kernel
theorem dX1_tested_32 : decode cX1_tested 32 = .ok (.aload_n 0, 1) := by decide +kernel
theorem dX1_tested_33 : decode cX1_tested 33 = .ok (.getfield 27, 3) := by decide +kernel
theorem dX1_tested_36 : decode cX1_tested 36 = .ok (.arraylength, 1) := by decide +kernel
theorem dX1_tested_37 : decode cX1_tested 37 = .ok (.if_icmp .ge 13, 3) := by decide +kernel
theorem dX1_tested_40 : decode cX1_tested 40 = .ok (.aload_n 0, 1) := by decide +kernel
theorem dX1_tested_41 : decode cX1_tested 41 = .ok (.getfield 27, 3) := by decide +kernel
theorem dX1_tested_44 : decode cX1_tested 44 = .ok (.iload 4, 2) := by decide +kernel
theorem dX1_tested_46 : decode cX1_tested 46 = .ok (.iaload, 1) := by decide +kernel
theorem dX1_tested_47 : decode cX1_tested 47 = .ok (.goto 4, 3) := by decide +kernel
theorem dX1_tested_50 : decode cX1_tested 50 = .ok (.iconst 0, 1) := by decide +kernel
theorem dX1_tested_51 : decode cX1_tested 51 = .ok (.istore 5, 2) := by decide +kernel
theorem dX1_tested_53 : decode cX1_tested 53 = .ok (.iload 5, 2) := by decide +kernel
theorem dX1_tested_55 : decode cX1_tested 55 = .ok (.iload_n 3, 1) := by decide +kernel
theorem dX1_tested_56 : decode cX1_tested 56 = .ok (.iload_n 2, 1) := by decide +kernel
theorem dX1_tested_57 : decode cX1_tested 57 = .ok (.invokestatic 185, 3) := by decide +kernel
theorem dX1_tested_60 : decode cX1_tested 60 = .ok (.ifCond .eq 8, 3) := by decide +kernel
theorem dX1_tested_63 : decode cX1_tested 63 = .ok (.bipush 15, 2) := by decide +kernel
theorem dX1_tested_65 : decode cX1_tested 65 = .ok (.goto 4, 3) := by decide +kernel
theorem dX1_tested_68 : decode cX1_tested 68 = .ok (.iconst 0, 1) := by decide +kernel
theorem dX1_tested_69 : decode cX1_tested 69 = .ok (.ireturn, 1) := by decide +kernel
theorem dX1_tested_70 : decode cX1_tested 70 = .ok (.iconst 0, 1) := by decide +kernel
theorem dX1_tested_71 : decode cX1_tested 71 = .ok (.istore 5, 2) := by decide +kernel
theorem dX1_tested_73 : decode cX1_tested 73 = .ok (.iconst 0, 1) := by decide +kernel
theorem dX1_tested_74 : decode cX1_tested 74 = .ok (.istore 6, 2) := by decide +kernel
theorem dX1_tested_76 : decode cX1_tested 76 = .ok (.iload 6, 2) := by decide +kernel
theorem dX1_tested_78 : decode cX1_tested 78 = .ok (.iconst 3, 1) := by decide +kernel
theorem dX1_tested_79 : decode cX1_tested 79 = .ok (.if_icmp .gt 28, 3) := by decide +kernel
theorem dX1_tested_82 : decode cX1_tested 82 = .ok (.iload 6, 2) := by decide +kernel
theorem dX1_tested_84 : decode cX1_tested 84 = .ok (.iload_n 3, 1) := by decide +kernel
theorem dX1_tested_85 : decode cX1_tested 85 = .ok (.iload_n 2, 1) := by decide +kernel
theorem dX1_tested_86 : decode cX1_tested 86 = .ok (.invokestatic 185, 3) := by decide +kernel
theorem dX1_tested_89 : decode cX1_tested 89 = .ok (.ifCond .eq 12, 3) := by decide +kernel
theorem dX1_tested_92 : decode cX1_tested 92 = .ok (.iload 5, 2) := by decide +kernel
theorem dX1_tested_94 : decode cX1_tested 94 = .ok (.iconst 1, 1) := by decide +kernel
theorem dX1_tested_95 : decode cX1_tested 95 = .ok (.iload 6, 2) := by decide +kernel
theorem dX1_tested_97 : decode cX1_tested 97 = .ok (.ishl, 1) := by decide +kernel
theorem dX1_tested_98 : decode cX1_tested 98 = .ok (.ior, 1) := by decide +kernel
theorem dX1_tested_99 : decode cX1_tested 99 = .ok (.istore 5, 2) := by decide +kernel
theorem dX1_tested_101 : decode cX1_tested 101 = .ok (.iinc 6 1, 3) := by decide +kernel
theorem dX1_tested_104 : decode cX1_tested 104 = .ok (.goto (-28), 3) := by decide +kernel
theorem dX1_tested_107 : decode cX1_tested 107 = .ok (.iload 5, 2) := by decide +kernel
theorem dX1_tested_109 : decode cX1_tested 109 = .ok (.ireturn, 1) := by decide +kernel
theorem dX1_compared_0 : decode cX1_compared 0 = .ok (.iload_n 1, 1) := by decide +kernel
theorem dX1_compared_1 : decode cX1_compared 1 = .ok (.ifCond .ne 14, 3) := by decide +kernel
theorem dX1_compared_4 : decode cX1_compared 4 = .ok (.iload_n 0, 1) := by decide +kernel
theorem dX1_compared_5 : decode cX1_compared 5 = .ok (.iload_n 2, 1) := by decide +kernel
theorem dX1_compared_6 : decode cX1_compared 6 = .ok (.if_icmp .ge 7, 3) := by decide +kernel
theorem dX1_compared_9 : decode cX1_compared 9 = .ok (.iconst 1, 1) := by decide +kernel
theorem dX1_compared_10 : decode cX1_compared 10 = .ok (.goto 4, 3) := by decide +kernel
theorem dX1_compared_13 : decode cX1_compared 13 = .ok (.iconst 0, 1) := by decide +kernel
theorem dX1_compared_14 : decode cX1_compared 14 = .ok (.ireturn, 1) := by decide +kernel
theorem dX1_compared_15 : decode cX1_compared 15 = .ok (.iload_n 1, 1) := by decide +kernel
theorem dX1_compared_16 : decode cX1_compared 16 = .ok (.iconst 1, 1) := by decide +kernel
theorem dX1_compared_17 : decode cX1_compared 17 = .ok (.if_icmp .ne 16, 3) := by decide +kernel
theorem dX1_compared_20 : decode cX1_compared 20 = .ok (.iload_n 0, 1) := by decide +kernel
theorem dX1_compared_21 : decode cX1_compared 21 = .ok (.iload_n 2, 1) := by decide +kernel
theorem dX1_compared_22 : decode cX1_compared 22 = .ok (.if_icmp .ne 7, 3) := by decide +kernel
theorem dX1_compared_25 : decode cX1_compared 25 = .ok (.iconst 1, 1) := by decide +kernel
theorem dX1_compared_26 : decode cX1_compared 26 = .ok (.goto 17, 3) := by decide +kernel
theorem dX1_compared_29 : decode cX1_compared 29 = .ok (.iconst 0, 1) := by decide +kernel
theorem dX1_compared_30 : decode cX1_compared 30 = .ok (.goto 13, 3) := by decide +kernel
theorem dX1_compared_33 : decode cX1_compared 33 = .ok (.iload_n 0, 1) := by decide +kernel
theorem dX1_compared_34 : decode cX1_compared 34 = .ok (.iload_n 2, 1) := by decide +kernel
theorem dX1_compared_35 : decode cX1_compared 35 = .ok (.if_icmp .le 7, 3) := by decide +kernel
theorem dX1_compared_38 : decode cX1_compared 38 = .ok (.iconst 1, 1) := by decide +kernel
theorem dX1_compared_39 : decode cX1_compared 39 = .ok (.goto 4, 3) := by decide +kernel
theorem dX1_compared_42 : decode cX1_compared 42 = .ok (.iconst 0, 1) := by decide +kernel
theorem dX1_compared_43 : decode cX1_compared 43 = .ok (.ireturn, 1) := by decide +kernel
theorem dX2_init_0 : decode cX2_init 0 = .ok (.aload_n 0, 1) := by decide +kernel
theorem dX2_init_1 : decode cX2_init 1 = .ok (.iload_n 1, 1) := by decide +kernel
theorem dX2_init_2 : decode cX2_init 2 = .ok (.iload_n 2, 1) := by decide +kernel
theorem dX2_init_3 : decode cX2_init 3 = .ok (.invokespecial 3, 3) := by decide +kernel
theorem dX2_init_6 : decode cX2_init 6 = .ok (.return_, 1) := by decide +kernel
theorem dX2_kind_0 : decode cX2_kind 0 = .ok (.iconst 5, 1) := by decide +kernel
theorem dX2_kind_1 : decode cX2_kind 1 = .ok (.ireturn, 1) := by decide +kernel
theorem dX2_side_0 : decode cX2_side 0 = .ok (.aload_n 0, 1) := by decide +kernel
theorem dX2_side_1 : decode cX2_side 1 = .ok (.aload_n 1, 1) := by decide +kernel
theorem dX2_side_2 : decode cX2_side 2 = .ok (.aload_n 2, 1) := by decide +kernel
theorem dX2_side_3 : decode cX2_side 3 = .ok (.invokespecial 9, 3) := by decide +kernel
theorem dX2_side_6 : decode cX2_side 6 = .ok (.istore_n 3, 1) := by decide +kernel
theorem dX2_side_7 : decode cX2_side 7 = .ok (.aload_n 2, 1) := by decide +kernel
theorem dX2_side_8 : decode cX2_side 8 = .ok (.aload_n 0, 1) := by decide +kernel
theorem dX2_side_9 : decode cX2_side 9 = .ok (.getfield 13, 3) := by decide +kernel
theorem dX2_side_12 : decode cX2_side 12 = .ok (.invokevirtual 19, 3) := by decide +kernel
theorem dX2_side_15 : decode cX2_side 15 = .ok (.iconst 3, 1) := by decide +kernel
theorem dX2_side_16 : decode cX2_side 16 = .ok (.if_icmp .ge 7, 3) := by decide +kernel
theorem dX2_side_19 : decode cX2_side 19 = .ok (.iload_n 3, 1) := by decide +kernel
theorem dX2_side_20 : decode cX2_side 20 = .ok (.goto 6, 3) := by decide +kernel
theorem dX2_side_23 : decode cX2_side 23 = .ok (.iconst 2, 1) := by decide +kernel
theorem dX2_side_24 : decode cX2_side 24 = .ok (.iload_n 3, 1) := by decide +kernel
theorem dX2_side_25 : decode cX2_side 25 = .ok (.isub, 1) := by decide +kernel
theorem dX2_side_26 : decode cX2_side 26 = .ok (.ireturn, 1) := by decide +kernel
theorem dX2_tells_0 : decode cX2_tells 0 = .ok (.aload_n 2, 1) := by decide +kernel
theorem dX2_tells_1 : decode cX2_tells 1 = .ok (.bipush 60, 2) := by decide +kernel
theorem dX2_tells_3 : decode cX2_tells 3 = .ok (.invokevirtual 25, 3) := by decide +kernel
theorem dX2_tells_6 : decode cX2_tells 6 = .ok (.pop, 1) := by decide +kernel
theorem dX2_tells_7 : decode cX2_tells 7 = .ok (.aload_n 0, 1) := by decide +kernel
theorem dX2_tells_8 : decode cX2_tells 8 = .ok (.iload_n 1, 1) := by decide +kernel
theorem dX2_tells_9 : decode cX2_tells 9 = .ok (.aload_n 0, 1) := by decide +kernel
theorem dX2_tells_10 : decode cX2_tells 10 = .ok (.getfield 13, 3) := by decide +kernel
theorem dX2_tells_13 : decode cX2_tells 13 = .ok (.isub, 1) := by decide +kernel
theorem dX2_tells_14 : decode cX2_tells 14 = .ok (.aload_n 2, 1) := by decide +kernel
theorem dX2_tells_15 : decode cX2_tells 15 = .ok (.invokespecial 31, 3) := by decide +kernel
theorem dX2_tells_18 : decode cX2_tells 18 = .ok (.ireturn, 1) := by decide +kernel
theorem dX3_init_0 : decode cX3_init 0 = .ok (.aload_n 0, 1) := by decide +kernel
theorem dX3_init_1 : decode cX3_init 1 = .ok (.invokespecial 3, 3) := by decide +kernel
theorem dX3_init_4 : decode cX3_init 4 = .ok (.aload_n 0, 1) := by decide +kernel
theorem dX3_init_5 : decode cX3_init 5 = .ok (.iconst 0, 1) := by decide +kernel
theorem dX3_init_6 : decode cX3_init 6 = .ok (.iload_n 1, 1) := by decide +kernel
theorem dX3_init_7 : decode cX3_init 7 = .ok (.invokestatic 9, 3) := by decide +kernel
theorem dX3_init_10 : decode cX3_init 10 = .ok (.newarray .int, 2) := by decide +kernel
theorem dX3_init_12 : decode cX3_init 12 = .ok (.putfield 15, 3) := by decide +kernel
theorem dX3_init_15 : decode cX3_init 15 = .ok (.return_, 1) := by decide +kernel
theorem dX3_add_0 : decode cX3_add 0 = .ok (.aload_n 0, 1) := by decide +kernel
theorem dX3_add_1 : decode cX3_add 1 = .ok (.dup, 1) := by decide +kernel
theorem dX3_add_2 : decode cX3_add 2 = .ok (.getfield 21, 3) := by decide +kernel
theorem dX3_add_5 : decode cX3_add 5 = .ok (.iconst 1, 1) := by decide +kernel
theorem dX3_add_6 : decode cX3_add 6 = .ok (.iadd, 1) := by decide +kernel
theorem dX3_add_7 : decode cX3_add 7 = .ok (.putfield 21, 3) := by decide +kernel
theorem dX3_add_10 : decode cX3_add 10 = .ok (.aload_n 0, 1) := by decide +kernel
theorem dX3_add_11 : decode cX3_add 11 = .ok (.getfield 25, 3) := by decide +kernel
theorem dX3_add_14 : decode cX3_add 14 = .ok (.ifCond .lt 15, 3) := by decide +kernel
theorem dX3_add_17 : decode cX3_add 17 = .ok (.aload_n 0, 1) := by decide +kernel
theorem dX3_add_18 : decode cX3_add 18 = .ok (.getfield 25, 3) := by decide +kernel
theorem dX3_add_21 : decode cX3_add 21 = .ok (.aload_n 0, 1) := by decide +kernel
theorem dX3_add_22 : decode cX3_add 22 = .ok (.getfield 15, 3) := by decide +kernel
theorem dX3_add_25 : decode cX3_add 25 = .ok (.arraylength, 1) := by decide +kernel
theorem dX3_add_26 : decode cX3_add 26 = .ok (.if_icmp .lt 5, 3) := by decide +kernel
theorem dX3_add_29 : decode cX3_add 29 = .ok (.iconst 0, 1) := by decide +kernel
theorem dX3_add_30 : decode cX3_add 30 = .ok (.ireturn, 1) := by decide +kernel
theorem dX3_add_31 : decode cX3_add 31 = .ok (.aload_n 0, 1) := by decide +kernel
theorem dX3_add_32 : decode cX3_add 32 = .ok (.getfield 15, 3) := by decide +kernel
theorem dX3_add_35 : decode cX3_add 35 = .ok (.aload_n 0, 1) := by decide +kernel
theorem dX3_add_36 : decode cX3_add 36 = .ok (.getfield 25, 3) := by decide +kernel
theorem dX3_add_39 : decode cX3_add 39 = .ok (.iload_n 1, 1) := by decide +kernel
theorem dX3_add_40 : decode cX3_add 40 = .ok (.iastore, 1) := by decide +kernel
theorem dX3_add_41 : decode cX3_add 41 = .ok (.aload_n 0, 1) := by decide +kernel
theorem dX3_add_42 : decode cX3_add 42 = .ok (.dup, 1) := by decide +kernel
theorem dX3_add_43 : decode cX3_add 43 = .ok (.getfield 25, 3) := by decide +kernel
theorem dX3_add_46 : decode cX3_add 46 = .ok (.iconst 1, 1) := by decide +kernel
theorem dX3_add_47 : decode cX3_add 47 = .ok (.iadd, 1) := by decide +kernel
theorem dX3_add_48 : decode cX3_add 48 = .ok (.putfield 25, 3) := by decide +kernel
theorem dX3_add_51 : decode cX3_add 51 = .ok (.iconst 1, 1) := by decide +kernel
theorem dX3_add_52 : decode cX3_add 52 = .ok (.ireturn, 1) := by decide +kernel
theorem dX3_clear_0 : decode cX3_clear 0 = .ok (.aload_n 0, 1) := by decide +kernel
theorem dX3_clear_1 : decode cX3_clear 1 = .ok (.iconst 0, 1) := by decide +kernel
theorem dX3_clear_2 : decode cX3_clear 2 = .ok (.putfield 21, 3) := by decide +kernel
theorem dX3_clear_5 : decode cX3_clear 5 = .ok (.aload_n 0, 1) := by decide +kernel
theorem dX3_clear_6 : decode cX3_clear 6 = .ok (.iconst 0, 1) := by decide +kernel
theorem dX3_clear_7 : decode cX3_clear 7 = .ok (.putfield 25, 3) := by decide +kernel
theorem dX3_clear_10 : decode cX3_clear 10 = .ok (.iconst 0, 1) := by decide +kernel
theorem dX3_clear_11 : decode cX3_clear 11 = .ok (.ireturn, 1) := by decide +kernel
theorem dX3_at_0 : decode cX3_at 0 = .ok (.iload_n 1, 1) := by decide +kernel
theorem dX3_at_1 : decode cX3_at 1 = .ok (.ifCond .lt 29, 3) := by decide +kernel
theorem dX3_at_4 : decode cX3_at 4 = .ok (.iload_n 1, 1) := by decide +kernel
theorem dX3_at_5 : decode cX3_at 5 = .ok (.aload_n 0, 1) := by decide +kernel
theorem dX3_at_6 : decode cX3_at 6 = .ok (.getfield 25, 3) := by decide +kernel
theorem dX3_at_9 : decode cX3_at 9 = .ok (.if_icmp .ge 21, 3) := by decide +kernel
theorem dX3_at_12 : decode cX3_at 12 = .ok (.iload_n 1, 1) := by decide +kernel
theorem dX3_at_13 : decode cX3_at 13 = .ok (.aload_n 0, 1) := by decide +kernel
theorem dX3_at_14 : decode cX3_at 14 = .ok (.getfield 15, 3) := by decide +kernel
theorem dX3_at_17 : decode cX3_at 17 = .ok (.arraylength, 1) := by decide +kernel
theorem dX3_at_18 : decode cX3_at 18 = .ok (.if_icmp .ge 12, 3) := by decide +kernel
theorem dX3_at_21 : decode cX3_at 21 = .ok (.aload_n 0, 1) := by decide +kernel
theorem dX3_at_22 : decode cX3_at 22 = .ok (.getfield 15, 3) := by decide +kernel
theorem dX3_at_25 : decode cX3_at 25 = .ok (.iload_n 1, 1) := by decide +kernel
theorem dX3_at_26 : decode cX3_at 26 = .ok (.iaload, 1) := by decide +kernel
theorem dX3_at_27 : decode cX3_at 27 = .ok (.goto 4, 3) := by decide +kernel
theorem dX3_at_30 : decode cX3_at 30 = .ok (.iconst (-1), 1) := by decide +kernel
theorem dX3_at_31 : decode cX3_at 31 = .ok (.ireturn, 1) := by decide +kernel
theorem dX3_takeAll_0 : decode cX3_takeAll 0 = .ok (.aload_n 1, 1) := by decide +kernel
theorem dX3_takeAll_1 : decode cX3_takeAll 1 = .ok (.getfield 15, 3) := by decide +kernel
theorem dX3_takeAll_4 : decode cX3_takeAll 4 = .ok (.iconst 0, 1) := by decide +kernel
theorem dX3_takeAll_5 : decode cX3_takeAll 5 = .ok (.aload_n 0, 1) := by decide +kernel
theorem dX3_takeAll_6 : decode cX3_takeAll 6 = .ok (.getfield 15, 3) := by decide +kernel
theorem dX3_takeAll_9 : decode cX3_takeAll 9 = .ok (.iconst 0, 1) := by decide +kernel
theorem dX3_takeAll_10 : decode cX3_takeAll 10 = .ok (.aload_n 0, 1) := by decide +kernel
theorem dX3_takeAll_11 : decode cX3_takeAll 11 = .ok (.getfield 15, 3) := by decide +kernel
theorem dX3_takeAll_14 : decode cX3_takeAll 14 = .ok (.arraylength, 1) := by decide +kernel
theorem dX3_takeAll_15 : decode cX3_takeAll 15 = .ok (.aload_n 1, 1) := by decide +kernel
theorem dX3_takeAll_16 : decode cX3_takeAll 16 = .ok (.getfield 15, 3) := by decide +kernel
theorem dX3_takeAll_19 : decode cX3_takeAll 19 = .ok (.arraylength, 1) := by decide +kernel
theorem dX3_takeAll_20 : decode cX3_takeAll 20 = .ok (.invokestatic 28, 3) := by decide +kernel
theorem dX3_takeAll_23 : decode cX3_takeAll 23 = .ok (.invokestatic 31, 3) := by decide +kernel
theorem dX3_takeAll_26 : decode cX3_takeAll 26 = .ok (.aload_n 0, 1) := by decide +kernel
theorem dX3_takeAll_27 : decode cX3_takeAll 27 = .ok (.aload_n 1, 1) := by decide +kernel
theorem dX3_takeAll_28 : decode cX3_takeAll 28 = .ok (.getfield 25, 3) := by decide +kernel
theorem dX3_takeAll_31 : decode cX3_takeAll 31 = .ok (.putfield 25, 3) := by decide +kernel
theorem dX3_takeAll_34 : decode cX3_takeAll 34 = .ok (.aload_n 0, 1) := by decide +kernel
theorem dX3_takeAll_35 : decode cX3_takeAll 35 = .ok (.aload_n 1, 1) := by decide +kernel
theorem dX3_takeAll_36 : decode cX3_takeAll 36 = .ok (.getfield 21, 3) := by decide +kernel
theorem dX3_takeAll_39 : decode cX3_takeAll 39 = .ok (.putfield 21, 3) := by decide +kernel
theorem dX3_takeAll_42 : decode cX3_takeAll 42 = .ok (.return_, 1) := by decide +kernel
theorem dX4_init_0 : decode cX4_init 0 = .ok (.aload_n 0, 1) := by decide +kernel
theorem dX4_init_1 : decode cX4_init 1 = .ok (.invokespecial 3, 3) := by decide +kernel
theorem dX4_init_4 : decode cX4_init 4 = .ok (.aload_n 0, 1) := by decide +kernel
theorem dX4_init_5 : decode cX4_init 5 = .ok (.iload_n 1, 1) := by decide +kernel
theorem dX4_init_6 : decode cX4_init 6 = .ok (.putfield 9, 3) := by decide +kernel
theorem dX4_init_9 : decode cX4_init 9 = .ok (.aload_n 0, 1) := by decide +kernel
theorem dX4_init_10 : decode cX4_init 10 = .ok (.iload_n 2, 1) := by decide +kernel
theorem dX4_init_11 : decode cX4_init 11 = .ok (.putfield 15, 3) := by decide +kernel
theorem dX4_init_14 : decode cX4_init 14 = .ok (.return_, 1) := by decide +kernel
theorem dX4_kind_0 : decode cX4_kind 0 = .ok (.iconst 0, 1) := by decide +kernel
theorem dX4_kind_1 : decode cX4_kind 1 = .ok (.ireturn, 1) := by decide +kernel
theorem dX4_side_0 : decode cX4_side 0 = .ok (.aload_n 0, 1) := by decide +kernel
theorem dX4_side_1 : decode cX4_side 1 = .ok (.getfield 15, 3) := by decide +kernel
theorem dX4_side_4 : decode cX4_side 4 = .ok (.iconst 3, 1) := by decide +kernel
theorem dX4_side_5 : decode cX4_side 5 = .ok (.irem, 1) := by decide +kernel
theorem dX4_side_6 : decode cX4_side 6 = .ok (.ireturn, 1) := by decide +kernel
theorem dX4_aims_0 : decode cX4_aims 0 = .ok (.aload_n 2, 1) := by decide +kernel
theorem dX4_aims_1 : decode cX4_aims 1 = .ok (.bipush 10, 2) := by decide +kernel
theorem dX4_aims_3 : decode cX4_aims 3 = .ok (.invokevirtual 18, 3) := by decide +kernel
theorem dX4_aims_6 : decode cX4_aims 6 = .ok (.pop, 1) := by decide +kernel
theorem dX4_aims_7 : decode cX4_aims 7 = .ok (.iload_n 1, 1) := by decide +kernel
theorem dX4_aims_8 : decode cX4_aims 8 = .ok (.aload_n 0, 1) := by decide +kernel
theorem dX4_aims_9 : decode cX4_aims 9 = .ok (.getfield 9, 3) := by decide +kernel
theorem dX4_aims_12 : decode cX4_aims 12 = .ok (.iadd, 1) := by decide +kernel
theorem dX4_aims_13 : decode cX4_aims 13 = .ok (.ireturn, 1) := by decide +kernel
theorem dX4_shows_0 : decode cX4_shows 0 = .ok (.aload_n 2, 1) := by decide +kernel
theorem dX4_shows_1 : decode cX4_shows 1 = .ok (.bipush 11, 2) := by decide +kernel
theorem dX4_shows_3 : decode cX4_shows 3 = .ok (.invokevirtual 18, 3) := by decide +kernel
theorem dX4_shows_6 : decode cX4_shows 6 = .ok (.pop, 1) := by decide +kernel
theorem dX4_shows_7 : decode cX4_shows 7 = .ok (.aload_n 0, 1) := by decide +kernel
theorem dX4_shows_8 : decode cX4_shows 8 = .ok (.iload_n 1, 1) := by decide +kernel
theorem dX4_shows_9 : decode cX4_shows 9 = .ok (.aload_n 2, 1) := by decide +kernel
theorem dX4_shows_10 : decode cX4_shows 10 = .ok (.invokevirtual 24, 3) := by decide +kernel
theorem dX4_shows_13 : decode cX4_shows 13 = .ok (.aload_n 0, 1) := by decide +kernel
theorem dX4_shows_14 : decode cX4_shows 14 = .ok (.getfield 15, 3) := by decide +kernel
theorem dX4_shows_17 : decode cX4_shows 17 = .ok (.isub, 1) := by decide +kernel
theorem dX4_shows_18 : decode cX4_shows 18 = .ok (.ireturn, 1) := by decide +kernel
theorem dX4_tells_0 : decode cX4_tells 0 = .ok (.aload_n 2, 1) := by decide +kernel
theorem dX4_tells_1 : decode cX4_tells 1 = .ok (.bipush 12, 2) := by decide +kernel
theorem dX4_tells_3 : decode cX4_tells 3 = .ok (.invokevirtual 18, 3) := by decide +kernel
theorem dX4_tells_6 : decode cX4_tells 6 = .ok (.pop, 1) := by decide +kernel
theorem dX4_tells_7 : decode cX4_tells 7 = .ok (.aload_n 0, 1) := by decide +kernel
theorem dX4_tells_8 : decode cX4_tells 8 = .ok (.iload_n 1, 1) := by decide +kernel
theorem dX4_tells_9 : decode cX4_tells 9 = .ok (.aload_n 2, 1) := by decide +kernel
theorem dX4_tells_10 : decode cX4_tells 10 = .ok (.invokevirtual 28, 3) := by decide +kernel
theorem dX4_tells_13 : decode cX4_tells 13 = .ok (.iconst 2, 1) := by decide +kernel
theorem dX4_tells_14 : decode cX4_tells 14 = .ok (.imul, 1) := by decide +kernel
theorem dX4_tells_15 : decode cX4_tells 15 = .ok (.ireturn, 1) := by decide +kernel
theorem dX5_init_0 : decode cX5_init 0 = .ok (.aload_n 0, 1) := by decide +kernel
theorem dX5_init_1 : decode cX5_init 1 = .ok (.iload_n 1, 1) := by decide +kernel
theorem dX5_init_2 : decode cX5_init 2 = .ok (.iload_n 2, 1) := by decide +kernel
theorem dX5_init_3 : decode cX5_init 3 = .ok (.invokespecial 3, 3) := by decide +kernel
theorem dX5_init_6 : decode cX5_init 6 = .ok (.return_, 1) := by decide +kernel
theorem dX5_kind_0 : decode cX5_kind 0 = .ok (.iconst 2, 1) := by decide +kernel
theorem dX5_kind_1 : decode cX5_kind 1 = .ok (.ireturn, 1) := by decide +kernel
theorem dX5_side_0 : decode cX5_side 0 = .ok (.aload_n 2, 1) := by decide +kernel
theorem dX5_side_1 : decode cX5_side 1 = .ok (.aload_n 0, 1) := by decide +kernel
theorem dX5_side_2 : decode cX5_side 2 = .ok (.getfield 9, 3) := by decide +kernel
theorem dX5_side_5 : decode cX5_side 5 = .ok (.invokevirtual 15, 3) := by decide +kernel
theorem dX5_side_8 : decode cX5_side 8 = .ok (.istore_n 3, 1) := by decide +kernel
theorem dX5_side_9 : decode cX5_side 9 = .ok (.iload_n 3, 1) := by decide +kernel
theorem dX5_side_10 : decode cX5_side 10 = .ok (.iconst 3, 1) := by decide +kernel
theorem dX5_side_11 : decode cX5_side 11 = .ok (.if_icmp .ne 12, 3) := by decide +kernel
theorem dX5_side_14 : decode cX5_side 14 = .ok (.aload_n 0, 1) := by decide +kernel
theorem dX5_side_15 : decode cX5_side 15 = .ok (.aload_n 1, 1) := by decide +kernel
theorem dX5_side_16 : decode cX5_side 16 = .ok (.aload_n 2, 1) := by decide +kernel
theorem dX5_side_17 : decode cX5_side 17 = .ok (.invokespecial 21, 3) := by decide +kernel
theorem dX5_side_20 : decode cX5_side 20 = .ok (.goto 4, 3) := by decide +kernel
theorem dX5_side_23 : decode cX5_side 23 = .ok (.iload_n 3, 1) := by decide +kernel
theorem dX5_side_24 : decode cX5_side 24 = .ok (.ireturn, 1) := by decide +kernel
theorem dX5_aims_0 : decode cX5_aims 0 = .ok (.aload_n 2, 1) := by decide +kernel
theorem dX5_aims_1 : decode cX5_aims 1 = .ok (.bipush 30, 2) := by decide +kernel
theorem dX5_aims_3 : decode cX5_aims 3 = .ok (.invokevirtual 25, 3) := by decide +kernel
theorem dX5_aims_6 : decode cX5_aims 6 = .ok (.pop, 1) := by decide +kernel
theorem dX5_aims_7 : decode cX5_aims 7 = .ok (.aload_n 0, 1) := by decide +kernel
theorem dX5_aims_8 : decode cX5_aims 8 = .ok (.iload_n 1, 1) := by decide +kernel
theorem dX5_aims_9 : decode cX5_aims 9 = .ok (.iconst 3, 1) := by decide +kernel
theorem dX5_aims_10 : decode cX5_aims 10 = .ok (.imul, 1) := by decide +kernel
theorem dX5_aims_11 : decode cX5_aims 11 = .ok (.aload_n 2, 1) := by decide +kernel
theorem dX5_aims_12 : decode cX5_aims 12 = .ok (.invokespecial 31, 3) := by decide +kernel
theorem dX5_aims_15 : decode cX5_aims 15 = .ok (.ireturn, 1) := by decide +kernel
theorem dX6_init_0 : decode cX6_init 0 = .ok (.aload_n 0, 1) := by decide +kernel
theorem dX6_init_1 : decode cX6_init 1 = .ok (.invokespecial 3, 3) := by decide +kernel
theorem dX6_init_4 : decode cX6_init 4 = .ok (.aload_n 0, 1) := by decide +kernel
theorem dX6_init_5 : decode cX6_init 5 = .ok (.iconst (-1), 1) := by decide +kernel
theorem dX6_init_6 : decode cX6_init 6 = .ok (.putfield 9, 3) := by decide +kernel
theorem dX6_init_9 : decode cX6_init 9 = .ok (.aload_n 0, 1) := by decide +kernel
theorem dX6_init_10 : decode cX6_init 10 = .ok (.bipush 6, 2) := by decide +kernel
theorem dX6_init_12 : decode cX6_init 12 = .ok (.newarray .int, 2) := by decide +kernel
theorem dX6_init_14 : decode cX6_init 14 = .ok (.putfield 15, 3) := by decide +kernel
theorem dX6_init_17 : decode cX6_init 17 = .ok (.aload_n 0, 1) := by decide +kernel
theorem dX6_init_18 : decode cX6_init 18 = .ok (.getfield 15, 3) := by decide +kernel
theorem dX6_init_21 : decode cX6_init 21 = .ok (.iconst 3, 1) := by decide +kernel
theorem dX6_init_22 : decode cX6_init 22 = .ok (.invokestatic 19, 3) := by decide +kernel
theorem dX6_init_25 : decode cX6_init 25 = .ok (.aload_n 0, 1) := by decide +kernel
theorem dX6_init_26 : decode cX6_init 26 = .ok (.bipush 6, 2) := by decide +kernel
theorem dX6_init_28 : decode cX6_init 28 = .ok (.newarray .int, 2) := by decide +kernel
theorem dX6_init_30 : decode cX6_init 30 = .ok (.putfield 25, 3) := by decide +kernel
theorem dX6_init_33 : decode cX6_init 33 = .ok (.aload_n 0, 1) := by decide +kernel
theorem dX6_init_34 : decode cX6_init 34 = .ok (.bipush 6, 2) := by decide +kernel
theorem dX6_init_36 : decode cX6_init 36 = .ok (.newarray .int, 2) := by decide +kernel
theorem dX6_init_38 : decode cX6_init 38 = .ok (.putfield 28, 3) := by decide +kernel
theorem dX6_init_41 : decode cX6_init 41 = .ok (.aload_n 0, 1) := by decide +kernel
theorem dX6_init_42 : decode cX6_init 42 = .ok (.bipush 24, 2) := by decide +kernel
theorem dX6_init_44 : decode cX6_init 44 = .ok (.newarray .int, 2) := by decide +kernel
theorem dX6_init_46 : decode cX6_init 46 = .ok (.putfield 31, 3) := by decide +kernel
theorem dX6_init_49 : decode cX6_init 49 = .ok (.aload_n 0, 1) := by decide +kernel
theorem dX6_init_50 : decode cX6_init 50 = .ok (.new 34, 3) := by decide +kernel
theorem dX6_init_53 : decode cX6_init 53 = .ok (.dup, 1) := by decide +kernel
theorem dX6_init_54 : decode cX6_init 54 = .ok (.iconst 4, 1) := by decide +kernel
theorem dX6_init_55 : decode cX6_init 55 = .ok (.invokespecial 36, 3) := by decide +kernel
theorem dX6_init_58 : decode cX6_init 58 = .ok (.putfield 39, 3) := by decide +kernel
theorem dX6_init_61 : decode cX6_init 61 = .ok (.aload_n 0, 1) := by decide +kernel
theorem dX6_init_62 : decode cX6_init 62 = .ok (.new 34, 3) := by decide +kernel
theorem dX6_init_65 : decode cX6_init 65 = .ok (.dup, 1) := by decide +kernel
theorem dX6_init_66 : decode cX6_init 66 = .ok (.bipush 6, 2) := by decide +kernel
theorem dX6_init_68 : decode cX6_init 68 = .ok (.invokespecial 36, 3) := by decide +kernel
theorem dX6_init_71 : decode cX6_init 71 = .ok (.putfield 43, 3) := by decide +kernel
theorem dX6_init_74 : decode cX6_init 74 = .ok (.aload_n 0, 1) := by decide +kernel
theorem dX6_init_75 : decode cX6_init 75 = .ok (.new 34, 3) := by decide +kernel
theorem dX6_init_78 : decode cX6_init 78 = .ok (.dup, 1) := by decide +kernel
