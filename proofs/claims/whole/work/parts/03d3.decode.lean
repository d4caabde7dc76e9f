theorem dX11_look_4 : decode cX11_look 4 = .ok (.getfield 158, 3) := by decide +kernel
theorem dX11_look_7 : decode cX11_look 7 = .ok (.istore_n 3, 1) := by decide +kernel
theorem dX11_look_8 : decode cX11_look 8 = .ok (.iload_n 3, 1) := by decide +kernel
theorem dX11_look_9 : decode cX11_look 9 = .ok (.ifCond .lt 21, 3) := by decide +kernel
theorem dX11_look_12 : decode cX11_look 12 = .ok (.iload_n 3, 1) := by decide +kernel
theorem dX11_look_13 : decode cX11_look 13 = .ok (.aload_n 0, 1) := by decide +kernel
theorem dX11_look_14 : decode cX11_look 14 = .ok (.getfield 19, 3) := by decide +kernel
theorem dX11_look_17 : decode cX11_look 17 = .ok (.arraylength, 1) := by decide +kernel
theorem dX11_look_18 : decode cX11_look 18 = .ok (.if_icmp .ge 12, 3) := by decide +kernel
theorem dX11_look_21 : decode cX11_look 21 = .ok (.aload_n 0, 1) := by decide +kernel
theorem dX11_look_22 : decode cX11_look 22 = .ok (.getfield 19, 3) := by decide +kernel
theorem dX11_look_25 : decode cX11_look 25 = .ok (.iload_n 3, 1) := by decide +kernel
theorem dX11_look_26 : decode cX11_look 26 = .ok (.aaload, 1) := by decide +kernel
theorem dX11_look_27 : decode cX11_look 27 = .ok (.goto 4, 3) := by decide +kernel
theorem dX11_look_30 : decode cX11_look 30 = .ok (.aconst_null, 1) := by decide +kernel
theorem dX11_look_31 : decode cX11_look 31 = .ok (.astore 4, 2) := by decide +kernel
theorem dX11_look_33 : decode cX11_look 33 = .ok (.aload 4, 2) := by decide +kernel
theorem dX11_look_35 : decode cX11_look 35 = .ok (.ifnonnull 30, 3) := by decide +kernel
theorem dX11_look_38 : decode cX11_look 38 = .ok (.aload_n 0, 1) := by decide +kernel
theorem dX11_look_39 : decode cX11_look 39 = .ok (.getfield 50, 3) := by decide +kernel
theorem dX11_look_42 : decode cX11_look 42 = .ok (.aload_n 1, 1) := by decide +kernel
theorem dX11_look_43 : decode cX11_look 43 = .ok (.aload_n 2, 1) := by decide +kernel
theorem dX11_look_44 : decode cX11_look 44 = .ok (.getfield 241, 3) := by decide +kernel
theorem dX11_look_47 : decode cX11_look 47 = .ok (.invokevirtual 106, 3) := by decide +kernel
theorem dX11_look_50 : decode cX11_look 50 = .ok (.invokevirtual 311, 3) := by decide +kernel
theorem dX11_look_53 : decode cX11_look 53 = .ok (.aload_n 0, 1) := by decide +kernel
theorem dX11_look_54 : decode cX11_look 54 = .ok (.getfield 50, 3) := by decide +kernel
theorem dX11_look_57 : decode cX11_look 57 = .ok (.iconst 0, 1) := by decide +kernel
theorem dX11_look_58 : decode cX11_look 58 = .ok (.iconst 0, 1) := by decide +kernel
theorem dX11_look_59 : decode cX11_look 59 = .ok (.invokevirtual 314, 3) := by decide +kernel
theorem dX11_look_62 : decode cX11_look 62 = .ok (.goto 14, 3) := by decide +kernel
theorem dX11_look_65 : decode cX11_look 65 = .ok (.aload 4, 2) := by decide +kernel
theorem dX11_look_67 : decode cX11_look 67 = .ok (.aload_n 1, 1) := by decide +kernel
theorem dX11_look_68 : decode cX11_look 68 = .ok (.aload_n 2, 1) := by decide +kernel
theorem dX11_look_69 : decode cX11_look 69 = .ok (.aload_n 0, 1) := by decide +kernel
theorem dX11_look_70 : decode cX11_look 70 = .ok (.getfield 50, 3) := by decide +kernel
theorem dX11_look_73 : decode cX11_look 73 = .ok (.invokevirtual 318, 3) := by decide +kernel
theorem dX11_look_76 : decode cX11_look 76 = .ok (.return_, 1) := by decide +kernel
theorem dX11_seenOf_0 : decode cX11_seenOf 0 = .ok (.iload_n 2, 1) := by decide +kernel
theorem dX11_seenOf_1 : decode cX11_seenOf 1 = .ok (.tableswitch 132 5 22 #[87, 100, 132, 132, 132, 108, 108, 108, 132, 132, 132, 132, 132, 132, 132, 120, 120, 120], 87) := by decide +kernel
theorem dX11_seenOf_88 : decode cX11_seenOf 88 = .ok (.aload_n 1, 1) := by decide +kernel
theorem dX11_seenOf_89 : decode cX11_seenOf 89 = .ok (.aload_n 0, 1) := by decide +kernel
theorem dX11_seenOf_90 : decode cX11_seenOf 90 = .ok (.getfield 50, 3) := by decide +kernel
theorem dX11_seenOf_93 : decode cX11_seenOf 93 = .ok (.aload_n 0, 1) := by decide +kernel
theorem dX11_seenOf_94 : decode cX11_seenOf 94 = .ok (.getfield 36, 3) := by decide +kernel
theorem dX11_seenOf_97 : decode cX11_seenOf 97 = .ok (.invokevirtual 173, 3) := by decide +kernel
theorem dX11_seenOf_100 : decode cX11_seenOf 100 = .ok (.ireturn, 1) := by decide +kernel
theorem dX11_seenOf_101 : decode cX11_seenOf 101 = .ok (.aload_n 0, 1) := by decide +kernel
theorem dX11_seenOf_102 : decode cX11_seenOf 102 = .ok (.getfield 50, 3) := by decide +kernel
theorem dX11_seenOf_105 : decode cX11_seenOf 105 = .ok (.getfield 177, 3) := by decide +kernel
theorem dX11_seenOf_108 : decode cX11_seenOf 108 = .ok (.ireturn, 1) := by decide +kernel
theorem dX11_seenOf_109 : decode cX11_seenOf 109 = .ok (.aload_n 0, 1) := by decide +kernel
theorem dX11_seenOf_110 : decode cX11_seenOf 110 = .ok (.getfield 50, 3) := by decide +kernel
theorem dX11_seenOf_113 : decode cX11_seenOf 113 = .ok (.iload_n 2, 1) := by decide +kernel
theorem dX11_seenOf_114 : decode cX11_seenOf 114 = .ok (.bipush 10, 2) := by decide +kernel
theorem dX11_seenOf_116 : decode cX11_seenOf 116 = .ok (.isub, 1) := by decide +kernel
theorem dX11_seenOf_117 : decode cX11_seenOf 117 = .ok (.invokevirtual 322, 3) := by decide +kernel
theorem dX11_seenOf_120 : decode cX11_seenOf 120 = .ok (.ireturn, 1) := by decide +kernel
theorem dX11_seenOf_121 : decode cX11_seenOf 121 = .ok (.aload_n 0, 1) := by decide +kernel
theorem dX11_seenOf_122 : decode cX11_seenOf 122 = .ok (.getfield 50, 3) := by decide +kernel
theorem dX11_seenOf_125 : decode cX11_seenOf 125 = .ok (.iload_n 2, 1) := by decide +kernel
theorem dX11_seenOf_126 : decode cX11_seenOf 126 = .ok (.bipush 20, 2) := by decide +kernel
theorem dX11_seenOf_128 : decode cX11_seenOf 128 = .ok (.isub, 1) := by decide +kernel
theorem dX11_seenOf_129 : decode cX11_seenOf 129 = .ok (.invokevirtual 325, 3) := by decide +kernel
theorem dX11_seenOf_132 : decode cX11_seenOf 132 = .ok (.ireturn, 1) := by decide +kernel
theorem dX11_seenOf_133 : decode cX11_seenOf 133 = .ok (.iconst (-1), 1) := by decide +kernel
theorem dX11_seenOf_134 : decode cX11_seenOf 134 = .ok (.ireturn, 1) := by decide +kernel
theorem dX11_supposed_0 : decode cX11_supposed 0 = .ok (.aload_n 0, 1) := by decide +kernel
theorem dX11_supposed_1 : decode cX11_supposed 1 = .ok (.getfield 43, 3) := by decide +kernel
theorem dX11_supposed_4 : decode cX11_supposed 4 = .ok (.iconst 0, 1) := by decide +kernel
theorem dX11_supposed_5 : decode cX11_supposed 5 = .ok (.aaload, 1) := by decide +kernel
theorem dX11_supposed_6 : decode cX11_supposed 6 = .ok (.astore_n 1, 1) := by decide +kernel
theorem dX11_supposed_7 : decode cX11_supposed 7 = .ok (.aload_n 1, 1) := by decide +kernel
theorem dX11_supposed_8 : decode cX11_supposed 8 = .ok (.aload_n 0, 1) := by decide +kernel
theorem dX11_supposed_9 : decode cX11_supposed 9 = .ok (.getfield 36, 3) := by decide +kernel
theorem dX11_supposed_12 : decode cX11_supposed 12 = .ok (.invokevirtual 328, 3) := by decide +kernel
theorem dX11_supposed_15 : decode cX11_supposed 15 = .ok (.aload_n 1, 1) := by decide +kernel
theorem dX11_supposed_16 : decode cX11_supposed 16 = .ok (.areturn, 1) := by decide +kernel
theorem dX11_goesAsSeen_0 : decode cX11_goesAsSeen 0 = .ok (.aload_n 0, 1) := by decide +kernel
theorem dX11_goesAsSeen_1 : decode cX11_goesAsSeen 1 = .ok (.invokevirtual 219, 3) := by decide +kernel
theorem dX11_goesAsSeen_4 : decode cX11_goesAsSeen 4 = .ok (.astore_n 2, 1) := by decide +kernel
theorem dX11_goesAsSeen_5 : decode cX11_goesAsSeen 5 = .ok (.iconst 0, 1) := by decide +kernel
theorem dX11_goesAsSeen_6 : decode cX11_goesAsSeen 6 = .ok (.istore_n 3, 1) := by decide +kernel
theorem dX11_goesAsSeen_7 : decode cX11_goesAsSeen 7 = .ok (.iload_n 3, 1) := by decide +kernel
theorem dX11_goesAsSeen_8 : decode cX11_goesAsSeen 8 = .ok (.aload_n 0, 1) := by decide +kernel
theorem dX11_goesAsSeen_9 : decode cX11_goesAsSeen 9 = .ok (.getfield 36, 3) := by decide +kernel
theorem dX11_goesAsSeen_12 : decode cX11_goesAsSeen 12 = .ok (.getfield 223, 3) := by decide +kernel
theorem dX11_goesAsSeen_15 : decode cX11_goesAsSeen 15 = .ok (.getfield 145, 3) := by decide +kernel
theorem dX11_goesAsSeen_18 : decode cX11_goesAsSeen 18 = .ok (.if_icmp .ge 55, 3) := by decide +kernel
theorem dX11_goesAsSeen_21 : decode cX11_goesAsSeen 21 = .ok (.aload_n 0, 1) := by decide +kernel
theorem dX11_goesAsSeen_22 : decode cX11_goesAsSeen 22 = .ok (.aload_n 2, 1) := by decide +kernel
theorem dX11_goesAsSeen_23 : decode cX11_goesAsSeen 23 = .ok (.aload_n 1, 1) := by decide +kernel
theorem dX11_goesAsSeen_24 : decode cX11_goesAsSeen 24 = .ok (.invokevirtual 116, 3) := by decide +kernel
theorem dX11_goesAsSeen_27 : decode cX11_goesAsSeen 27 = .ok (.aload_n 1, 1) := by decide +kernel
theorem dX11_goesAsSeen_28 : decode cX11_goesAsSeen 28 = .ok (.aload_n 0, 1) := by decide +kernel
theorem dX11_goesAsSeen_29 : decode cX11_goesAsSeen 29 = .ok (.getfield 50, 3) := by decide +kernel
theorem dX11_goesAsSeen_32 : decode cX11_goesAsSeen 32 = .ok (.aload_n 2, 1) := by decide +kernel
theorem dX11_goesAsSeen_33 : decode cX11_goesAsSeen 33 = .ok (.invokevirtual 173, 3) := by decide +kernel
theorem dX11_goesAsSeen_36 : decode cX11_goesAsSeen 36 = .ok (.istore 4, 2) := by decide +kernel
theorem dX11_goesAsSeen_38 : decode cX11_goesAsSeen 38 = .ok (.iload 4, 2) := by decide +kernel
theorem dX11_goesAsSeen_40 : decode cX11_goesAsSeen 40 = .ok (.aload_n 0, 1) := by decide +kernel
theorem dX11_goesAsSeen_41 : decode cX11_goesAsSeen 41 = .ok (.getfield 36, 3) := by decide +kernel
theorem dX11_goesAsSeen_44 : decode cX11_goesAsSeen 44 = .ok (.getfield 223, 3) := by decide +kernel
theorem dX11_goesAsSeen_47 : decode cX11_goesAsSeen 47 = .ok (.iload_n 3, 1) := by decide +kernel
theorem dX11_goesAsSeen_48 : decode cX11_goesAsSeen 48 = .ok (.invokevirtual 238, 3) := by decide +kernel
theorem dX11_goesAsSeen_51 : decode cX11_goesAsSeen 51 = .ok (.if_icmp .eq 5, 3) := by decide +kernel
theorem dX11_goesAsSeen_54 : decode cX11_goesAsSeen 54 = .ok (.iconst 0, 1) := by decide +kernel
theorem dX11_goesAsSeen_55 : decode cX11_goesAsSeen 55 = .ok (.ireturn, 1) := by decide +kernel
theorem dX11_goesAsSeen_56 : decode cX11_goesAsSeen 56 = .ok (.aload_n 2, 1) := by decide +kernel
theorem dX11_goesAsSeen_57 : decode cX11_goesAsSeen 57 = .ok (.aload_n 1, 1) := by decide +kernel
theorem dX11_goesAsSeen_58 : decode cX11_goesAsSeen 58 = .ok (.getfield 241, 3) := by decide +kernel
theorem dX11_goesAsSeen_61 : decode cX11_goesAsSeen 61 = .ok (.iload 4, 2) := by decide +kernel
theorem dX11_goesAsSeen_63 : decode cX11_goesAsSeen 63 = .ok (.iconst 0, 1) := by decide +kernel
theorem dX11_goesAsSeen_64 : decode cX11_goesAsSeen 64 = .ok (.invokevirtual 180, 3) := by decide +kernel
theorem dX11_goesAsSeen_67 : decode cX11_goesAsSeen 67 = .ok (.iinc 3 1, 3) := by decide +kernel
theorem dX11_goesAsSeen_70 : decode cX11_goesAsSeen 70 = .ok (.goto (-63), 3) := by decide +kernel
theorem dX11_goesAsSeen_73 : decode cX11_goesAsSeen 73 = .ok (.iconst 1, 1) := by decide +kernel
theorem dX11_goesAsSeen_74 : decode cX11_goesAsSeen 74 = .ok (.ireturn, 1) := by decide +kernel
theorem dX11_reckonLine_0 : decode cX11_reckonLine 0 = .ok (.iconst 0, 1) := by decide +kernel
theorem dX11_reckonLine_1 : decode cX11_reckonLine 1 = .ok (.istore_n 1, 1) := by decide +kernel
theorem dX11_reckonLine_2 : decode cX11_reckonLine 2 = .ok (.iload_n 1, 1) := by decide +kernel
theorem dX11_reckonLine_3 : decode cX11_reckonLine 3 = .ok (.aload_n 0, 1) := by decide +kernel
theorem dX11_reckonLine_4 : decode cX11_reckonLine 4 = .ok (.getfield 82, 3) := by decide +kernel
theorem dX11_reckonLine_7 : decode cX11_reckonLine 7 = .ok (.arraylength, 1) := by decide +kernel
theorem dX11_reckonLine_8 : decode cX11_reckonLine 8 = .ok (.if_icmp .ge 16, 3) := by decide +kernel
theorem dX11_reckonLine_11 : decode cX11_reckonLine 11 = .ok (.aload_n 0, 1) := by decide +kernel
theorem dX11_reckonLine_12 : decode cX11_reckonLine 12 = .ok (.getfield 82, 3) := by decide +kernel
theorem dX11_reckonLine_15 : decode cX11_reckonLine 15 = .ok (.iload_n 1, 1) := by decide +kernel
theorem dX11_reckonLine_16 : decode cX11_reckonLine 16 = .ok (.iload_n 1, 1) := by decide +kernel
theorem dX11_reckonLine_17 : decode cX11_reckonLine 17 = .ok (.iastore, 1) := by decide +kernel
theorem dX11_reckonLine_18 : decode cX11_reckonLine 18 = .ok (.iinc 1 1, 3) := by decide +kernel
theorem dX11_reckonLine_21 : decode cX11_reckonLine 21 = .ok (.goto (-19), 3) := by decide +kernel
theorem dX11_reckonLine_24 : decode cX11_reckonLine 24 = .ok (.aload_n 0, 1) := by decide +kernel
theorem dX11_reckonLine_25 : decode cX11_reckonLine 25 = .ok (.invokevirtual 331, 3) := by decide +kernel
theorem dX11_reckonLine_28 : decode cX11_reckonLine 28 = .ok (.aload_n 0, 1) := by decide +kernel
theorem dX11_reckonLine_29 : decode cX11_reckonLine 29 = .ok (.iconst 0, 1) := by decide +kernel
theorem dX11_reckonLine_30 : decode cX11_reckonLine 30 = .ok (.iconst 0, 1) := by decide +kernel
theorem dX11_reckonLine_31 : decode cX11_reckonLine 31 = .ok (.lconst 1, 1) := by decide +kernel
theorem dX11_reckonLine_32 : decode cX11_reckonLine 32 = .ok (.invokevirtual 334, 3) := by decide +kernel
theorem dX11_reckonLine_35 : decode cX11_reckonLine 35 = .ok (.return_, 1) := by decide +kernel
theorem dX11_beginReckoning_0 : decode cX11_beginReckoning 0 = .ok (.aload_n 0, 1) := by decide +kernel
theorem dX11_beginReckoning_1 : decode cX11_beginReckoning 1 = .ok (.getfield 75, 3) := by decide +kernel
theorem dX11_beginReckoning_4 : decode cX11_beginReckoning 4 = .ok (.lconst 0, 1) := by decide +kernel
theorem dX11_beginReckoning_5 : decode cX11_beginReckoning 5 = .ok (.invokestatic 276, 3) := by decide +kernel
theorem dX11_beginReckoning_8 : decode cX11_beginReckoning 8 = .ok (.aload_n 0, 1) := by decide +kernel
theorem dX11_beginReckoning_9 : decode cX11_beginReckoning 9 = .ok (.invokevirtual 219, 3) := by decide +kernel
theorem dX11_beginReckoning_12 : decode cX11_beginReckoning 12 = .ok (.pop, 1) := by decide +kernel
theorem dX11_beginReckoning_13 : decode cX11_beginReckoning 13 = .ok (.return_, 1) := by decide +kernel
theorem dX11_spread_0 : decode cX11_spread 0 = .ok (.iload_n 1, 1) := by decide +kernel
theorem dX11_spread_1 : decode cX11_spread 1 = .ok (.ifCond .lt 26, 3) := by decide +kernel
theorem dX11_spread_4 : decode cX11_spread 4 = .ok (.iload_n 1, 1) := by decide +kernel
theorem dX11_spread_5 : decode cX11_spread 5 = .ok (.aload_n 0, 1) := by decide +kernel
theorem dX11_spread_6 : decode cX11_spread 6 = .ok (.getfield 36, 3) := by decide +kernel
theorem dX11_spread_9 : decode cX11_spread 9 = .ok (.getfield 194, 3) := by decide +kernel
theorem dX11_spread_12 : decode cX11_spread 12 = .ok (.getfield 145, 3) := by decide +kernel
theorem dX11_spread_15 : decode cX11_spread 15 = .ok (.if_icmp .ge 12, 3) := by decide +kernel
theorem dX11_spread_18 : decode cX11_spread 18 = .ok (.iload_n 1, 1) := by decide +kernel
theorem dX11_spread_19 : decode cX11_spread 19 = .ok (.aload_n 0, 1) := by decide +kernel
theorem dX11_spread_20 : decode cX11_spread 20 = .ok (.getfield 82, 3) := by decide +kernel
theorem dX11_spread_23 : decode cX11_spread 23 = .ok (.arraylength, 1) := by decide +kernel
theorem dX11_spread_24 : decode cX11_spread 24 = .ok (.if_icmp .lt 27, 3) := by decide +kernel
theorem dX11_spread_27 : decode cX11_spread 27 = .ok (.iload_n 2, 1) := by decide +kernel
theorem dX11_spread_28 : decode cX11_spread 28 = .ok (.ifCond .lt 22, 3) := by decide +kernel
theorem dX11_spread_31 : decode cX11_spread 31 = .ok (.iload_n 2, 1) := by decide +kernel
theorem dX11_spread_32 : decode cX11_spread 32 = .ok (.aload_n 0, 1) := by decide +kernel
theorem dX11_spread_33 : decode cX11_spread 33 = .ok (.getfield 75, 3) := by decide +kernel
theorem dX11_spread_36 : decode cX11_spread 36 = .ok (.arraylength, 1) := by decide +kernel
theorem dX11_spread_37 : decode cX11_spread 37 = .ok (.if_icmp .ge 13, 3) := by decide +kernel
theorem dX11_spread_40 : decode cX11_spread 40 = .ok (.aload_n 0, 1) := by decide +kernel
theorem dX11_spread_41 : decode cX11_spread 41 = .ok (.getfield 75, 3) := by decide +kernel
theorem dX11_spread_44 : decode cX11_spread 44 = .ok (.iload_n 2, 1) := by decide +kernel
theorem dX11_spread_45 : decode cX11_spread 45 = .ok (.dup2, 1) := by decide +kernel
theorem dX11_spread_46 : decode cX11_spread 46 = .ok (.laload, 1) := by decide +kernel
theorem dX11_spread_47 : decode cX11_spread 47 = .ok (.lload_n 3, 1) := by decide +kernel
theorem dX11_spread_48 : decode cX11_spread 48 = .ok (.ladd, 1) := by decide +kernel
theorem dX11_spread_49 : decode cX11_spread 49 = .ok (.lastore, 1) := by decide +kernel
theorem dX11_spread_50 : decode cX11_spread 50 = .ok (.return_, 1) := by decide +kernel
theorem dX11_spread_51 : decode cX11_spread 51 = .ok (.aload_n 0, 1) := by decide +kernel
theorem dX11_spread_52 : decode cX11_spread 52 = .ok (.aload_n 0, 1) := by decide +kernel
theorem dX11_spread_53 : decode cX11_spread 53 = .ok (.getfield 36, 3) := by decide +kernel
theorem dX11_spread_56 : decode cX11_spread 56 = .ok (.getfield 194, 3) := by decide +kernel
theorem dX11_spread_59 : decode cX11_spread 59 = .ok (.aload_n 0, 1) := by decide +kernel
theorem dX11_spread_60 : decode cX11_spread 60 = .ok (.getfield 82, 3) := by decide +kernel
theorem dX11_spread_63 : decode cX11_spread 63 = .ok (.iload_n 1, 1) := by decide +kernel
theorem dX11_spread_64 : decode cX11_spread 64 = .ok (.iaload, 1) := by decide +kernel
theorem dX11_spread_65 : decode cX11_spread 65 = .ok (.invokevirtual 238, 3) := by decide +kernel
theorem dX11_spread_68 : decode cX11_spread 68 = .ok (.invokevirtual 95, 3) := by decide +kernel
theorem dX11_spread_71 : decode cX11_spread 71 = .ok (.astore 5, 2) := by decide +kernel
theorem dX11_spread_73 : decode cX11_spread 73 = .ok (.aload 5, 2) := by decide +kernel
theorem dX11_spread_75 : decode cX11_spread 75 = .ok (.ifnull 12, 3) := by decide +kernel
theorem dX11_spread_78 : decode cX11_spread 78 = .ok (.iload_n 1, 1) := by decide +kernel
theorem dX11_spread_79 : decode cX11_spread 79 = .ok (.aload_n 0, 1) := by decide +kernel
theorem dX11_spread_80 : decode cX11_spread 80 = .ok (.getfield 43, 3) := by decide +kernel
theorem dX11_spread_83 : decode cX11_spread 83 = .ok (.arraylength, 1) := by decide +kernel
theorem dX11_spread_84 : decode cX11_spread 84 = .ok (.if_icmp .lt 4, 3) := by decide +kernel
theorem dX11_spread_87 : decode cX11_spread 87 = .ok (.return_, 1) := by decide +kernel
theorem dX11_spread_88 : decode cX11_spread 88 = .ok (.aload_n 0, 1) := by decide +kernel
theorem dX11_spread_89 : decode cX11_spread 89 = .ok (.aload_n 0, 1) := by decide +kernel
theorem dX11_spread_90 : decode cX11_spread 90 = .ok (.getfield 43, 3) := by decide +kernel
theorem dX11_spread_93 : decode cX11_spread 93 = .ok (.iload_n 1, 1) := by decide +kernel
theorem dX11_spread_94 : decode cX11_spread 94 = .ok (.aaload, 1) := by decide +kernel
theorem dX11_spread_95 : decode cX11_spread 95 = .ok (.aload 5, 2) := by decide +kernel
theorem dX11_spread_97 : decode cX11_spread 97 = .ok (.invokevirtual 116, 3) := by decide +kernel
theorem dX11_spread_100 : decode cX11_spread 100 = .ok (.aload 5, 2) := by decide +kernel
theorem dX11_spread_102 : decode cX11_spread 102 = .ok (.aload_n 0, 1) := by decide +kernel
theorem dX11_spread_103 : decode cX11_spread 103 = .ok (.getfield 50, 3) := by decide +kernel
theorem dX11_spread_106 : decode cX11_spread 106 = .ok (.aload_n 0, 1) := by decide +kernel
theorem dX11_spread_107 : decode cX11_spread 107 = .ok (.getfield 43, 3) := by decide +kernel
theorem dX11_spread_110 : decode cX11_spread 110 = .ok (.iload_n 1, 1) := by decide +kernel
theorem dX11_spread_111 : decode cX11_spread 111 = .ok (.aaload, 1) := by decide +kernel
theorem dX11_spread_112 : decode cX11_spread 112 = .ok (.invokevirtual 173, 3) := by decide +kernel
theorem dX11_spread_115 : decode cX11_spread 115 = .ok (.istore 6, 2) := by decide +kernel
theorem dX11_spread_117 : decode cX11_spread 117 = .ok (.aload_n 0, 1) := by decide +kernel
theorem dX11_spread_118 : decode cX11_spread 118 = .ok (.getfield 50, 3) := by decide +kernel
theorem dX11_spread_121 : decode cX11_spread 121 = .ok (.iload 6, 2) := by decide +kernel
theorem dX11_spread_123 : decode cX11_spread 123 = .ok (.aload_n 0, 1) := by decide +kernel
theorem dX11_spread_124 : decode cX11_spread 124 = .ok (.getfield 50, 3) := by decide +kernel
theorem dX11_spread_127 : decode cX11_spread 127 = .ok (.getfield 177, 3) := by decide +kernel
theorem dX11_spread_130 : decode cX11_spread 130 = .ok (.invokevirtual 167, 3) := by decide +kernel
theorem dX11_spread_133 : decode cX11_spread 133 = .ok (.istore 7, 2) := by decide +kernel
theorem dX11_spread_135 : decode cX11_spread 135 = .ok (.iload 7, 2) := by decide +kernel
theorem dX11_spread_137 : decode cX11_spread 137 = .ok (.ifCond .le 24, 3) := by decide +kernel
theorem dX11_spread_140 : decode cX11_spread 140 = .ok (.aload_n 0, 1) := by decide +kernel
theorem dX11_spread_141 : decode cX11_spread 141 = .ok (.iload_n 1, 1) := by decide +kernel
theorem dX11_spread_142 : decode cX11_spread 142 = .ok (.aload 5, 2) := by decide +kernel
theorem dX11_spread_144 : decode cX11_spread 144 = .ok (.getfield 241, 3) := by decide +kernel
theorem dX11_spread_147 : decode cX11_spread 147 = .ok (.iload 6, 2) := by decide +kernel
theorem dX11_spread_149 : decode cX11_spread 149 = .ok (.iconst 1, 1) := by decide +kernel
theorem dX11_spread_150 : decode cX11_spread 150 = .ok (.iload_n 2, 1) := by decide +kernel
theorem dX11_spread_151 : decode cX11_spread 151 = .ok (.iconst 1, 1) := by decide +kernel
theorem dX11_spread_152 : decode cX11_spread 152 = .ok (.iadd, 1) := by decide +kernel
theorem dX11_spread_153 : decode cX11_spread 153 = .ok (.lload_n 3, 1) := by decide +kernel
theorem dX11_spread_154 : decode cX11_spread 154 = .ok (.iload 7, 2) := by decide +kernel
theorem dX11_spread_156 : decode cX11_spread 156 = .ok (.i2l, 1) := by decide +kernel
theorem dX11_spread_157 : decode cX11_spread 157 = .ok (.lmul, 1) := by decide +kernel
theorem dX11_spread_158 : decode cX11_spread 158 = .ok (.invokevirtual 338, 3) := by decide +kernel
theorem dX11_spread_161 : decode cX11_spread 161 = .ok (.iload 7, 2) := by decide +kernel
theorem dX11_spread_163 : decode cX11_spread 163 = .ok (.bipush 100, 2) := by decide +kernel
theorem dX11_spread_165 : decode cX11_spread 165 = .ok (.if_icmp .ge 25, 3) := by decide +kernel
theorem dX11_spread_168 : decode cX11_spread 168 = .ok (.aload_n 0, 1) := by decide +kernel
theorem dX11_spread_169 : decode cX11_spread 169 = .ok (.iload_n 1, 1) := by decide +kernel
theorem dX11_spread_170 : decode cX11_spread 170 = .ok (.aload 5, 2) := by decide +kernel
theorem dX11_spread_172 : decode cX11_spread 172 = .ok (.getfield 241, 3) := by decide +kernel
theorem dX11_spread_175 : decode cX11_spread 175 = .ok (.iload 6, 2) := by decide +kernel
theorem dX11_spread_177 : decode cX11_spread 177 = .ok (.iconst 0, 1) := by decide +kernel
theorem dX11_spread_178 : decode cX11_spread 178 = .ok (.iload_n 2, 1) := by decide +kernel
theorem dX11_spread_179 : decode cX11_spread 179 = .ok (.lload_n 3, 1) := by decide +kernel
theorem dX11_spread_180 : decode cX11_spread 180 = .ok (.bipush 100, 2) := by decide +kernel
theorem dX11_spread_182 : decode cX11_spread 182 = .ok (.iload 7, 2) := by decide +kernel
theorem dX11_spread_184 : decode cX11_spread 184 = .ok (.isub, 1) := by decide +kernel
theorem dX11_spread_185 : decode cX11_spread 185 = .ok (.i2l, 1) := by decide +kernel
theorem dX11_spread_186 : decode cX11_spread 186 = .ok (.lmul, 1) := by decide +kernel
theorem dX11_spread_187 : decode cX11_spread 187 = .ok (.invokevirtual 338, 3) := by decide +kernel
theorem dX11_spread_190 : decode cX11_spread 190 = .ok (.return_, 1) := by decide +kernel
theorem dX11_goOn_0 : decode cX11_goOn 0 = .ok (.iload_n 1, 1) := by decide +kernel
theorem dX11_goOn_1 : decode cX11_goOn 1 = .ok (.ifCond .lt 14, 3) := by decide +kernel
theorem dX11_goOn_4 : decode cX11_goOn 4 = .ok (.iload_n 1, 1) := by decide +kernel
theorem dX11_goOn_5 : decode cX11_goOn 5 = .ok (.iconst 1, 1) := by decide +kernel
theorem dX11_goOn_6 : decode cX11_goOn 6 = .ok (.iadd, 1) := by decide +kernel
theorem dX11_goOn_7 : decode cX11_goOn 7 = .ok (.aload_n 0, 1) := by decide +kernel
theorem dX11_goOn_8 : decode cX11_goOn 8 = .ok (.getfield 43, 3) := by decide +kernel
theorem dX11_goOn_11 : decode cX11_goOn 11 = .ok (.arraylength, 1) := by decide +kernel
theorem dX11_goOn_12 : decode cX11_goOn 12 = .ok (.if_icmp .lt 4, 3) := by decide +kernel
theorem dX11_goOn_15 : decode cX11_goOn 15 = .ok (.return_, 1) := by decide +kernel
theorem dX11_goOn_16 : decode cX11_goOn 16 = .ok (.aload_n 0, 1) := by decide +kernel
theorem dX11_goOn_17 : decode cX11_goOn 17 = .ok (.getfield 43, 3) := by decide +kernel
theorem dX11_goOn_20 : decode cX11_goOn 20 = .ok (.iload_n 1, 1) := by decide +kernel
theorem dX11_goOn_21 : decode cX11_goOn 21 = .ok (.iconst 1, 1) := by decide +kernel
theorem dX11_goOn_22 : decode cX11_goOn 22 = .ok (.iadd, 1) := by decide +kernel
theorem dX11_goOn_23 : decode cX11_goOn 23 = .ok (.aaload, 1) := by decide +kernel
theorem dX11_goOn_24 : decode cX11_goOn 24 = .ok (.aload_n 0, 1) := by decide +kernel
theorem dX11_goOn_25 : decode cX11_goOn 25 = .ok (.getfield 43, 3) := by decide +kernel
theorem dX11_goOn_28 : decode cX11_goOn 28 = .ok (.iload_n 1, 1) := by decide +kernel
theorem dX11_goOn_29 : decode cX11_goOn 29 = .ok (.aaload, 1) := by decide +kernel
theorem dX11_goOn_30 : decode cX11_goOn 30 = .ok (.invokevirtual 328, 3) := by decide +kernel
theorem dX11_goOn_33 : decode cX11_goOn 33 = .ok (.aload_n 0, 1) := by decide +kernel
theorem dX11_goOn_34 : decode cX11_goOn 34 = .ok (.getfield 43, 3) := by decide +kernel
theorem dX11_goOn_37 : decode cX11_goOn 37 = .ok (.iload_n 1, 1) := by decide +kernel
theorem dX11_goOn_38 : decode cX11_goOn 38 = .ok (.iconst 1, 1) := by decide +kernel
theorem dX11_goOn_39 : decode cX11_goOn 39 = .ok (.iadd, 1) := by decide +kernel
theorem dX11_goOn_40 : decode cX11_goOn 40 = .ok (.aaload, 1) := by decide +kernel
theorem dX11_goOn_41 : decode cX11_goOn 41 = .ok (.iload_n 2, 1) := by decide +kernel
theorem dX11_goOn_42 : decode cX11_goOn 42 = .ok (.iload_n 3, 1) := by decide +kernel
theorem dX11_goOn_43 : decode cX11_goOn 43 = .ok (.iload 4, 2) := by decide +kernel
theorem dX11_goOn_45 : decode cX11_goOn 45 = .ok (.invokevirtual 180, 3) := by decide +kernel
theorem dX11_goOn_48 : decode cX11_goOn 48 = .ok (.aload_n 0, 1) := by decide +kernel
theorem dX11_goOn_49 : decode cX11_goOn 49 = .ok (.iload_n 1, 1) := by decide +kernel
theorem dX11_goOn_50 : decode cX11_goOn 50 = .ok (.iconst 1, 1) := by decide +kernel
theorem dX11_goOn_51 : decode cX11_goOn 51 = .ok (.iadd, 1) := by decide +kernel
theorem dX11_goOn_52 : decode cX11_goOn 52 = .ok (.iload 5, 2) := by decide +kernel
theorem dX11_goOn_54 : decode cX11_goOn 54 = .ok (.lload 6, 2) := by decide +kernel
theorem dX11_goOn_56 : decode cX11_goOn 56 = .ok (.invokevirtual 334, 3) := by decide +kernel
theorem dX11_goOn_59 : decode cX11_goOn 59 = .ok (.return_, 1) := by decide +kernel
theorem dX11_chooseOrder_0 : decode cX11_chooseOrder 0 = .ok (.ldc2_w 342, 3) := by decide +kernel
theorem dX11_chooseOrder_3 : decode cX11_chooseOrder 3 = .ok (.lstore_n 2, 1) := by decide +kernel
theorem dX11_chooseOrder_4 : decode cX11_chooseOrder 4 = .ok (.iconst 1, 1) := by decide +kernel
theorem dX11_chooseOrder_5 : decode cX11_chooseOrder 5 = .ok (.iconst 2, 1) := by decide +kernel
theorem dX11_chooseOrder_6 : decode cX11_chooseOrder 6 = .ok (.iload_n 1, 1) := by decide +kernel
theorem dX11_chooseOrder_7 : decode cX11_chooseOrder 7 = .ok (.imul, 1) := by decide +kernel
theorem dX11_chooseOrder_8 : decode cX11_chooseOrder 8 = .ok (.ishl, 1) := by decide +kernel
theorem dX11_chooseOrder_9 : decode cX11_chooseOrder 9 = .ok (.istore 4, 2) := by decide +kernel
theorem dX11_chooseOrder_11 : decode cX11_chooseOrder 11 = .ok (.iconst 0, 1) := by decide +kernel
theorem dX11_chooseOrder_12 : decode cX11_chooseOrder 12 = .ok (.istore 5, 2) := by decide +kernel
theorem dX11_chooseOrder_14 : decode cX11_chooseOrder 14 = .ok (.iload 5, 2) := by decide +kernel
theorem dX11_chooseOrder_16 : decode cX11_chooseOrder 16 = .ok (.iload 4, 2) := by decide +kernel
theorem dX11_chooseOrder_18 : decode cX11_chooseOrder 18 = .ok (.if_icmp .ge 65, 3) := by decide +kernel
theorem dX11_chooseOrder_21 : decode cX11_chooseOrder 21 = .ok (.aload_n 0, 1) := by decide +kernel
theorem dX11_chooseOrder_22 : decode cX11_chooseOrder 22 = .ok (.iload 5, 2) := by decide +kernel
theorem dX11_chooseOrder_24 : decode cX11_chooseOrder 24 = .ok (.iload_n 1, 1) := by decide +kernel
theorem dX11_chooseOrder_25 : decode cX11_chooseOrder 25 = .ok (.invokevirtual 344, 3) := by decide +kernel
theorem dX11_chooseOrder_28 : decode cX11_chooseOrder 28 = .ok (.ifCond .eq 49, 3) := by decide +kernel
theorem dX11_chooseOrder_31 : decode cX11_chooseOrder 31 = .ok (.aload_n 0, 1) := by decide +kernel
theorem dX11_chooseOrder_32 : decode cX11_chooseOrder 32 = .ok (.invokevirtual 331, 3) := by decide +kernel
theorem dX11_chooseOrder_35 : decode cX11_chooseOrder 35 = .ok (.aload_n 0, 1) := by decide +kernel
theorem dX11_chooseOrder_36 : decode cX11_chooseOrder 36 = .ok (.iconst 0, 1) := by decide +kernel
theorem dX11_chooseOrder_37 : decode cX11_chooseOrder 37 = .ok (.iconst 0, 1) := by decide +kernel
theorem dX11_chooseOrder_38 : decode cX11_chooseOrder 38 = .ok (.lconst 1, 1) := by decide +kernel
theorem dX11_chooseOrder_39 : decode cX11_chooseOrder 39 = .ok (.invokevirtual 334, 3) := by decide +kernel
theorem dX11_chooseOrder_42 : decode cX11_chooseOrder 42 = .ok (.aload_n 0, 1) := by decide +kernel
theorem dX11_chooseOrder_43 : decode cX11_chooseOrder 43 = .ok (.iload_n 1, 1) := by decide +kernel
theorem dX11_chooseOrder_44 : decode cX11_chooseOrder 44 = .ok (.invokevirtual 347, 3) := by decide +kernel
theorem dX11_chooseOrder_47 : decode cX11_chooseOrder 47 = .ok (.lstore 6, 2) := by decide +kernel
theorem dX11_chooseOrder_49 : decode cX11_chooseOrder 49 = .ok (.lload 6, 2) := by decide +kernel
theorem dX11_chooseOrder_51 : decode cX11_chooseOrder 51 = .ok (.lload_n 2, 1) := by decide +kernel
theorem dX11_chooseOrder_52 : decode cX11_chooseOrder 52 = .ok (.lcmp, 1) := by decide +kernel
theorem dX11_chooseOrder_53 : decode cX11_chooseOrder 53 = .ok (.ifCond .le 24, 3) := by decide +kernel
theorem dX11_chooseOrder_56 : decode cX11_chooseOrder 56 = .ok (.lload 6, 2) := by decide +kernel
theorem dX11_chooseOrder_58 : decode cX11_chooseOrder 58 = .ok (.lstore_n 2, 1) := by decide +kernel
theorem dX11_chooseOrder_59 : decode cX11_chooseOrder 59 = .ok (.aload_n 0, 1) := by decide +kernel
theorem dX11_chooseOrder_60 : decode cX11_chooseOrder 60 = .ok (.getfield 82, 3) := by decide +kernel
theorem dX11_chooseOrder_63 : decode cX11_chooseOrder 63 = .ok (.iconst 0, 1) := by decide +kernel
theorem dX11_chooseOrder_64 : decode cX11_chooseOrder 64 = .ok (.aload_n 0, 1) := by decide +kernel
theorem dX11_chooseOrder_65 : decode cX11_chooseOrder 65 = .ok (.getfield 85, 3) := by decide +kernel
theorem dX11_chooseOrder_68 : decode cX11_chooseOrder 68 = .ok (.iconst 0, 1) := by decide +kernel
theorem dX11_chooseOrder_69 : decode cX11_chooseOrder 69 = .ok (.aload_n 0, 1) := by decide +kernel
theorem dX11_chooseOrder_70 : decode cX11_chooseOrder 70 = .ok (.getfield 82, 3) := by decide +kernel
theorem dX11_chooseOrder_73 : decode cX11_chooseOrder 73 = .ok (.arraylength, 1) := by decide +kernel
theorem dX11_chooseOrder_74 : decode cX11_chooseOrder 74 = .ok (.invokestatic 287, 3) := by decide +kernel
theorem dX11_chooseOrder_77 : decode cX11_chooseOrder 77 = .ok (.iinc 5 1, 3) := by decide +kernel
theorem dX11_chooseOrder_80 : decode cX11_chooseOrder 80 = .ok (.goto (-66), 3) := by decide +kernel
theorem dX11_chooseOrder_83 : decode cX11_chooseOrder 83 = .ok (.return_, 1) := by decide +kernel
theorem dX11_arrange_0 : decode cX11_arrange 0 = .ok (.iconst 0, 1) := by decide +kernel
theorem dX11_arrange_1 : decode cX11_arrange 1 = .ok (.istore_n 3, 1) := by decide +kernel
theorem dX11_arrange_2 : decode cX11_arrange 2 = .ok (.iconst 0, 1) := by decide +kernel
theorem dX11_arrange_3 : decode cX11_arrange 3 = .ok (.istore 4, 2) := by decide +kernel
theorem dX11_arrange_5 : decode cX11_arrange 5 = .ok (.iload 4, 2) := by decide +kernel
theorem dX11_arrange_7 : decode cX11_arrange 7 = .ok (.iload_n 2, 1) := by decide +kernel
theorem dX11_arrange_8 : decode cX11_arrange 8 = .ok (.if_icmp .ge 67, 3) := by decide +kernel
theorem dX11_arrange_11 : decode cX11_arrange 11 = .ok (.iload 4, 2) := by decide +kernel
theorem dX11_arrange_13 : decode cX11_arrange 13 = .ok (.aload_n 0, 1) := by decide +kernel
theorem dX11_arrange_14 : decode cX11_arrange 14 = .ok (.getfield 82, 3) := by decide +kernel
theorem dX11_arrange_17 : decode cX11_arrange 17 = .ok (.arraylength, 1) := by decide +kernel
theorem dX11_arrange_18 : decode cX11_arrange 18 = .ok (.if_icmp .ge 57, 3) := by decide +kernel
theorem dX11_arrange_21 : decode cX11_arrange 21 = .ok (.iload_n 1, 1) := by decide +kernel
theorem dX11_arrange_22 : decode cX11_arrange 22 = .ok (.iconst 2, 1) := by decide +kernel
theorem dX11_arrange_23 : decode cX11_arrange 23 = .ok (.iload_n 2, 1) := by decide +kernel
theorem dX11_arrange_24 : decode cX11_arrange 24 = .ok (.iconst 1, 1) := by decide +kernel
theorem dX11_arrange_25 : decode cX11_arrange 25 = .ok (.isub, 1) := by decide +kernel
theorem dX11_arrange_26 : decode cX11_arrange 26 = .ok (.iload 4, 2) := by decide +kernel
theorem dX11_arrange_28 : decode cX11_arrange 28 = .ok (.isub, 1) := by decide +kernel
theorem dX11_arrange_29 : decode cX11_arrange 29 = .ok (.imul, 1) := by decide +kernel
theorem dX11_arrange_30 : decode cX11_arrange 30 = .ok (.ishr, 1) := by decide +kernel
theorem dX11_arrange_31 : decode cX11_arrange 31 = .ok (.iconst 3, 1) := by decide +kernel
theorem dX11_arrange_32 : decode cX11_arrange 32 = .ok (.iand, 1) := by decide +kernel
theorem dX11_arrange_33 : decode cX11_arrange 33 = .ok (.istore 5, 2) := by decide +kernel
theorem dX11_arrange_35 : decode cX11_arrange 35 = .ok (.iload 5, 2) := by decide +kernel
theorem dX11_arrange_37 : decode cX11_arrange 37 = .ok (.iload_n 2, 1) := by decide +kernel
theorem dX11_arrange_38 : decode cX11_arrange 38 = .ok (.if_icmp .ge 13, 3) := by decide +kernel
theorem dX11_arrange_41 : decode cX11_arrange 41 = .ok (.iload_n 3, 1) := by decide +kernel
theorem dX11_arrange_42 : decode cX11_arrange 42 = .ok (.iload 5, 2) := by decide +kernel
theorem dX11_arrange_44 : decode cX11_arrange 44 = .ok (.ishr, 1) := by decide +kernel
theorem dX11_arrange_45 : decode cX11_arrange 45 = .ok (.iconst 1, 1) := by decide +kernel
theorem dX11_arrange_46 : decode cX11_arrange 46 = .ok (.iand, 1) := by decide +kernel
theorem dX11_arrange_47 : decode cX11_arrange 47 = .ok (.iconst 1, 1) := by decide +kernel
theorem dX11_arrange_48 : decode cX11_arrange 48 = .ok (.if_icmp .ne 5, 3) := by decide +kernel
theorem dX11_arrange_51 : decode cX11_arrange 51 = .ok (.iconst 0, 1) := by decide +kernel
theorem dX11_arrange_52 : decode cX11_arrange 52 = .ok (.ireturn, 1) := by decide +kernel
theorem dX11_arrange_53 : decode cX11_arrange 53 = .ok (.iload_n 3, 1) := by decide +kernel
theorem dX11_arrange_54 : decode cX11_arrange 54 = .ok (.iconst 1, 1) := by decide +kernel
theorem dX11_arrange_55 : decode cX11_arrange 55 = .ok (.iload 5, 2) := by decide +kernel
theorem dX11_arrange_57 : decode cX11_arrange 57 = .ok (.ishl, 1) := by decide +kernel
theorem dX11_arrange_58 : decode cX11_arrange 58 = .ok (.ior, 1) := by decide +kernel
theorem dX11_arrange_59 : decode cX11_arrange 59 = .ok (.istore_n 3, 1) := by decide +kernel
theorem dX11_arrange_60 : decode cX11_arrange 60 = .ok (.aload_n 0, 1) := by decide +kernel
theorem dX11_arrange_61 : decode cX11_arrange 61 = .ok (.getfield 82, 3) := by decide +kernel
theorem dX11_arrange_64 : decode cX11_arrange 64 = .ok (.iload 4, 2) := by decide +kernel
theorem dX11_arrange_66 : decode cX11_arrange 66 = .ok (.iload 5, 2) := by decide +kernel
theorem dX11_arrange_68 : decode cX11_arrange 68 = .ok (.iastore, 1) := by decide +kernel
theorem dX11_arrange_69 : decode cX11_arrange 69 = .ok (.iinc 4 1, 3) := by decide +kernel
theorem dX11_arrange_72 : decode cX11_arrange 72 = .ok (.goto (-67), 3) := by decide +kernel
theorem dX11_arrange_75 : decode cX11_arrange 75 = .ok (.iconst 1, 1) := by decide +kernel
theorem dX11_arrange_76 : decode cX11_arrange 76 = .ok (.ireturn, 1) := by decide +kernel
theorem dX11_moreThanHalf_0 : decode cX11_moreThanHalf 0 = .ok (.lconst 0, 1) := by decide +kernel
theorem dX11_moreThanHalf_1 : decode cX11_moreThanHalf 1 = .ok (.lstore_n 2, 1) := by decide +kernel
theorem dX11_moreThanHalf_2 : decode cX11_moreThanHalf 2 = .ok (.iconst 0, 1) := by decide +kernel
theorem dX11_moreThanHalf_3 : decode cX11_moreThanHalf 3 = .ok (.istore 4, 2) := by decide +kernel
theorem dX11_moreThanHalf_5 : decode cX11_moreThanHalf 5 = .ok (.iload 4, 2) := by decide +kernel
theorem dX11_moreThanHalf_7 : decode cX11_moreThanHalf 7 = .ok (.aload_n 0, 1) := by decide +kernel
theorem dX11_moreThanHalf_8 : decode cX11_moreThanHalf 8 = .ok (.getfield 75, 3) := by decide +kernel
theorem dX11_moreThanHalf_11 : decode cX11_moreThanHalf 11 = .ok (.arraylength, 1) := by decide +kernel
theorem dX11_moreThanHalf_12 : decode cX11_moreThanHalf 12 = .ok (.if_icmp .ge 27, 3) := by decide +kernel
theorem dX11_moreThanHalf_15 : decode cX11_moreThanHalf 15 = .ok (.iconst 2, 1) := by decide +kernel
theorem dX11_moreThanHalf_16 : decode cX11_moreThanHalf 16 = .ok (.iload 4, 2) := by decide +kernel
theorem dX11_moreThanHalf_18 : decode cX11_moreThanHalf 18 = .ok (.imul, 1) := by decide +kernel
theorem dX11_moreThanHalf_19 : decode cX11_moreThanHalf 19 = .ok (.iload_n 1, 1) := by decide +kernel
theorem dX11_moreThanHalf_20 : decode cX11_moreThanHalf 20 = .ok (.if_icmp .le 13, 3) := by decide +kernel
theorem dX11_moreThanHalf_23 : decode cX11_moreThanHalf 23 = .ok (.lload_n 2, 1) := by decide +kernel
theorem dX11_moreThanHalf_24 : decode cX11_moreThanHalf 24 = .ok (.aload_n 0, 1) := by decide +kernel
theorem dX11_moreThanHalf_25 : decode cX11_moreThanHalf 25 = .ok (.getfield 75, 3) := by decide +kernel
theorem dX11_moreThanHalf_28 : decode cX11_moreThanHalf 28 = .ok (.iload 4, 2) := by decide +kernel
theorem dX11_moreThanHalf_30 : decode cX11_moreThanHalf 30 = .ok (.laload, 1) := by decide +kernel
theorem dX11_moreThanHalf_31 : decode cX11_moreThanHalf 31 = .ok (.ladd, 1) := by decide +kernel
theorem dX11_moreThanHalf_32 : decode cX11_moreThanHalf 32 = .ok (.lstore_n 2, 1) := by decide +kernel
theorem dX11_moreThanHalf_33 : decode cX11_moreThanHalf 33 = .ok (.iinc 4 1, 3) := by decide +kernel
theorem dX11_moreThanHalf_36 : decode cX11_moreThanHalf 36 = .ok (.goto (-31), 3) := by decide +kernel
theorem dX11_moreThanHalf_39 : decode cX11_moreThanHalf 39 = .ok (.lload_n 2, 1) := by decide +kernel
theorem dX11_moreThanHalf_40 : decode cX11_moreThanHalf 40 = .ok (.lreturn, 1) := by decide +kernel
theorem dX11_reckonOthers_0 : decode cX11_reckonOthers 0 = .ok (.aload_n 0, 1) := by decide +kernel
theorem dX11_reckonOthers_1 : decode cX11_reckonOthers 1 = .ok (.getfield 79, 3) := by decide +kernel
theorem dX11_reckonOthers_4 : decode cX11_reckonOthers 4 = .ok (.lconst 0, 1) := by decide +kernel
theorem dX11_reckonOthers_5 : decode cX11_reckonOthers 5 = .ok (.invokestatic 276, 3) := by decide +kernel
theorem dX11_reckonOthers_8 : decode cX11_reckonOthers 8 = .ok (.aload_n 0, 1) := by decide +kernel
theorem dX11_reckonOthers_9 : decode cX11_reckonOthers 9 = .ok (.getfield 79, 3) := by decide +kernel
theorem dX11_reckonOthers_12 : decode cX11_reckonOthers 12 = .ok (.iconst 0, 1) := by decide +kernel
theorem dX11_reckonOthers_13 : decode cX11_reckonOthers 13 = .ok (.lconst 1, 1) := by decide +kernel
theorem dX11_reckonOthers_14 : decode cX11_reckonOthers 14 = .ok (.lastore, 1) := by decide +kernel
theorem dX11_reckonOthers_15 : decode cX11_reckonOthers 15 = .ok (.iconst 0, 1) := by decide +kernel
theorem dX11_reckonOthers_16 : decode cX11_reckonOthers 16 = .ok (.istore_n 3, 1) := by decide +kernel
theorem dX11_reckonOthers_17 : decode cX11_reckonOthers 17 = .ok (.iload_n 3, 1) := by decide +kernel
theorem dX11_reckonOthers_18 : decode cX11_reckonOthers 18 = .ok (.iload_n 2, 1) := by decide +kernel
theorem dX11_reckonOthers_19 : decode cX11_reckonOthers 19 = .ok (.if_icmp .ge 76, 3) := by decide +kernel
theorem dX11_reckonOthers_22 : decode cX11_reckonOthers 22 = .ok (.aload_n 0, 1) := by decide +kernel
theorem dX11_reckonOthers_23 : decode cX11_reckonOthers 23 = .ok (.getfield 79, 3) := by decide +kernel
theorem dX11_reckonOthers_26 : decode cX11_reckonOthers 26 = .ok (.arraylength, 1) := by decide +kernel
theorem dX11_reckonOthers_27 : decode cX11_reckonOthers 27 = .ok (.iconst 1, 1) := by decide +kernel
theorem dX11_reckonOthers_28 : decode cX11_reckonOthers 28 = .ok (.isub, 1) := by decide +kernel
theorem dX11_reckonOthers_29 : decode cX11_reckonOthers 29 = .ok (.istore 4, 2) := by decide +kernel
theorem dX11_reckonOthers_31 : decode cX11_reckonOthers 31 = .ok (.iload 4, 2) := by decide +kernel
theorem dX11_reckonOthers_33 : decode cX11_reckonOthers 33 = .ok (.ifCond .le 42, 3) := by decide +kernel
theorem dX11_reckonOthers_36 : decode cX11_reckonOthers 36 = .ok (.aload_n 0, 1) := by decide +kernel
theorem dX11_reckonOthers_37 : decode cX11_reckonOthers 37 = .ok (.getfield 79, 3) := by decide +kernel
theorem dX11_reckonOthers_40 : decode cX11_reckonOthers 40 = .ok (.iload 4, 2) := by decide +kernel
theorem dX11_reckonOthers_42 : decode cX11_reckonOthers 42 = .ok (.aload_n 0, 1) := by decide +kernel
theorem dX11_reckonOthers_43 : decode cX11_reckonOthers 43 = .ok (.getfield 79, 3) := by decide +kernel
theorem dX11_reckonOthers_46 : decode cX11_reckonOthers 46 = .ok (.iload 4, 2) := by decide +kernel
theorem dX11_reckonOthers_48 : decode cX11_reckonOthers 48 = .ok (.laload, 1) := by decide +kernel
theorem dX11_reckonOthers_49 : decode cX11_reckonOthers 49 = .ok (.bipush 100, 2) := by decide +kernel
theorem dX11_reckonOthers_51 : decode cX11_reckonOthers 51 = .ok (.iload_n 1, 1) := by decide +kernel
theorem dX11_reckonOthers_52 : decode cX11_reckonOthers 52 = .ok (.isub, 1) := by decide +kernel
theorem dX11_reckonOthers_53 : decode cX11_reckonOthers 53 = .ok (.i2l, 1) := by decide +kernel
theorem dX11_reckonOthers_54 : decode cX11_reckonOthers 54 = .ok (.lmul, 1) := by decide +kernel
theorem dX11_reckonOthers_55 : decode cX11_reckonOthers 55 = .ok (.aload_n 0, 1) := by decide +kernel
theorem dX11_reckonOthers_56 : decode cX11_reckonOthers 56 = .ok (.getfield 79, 3) := by decide +kernel
theorem dX11_reckonOthers_59 : decode cX11_reckonOthers 59 = .ok (.iload 4, 2) := by decide +kernel
theorem dX11_reckonOthers_61 : decode cX11_reckonOthers 61 = .ok (.iconst 1, 1) := by decide +kernel
theorem dX11_reckonOthers_62 : decode cX11_reckonOthers 62 = .ok (.isub, 1) := by decide +kernel
theorem dX11_reckonOthers_63 : decode cX11_reckonOthers 63 = .ok (.laload, 1) := by decide +kernel
theorem dX11_reckonOthers_64 : decode cX11_reckonOthers 64 = .ok (.iload_n 1, 1) := by decide +kernel
theorem dX11_reckonOthers_65 : decode cX11_reckonOthers 65 = .ok (.i2l, 1) := by decide +kernel
theorem dX11_reckonOthers_66 : decode cX11_reckonOthers 66 = .ok (.lmul, 1) := by decide +kernel
theorem dX11_reckonOthers_67 : decode cX11_reckonOthers 67 = .ok (.ladd, 1) := by decide +kernel
theorem dX11_reckonOthers_68 : decode cX11_reckonOthers 68 = .ok (.lastore, 1) := by decide +kernel
theorem dX11_reckonOthers_69 : decode cX11_reckonOthers 69 = .ok (.iinc 4 (-1), 3) := by decide +kernel
theorem dX11_reckonOthers_72 : decode cX11_reckonOthers 72 = .ok (.goto (-41), 3) := by decide +kernel
theorem dX11_reckonOthers_75 : decode cX11_reckonOthers 75 = .ok (.aload_n 0, 1) := by decide +kernel
theorem dX11_reckonOthers_76 : decode cX11_reckonOthers 76 = .ok (.getfield 79, 3) := by decide +kernel
theorem dX11_reckonOthers_79 : decode cX11_reckonOthers 79 = .ok (.iconst 0, 1) := by decide +kernel
theorem dX11_reckonOthers_80 : decode cX11_reckonOthers 80 = .ok (.dup2, 1) := by decide +kernel
theorem dX11_reckonOthers_81 : decode cX11_reckonOthers 81 = .ok (.laload, 1) := by decide +kernel
theorem dX11_reckonOthers_82 : decode cX11_reckonOthers 82 = .ok (.bipush 100, 2) := by decide +kernel
theorem dX11_reckonOthers_84 : decode cX11_reckonOthers 84 = .ok (.iload_n 1, 1) := by decide +kernel
theorem dX11_reckonOthers_85 : decode cX11_reckonOthers 85 = .ok (.isub, 1) := by decide +kernel
theorem dX11_reckonOthers_86 : decode cX11_reckonOthers 86 = .ok (.i2l, 1) := by decide +kernel
theorem dX11_reckonOthers_87 : decode cX11_reckonOthers 87 = .ok (.lmul, 1) := by decide +kernel
theorem dX11_reckonOthers_88 : decode cX11_reckonOthers 88 = .ok (.lastore, 1) := by decide +kernel
theorem dX11_reckonOthers_89 : decode cX11_reckonOthers 89 = .ok (.iinc 3 1, 3) := by decide +kernel
theorem dX11_reckonOthers_92 : decode cX11_reckonOthers 92 = .ok (.goto (-75), 3) := by decide +kernel
theorem dX11_reckonOthers_95 : decode cX11_reckonOthers 95 = .ok (.return_, 1) := by decide +kernel
theorem dX11_hundreds_0 : decode cX11_hundreds 0 = .ok (.lconst 1, 1) := by decide +kernel
theorem dX11_hundreds_1 : decode cX11_hundreds 1 = .ok (.lstore_n 1, 1) := by decide +kernel
theorem dX11_hundreds_2 : decode cX11_hundreds 2 = .ok (.iconst 0, 1) := by decide +kernel
theorem dX11_hundreds_3 : decode cX11_hundreds 3 = .ok (.istore_n 3, 1) := by decide +kernel
theorem dX11_hundreds_4 : decode cX11_hundreds 4 = .ok (.iload_n 3, 1) := by decide +kernel
theorem dX11_hundreds_5 : decode cX11_hundreds 5 = .ok (.iload_n 0, 1) := by decide +kernel
theorem dX11_hundreds_6 : decode cX11_hundreds 6 = .ok (.if_icmp .ge 15, 3) := by decide +kernel
theorem dX11_hundreds_9 : decode cX11_hundreds 9 = .ok (.lload_n 1, 1) := by decide +kernel
theorem dX11_hundreds_10 : decode cX11_hundreds 10 = .ok (.ldc2_w 350, 3) := by decide +kernel
theorem dX11_hundreds_13 : decode cX11_hundreds 13 = .ok (.lmul, 1) := by decide +kernel
theorem dX11_hundreds_14 : decode cX11_hundreds 14 = .ok (.lstore_n 1, 1) := by decide +kernel
theorem dX11_hundreds_15 : decode cX11_hundreds 15 = .ok (.iinc 3 1, 3) := by decide +kernel
theorem dX11_hundreds_18 : decode cX11_hundreds 18 = .ok (.goto (-14), 3) := by decide +kernel
theorem dX11_hundreds_21 : decode cX11_hundreds 21 = .ok (.lload_n 1, 1) := by decide +kernel
theorem dX11_hundreds_22 : decode cX11_hundreds 22 = .ok (.lreturn, 1) := by decide +kernel
theorem dX11_lowest_0 : decode cX11_lowest 0 = .ok (.lload_n 0, 1) := by decide +kernel
theorem dX11_lowest_1 : decode cX11_lowest 1 = .ok (.lstore 5, 2) := by decide +kernel
theorem dX11_lowest_3 : decode cX11_lowest 3 = .ok (.lload_n 2, 1) := by decide +kernel
theorem dX11_lowest_4 : decode cX11_lowest 4 = .ok (.lstore 7, 2) := by decide +kernel
theorem dX11_lowest_6 : decode cX11_lowest 6 = .ok (.iconst 0, 1) := by decide +kernel
theorem dX11_lowest_7 : decode cX11_lowest 7 = .ok (.istore 9, 2) := by decide +kernel
theorem dX11_lowest_9 : decode cX11_lowest 9 = .ok (.iload 9, 2) := by decide +kernel
theorem dX11_lowest_11 : decode cX11_lowest 11 = .ok (.sipush 1000, 3) := by decide +kernel
theorem dX11_lowest_14 : decode cX11_lowest 14 = .ok (.if_icmp .ge 31, 3) := by decide +kernel
theorem dX11_lowest_17 : decode cX11_lowest 17 = .ok (.lload 7, 2) := by decide +kernel
theorem dX11_lowest_19 : decode cX11_lowest 19 = .ok (.lconst 0, 1) := by decide +kernel
theorem dX11_lowest_20 : decode cX11_lowest 20 = .ok (.lcmp, 1) := by decide +kernel
theorem dX11_lowest_21 : decode cX11_lowest 21 = .ok (.ifCond .eq 24, 3) := by decide +kernel
theorem dX11_lowest_24 : decode cX11_lowest 24 = .ok (.lload 5, 2) := by decide +kernel
theorem dX11_lowest_26 : decode cX11_lowest 26 = .ok (.lload 7, 2) := by decide +kernel
theorem dX11_lowest_28 : decode cX11_lowest 28 = .ok (.lrem, 1) := by decide +kernel
theorem dX11_lowest_29 : decode cX11_lowest 29 = .ok (.lstore 10, 2) := by decide +kernel
theorem dX11_lowest_31 : decode cX11_lowest 31 = .ok (.lload 7, 2) := by decide +kernel
theorem dX11_lowest_33 : decode cX11_lowest 33 = .ok (.lstore 5, 2) := by decide +kernel
theorem dX11_lowest_35 : decode cX11_lowest 35 = .ok (.lload 10, 2) := by decide +kernel
theorem dX11_lowest_37 : decode cX11_lowest 37 = .ok (.lstore 7, 2) := by decide +kernel
theorem dX11_lowest_39 : decode cX11_lowest 39 = .ok (.iinc 9 1, 3) := by decide +kernel
theorem dX11_lowest_42 : decode cX11_lowest 42 = .ok (.goto (-33), 3) := by decide +kernel
theorem dX11_lowest_45 : decode cX11_lowest 45 = .ok (.lload 5, 2) := by decide +kernel
theorem dX11_lowest_47 : decode cX11_lowest 47 = .ok (.lconst 0, 1) := by decide +kernel
theorem dX11_lowest_48 : decode cX11_lowest 48 = .ok (.lcmp, 1) := by decide +kernel
theorem dX11_lowest_49 : decode cX11_lowest 49 = .ok (.ifCond .ne 7, 3) := by decide +kernel
theorem dX11_lowest_52 : decode cX11_lowest 52 = .ok (.ldc2_w 197, 3) := by decide +kernel
theorem dX11_lowest_55 : decode cX11_lowest 55 = .ok (.lreturn, 1) := by decide +kernel
theorem dX11_lowest_56 : decode cX11_lowest 56 = .ok (.iload 4, 2) := by decide +kernel
theorem dX11_lowest_58 : decode cX11_lowest 58 = .ok (.ifCond .ne 7, 3) := by decide +kernel
theorem dX11_lowest_61 : decode cX11_lowest 61 = .ok (.lload_n 0, 1) := by decide +kernel
theorem dX11_lowest_62 : decode cX11_lowest 62 = .ok (.goto 4, 3) := by decide +kernel
theorem dX11_lowest_65 : decode cX11_lowest 65 = .ok (.lload_n 2, 1) := by decide +kernel
theorem dX11_lowest_66 : decode cX11_lowest 66 = .ok (.lload 5, 2) := by decide +kernel
theorem dX11_lowest_68 : decode cX11_lowest 68 = .ok (.ldiv, 1) := by decide +kernel
theorem dX11_lowest_69 : decode cX11_lowest 69 = .ok (.lreturn, 1) := by decide +kernel
theorem dX11_isTape_0 : decode cX11_isTape 0 = .ok (.iload_n 1, 1) := by decide +kernel
theorem dX11_isTape_1 : decode cX11_isTape 1 = .ok (.ifCond .lt 34, 3) := by decide +kernel
theorem dX11_isTape_4 : decode cX11_isTape 4 = .ok (.iload_n 1, 1) := by decide +kernel
theorem dX11_isTape_5 : decode cX11_isTape 5 = .ok (.aload_n 0, 1) := by decide +kernel
theorem dX11_isTape_6 : decode cX11_isTape 6 = .ok (.getfield 59, 3) := by decide +kernel
theorem dX11_isTape_9 : decode cX11_isTape 9 = .ok (.arraylength, 1) := by decide +kernel
theorem dX11_isTape_10 : decode cX11_isTape 10 = .ok (.if_icmp .ge 25, 3) := by decide +kernel
theorem dX11_isTape_13 : decode cX11_isTape 13 = .ok (.iload_n 1, 1) := by decide +kernel
theorem dX11_isTape_14 : decode cX11_isTape 14 = .ok (.aload_n 0, 1) := by decide +kernel
theorem dX11_isTape_15 : decode cX11_isTape 15 = .ok (.getfield 62, 3) := by decide +kernel
theorem dX11_isTape_18 : decode cX11_isTape 18 = .ok (.arraylength, 1) := by decide +kernel
theorem dX11_isTape_19 : decode cX11_isTape 19 = .ok (.if_icmp .ge 16, 3) := by decide +kernel
theorem dX11_isTape_22 : decode cX11_isTape 22 = .ok (.iload_n 1, 1) := by decide +kernel
theorem dX11_isTape_23 : decode cX11_isTape 23 = .ok (.aload_n 0, 1) := by decide +kernel
theorem dX11_isTape_24 : decode cX11_isTape 24 = .ok (.getfield 72, 3) := by decide +kernel
theorem dX11_isTape_27 : decode cX11_isTape 27 = .ok (.arraylength, 1) := by decide +kernel
theorem dX11_isTape_28 : decode cX11_isTape 28 = .ok (.if_icmp .ge 7, 3) := by decide +kernel
theorem dX11_isTape_31 : decode cX11_isTape 31 = .ok (.iconst 1, 1) := by decide +kernel
theorem dX11_isTape_32 : decode cX11_isTape 32 = .ok (.goto 4, 3) := by decide +kernel
theorem dX11_isTape_35 : decode cX11_isTape 35 = .ok (.iconst 0, 1) := by decide +kernel
theorem dX11_isTape_36 : decode cX11_isTape 36 = .ok (.ireturn, 1) := by decide +kernel
theorem dX11_hasPlace_0 : decode cX11_hasPlace 0 = .ok (.iload_n 2, 1) := by decide +kernel
theorem dX11_hasPlace_1 : decode cX11_hasPlace 1 = .ok (.ifCond .lt 28, 3) := by decide +kernel
theorem dX11_hasPlace_4 : decode cX11_hasPlace 4 = .ok (.iload_n 2, 1) := by decide +kernel
theorem dX11_hasPlace_5 : decode cX11_hasPlace 5 = .ok (.aload_n 0, 1) := by decide +kernel
theorem dX11_hasPlace_6 : decode cX11_hasPlace 6 = .ok (.getfield 72, 3) := by decide +kernel
theorem dX11_hasPlace_9 : decode cX11_hasPlace 9 = .ok (.iload_n 1, 1) := by decide +kernel
theorem dX11_hasPlace_10 : decode cX11_hasPlace 10 = .ok (.iaload, 1) := by decide +kernel
theorem dX11_hasPlace_11 : decode cX11_hasPlace 11 = .ok (.if_icmp .ge 18, 3) := by decide +kernel
theorem dX11_hasPlace_14 : decode cX11_hasPlace 14 = .ok (.iload_n 2, 1) := by decide +kernel
theorem dX11_hasPlace_15 : decode cX11_hasPlace 15 = .ok (.aload_n 0, 1) := by decide +kernel
theorem dX11_hasPlace_16 : decode cX11_hasPlace 16 = .ok (.getfield 59, 3) := by decide +kernel
theorem dX11_hasPlace_19 : decode cX11_hasPlace 19 = .ok (.iload_n 1, 1) := by decide +kernel
theorem dX11_hasPlace_20 : decode cX11_hasPlace 20 = .ok (.aaload, 1) := by decide +kernel
theorem dX11_hasPlace_21 : decode cX11_hasPlace 21 = .ok (.arraylength, 1) := by decide +kernel
theorem dX11_hasPlace_22 : decode cX11_hasPlace 22 = .ok (.if_icmp .ge 7, 3) := by decide +kernel
theorem dX11_hasPlace_25 : decode cX11_hasPlace 25 = .ok (.iconst 1, 1) := by decide +kernel
theorem dX11_hasPlace_26 : decode cX11_hasPlace 26 = .ok (.goto 4, 3) := by decide +kernel
theorem dX11_hasPlace_29 : decode cX11_hasPlace 29 = .ok (.iconst 0, 1) := by decide +kernel
theorem dX11_hasPlace_30 : decode cX11_hasPlace 30 = .ok (.ireturn, 1) := by decide +kernel
theorem dX11_hasPart_0 : decode cX11_hasPart 0 = .ok (.iload_n 3, 1) := by decide +kernel
theorem dX11_hasPart_1 : decode cX11_hasPart 1 = .ok (.ifCond .lt 33, 3) := by decide +kernel
theorem dX11_hasPart_4 : decode cX11_hasPart 4 = .ok (.iload_n 2, 1) := by decide +kernel
theorem dX11_hasPart_5 : decode cX11_hasPart 5 = .ok (.ifCond .lt 29, 3) := by decide +kernel
theorem dX11_hasPart_8 : decode cX11_hasPart 8 = .ok (.iload_n 3, 1) := by decide +kernel
theorem dX11_hasPart_9 : decode cX11_hasPart 9 = .ok (.aload_n 0, 1) := by decide +kernel
theorem dX11_hasPart_10 : decode cX11_hasPart 10 = .ok (.getfield 72, 3) := by decide +kernel
theorem dX11_hasPart_13 : decode cX11_hasPart 13 = .ok (.iload_n 1, 1) := by decide +kernel
theorem dX11_hasPart_14 : decode cX11_hasPart 14 = .ok (.iaload, 1) := by decide +kernel
theorem dX11_hasPart_15 : decode cX11_hasPart 15 = .ok (.if_icmp .gt 19, 3) := by decide +kernel
theorem dX11_hasPart_18 : decode cX11_hasPart 18 = .ok (.iload_n 2, 1) := by decide +kernel
theorem dX11_hasPart_19 : decode cX11_hasPart 19 = .ok (.aload_n 0, 1) := by decide +kernel
theorem dX11_hasPart_20 : decode cX11_hasPart 20 = .ok (.getfield 72, 3) := by decide +kernel
theorem dX11_hasPart_23 : decode cX11_hasPart 23 = .ok (.iload_n 1, 1) := by decide +kernel
theorem dX11_hasPart_24 : decode cX11_hasPart 24 = .ok (.iaload, 1) := by decide +kernel
theorem dX11_hasPart_25 : decode cX11_hasPart 25 = .ok (.iload_n 3, 1) := by decide +kernel
theorem dX11_hasPart_26 : decode cX11_hasPart 26 = .ok (.isub, 1) := by decide +kernel
theorem dX11_hasPart_27 : decode cX11_hasPart 27 = .ok (.if_icmp .gt 7, 3) := by decide +kernel
theorem dX11_hasPart_30 : decode cX11_hasPart 30 = .ok (.iconst 1, 1) := by decide +kernel
theorem dX11_hasPart_31 : decode cX11_hasPart 31 = .ok (.goto 4, 3) := by decide +kernel
theorem dX11_hasPart_34 : decode cX11_hasPart 34 = .ok (.iconst 0, 1) := by decide +kernel
theorem dX11_hasPart_35 : decode cX11_hasPart 35 = .ok (.ireturn, 1) := by decide +kernel
theorem dX11_narrowed_0 : decode cX11_narrowed 0 = .ok (.iload_n 0, 1) := by decide +kernel
theorem dX11_narrowed_1 : decode cX11_narrowed 1 = .ok (.tableswitch 61 0 4 #[35, 40, 45, 61, 49], 35) := by decide +kernel
theorem dX11_narrowed_36 : decode cX11_narrowed 36 = .ok (.lload_n 1, 1) := by decide +kernel
theorem dX11_narrowed_37 : decode cX11_narrowed 37 = .ok (.l2i, 1) := by decide +kernel
theorem dX11_narrowed_38 : decode cX11_narrowed 38 = .ok (.i2b, 1) := by decide +kernel
theorem dX11_narrowed_39 : decode cX11_narrowed 39 = .ok (.i2l, 1) := by decide +kernel
theorem dX11_narrowed_40 : decode cX11_narrowed 40 = .ok (.lreturn, 1) := by decide +kernel
theorem dX11_narrowed_41 : decode cX11_narrowed 41 = .ok (.lload_n 1, 1) := by decide +kernel
theorem dX11_narrowed_42 : decode cX11_narrowed 42 = .ok (.l2i, 1) := by decide +kernel
theorem dX11_narrowed_43 : decode cX11_narrowed 43 = .ok (.i2s, 1) := by decide +kernel
theorem dX11_narrowed_44 : decode cX11_narrowed 44 = .ok (.i2l, 1) := by decide +kernel
theorem dX11_narrowed_45 : decode cX11_narrowed 45 = .ok (.lreturn, 1) := by decide +kernel
theorem dX11_narrowed_46 : decode cX11_narrowed 46 = .ok (.lload_n 1, 1) := by decide +kernel
theorem dX11_narrowed_47 : decode cX11_narrowed 47 = .ok (.l2i, 1) := by decide +kernel
theorem dX11_narrowed_48 : decode cX11_narrowed 48 = .ok (.i2l, 1) := by decide +kernel
theorem dX11_narrowed_49 : decode cX11_narrowed 49 = .ok (.lreturn, 1) := by decide +kernel
theorem dX11_narrowed_50 : decode cX11_narrowed 50 = .ok (.lload_n 1, 1) := by decide +kernel
theorem dX11_narrowed_51 : decode cX11_narrowed 51 = .ok (.lconst 0, 1) := by decide +kernel
theorem dX11_narrowed_52 : decode cX11_narrowed 52 = .ok (.lcmp, 1) := by decide +kernel
theorem dX11_narrowed_53 : decode cX11_narrowed 53 = .ok (.ifCond .eq 7, 3) := by decide +kernel
theorem dX11_narrowed_56 : decode cX11_narrowed 56 = .ok (.lconst 1, 1) := by decide +kernel
theorem dX11_narrowed_57 : decode cX11_narrowed 57 = .ok (.goto 4, 3) := by decide +kernel
theorem dX11_narrowed_60 : decode cX11_narrowed 60 = .ok (.lconst 0, 1) := by decide +kernel
theorem dX11_narrowed_61 : decode cX11_narrowed 61 = .ok (.lreturn, 1) := by decide +kernel
theorem dX11_narrowed_62 : decode cX11_narrowed 62 = .ok (.lload_n 1, 1) := by decide +kernel
theorem dX11_narrowed_63 : decode cX11_narrowed 63 = .ok (.lreturn, 1) := by decide +kernel
theorem dX12_init_0 : decode cX12_init 0 = .ok (.aload_n 0, 1) := by decide +kernel
theorem dX12_init_1 : decode cX12_init 1 = .ok (.invokespecial 1, 3) := by decide +kernel
theorem dX12_init_4 : decode cX12_init 4 = .ok (.aload_n 0, 1) := by decide +kernel
theorem dX12_init_5 : decode cX12_init 5 = .ok (.iconst 0, 1) := by decide +kernel
theorem dX12_init_6 : decode cX12_init 6 = .ok (.putfield 7, 3) := by decide +kernel
theorem dX12_init_9 : decode cX12_init 9 = .ok (.aload_n 0, 1) := by decide +kernel
theorem dX12_init_10 : decode cX12_init 10 = .ok (.iconst 0, 1) := by decide +kernel
theorem dX12_init_11 : decode cX12_init 11 = .ok (.putfield 13, 3) := by decide +kernel
theorem dX12_init_14 : decode cX12_init 14 = .ok (.aload_n 0, 1) := by decide +kernel
theorem dX12_init_15 : decode cX12_init 15 = .ok (.iconst 0, 1) := by decide +kernel
theorem dX12_init_16 : decode cX12_init 16 = .ok (.putfield 16, 3) := by decide +kernel
theorem dX12_init_19 : decode cX12_init 19 = .ok (.aload_n 0, 1) := by decide +kernel
theorem dX12_init_20 : decode cX12_init 20 = .ok (.bipush 6, 2) := by decide +kernel
theorem dX12_init_22 : decode cX12_init 22 = .ok (.newarray .int, 2) := by decide +kernel
theorem dX12_init_24 : decode cX12_init 24 = .ok (.putfield 19, 3) := by decide +kernel
theorem dX12_init_27 : decode cX12_init 27 = .ok (.aload_n 0, 1) := by decide +kernel
theorem dX12_init_28 : decode cX12_init 28 = .ok (.bipush 6, 2) := by decide +kernel
theorem dX12_init_30 : decode cX12_init 30 = .ok (.newarray .int, 2) := by decide +kernel
theorem dX12_init_32 : decode cX12_init 32 = .ok (.putfield 23, 3) := by decide +kernel
theorem dX12_init_35 : decode cX12_init 35 = .ok (.aload_n 0, 1) := by decide +kernel
theorem dX12_init_36 : decode cX12_init 36 = .ok (.bipush 6, 2) := by decide +kernel
theorem dX12_init_38 : decode cX12_init 38 = .ok (.newarray .int, 2) := by decide +kernel
theorem dX12_init_40 : decode cX12_init 40 = .ok (.putfield 26, 3) := by decide +kernel
theorem dX12_init_43 : decode cX12_init 43 = .ok (.aload_n 0, 1) := by decide +kernel
theorem dX12_init_44 : decode cX12_init 44 = .ok (.bipush 6, 2) := by decide +kernel
theorem dX12_init_46 : decode cX12_init 46 = .ok (.newarray .int, 2) := by decide +kernel
theorem dX12_init_48 : decode cX12_init 48 = .ok (.putfield 29, 3) := by decide +kernel
theorem dX12_init_51 : decode cX12_init 51 = .ok (.aload_n 0, 1) := by decide +kernel
theorem dX12_init_52 : decode cX12_init 52 = .ok (.bipush 6, 2) := by decide +kernel
theorem dX12_init_54 : decode cX12_init 54 = .ok (.newarray .int, 2) := by decide +kernel
theorem dX12_init_56 : decode cX12_init 56 = .ok (.putfield 32, 3) := by decide +kernel
theorem dX12_init_59 : decode cX12_init 59 = .ok (.aload_n 0, 1) := by decide +kernel
theorem dX12_init_60 : decode cX12_init 60 = .ok (.bipush 24, 2) := by decide +kernel
theorem dX12_init_62 : decode cX12_init 62 = .ok (.newarray .int, 2) := by decide +kernel
theorem dX12_init_64 : decode cX12_init 64 = .ok (.putfield 35, 3) := by decide +kernel
theorem dX12_init_67 : decode cX12_init 67 = .ok (.aload_n 0, 1) := by decide +kernel
theorem dX12_init_68 : decode cX12_init 68 = .ok (.iconst 0, 1) := by decide +kernel
theorem dX12_init_69 : decode cX12_init 69 = .ok (.putfield 38, 3) := by decide +kernel
theorem dX12_init_72 : decode cX12_init 72 = .ok (.aload_n 0, 1) := by decide +kernel
theorem dX12_init_73 : decode cX12_init 73 = .ok (.iconst (-1), 1) := by decide +kernel
theorem dX12_init_74 : decode cX12_init 74 = .ok (.putfield 41, 3) := by decide +kernel
theorem dX12_init_77 : decode cX12_init 77 = .ok (.aload_n 0, 1) := by decide +kernel
theorem dX12_init_78 : decode cX12_init 78 = .ok (.iconst 0, 1) := by decide +kernel
theorem dX12_init_79 : decode cX12_init 79 = .ok (.putfield 44, 3) := by decide +kernel
theorem dX12_init_82 : decode cX12_init 82 = .ok (.aload_n 0, 1) := by decide +kernel
theorem dX12_init_83 : decode cX12_init 83 = .ok (.iconst 0, 1) := by decide +kernel
theorem dX12_init_84 : decode cX12_init 84 = .ok (.putfield 47, 3) := by decide +kernel
theorem dX12_init_87 : decode cX12_init 87 = .ok (.aload_n 0, 1) := by decide +kernel
theorem dX12_init_88 : decode cX12_init 88 = .ok (.iconst 0, 1) := by decide +kernel
theorem dX12_init_89 : decode cX12_init 89 = .ok (.putfield 50, 3) := by decide +kernel
theorem dX12_init_92 : decode cX12_init 92 = .ok (.aload_n 0, 1) := by decide +kernel
theorem dX12_init_93 : decode cX12_init 93 = .ok (.bipush 100, 2) := by decide +kernel
theorem dX12_init_95 : decode cX12_init 95 = .ok (.newarray .int, 2) := by decide +kernel
theorem dX12_init_97 : decode cX12_init 97 = .ok (.putfield 53, 3) := by decide +kernel
theorem dX12_init_100 : decode cX12_init 100 = .ok (.aload_n 0, 1) := by decide +kernel
theorem dX12_init_101 : decode cX12_init 101 = .ok (.bipush 6, 2) := by decide +kernel
theorem dX12_init_103 : decode cX12_init 103 = .ok (.newarray .int, 2) := by decide +kernel
theorem dX12_init_105 : decode cX12_init 105 = .ok (.putfield 56, 3) := by decide +kernel
theorem dX12_init_108 : decode cX12_init 108 = .ok (.aload_n 0, 1) := by decide +kernel
theorem dX12_init_109 : decode cX12_init 109 = .ok (.bipush 60, 2) := by decide +kernel
theorem dX12_init_111 : decode cX12_init 111 = .ok (.newarray .int, 2) := by decide +kernel
theorem dX12_init_113 : decode cX12_init 113 = .ok (.putfield 59, 3) := by decide +kernel
theorem dX12_init_116 : decode cX12_init 116 = .ok (.aload_n 0, 1) := by decide +kernel
theorem dX12_init_117 : decode cX12_init 117 = .ok (.bipush 60, 2) := by decide +kernel
theorem dX12_init_119 : decode cX12_init 119 = .ok (.newarray .int, 2) := by decide +kernel
theorem dX12_init_121 : decode cX12_init 121 = .ok (.putfield 62, 3) := by decide +kernel
theorem dX12_init_124 : decode cX12_init 124 = .ok (.aload_n 0, 1) := by decide +kernel
theorem dX12_init_125 : decode cX12_init 125 = .ok (.bipush 60, 2) := by decide +kernel
theorem dX12_init_127 : decode cX12_init 127 = .ok (.newarray .int, 2) := by decide +kernel
theorem dX12_init_129 : decode cX12_init 129 = .ok (.putfield 65, 3) := by decide +kernel
theorem dX12_init_132 : decode cX12_init 132 = .ok (.aload_n 0, 1) := by decide +kernel
theorem dX12_init_133 : decode cX12_init 133 = .ok (.bipush 60, 2) := by decide +kernel
theorem dX12_init_135 : decode cX12_init 135 = .ok (.newarray .int, 2) := by decide +kernel
theorem dX12_init_137 : decode cX12_init 137 = .ok (.putfield 68, 3) := by decide +kernel
theorem dX12_init_140 : decode cX12_init 140 = .ok (.aload_n 0, 1) := by decide +kernel
theorem dX12_init_141 : decode cX12_init 141 = .ok (.sipush 600, 3) := by decide +kernel
theorem dX12_init_144 : decode cX12_init 144 = .ok (.newarray .int, 2) := by decide +kernel
theorem dX12_init_146 : decode cX12_init 146 = .ok (.putfield 71, 3) := by decide +kernel
theorem dX12_init_149 : decode cX12_init 149 = .ok (.aload_n 0, 1) := by decide +kernel
theorem dX12_init_150 : decode cX12_init 150 = .ok (.bipush 101, 2) := by decide +kernel
theorem dX12_init_152 : decode cX12_init 152 = .ok (.newarray .int, 2) := by decide +kernel
theorem dX12_init_154 : decode cX12_init 154 = .ok (.putfield 74, 3) := by decide +kernel
theorem dX12_init_157 : decode cX12_init 157 = .ok (.aload_n 0, 1) := by decide +kernel
theorem dX12_init_158 : decode cX12_init 158 = .ok (.iconst 0, 1) := by decide +kernel
theorem dX12_init_159 : decode cX12_init 159 = .ok (.putfield 77, 3) := by decide +kernel
theorem dX12_init_162 : decode cX12_init 162 = .ok (.aload_n 0, 1) := by decide +kernel
theorem dX12_init_163 : decode cX12_init 163 = .ok (.iconst 0, 1) := by decide +kernel
theorem dX12_init_164 : decode cX12_init 164 = .ok (.putfield 80, 3) := by decide +kernel
theorem dX12_init_167 : decode cX12_init 167 = .ok (.aload_n 0, 1) := by decide +kernel
theorem dX12_init_168 : decode cX12_init 168 = .ok (.iconst 0, 1) := by decide +kernel
theorem dX12_init_169 : decode cX12_init 169 = .ok (.putfield 83, 3) := by decide +kernel
theorem dX12_init_172 : decode cX12_init 172 = .ok (.aload_n 0, 1) := by decide +kernel
theorem dX12_init_173 : decode cX12_init 173 = .ok (.bipush 19, 2) := by decide +kernel
theorem dX12_init_175 : decode cX12_init 175 = .ok (.newarray .int, 2) := by decide +kernel
theorem dX12_init_177 : decode cX12_init 177 = .ok (.dup, 1) := by decide +kernel
theorem dX12_init_178 : decode cX12_init 178 = .ok (.iconst 0, 1) := by decide +kernel
theorem dX12_init_179 : decode cX12_init 179 = .ok (.bipush 105, 2) := by decide +kernel
theorem dX12_init_181 : decode cX12_init 181 = .ok (.iastore, 1) := by decide +kernel
theorem dX12_init_182 : decode cX12_init 182 = .ok (.dup, 1) := by decide +kernel
theorem dX12_init_183 : decode cX12_init 183 = .ok (.iconst 1, 1) := by decide +kernel
theorem dX12_init_184 : decode cX12_init 184 = .ok (.bipush 110, 2) := by decide +kernel
theorem dX12_init_186 : decode cX12_init 186 = .ok (.iastore, 1) := by decide +kernel
theorem dX12_init_187 : decode cX12_init 187 = .ok (.dup, 1) := by decide +kernel
theorem dX12_init_188 : decode cX12_init 188 = .ok (.iconst 2, 1) := by decide +kernel
theorem dX12_init_189 : decode cX12_init 189 = .ok (.bipush 115, 2) := by decide +kernel
theorem dX12_init_191 : decode cX12_init 191 = .ok (.iastore, 1) := by decide +kernel
theorem dX12_init_192 : decode cX12_init 192 = .ok (.dup, 1) := by decide +kernel
theorem dX12_init_193 : decode cX12_init 193 = .ok (.iconst 3, 1) := by decide +kernel
theorem dX12_init_194 : decode cX12_init 194 = .ok (.bipush 97, 2) := by decide +kernel
theorem dX12_init_196 : decode cX12_init 196 = .ok (.iastore, 1) := by decide +kernel
theorem dX12_init_197 : decode cX12_init 197 = .ok (.dup, 1) := by decide +kernel
theorem dX12_init_198 : decode cX12_init 198 = .ok (.iconst 4, 1) := by decide +kernel
theorem dX12_init_199 : decode cX12_init 199 = .ok (.bipush 118, 2) := by decide +kernel
theorem dX12_init_201 : decode cX12_init 201 = .ok (.iastore, 1) := by decide +kernel
theorem dX12_init_202 : decode cX12_init 202 = .ok (.dup, 1) := by decide +kernel
theorem dX12_init_203 : decode cX12_init 203 = .ok (.iconst 5, 1) := by decide +kernel
theorem dX12_init_204 : decode cX12_init 204 = .ok (.bipush 101, 2) := by decide +kernel
theorem dX12_init_206 : decode cX12_init 206 = .ok (.iastore, 1) := by decide +kernel
theorem dX12_init_207 : decode cX12_init 207 = .ok (.dup, 1) := by decide +kernel
theorem dX12_init_208 : decode cX12_init 208 = .ok (.bipush 6, 2) := by decide +kernel
theorem dX12_init_210 : decode cX12_init 210 = .ok (.bipush 108, 2) := by decide +kernel
theorem dX12_init_212 : decode cX12_init 212 = .ok (.iastore, 1) := by decide +kernel
theorem dX12_init_213 : decode cX12_init 213 = .ok (.dup, 1) := by decide +kernel
theorem dX12_init_214 : decode cX12_init 214 = .ok (.bipush 7, 2) := by decide +kernel
theorem dX12_init_216 : decode cX12_init 216 = .ok (.bipush 101, 2) := by decide +kernel
theorem dX12_init_218 : decode cX12_init 218 = .ok (.iastore, 1) := by decide +kernel
theorem dX12_init_219 : decode cX12_init 219 = .ok (.dup, 1) := by decide +kernel
theorem dX12_init_220 : decode cX12_init 220 = .ok (.bipush 8, 2) := by decide +kernel
theorem dX12_init_222 : decode cX12_init 222 = .ok (.bipush 102, 2) := by decide +kernel
theorem dX12_init_224 : decode cX12_init 224 = .ok (.iastore, 1) := by decide +kernel
theorem dX12_init_225 : decode cX12_init 225 = .ok (.dup, 1) := by decide +kernel
theorem dX12_init_226 : decode cX12_init 226 = .ok (.bipush 9, 2) := by decide +kernel
theorem dX12_init_228 : decode cX12_init 228 = .ok (.bipush 116, 2) := by decide +kernel
theorem dX12_init_230 : decode cX12_init 230 = .ok (.iastore, 1) := by decide +kernel
theorem dX12_init_231 : decode cX12_init 231 = .ok (.dup, 1) := by decide +kernel
theorem dX12_init_232 : decode cX12_init 232 = .ok (.bipush 10, 2) := by decide +kernel
theorem dX12_init_234 : decode cX12_init 234 = .ok (.bipush 114, 2) := by decide +kernel
theorem dX12_init_236 : decode cX12_init 236 = .ok (.iastore, 1) := by decide +kernel
theorem dX12_init_237 : decode cX12_init 237 = .ok (.dup, 1) := by decide +kernel
theorem dX12_init_238 : decode cX12_init 238 = .ok (.bipush 11, 2) := by decide +kernel
theorem dX12_init_240 : decode cX12_init 240 = .ok (.bipush 105, 2) := by decide +kernel
theorem dX12_init_242 : decode cX12_init 242 = .ok (.iastore, 1) := by decide +kernel
theorem dX12_init_243 : decode cX12_init 243 = .ok (.dup, 1) := by decide +kernel
theorem dX12_init_244 : decode cX12_init 244 = .ok (.bipush 12, 2) := by decide +kernel
theorem dX12_init_246 : decode cX12_init 246 = .ok (.bipush 103, 2) := by decide +kernel
theorem dX12_init_248 : decode cX12_init 248 = .ok (.iastore, 1) := by decide +kernel
theorem dX12_init_249 : decode cX12_init 249 = .ok (.dup, 1) := by decide +kernel
theorem dX12_init_250 : decode cX12_init 250 = .ok (.bipush 13, 2) := by decide +kernel
theorem dX12_init_252 : decode cX12_init 252 = .ok (.bipush 104, 2) := by decide +kernel
theorem dX12_init_254 : decode cX12_init 254 = .ok (.iastore, 1) := by decide +kernel
theorem dX12_init_255 : decode cX12_init 255 = .ok (.dup, 1) := by decide +kernel
theorem dX12_init_256 : decode cX12_init 256 = .ok (.bipush 14, 2) := by decide +kernel
theorem dX12_init_258 : decode cX12_init 258 = .ok (.bipush 116, 2) := by decide +kernel
theorem dX12_init_260 : decode cX12_init 260 = .ok (.iastore, 1) := by decide +kernel
theorem dX12_init_261 : decode cX12_init 261 = .ok (.dup, 1) := by decide +kernel
theorem dX12_init_262 : decode cX12_init 262 = .ok (.bipush 15, 2) := by decide +kernel
theorem dX12_init_264 : decode cX12_init 264 = .ok (.bipush 115, 2) := by decide +kernel
theorem dX12_init_266 : decode cX12_init 266 = .ok (.iastore, 1) := by decide +kernel
theorem dX12_init_267 : decode cX12_init 267 = .ok (.dup, 1) := by decide +kernel
theorem dX12_init_268 : decode cX12_init 268 = .ok (.bipush 16, 2) := by decide +kernel
theorem dX12_init_270 : decode cX12_init 270 = .ok (.bipush 116, 2) := by decide +kernel
theorem dX12_init_272 : decode cX12_init 272 = .ok (.iastore, 1) := by decide +kernel
theorem dX12_init_273 : decode cX12_init 273 = .ok (.dup, 1) := by decide +kernel
theorem dX12_init_274 : decode cX12_init 274 = .ok (.bipush 17, 2) := by decide +kernel
theorem dX12_init_276 : decode cX12_init 276 = .ok (.bipush 97, 2) := by decide +kernel
theorem dX12_init_278 : decode cX12_init 278 = .ok (.iastore, 1) := by decide +kernel
theorem dX12_init_279 : decode cX12_init 279 = .ok (.dup, 1) := by decide +kernel
theorem dX12_init_280 : decode cX12_init 280 = .ok (.bipush 18, 2) := by decide +kernel
theorem dX12_init_282 : decode cX12_init 282 = .ok (.bipush 121, 2) := by decide +kernel
theorem dX12_init_284 : decode cX12_init 284 = .ok (.iastore, 1) := by decide +kernel
theorem dX12_init_285 : decode cX12_init 285 = .ok (.putfield 86, 3) := by decide +kernel
theorem dX12_init_288 : decode cX12_init 288 = .ok (.aload_n 0, 1) := by decide +kernel
theorem dX12_init_289 : decode cX12_init 289 = .ok (.bipush 100, 2) := by decide +kernel
theorem dX12_init_291 : decode cX12_init 291 = .ok (.newarray .boolean, 2) := by decide +kernel
theorem dX12_init_293 : decode cX12_init 293 = .ok (.putfield 89, 3) := by decide +kernel
theorem dX12_init_296 : decode cX12_init 296 = .ok (.aload_n 0, 1) := by decide +kernel
theorem dX12_init_297 : decode cX12_init 297 = .ok (.iconst 0, 1) := by decide +kernel
theorem dX12_init_298 : decode cX12_init 298 = .ok (.putfield 93, 3) := by decide +kernel
theorem dX12_init_301 : decode cX12_init 301 = .ok (.aload_n 0, 1) := by decide +kernel
theorem dX12_init_302 : decode cX12_init 302 = .ok (.iconst 0, 1) := by decide +kernel
theorem dX12_init_303 : decode cX12_init 303 = .ok (.putfield 96, 3) := by decide +kernel
theorem dX12_init_306 : decode cX12_init 306 = .ok (.aload_n 0, 1) := by decide +kernel
theorem dX12_init_307 : decode cX12_init 307 = .ok (.bipush 6, 2) := by decide +kernel
theorem dX12_init_309 : decode cX12_init 309 = .ok (.newarray .int, 2) := by decide +kernel
theorem dX12_init_311 : decode cX12_init 311 = .ok (.putfield 99, 3) := by decide +kernel
theorem dX12_init_314 : decode cX12_init 314 = .ok (.aload_n 0, 1) := by decide +kernel
theorem dX12_init_315 : decode cX12_init 315 = .ok (.bipush 6, 2) := by decide +kernel
theorem dX12_init_317 : decode cX12_init 317 = .ok (.newarray .int, 2) := by decide +kernel
theorem dX12_init_319 : decode cX12_init 319 = .ok (.putfield 102, 3) := by decide +kernel
theorem dX12_init_322 : decode cX12_init 322 = .ok (.aload_n 0, 1) := by decide +kernel
theorem dX12_init_323 : decode cX12_init 323 = .ok (.bipush 6, 2) := by decide +kernel
theorem dX12_init_325 : decode cX12_init 325 = .ok (.newarray .int, 2) := by decide +kernel
theorem dX12_init_327 : decode cX12_init 327 = .ok (.putfield 105, 3) := by decide +kernel
theorem dX12_init_330 : decode cX12_init 330 = .ok (.aload_n 0, 1) := by decide +kernel
theorem dX12_init_331 : decode cX12_init 331 = .ok (.iconst 0, 1) := by decide +kernel
theorem dX12_init_332 : decode cX12_init 332 = .ok (.putfield 108, 3) := by decide +kernel
theorem dX12_init_335 : decode cX12_init 335 = .ok (.aload_n 0, 1) := by decide +kernel
theorem dX12_init_336 : decode cX12_init 336 = .ok (.iconst 4, 1) := by decide +kernel
theorem dX12_init_337 : decode cX12_init 337 = .ok (.newarray .int, 2) := by decide +kernel
theorem dX12_init_339 : decode cX12_init 339 = .ok (.putfield 111, 3) := by decide +kernel
theorem dX12_init_342 : decode cX12_init 342 = .ok (.aload_n 0, 1) := by decide +kernel
theorem dX12_init_343 : decode cX12_init 343 = .ok (.iconst 4, 1) := by decide +kernel
theorem dX12_init_344 : decode cX12_init 344 = .ok (.newarray .int, 2) := by decide +kernel
theorem dX12_init_346 : decode cX12_init 346 = .ok (.putfield 114, 3) := by decide +kernel
theorem dX12_init_349 : decode cX12_init 349 = .ok (.aload_n 0, 1) := by decide +kernel
theorem dX12_init_350 : decode cX12_init 350 = .ok (.iconst 4, 1) := by decide +kernel
theorem dX12_init_351 : decode cX12_init 351 = .ok (.newarray .int, 2) := by decide +kernel
theorem dX12_init_353 : decode cX12_init 353 = .ok (.putfield 117, 3) := by decide +kernel
theorem dX12_init_356 : decode cX12_init 356 = .ok (.aload_n 0, 1) := by decide +kernel
theorem dX12_init_357 : decode cX12_init 357 = .ok (.iconst 5, 1) := by decide +kernel
theorem dX12_init_358 : decode cX12_init 358 = .ok (.newarray .long, 2) := by decide +kernel
theorem dX12_init_360 : decode cX12_init 360 = .ok (.putfield 120, 3) := by decide +kernel
theorem dX12_init_363 : decode cX12_init 363 = .ok (.aload_n 0, 1) := by decide +kernel
theorem dX12_init_364 : decode cX12_init 364 = .ok (.iconst 5, 1) := by decide +kernel
theorem dX12_init_365 : decode cX12_init 365 = .ok (.newarray .long, 2) := by decide +kernel
theorem dX12_init_367 : decode cX12_init 367 = .ok (.putfield 124, 3) := by decide +kernel
theorem dX12_init_370 : decode cX12_init 370 = .ok (.aload_n 0, 1) := by decide +kernel
theorem dX12_init_371 : decode cX12_init 371 = .ok (.iconst 0, 1) := by decide +kernel
theorem dX12_init_372 : decode cX12_init 372 = .ok (.putfield 127, 3) := by decide +kernel
theorem dX12_init_375 : decode cX12_init 375 = .ok (.aload_n 0, 1) := by decide +kernel
theorem dX12_init_376 : decode cX12_init 376 = .ok (.bipush 6, 2) := by decide +kernel
theorem dX12_init_378 : decode cX12_init 378 = .ok (.newarray .int, 2) := by decide +kernel
theorem dX12_init_380 : decode cX12_init 380 = .ok (.putfield 130, 3) := by decide +kernel
theorem dX12_init_383 : decode cX12_init 383 = .ok (.aload_n 0, 1) := by decide +kernel
theorem dX12_init_384 : decode cX12_init 384 = .ok (.iconst 0, 1) := by decide +kernel
theorem dX12_init_385 : decode cX12_init 385 = .ok (.putfield 133, 3) := by decide +kernel
theorem dX12_init_388 : decode cX12_init 388 = .ok (.aload_n 0, 1) := by decide +kernel
theorem dX12_init_389 : decode cX12_init 389 = .ok (.bipush 10, 2) := by decide +kernel
theorem dX12_init_391 : decode cX12_init 391 = .ok (.newarray .int, 2) := by decide +kernel
theorem dX12_init_393 : decode cX12_init 393 = .ok (.putfield 136, 3) := by decide +kernel
theorem dX12_init_396 : decode cX12_init 396 = .ok (.aload_n 0, 1) := by decide +kernel
theorem dX12_init_397 : decode cX12_init 397 = .ok (.bipush 10, 2) := by decide +kernel
theorem dX12_init_399 : decode cX12_init 399 = .ok (.newarray .int, 2) := by decide +kernel
theorem dX12_init_401 : decode cX12_init 401 = .ok (.putfield 139, 3) := by decide +kernel
theorem dX12_init_404 : decode cX12_init 404 = .ok (.aload_n 0, 1) := by decide +kernel
theorem dX12_init_405 : decode cX12_init 405 = .ok (.iconst 0, 1) := by decide +kernel
theorem dX12_init_406 : decode cX12_init 406 = .ok (.putfield 142, 3) := by decide +kernel
theorem dX12_init_409 : decode cX12_init 409 = .ok (.aload_n 0, 1) := by decide +kernel
theorem dX12_init_410 : decode cX12_init 410 = .ok (.iconst (-1), 1) := by decide +kernel
theorem dX12_init_411 : decode cX12_init 411 = .ok (.putfield 146, 3) := by decide +kernel
theorem dX12_init_414 : decode cX12_init 414 = .ok (.aload_n 0, 1) := by decide +kernel
theorem dX12_init_415 : decode cX12_init 415 = .ok (.iconst 0, 1) := by decide +kernel
theorem dX12_init_416 : decode cX12_init 416 = .ok (.putfield 149, 3) := by decide +kernel
theorem dX12_init_419 : decode cX12_init 419 = .ok (.aload_n 0, 1) := by decide +kernel
theorem dX12_init_420 : decode cX12_init 420 = .ok (.iconst 0, 1) := by decide +kernel
theorem dX12_init_421 : decode cX12_init 421 = .ok (.putfield 152, 3) := by decide +kernel
theorem dX12_init_424 : decode cX12_init 424 = .ok (.aload_n 0, 1) := by decide +kernel
theorem dX12_init_425 : decode cX12_init 425 = .ok (.iconst 0, 1) := by decide +kernel
theorem dX12_init_426 : decode cX12_init 426 = .ok (.putfield 155, 3) := by decide +kernel
theorem dX12_init_429 : decode cX12_init 429 = .ok (.aload_n 0, 1) := by decide +kernel
theorem dX12_init_430 : decode cX12_init 430 = .ok (.iconst 0, 1) := by decide +kernel
theorem dX12_init_431 : decode cX12_init 431 = .ok (.putfield 158, 3) := by decide +kernel
theorem dX12_init_434 : decode cX12_init 434 = .ok (.aload_n 0, 1) := by decide +kernel
theorem dX12_init_435 : decode cX12_init 435 = .ok (.iconst 0, 1) := by decide +kernel
theorem dX12_init_436 : decode cX12_init 436 = .ok (.putfield 161, 3) := by decide +kernel
theorem dX12_init_439 : decode cX12_init 439 = .ok (.aload_n 0, 1) := by decide +kernel
theorem dX12_init_440 : decode cX12_init 440 = .ok (.iconst 0, 1) := by decide +kernel
theorem dX12_init_441 : decode cX12_init 441 = .ok (.putfield 164, 3) := by decide +kernel
theorem dX12_init_444 : decode cX12_init 444 = .ok (.aload_n 0, 1) := by decide +kernel
theorem dX12_init_445 : decode cX12_init 445 = .ok (.bipush 6, 2) := by decide +kernel
theorem dX12_init_447 : decode cX12_init 447 = .ok (.newarray .int, 2) := by decide +kernel
theorem dX12_init_449 : decode cX12_init 449 = .ok (.putfield 167, 3) := by decide +kernel
theorem dX12_init_452 : decode cX12_init 452 = .ok (.aload_n 0, 1) := by decide +kernel
theorem dX12_init_453 : decode cX12_init 453 = .ok (.bipush 6, 2) := by decide +kernel
theorem dX12_init_455 : decode cX12_init 455 = .ok (.newarray .int, 2) := by decide +kernel
theorem dX12_init_457 : decode cX12_init 457 = .ok (.putfield 170, 3) := by decide +kernel
theorem dX12_init_460 : decode cX12_init 460 = .ok (.aload_n 0, 1) := by decide +kernel
theorem dX12_init_461 : decode cX12_init 461 = .ok (.bipush 6, 2) := by decide +kernel
theorem dX12_init_463 : decode cX12_init 463 = .ok (.newarray .int, 2) := by decide +kernel
theorem dX12_init_465 : decode cX12_init 465 = .ok (.putfield 173, 3) := by decide +kernel
theorem dX12_init_468 : decode cX12_init 468 = .ok (.aload_n 0, 1) := by decide +kernel
theorem dX12_init_469 : decode cX12_init 469 = .ok (.bipush 6, 2) := by decide +kernel
theorem dX12_init_471 : decode cX12_init 471 = .ok (.newarray .int, 2) := by decide +kernel
theorem dX12_init_473 : decode cX12_init 473 = .ok (.putfield 176, 3) := by decide +kernel
theorem dX12_init_476 : decode cX12_init 476 = .ok (.aload_n 0, 1) := by decide +kernel
theorem dX12_init_477 : decode cX12_init 477 = .ok (.bipush 6, 2) := by decide +kernel
theorem dX12_init_479 : decode cX12_init 479 = .ok (.newarray .int, 2) := by decide +kernel
theorem dX12_init_481 : decode cX12_init 481 = .ok (.putfield 179, 3) := by decide +kernel
theorem dX12_init_484 : decode cX12_init 484 = .ok (.aload_n 0, 1) := by decide +kernel
theorem dX12_init_485 : decode cX12_init 485 = .ok (.bipush 24, 2) := by decide +kernel
theorem dX12_init_487 : decode cX12_init 487 = .ok (.newarray .int, 2) := by decide +kernel
theorem dX12_init_489 : decode cX12_init 489 = .ok (.putfield 182, 3) := by decide +kernel
theorem dX12_init_492 : decode cX12_init 492 = .ok (.aload_n 0, 1) := by decide +kernel
theorem dX12_init_493 : decode cX12_init 493 = .ok (.iconst 4, 1) := by decide +kernel
theorem dX12_init_494 : decode cX12_init 494 = .ok (.newarray .int, 2) := by decide +kernel
theorem dX12_init_496 : decode cX12_init 496 = .ok (.putfield 185, 3) := by decide +kernel
theorem dX12_init_499 : decode cX12_init 499 = .ok (.aload_n 0, 1) := by decide +kernel
theorem dX12_init_500 : decode cX12_init 500 = .ok (.bipush 6, 2) := by decide +kernel
theorem dX12_init_502 : decode cX12_init 502 = .ok (.newarray .int, 2) := by decide +kernel
theorem dX12_init_504 : decode cX12_init 504 = .ok (.putfield 188, 3) := by decide +kernel
theorem dX12_init_507 : decode cX12_init 507 = .ok (.aload_n 0, 1) := by decide +kernel
theorem dX12_init_508 : decode cX12_init 508 = .ok (.bipush 10, 2) := by decide +kernel
theorem dX12_init_510 : decode cX12_init 510 = .ok (.newarray .int, 2) := by decide +kernel
theorem dX12_init_512 : decode cX12_init 512 = .ok (.putfield 191, 3) := by decide +kernel
theorem dX12_init_515 : decode cX12_init 515 = .ok (.aload_n 0, 1) := by decide +kernel
theorem dX12_init_516 : decode cX12_init 516 = .ok (.bipush 10, 2) := by decide +kernel
theorem dX12_init_518 : decode cX12_init 518 = .ok (.newarray .int, 2) := by decide +kernel
theorem dX12_init_520 : decode cX12_init 520 = .ok (.putfield 194, 3) := by decide +kernel
theorem dX12_init_523 : decode cX12_init 523 = .ok (.aload_n 0, 1) := by decide +kernel
theorem dX12_init_524 : decode cX12_init 524 = .ok (.iconst 0, 1) := by decide +kernel
theorem dX12_init_525 : decode cX12_init 525 = .ok (.putfield 197, 3) := by decide +kernel
theorem dX12_init_528 : decode cX12_init 528 = .ok (.aload_n 0, 1) := by decide +kernel
theorem dX12_init_529 : decode cX12_init 529 = .ok (.bipush 20, 2) := by decide +kernel
theorem dX12_init_531 : decode cX12_init 531 = .ok (.newarray .int, 2) := by decide +kernel
theorem dX12_init_533 : decode cX12_init 533 = .ok (.putfield 200, 3) := by decide +kernel
theorem dX12_init_536 : decode cX12_init 536 = .ok (.aload_n 0, 1) := by decide +kernel
theorem dX12_init_537 : decode cX12_init 537 = .ok (.bipush 6, 2) := by decide +kernel
theorem dX12_init_539 : decode cX12_init 539 = .ok (.newarray .int, 2) := by decide +kernel
theorem dX12_init_541 : decode cX12_init 541 = .ok (.dup, 1) := by decide +kernel
theorem dX12_init_542 : decode cX12_init 542 = .ok (.iconst 0, 1) := by decide +kernel
theorem dX12_init_543 : decode cX12_init 543 = .ok (.iconst (-1), 1) := by decide +kernel
theorem dX12_init_544 : decode cX12_init 544 = .ok (.iastore, 1) := by decide +kernel
theorem dX12_init_545 : decode cX12_init 545 = .ok (.dup, 1) := by decide +kernel
theorem dX12_init_546 : decode cX12_init 546 = .ok (.iconst 1, 1) := by decide +kernel
theorem dX12_init_547 : decode cX12_init 547 = .ok (.iconst (-1), 1) := by decide +kernel
theorem dX12_init_548 : decode cX12_init 548 = .ok (.iastore, 1) := by decide +kernel
theorem dX12_init_549 : decode cX12_init 549 = .ok (.dup, 1) := by decide +kernel
theorem dX12_init_550 : decode cX12_init 550 = .ok (.iconst 2, 1) := by decide +kernel
theorem dX12_init_551 : decode cX12_init 551 = .ok (.iconst (-1), 1) := by decide +kernel
theorem dX12_init_552 : decode cX12_init 552 = .ok (.iastore, 1) := by decide +kernel
theorem dX12_init_553 : decode cX12_init 553 = .ok (.dup, 1) := by decide +kernel
theorem dX12_init_554 : decode cX12_init 554 = .ok (.iconst 3, 1) := by decide +kernel
theorem dX12_init_555 : decode cX12_init 555 = .ok (.iconst (-1), 1) := by decide +kernel
theorem dX12_init_556 : decode cX12_init 556 = .ok (.iastore, 1) := by decide +kernel
theorem dX12_init_557 : decode cX12_init 557 = .ok (.dup, 1) := by decide +kernel
theorem dX12_init_558 : decode cX12_init 558 = .ok (.iconst 4, 1) := by decide +kernel
theorem dX12_init_559 : decode cX12_init 559 = .ok (.iconst (-1), 1) := by decide +kernel
theorem dX12_init_560 : decode cX12_init 560 = .ok (.iastore, 1) := by decide +kernel
theorem dX12_init_561 : decode cX12_init 561 = .ok (.dup, 1) := by decide +kernel
theorem dX12_init_562 : decode cX12_init 562 = .ok (.iconst 5, 1) := by decide +kernel
theorem dX12_init_563 : decode cX12_init 563 = .ok (.iconst (-1), 1) := by decide +kernel
theorem dX12_init_564 : decode cX12_init 564 = .ok (.iastore, 1) := by decide +kernel
theorem dX12_init_565 : decode cX12_init 565 = .ok (.putfield 203, 3) := by decide +kernel
theorem dX12_init_568 : decode cX12_init 568 = .ok (.aload_n 0, 1) := by decide +kernel
theorem dX12_init_569 : decode cX12_init 569 = .ok (.bipush 6, 2) := by decide +kernel
theorem dX12_init_571 : decode cX12_init 571 = .ok (.newarray .int, 2) := by decide +kernel
theorem dX12_init_573 : decode cX12_init 573 = .ok (.putfield 206, 3) := by decide +kernel
theorem dX12_init_576 : decode cX12_init 576 = .ok (.aload_n 0, 1) := by decide +kernel
theorem dX12_init_577 : decode cX12_init 577 = .ok (.sipush 360, 3) := by decide +kernel
theorem dX12_init_580 : decode cX12_init 580 = .ok (.newarray .long, 2) := by decide +kernel
theorem dX12_init_582 : decode cX12_init 582 = .ok (.putfield 209, 3) := by decide +kernel
theorem dX12_init_585 : decode cX12_init 585 = .ok (.aload_n 0, 1) := by decide +kernel
theorem dX12_init_586 : decode cX12_init 586 = .ok (.bipush 60, 2) := by decide +kernel
theorem dX12_init_588 : decode cX12_init 588 = .ok (.newarray .long, 2) := by decide +kernel
theorem dX12_init_590 : decode cX12_init 590 = .ok (.putfield 212, 3) := by decide +kernel
theorem dX12_init_593 : decode cX12_init 593 = .ok (.return_, 1) := by decide +kernel
theorem dX12_in_0 : decode cX12_in 0 = .ok (.iload_n 1, 1) := by decide +kernel
theorem dX12_in_1 : decode cX12_in 1 = .ok (.iload_n 2, 1) := by decide +kernel
theorem dX12_in_2 : decode cX12_in 2 = .ok (.if_icmp .lt 12, 3) := by decide +kernel
theorem dX12_in_5 : decode cX12_in 5 = .ok (.iload_n 1, 1) := by decide +kernel
theorem dX12_in_6 : decode cX12_in 6 = .ok (.iload_n 3, 1) := by decide +kernel
theorem dX12_in_7 : decode cX12_in 7 = .ok (.if_icmp .gt 7, 3) := by decide +kernel
theorem dX12_in_10 : decode cX12_in 10 = .ok (.iconst 1, 1) := by decide +kernel
theorem dX12_in_11 : decode cX12_in 11 = .ok (.goto 4, 3) := by decide +kernel
theorem dX12_in_14 : decode cX12_in 14 = .ok (.iconst 0, 1) := by decide +kernel
theorem dX12_in_15 : decode cX12_in 15 = .ok (.ireturn, 1) := by decide +kernel
theorem dX12_has_0 : decode cX12_has 0 = .ok (.iload_n 1, 1) := by decide +kernel
theorem dX12_has_1 : decode cX12_has 1 = .ok (.iload_n 2, 1) := by decide +kernel
theorem dX12_has_2 : decode cX12_has 2 = .ok (.ishr, 1) := by decide +kernel
theorem dX12_has_3 : decode cX12_has 3 = .ok (.iconst 1, 1) := by decide +kernel
theorem dX12_has_4 : decode cX12_has 4 = .ok (.iand, 1) := by decide +kernel
theorem dX12_has_5 : decode cX12_has 5 = .ok (.iconst 1, 1) := by decide +kernel
theorem dX12_has_6 : decode cX12_has 6 = .ok (.if_icmp .ne 7, 3) := by decide +kernel
theorem dX12_has_9 : decode cX12_has 9 = .ok (.iconst 1, 1) := by decide +kernel
theorem dX12_has_10 : decode cX12_has 10 = .ok (.goto 4, 3) := by decide +kernel
theorem dX12_has_13 : decode cX12_has 13 = .ok (.iconst 0, 1) := by decide +kernel
theorem dX12_has_14 : decode cX12_has 14 = .ok (.ireturn, 1) := by decide +kernel
theorem dX12_isShooter_0 : decode cX12_isShooter 0 = .ok (.aload_n 0, 1) := by decide +kernel
theorem dX12_isShooter_1 : decode cX12_isShooter 1 = .ok (.iload_n 1, 1) := by decide +kernel
theorem dX12_isShooter_2 : decode cX12_isShooter 2 = .ok (.iconst 0, 1) := by decide +kernel
theorem dX12_isShooter_3 : decode cX12_isShooter 3 = .ok (.aload_n 0, 1) := by decide +kernel
theorem dX12_isShooter_4 : decode cX12_isShooter 4 = .ok (.getfield 7, 3) := by decide +kernel
theorem dX12_isShooter_7 : decode cX12_isShooter 7 = .ok (.iconst 1, 1) := by decide +kernel
theorem dX12_isShooter_8 : decode cX12_isShooter 8 = .ok (.isub, 1) := by decide +kernel
theorem dX12_isShooter_9 : decode cX12_isShooter 9 = .ok (.invokevirtual 215, 3) := by decide +kernel
theorem dX12_isShooter_12 : decode cX12_isShooter 12 = .ok (.ireturn, 1) := by decide +kernel
theorem dX12_isSide_0 : decode cX12_isSide 0 = .ok (.aload_n 0, 1) := by decide +kernel
theorem dX12_isSide_1 : decode cX12_isSide 1 = .ok (.iload_n 1, 1) := by decide +kernel
theorem dX12_isSide_2 : decode cX12_isSide 2 = .ok (.iconst 0, 1) := by decide +kernel
theorem dX12_isSide_3 : decode cX12_isSide 3 = .ok (.iconst 2, 1) := by decide +kernel
theorem dX12_isSide_4 : decode cX12_isSide 4 = .ok (.invokevirtual 215, 3) := by decide +kernel
theorem dX12_isSide_7 : decode cX12_isSide 7 = .ok (.ireturn, 1) := by decide +kernel
theorem dX12_shooter_0 : decode cX12_shooter 0 = .ok (.aload_n 0, 1) := by decide +kernel
theorem dX12_shooter_1 : decode cX12_shooter 1 = .ok (.iload_n 1, 1) := by decide +kernel
theorem dX12_shooter_2 : decode cX12_shooter 2 = .ok (.iconst 0, 1) := by decide +kernel
theorem dX12_shooter_3 : decode cX12_shooter 3 = .ok (.bipush 6, 2) := by decide +kernel
theorem dX12_shooter_5 : decode cX12_shooter 5 = .ok (.invokevirtual 215, 3) := by decide +kernel
theorem dX12_shooter_8 : decode cX12_shooter 8 = .ok (.ifCond .ne 5, 3) := by decide +kernel
theorem dX12_shooter_11 : decode cX12_shooter 11 = .ok (.iconst (-1), 1) := by decide +kernel
theorem dX12_shooter_12 : decode cX12_shooter 12 = .ok (.ireturn, 1) := by decide +kernel
theorem dX12_shooter_13 : decode cX12_shooter 13 = .ok (.aload_n 0, 1) := by decide +kernel
theorem dX12_shooter_14 : decode cX12_shooter 14 = .ok (.iload_n 2, 1) := by decide +kernel
theorem dX12_shooter_15 : decode cX12_shooter 15 = .ok (.iconst 0, 1) := by decide +kernel
theorem dX12_shooter_16 : decode cX12_shooter 16 = .ok (.bipush 9, 2) := by decide +kernel
theorem dX12_shooter_18 : decode cX12_shooter 18 = .ok (.invokevirtual 215, 3) := by decide +kernel
theorem dX12_shooter_21 : decode cX12_shooter 21 = .ok (.ifCond .ne 6, 3) := by decide +kernel
theorem dX12_shooter_24 : decode cX12_shooter 24 = .ok (.bipush (-2), 2) := by decide +kernel
theorem dX12_shooter_26 : decode cX12_shooter 26 = .ok (.ireturn, 1) := by decide +kernel
theorem dX12_shooter_27 : decode cX12_shooter 27 = .ok (.aload_n 0, 1) := by decide +kernel
theorem dX12_shooter_28 : decode cX12_shooter 28 = .ok (.getfield 7, 3) := by decide +kernel
theorem dX12_shooter_31 : decode cX12_shooter 31 = .ok (.bipush 6, 2) := by decide +kernel
theorem dX12_shooter_33 : decode cX12_shooter 33 = .ok (.if_icmp .ne 6, 3) := by decide +kernel
theorem dX12_shooter_36 : decode cX12_shooter 36 = .ok (.bipush (-4), 2) := by decide +kernel
theorem dX12_shooter_38 : decode cX12_shooter 38 = .ok (.ireturn, 1) := by decide +kernel
theorem dX12_shooter_39 : decode cX12_shooter 39 = .ok (.aload_n 0, 1) := by decide +kernel
theorem dX12_shooter_40 : decode cX12_shooter 40 = .ok (.getfield 19, 3) := by decide +kernel
theorem dX12_shooter_43 : decode cX12_shooter 43 = .ok (.aload_n 0, 1) := by decide +kernel
theorem dX12_shooter_44 : decode cX12_shooter 44 = .ok (.getfield 7, 3) := by decide +kernel
theorem dX12_shooter_47 : decode cX12_shooter 47 = .ok (.iload_n 1, 1) := by decide +kernel
theorem dX12_shooter_48 : decode cX12_shooter 48 = .ok (.iastore, 1) := by decide +kernel
theorem dX12_shooter_49 : decode cX12_shooter 49 = .ok (.aload_n 0, 1) := by decide +kernel
theorem dX12_shooter_50 : decode cX12_shooter 50 = .ok (.getfield 23, 3) := by decide +kernel
theorem dX12_shooter_53 : decode cX12_shooter 53 = .ok (.aload_n 0, 1) := by decide +kernel
theorem dX12_shooter_54 : decode cX12_shooter 54 = .ok (.getfield 7, 3) := by decide +kernel
theorem dX12_shooter_57 : decode cX12_shooter 57 = .ok (.iload_n 2, 1) := by decide +kernel
theorem dX12_shooter_58 : decode cX12_shooter 58 = .ok (.iastore, 1) := by decide +kernel
theorem dX12_shooter_59 : decode cX12_shooter 59 = .ok (.aload_n 0, 1) := by decide +kernel
theorem dX12_shooter_60 : decode cX12_shooter 60 = .ok (.getfield 26, 3) := by decide +kernel
theorem dX12_shooter_63 : decode cX12_shooter 63 = .ok (.aload_n 0, 1) := by decide +kernel
theorem dX12_shooter_64 : decode cX12_shooter 64 = .ok (.getfield 7, 3) := by decide +kernel
theorem dX12_shooter_67 : decode cX12_shooter 67 = .ok (.iconst 3, 1) := by decide +kernel
theorem dX12_shooter_68 : decode cX12_shooter 68 = .ok (.iastore, 1) := by decide +kernel
theorem dX12_shooter_69 : decode cX12_shooter 69 = .ok (.aload_n 0, 1) := by decide +kernel
theorem dX12_shooter_70 : decode cX12_shooter 70 = .ok (.getfield 29, 3) := by decide +kernel
theorem dX12_shooter_73 : decode cX12_shooter 73 = .ok (.aload_n 0, 1) := by decide +kernel
theorem dX12_shooter_74 : decode cX12_shooter 74 = .ok (.getfield 7, 3) := by decide +kernel
theorem dX12_shooter_77 : decode cX12_shooter 77 = .ok (.iconst 0, 1) := by decide +kernel
theorem dX12_shooter_78 : decode cX12_shooter 78 = .ok (.iastore, 1) := by decide +kernel
theorem dX12_shooter_79 : decode cX12_shooter 79 = .ok (.aload_n 0, 1) := by decide +kernel
theorem dX12_shooter_80 : decode cX12_shooter 80 = .ok (.getfield 32, 3) := by decide +kernel
theorem dX12_shooter_83 : decode cX12_shooter 83 = .ok (.aload_n 0, 1) := by decide +kernel
theorem dX12_shooter_84 : decode cX12_shooter 84 = .ok (.getfield 7, 3) := by decide +kernel
theorem dX12_shooter_87 : decode cX12_shooter 87 = .ok (.iconst 0, 1) := by decide +kernel
theorem dX12_shooter_88 : decode cX12_shooter 88 = .ok (.iastore, 1) := by decide +kernel
theorem dX12_shooter_89 : decode cX12_shooter 89 = .ok (.iconst 0, 1) := by decide +kernel
theorem dX12_shooter_90 : decode cX12_shooter 90 = .ok (.istore_n 3, 1) := by decide +kernel
theorem dX12_shooter_91 : decode cX12_shooter 91 = .ok (.iload_n 3, 1) := by decide +kernel
theorem dX12_shooter_92 : decode cX12_shooter 92 = .ok (.iconst 4, 1) := by decide +kernel
theorem dX12_shooter_93 : decode cX12_shooter 93 = .ok (.if_icmp .ge 23, 3) := by decide +kernel
theorem dX12_shooter_96 : decode cX12_shooter 96 = .ok (.aload_n 0, 1) := by decide +kernel
theorem dX12_shooter_97 : decode cX12_shooter 97 = .ok (.getfield 35, 3) := by decide +kernel
theorem dX12_shooter_100 : decode cX12_shooter 100 = .ok (.iconst 4, 1) := by decide +kernel
theorem dX12_shooter_101 : decode cX12_shooter 101 = .ok (.aload_n 0, 1) := by decide +kernel
theorem dX12_shooter_102 : decode cX12_shooter 102 = .ok (.getfield 7, 3) := by decide +kernel
theorem dX12_shooter_105 : decode cX12_shooter 105 = .ok (.imul, 1) := by decide +kernel
theorem dX12_shooter_106 : decode cX12_shooter 106 = .ok (.iload_n 3, 1) := by decide +kernel
theorem dX12_shooter_107 : decode cX12_shooter 107 = .ok (.iadd, 1) := by decide +kernel
theorem dX12_shooter_108 : decode cX12_shooter 108 = .ok (.iconst 0, 1) := by decide +kernel
theorem dX12_shooter_109 : decode cX12_shooter 109 = .ok (.iastore, 1) := by decide +kernel
theorem dX12_shooter_110 : decode cX12_shooter 110 = .ok (.iinc 3 1, 3) := by decide +kernel
theorem dX12_shooter_113 : decode cX12_shooter 113 = .ok (.goto (-22), 3) := by decide +kernel
theorem dX12_shooter_116 : decode cX12_shooter 116 = .ok (.aload_n 0, 1) := by decide +kernel
theorem dX12_shooter_117 : decode cX12_shooter 117 = .ok (.dup, 1) := by decide +kernel
theorem dX12_shooter_118 : decode cX12_shooter 118 = .ok (.getfield 7, 3) := by decide +kernel
theorem dX12_shooter_121 : decode cX12_shooter 121 = .ok (.iconst 1, 1) := by decide +kernel
theorem dX12_shooter_122 : decode cX12_shooter 122 = .ok (.iadd, 1) := by decide +kernel
theorem dX12_shooter_123 : decode cX12_shooter 123 = .ok (.putfield 7, 3) := by decide +kernel
theorem dX12_shooter_126 : decode cX12_shooter 126 = .ok (.aload_n 0, 1) := by decide +kernel
theorem dX12_shooter_127 : decode cX12_shooter 127 = .ok (.getfield 7, 3) := by decide +kernel
theorem dX12_shooter_130 : decode cX12_shooter 130 = .ok (.iconst 1, 1) := by decide +kernel
theorem dX12_shooter_131 : decode cX12_shooter 131 = .ok (.isub, 1) := by decide +kernel
theorem dX12_shooter_132 : decode cX12_shooter 132 = .ok (.ireturn, 1) := by decide +kernel
theorem dX12_last_0 : decode cX12_last 0 = .ok (.aload_n 0, 1) := by decide +kernel
theorem dX12_last_1 : decode cX12_last 1 = .ok (.iload_n 1, 1) := by decide +kernel
theorem dX12_last_2 : decode cX12_last 2 = .ok (.invokevirtual 219, 3) := by decide +kernel
theorem dX12_last_5 : decode cX12_last 5 = .ok (.ifCond .eq 13, 3) := by decide +kernel
theorem dX12_last_8 : decode cX12_last 8 = .ok (.aload_n 0, 1) := by decide +kernel
theorem dX12_last_9 : decode cX12_last 9 = .ok (.iload_n 2, 1) := by decide +kernel
theorem dX12_last_10 : decode cX12_last 10 = .ok (.iconst 0, 1) := by decide +kernel
theorem dX12_last_11 : decode cX12_last 11 = .ok (.iconst 3, 1) := by decide +kernel
theorem dX12_last_12 : decode cX12_last 12 = .ok (.invokevirtual 215, 3) := by decide +kernel
theorem dX12_last_15 : decode cX12_last 15 = .ok (.ifCond .ne 5, 3) := by decide +kernel
theorem dX12_last_18 : decode cX12_last 18 = .ok (.iconst (-1), 1) := by decide +kernel
theorem dX12_last_19 : decode cX12_last 19 = .ok (.ireturn, 1) := by decide +kernel
theorem dX12_last_20 : decode cX12_last 20 = .ok (.aload_n 0, 1) := by decide +kernel
theorem dX12_last_21 : decode cX12_last 21 = .ok (.getfield 26, 3) := by decide +kernel
theorem dX12_last_24 : decode cX12_last 24 = .ok (.iload_n 1, 1) := by decide +kernel
theorem dX12_last_25 : decode cX12_last 25 = .ok (.iaload, 1) := by decide +kernel
theorem dX12_last_26 : decode cX12_last 26 = .ok (.istore_n 3, 1) := by decide +kernel
theorem dX12_last_27 : decode cX12_last 27 = .ok (.aload_n 0, 1) := by decide +kernel
theorem dX12_last_28 : decode cX12_last 28 = .ok (.getfield 26, 3) := by decide +kernel
theorem dX12_last_31 : decode cX12_last 31 = .ok (.iload_n 1, 1) := by decide +kernel
