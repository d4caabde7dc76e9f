theorem dX6_init_79 : decode cX6_init 79 = .ok (.bipush 10, 2) := by decide +kernel
theorem dX6_init_81 : decode cX6_init 81 = .ok (.invokespecial 36, 3) := by decide +kernel
theorem dX6_init_84 : decode cX6_init 84 = .ok (.putfield 46, 3) := by decide +kernel
theorem dX6_init_87 : decode cX6_init 87 = .ok (.aload_n 0, 1) := by decide +kernel
theorem dX6_init_88 : decode cX6_init 88 = .ok (.new 34, 3) := by decide +kernel
theorem dX6_init_91 : decode cX6_init 91 = .ok (.dup, 1) := by decide +kernel
theorem dX6_init_92 : decode cX6_init 92 = .ok (.bipush 10, 2) := by decide +kernel
theorem dX6_init_94 : decode cX6_init 94 = .ok (.invokespecial 36, 3) := by decide +kernel
theorem dX6_init_97 : decode cX6_init 97 = .ok (.putfield 49, 3) := by decide +kernel
theorem dX6_init_100 : decode cX6_init 100 = .ok (.return_, 1) := by decide +kernel
theorem dX6_takeRound_0 : decode cX6_takeRound 0 = .ok (.aload_n 0, 1) := by decide +kernel
theorem dX6_takeRound_1 : decode cX6_takeRound 1 = .ok (.aload_n 1, 1) := by decide +kernel
theorem dX6_takeRound_2 : decode cX6_takeRound 2 = .ok (.getfield 52, 3) := by decide +kernel
theorem dX6_takeRound_5 : decode cX6_takeRound 5 = .ok (.putfield 52, 3) := by decide +kernel
theorem dX6_takeRound_8 : decode cX6_takeRound 8 = .ok (.aload_n 0, 1) := by decide +kernel
theorem dX6_takeRound_9 : decode cX6_takeRound 9 = .ok (.aload_n 1, 1) := by decide +kernel
theorem dX6_takeRound_10 : decode cX6_takeRound 10 = .ok (.getfield 55, 3) := by decide +kernel
theorem dX6_takeRound_13 : decode cX6_takeRound 13 = .ok (.putfield 55, 3) := by decide +kernel
theorem dX6_takeRound_16 : decode cX6_takeRound 16 = .ok (.aload_n 1, 1) := by decide +kernel
theorem dX6_takeRound_17 : decode cX6_takeRound 17 = .ok (.getfield 15, 3) := by decide +kernel
theorem dX6_takeRound_20 : decode cX6_takeRound 20 = .ok (.iconst 0, 1) := by decide +kernel
theorem dX6_takeRound_21 : decode cX6_takeRound 21 = .ok (.aload_n 0, 1) := by decide +kernel
theorem dX6_takeRound_22 : decode cX6_takeRound 22 = .ok (.getfield 15, 3) := by decide +kernel
theorem dX6_takeRound_25 : decode cX6_takeRound 25 = .ok (.iconst 0, 1) := by decide +kernel
theorem dX6_takeRound_26 : decode cX6_takeRound 26 = .ok (.aload_n 0, 1) := by decide +kernel
theorem dX6_takeRound_27 : decode cX6_takeRound 27 = .ok (.getfield 15, 3) := by decide +kernel
theorem dX6_takeRound_30 : decode cX6_takeRound 30 = .ok (.arraylength, 1) := by decide +kernel
theorem dX6_takeRound_31 : decode cX6_takeRound 31 = .ok (.invokestatic 58, 3) := by decide +kernel
theorem dX6_takeRound_34 : decode cX6_takeRound 34 = .ok (.aload_n 1, 1) := by decide +kernel
theorem dX6_takeRound_35 : decode cX6_takeRound 35 = .ok (.getfield 25, 3) := by decide +kernel
theorem dX6_takeRound_38 : decode cX6_takeRound 38 = .ok (.iconst 0, 1) := by decide +kernel
theorem dX6_takeRound_39 : decode cX6_takeRound 39 = .ok (.aload_n 0, 1) := by decide +kernel
theorem dX6_takeRound_40 : decode cX6_takeRound 40 = .ok (.getfield 25, 3) := by decide +kernel
theorem dX6_takeRound_43 : decode cX6_takeRound 43 = .ok (.iconst 0, 1) := by decide +kernel
theorem dX6_takeRound_44 : decode cX6_takeRound 44 = .ok (.aload_n 0, 1) := by decide +kernel
theorem dX6_takeRound_45 : decode cX6_takeRound 45 = .ok (.getfield 25, 3) := by decide +kernel
theorem dX6_takeRound_48 : decode cX6_takeRound 48 = .ok (.arraylength, 1) := by decide +kernel
theorem dX6_takeRound_49 : decode cX6_takeRound 49 = .ok (.invokestatic 58, 3) := by decide +kernel
theorem dX6_takeRound_52 : decode cX6_takeRound 52 = .ok (.aload_n 1, 1) := by decide +kernel
theorem dX6_takeRound_53 : decode cX6_takeRound 53 = .ok (.getfield 28, 3) := by decide +kernel
theorem dX6_takeRound_56 : decode cX6_takeRound 56 = .ok (.iconst 0, 1) := by decide +kernel
theorem dX6_takeRound_57 : decode cX6_takeRound 57 = .ok (.aload_n 0, 1) := by decide +kernel
theorem dX6_takeRound_58 : decode cX6_takeRound 58 = .ok (.getfield 28, 3) := by decide +kernel
theorem dX6_takeRound_61 : decode cX6_takeRound 61 = .ok (.iconst 0, 1) := by decide +kernel
theorem dX6_takeRound_62 : decode cX6_takeRound 62 = .ok (.aload_n 0, 1) := by decide +kernel
theorem dX6_takeRound_63 : decode cX6_takeRound 63 = .ok (.getfield 28, 3) := by decide +kernel
theorem dX6_takeRound_66 : decode cX6_takeRound 66 = .ok (.arraylength, 1) := by decide +kernel
theorem dX6_takeRound_67 : decode cX6_takeRound 67 = .ok (.invokestatic 58, 3) := by decide +kernel
theorem dX6_takeRound_70 : decode cX6_takeRound 70 = .ok (.aload_n 1, 1) := by decide +kernel
theorem dX6_takeRound_71 : decode cX6_takeRound 71 = .ok (.getfield 31, 3) := by decide +kernel
theorem dX6_takeRound_74 : decode cX6_takeRound 74 = .ok (.iconst 0, 1) := by decide +kernel
theorem dX6_takeRound_75 : decode cX6_takeRound 75 = .ok (.aload_n 0, 1) := by decide +kernel
theorem dX6_takeRound_76 : decode cX6_takeRound 76 = .ok (.getfield 31, 3) := by decide +kernel
theorem dX6_takeRound_79 : decode cX6_takeRound 79 = .ok (.iconst 0, 1) := by decide +kernel
theorem dX6_takeRound_80 : decode cX6_takeRound 80 = .ok (.aload_n 0, 1) := by decide +kernel
theorem dX6_takeRound_81 : decode cX6_takeRound 81 = .ok (.getfield 31, 3) := by decide +kernel
theorem dX6_takeRound_84 : decode cX6_takeRound 84 = .ok (.arraylength, 1) := by decide +kernel
theorem dX6_takeRound_85 : decode cX6_takeRound 85 = .ok (.invokestatic 58, 3) := by decide +kernel
theorem dX6_takeRound_88 : decode cX6_takeRound 88 = .ok (.return_, 1) := by decide +kernel
theorem dX6_takeAll_0 : decode cX6_takeAll 0 = .ok (.aload_n 0, 1) := by decide +kernel
theorem dX6_takeAll_1 : decode cX6_takeAll 1 = .ok (.aload_n 1, 1) := by decide +kernel
theorem dX6_takeAll_2 : decode cX6_takeAll 2 = .ok (.invokevirtual 64, 3) := by decide +kernel
theorem dX6_takeAll_5 : decode cX6_takeAll 5 = .ok (.aload_n 0, 1) := by decide +kernel
theorem dX6_takeAll_6 : decode cX6_takeAll 6 = .ok (.aload_n 1, 1) := by decide +kernel
theorem dX6_takeAll_7 : decode cX6_takeAll 7 = .ok (.getfield 68, 3) := by decide +kernel
theorem dX6_takeAll_10 : decode cX6_takeAll 10 = .ok (.putfield 68, 3) := by decide +kernel
theorem dX6_takeAll_13 : decode cX6_takeAll 13 = .ok (.aload_n 0, 1) := by decide +kernel
theorem dX6_takeAll_14 : decode cX6_takeAll 14 = .ok (.aload_n 1, 1) := by decide +kernel
theorem dX6_takeAll_15 : decode cX6_takeAll 15 = .ok (.getfield 9, 3) := by decide +kernel
theorem dX6_takeAll_18 : decode cX6_takeAll 18 = .ok (.putfield 9, 3) := by decide +kernel
theorem dX6_takeAll_21 : decode cX6_takeAll 21 = .ok (.aload_n 0, 1) := by decide +kernel
theorem dX6_takeAll_22 : decode cX6_takeAll 22 = .ok (.getfield 39, 3) := by decide +kernel
theorem dX6_takeAll_25 : decode cX6_takeAll 25 = .ok (.aload_n 1, 1) := by decide +kernel
theorem dX6_takeAll_26 : decode cX6_takeAll 26 = .ok (.getfield 39, 3) := by decide +kernel
theorem dX6_takeAll_29 : decode cX6_takeAll 29 = .ok (.invokevirtual 71, 3) := by decide +kernel
theorem dX6_takeAll_32 : decode cX6_takeAll 32 = .ok (.aload_n 0, 1) := by decide +kernel
theorem dX6_takeAll_33 : decode cX6_takeAll 33 = .ok (.getfield 43, 3) := by decide +kernel
theorem dX6_takeAll_36 : decode cX6_takeAll 36 = .ok (.aload_n 1, 1) := by decide +kernel
theorem dX6_takeAll_37 : decode cX6_takeAll 37 = .ok (.getfield 43, 3) := by decide +kernel
theorem dX6_takeAll_40 : decode cX6_takeAll 40 = .ok (.invokevirtual 71, 3) := by decide +kernel
theorem dX6_takeAll_43 : decode cX6_takeAll 43 = .ok (.aload_n 0, 1) := by decide +kernel
theorem dX6_takeAll_44 : decode cX6_takeAll 44 = .ok (.getfield 46, 3) := by decide +kernel
theorem dX6_takeAll_47 : decode cX6_takeAll 47 = .ok (.aload_n 1, 1) := by decide +kernel
theorem dX6_takeAll_48 : decode cX6_takeAll 48 = .ok (.getfield 46, 3) := by decide +kernel
theorem dX6_takeAll_51 : decode cX6_takeAll 51 = .ok (.invokevirtual 71, 3) := by decide +kernel
theorem dX6_takeAll_54 : decode cX6_takeAll 54 = .ok (.aload_n 0, 1) := by decide +kernel
theorem dX6_takeAll_55 : decode cX6_takeAll 55 = .ok (.getfield 49, 3) := by decide +kernel
theorem dX6_takeAll_58 : decode cX6_takeAll 58 = .ok (.aload_n 1, 1) := by decide +kernel
theorem dX6_takeAll_59 : decode cX6_takeAll 59 = .ok (.getfield 49, 3) := by decide +kernel
theorem dX6_takeAll_62 : decode cX6_takeAll 62 = .ok (.invokevirtual 71, 3) := by decide +kernel
theorem dX6_takeAll_65 : decode cX6_takeAll 65 = .ok (.return_, 1) := by decide +kernel
theorem dX6_lastOf_0 : decode cX6_lastOf 0 = .ok (.iload_n 1, 1) := by decide +kernel
theorem dX6_lastOf_1 : decode cX6_lastOf 1 = .ok (.ifCond .lt 21, 3) := by decide +kernel
theorem dX6_lastOf_4 : decode cX6_lastOf 4 = .ok (.iload_n 1, 1) := by decide +kernel
theorem dX6_lastOf_5 : decode cX6_lastOf 5 = .ok (.aload_n 0, 1) := by decide +kernel
theorem dX6_lastOf_6 : decode cX6_lastOf 6 = .ok (.getfield 15, 3) := by decide +kernel
theorem dX6_lastOf_9 : decode cX6_lastOf 9 = .ok (.arraylength, 1) := by decide +kernel
theorem dX6_lastOf_10 : decode cX6_lastOf 10 = .ok (.if_icmp .ge 12, 3) := by decide +kernel
theorem dX6_lastOf_13 : decode cX6_lastOf 13 = .ok (.aload_n 0, 1) := by decide +kernel
theorem dX6_lastOf_14 : decode cX6_lastOf 14 = .ok (.getfield 15, 3) := by decide +kernel
theorem dX6_lastOf_17 : decode cX6_lastOf 17 = .ok (.iload_n 1, 1) := by decide +kernel
theorem dX6_lastOf_18 : decode cX6_lastOf 18 = .ok (.iaload, 1) := by decide +kernel
theorem dX6_lastOf_19 : decode cX6_lastOf 19 = .ok (.goto 4, 3) := by decide +kernel
theorem dX6_lastOf_22 : decode cX6_lastOf 22 = .ok (.iconst 3, 1) := by decide +kernel
theorem dX6_lastOf_23 : decode cX6_lastOf 23 = .ok (.ireturn, 1) := by decide +kernel
theorem dX6_setLast_0 : decode cX6_setLast 0 = .ok (.iload_n 1, 1) := by decide +kernel
theorem dX6_setLast_1 : decode cX6_setLast 1 = .ok (.ifCond .lt 19, 3) := by decide +kernel
theorem dX6_setLast_4 : decode cX6_setLast 4 = .ok (.iload_n 1, 1) := by decide +kernel
theorem dX6_setLast_5 : decode cX6_setLast 5 = .ok (.aload_n 0, 1) := by decide +kernel
theorem dX6_setLast_6 : decode cX6_setLast 6 = .ok (.getfield 15, 3) := by decide +kernel
theorem dX6_setLast_9 : decode cX6_setLast 9 = .ok (.arraylength, 1) := by decide +kernel
theorem dX6_setLast_10 : decode cX6_setLast 10 = .ok (.if_icmp .ge 10, 3) := by decide +kernel
theorem dX6_setLast_13 : decode cX6_setLast 13 = .ok (.aload_n 0, 1) := by decide +kernel
theorem dX6_setLast_14 : decode cX6_setLast 14 = .ok (.getfield 15, 3) := by decide +kernel
theorem dX6_setLast_17 : decode cX6_setLast 17 = .ok (.iload_n 1, 1) := by decide +kernel
theorem dX6_setLast_18 : decode cX6_setLast 18 = .ok (.iload_n 2, 1) := by decide +kernel
theorem dX6_setLast_19 : decode cX6_setLast 19 = .ok (.iastore, 1) := by decide +kernel
theorem dX6_setLast_20 : decode cX6_setLast 20 = .ok (.return_, 1) := by decide +kernel
theorem dX6_shotsOf_0 : decode cX6_shotsOf 0 = .ok (.iload_n 1, 1) := by decide +kernel
theorem dX6_shotsOf_1 : decode cX6_shotsOf 1 = .ok (.ifCond .lt 21, 3) := by decide +kernel
theorem dX6_shotsOf_4 : decode cX6_shotsOf 4 = .ok (.iload_n 1, 1) := by decide +kernel
theorem dX6_shotsOf_5 : decode cX6_shotsOf 5 = .ok (.aload_n 0, 1) := by decide +kernel
theorem dX6_shotsOf_6 : decode cX6_shotsOf 6 = .ok (.getfield 25, 3) := by decide +kernel
theorem dX6_shotsOf_9 : decode cX6_shotsOf 9 = .ok (.arraylength, 1) := by decide +kernel
theorem dX6_shotsOf_10 : decode cX6_shotsOf 10 = .ok (.if_icmp .ge 12, 3) := by decide +kernel
theorem dX6_shotsOf_13 : decode cX6_shotsOf 13 = .ok (.aload_n 0, 1) := by decide +kernel
theorem dX6_shotsOf_14 : decode cX6_shotsOf 14 = .ok (.getfield 25, 3) := by decide +kernel
theorem dX6_shotsOf_17 : decode cX6_shotsOf 17 = .ok (.iload_n 1, 1) := by decide +kernel
theorem dX6_shotsOf_18 : decode cX6_shotsOf 18 = .ok (.iaload, 1) := by decide +kernel
theorem dX6_shotsOf_19 : decode cX6_shotsOf 19 = .ok (.goto 4, 3) := by decide +kernel
theorem dX6_shotsOf_22 : decode cX6_shotsOf 22 = .ok (.iconst 0, 1) := by decide +kernel
theorem dX6_shotsOf_23 : decode cX6_shotsOf 23 = .ok (.ireturn, 1) := by decide +kernel
theorem dX6_goalsOf_0 : decode cX6_goalsOf 0 = .ok (.iload_n 1, 1) := by decide +kernel
theorem dX6_goalsOf_1 : decode cX6_goalsOf 1 = .ok (.ifCond .lt 21, 3) := by decide +kernel
theorem dX6_goalsOf_4 : decode cX6_goalsOf 4 = .ok (.iload_n 1, 1) := by decide +kernel
theorem dX6_goalsOf_5 : decode cX6_goalsOf 5 = .ok (.aload_n 0, 1) := by decide +kernel
theorem dX6_goalsOf_6 : decode cX6_goalsOf 6 = .ok (.getfield 28, 3) := by decide +kernel
theorem dX6_goalsOf_9 : decode cX6_goalsOf 9 = .ok (.arraylength, 1) := by decide +kernel
theorem dX6_goalsOf_10 : decode cX6_goalsOf 10 = .ok (.if_icmp .ge 12, 3) := by decide +kernel
theorem dX6_goalsOf_13 : decode cX6_goalsOf 13 = .ok (.aload_n 0, 1) := by decide +kernel
theorem dX6_goalsOf_14 : decode cX6_goalsOf 14 = .ok (.getfield 28, 3) := by decide +kernel
theorem dX6_goalsOf_17 : decode cX6_goalsOf 17 = .ok (.iload_n 1, 1) := by decide +kernel
theorem dX6_goalsOf_18 : decode cX6_goalsOf 18 = .ok (.iaload, 1) := by decide +kernel
theorem dX6_goalsOf_19 : decode cX6_goalsOf 19 = .ok (.goto 4, 3) := by decide +kernel
theorem dX6_goalsOf_22 : decode cX6_goalsOf 22 = .ok (.iconst 0, 1) := by decide +kernel
theorem dX6_goalsOf_23 : decode cX6_goalsOf 23 = .ok (.ireturn, 1) := by decide +kernel
theorem dX6_toldOf_0 : decode cX6_toldOf 0 = .ok (.iload_n 1, 1) := by decide +kernel
theorem dX6_toldOf_1 : decode cX6_toldOf 1 = .ok (.iconst 4, 1) := by decide +kernel
theorem dX6_toldOf_2 : decode cX6_toldOf 2 = .ok (.imul, 1) := by decide +kernel
theorem dX6_toldOf_3 : decode cX6_toldOf 3 = .ok (.iload_n 2, 1) := by decide +kernel
theorem dX6_toldOf_4 : decode cX6_toldOf 4 = .ok (.iadd, 1) := by decide +kernel
theorem dX6_toldOf_5 : decode cX6_toldOf 5 = .ok (.istore_n 3, 1) := by decide +kernel
theorem dX6_toldOf_6 : decode cX6_toldOf 6 = .ok (.iload_n 3, 1) := by decide +kernel
theorem dX6_toldOf_7 : decode cX6_toldOf 7 = .ok (.ifCond .lt 21, 3) := by decide +kernel
theorem dX6_toldOf_10 : decode cX6_toldOf 10 = .ok (.iload_n 3, 1) := by decide +kernel
theorem dX6_toldOf_11 : decode cX6_toldOf 11 = .ok (.aload_n 0, 1) := by decide +kernel
theorem dX6_toldOf_12 : decode cX6_toldOf 12 = .ok (.getfield 31, 3) := by decide +kernel
theorem dX6_toldOf_15 : decode cX6_toldOf 15 = .ok (.arraylength, 1) := by decide +kernel
theorem dX6_toldOf_16 : decode cX6_toldOf 16 = .ok (.if_icmp .ge 12, 3) := by decide +kernel
theorem dX6_toldOf_19 : decode cX6_toldOf 19 = .ok (.aload_n 0, 1) := by decide +kernel
theorem dX6_toldOf_20 : decode cX6_toldOf 20 = .ok (.getfield 31, 3) := by decide +kernel
theorem dX6_toldOf_23 : decode cX6_toldOf 23 = .ok (.iload_n 3, 1) := by decide +kernel
theorem dX6_toldOf_24 : decode cX6_toldOf 24 = .ok (.iaload, 1) := by decide +kernel
theorem dX6_toldOf_25 : decode cX6_toldOf 25 = .ok (.goto 4, 3) := by decide +kernel
theorem dX6_toldOf_28 : decode cX6_toldOf 28 = .ok (.iconst 0, 1) := by decide +kernel
theorem dX6_toldOf_29 : decode cX6_toldOf 29 = .ok (.ireturn, 1) := by decide +kernel
theorem dX6_setTold_0 : decode cX6_setTold 0 = .ok (.iload_n 1, 1) := by decide +kernel
theorem dX6_setTold_1 : decode cX6_setTold 1 = .ok (.iconst 4, 1) := by decide +kernel
theorem dX6_setTold_2 : decode cX6_setTold 2 = .ok (.imul, 1) := by decide +kernel
theorem dX6_setTold_3 : decode cX6_setTold 3 = .ok (.iload_n 2, 1) := by decide +kernel
theorem dX6_setTold_4 : decode cX6_setTold 4 = .ok (.iadd, 1) := by decide +kernel
theorem dX6_setTold_5 : decode cX6_setTold 5 = .ok (.istore 4, 2) := by decide +kernel
theorem dX6_setTold_7 : decode cX6_setTold 7 = .ok (.iload 4, 2) := by decide +kernel
theorem dX6_setTold_9 : decode cX6_setTold 9 = .ok (.ifCond .lt 21, 3) := by decide +kernel
theorem dX6_setTold_12 : decode cX6_setTold 12 = .ok (.iload 4, 2) := by decide +kernel
theorem dX6_setTold_14 : decode cX6_setTold 14 = .ok (.aload_n 0, 1) := by decide +kernel
theorem dX6_setTold_15 : decode cX6_setTold 15 = .ok (.getfield 31, 3) := by decide +kernel
theorem dX6_setTold_18 : decode cX6_setTold 18 = .ok (.arraylength, 1) := by decide +kernel
theorem dX6_setTold_19 : decode cX6_setTold 19 = .ok (.if_icmp .ge 11, 3) := by decide +kernel
theorem dX6_setTold_22 : decode cX6_setTold 22 = .ok (.aload_n 0, 1) := by decide +kernel
theorem dX6_setTold_23 : decode cX6_setTold 23 = .ok (.getfield 31, 3) := by decide +kernel
theorem dX6_setTold_26 : decode cX6_setTold 26 = .ok (.iload 4, 2) := by decide +kernel
theorem dX6_setTold_28 : decode cX6_setTold 28 = .ok (.iload_n 3, 1) := by decide +kernel
theorem dX6_setTold_29 : decode cX6_setTold 29 = .ok (.iastore, 1) := by decide +kernel
theorem dX6_setTold_30 : decode cX6_setTold 30 = .ok (.return_, 1) := by decide +kernel
theorem dX6_addShot_0 : decode cX6_addShot 0 = .ok (.iload_n 1, 1) := by decide +kernel
theorem dX6_addShot_1 : decode cX6_addShot 1 = .ok (.ifCond .lt 12, 3) := by decide +kernel
theorem dX6_addShot_4 : decode cX6_addShot 4 = .ok (.iload_n 1, 1) := by decide +kernel
theorem dX6_addShot_5 : decode cX6_addShot 5 = .ok (.aload_n 0, 1) := by decide +kernel
theorem dX6_addShot_6 : decode cX6_addShot 6 = .ok (.getfield 15, 3) := by decide +kernel
theorem dX6_addShot_9 : decode cX6_addShot 9 = .ok (.arraylength, 1) := by decide +kernel
theorem dX6_addShot_10 : decode cX6_addShot 10 = .ok (.if_icmp .lt 4, 3) := by decide +kernel
theorem dX6_addShot_13 : decode cX6_addShot 13 = .ok (.return_, 1) := by decide +kernel
theorem dX6_addShot_14 : decode cX6_addShot 14 = .ok (.aload_n 0, 1) := by decide +kernel
theorem dX6_addShot_15 : decode cX6_addShot 15 = .ok (.getfield 15, 3) := by decide +kernel
theorem dX6_addShot_18 : decode cX6_addShot 18 = .ok (.iload_n 1, 1) := by decide +kernel
theorem dX6_addShot_19 : decode cX6_addShot 19 = .ok (.iload_n 2, 1) := by decide +kernel
theorem dX6_addShot_20 : decode cX6_addShot 20 = .ok (.iastore, 1) := by decide +kernel
theorem dX6_addShot_21 : decode cX6_addShot 21 = .ok (.aload_n 0, 1) := by decide +kernel
theorem dX6_addShot_22 : decode cX6_addShot 22 = .ok (.getfield 25, 3) := by decide +kernel
theorem dX6_addShot_25 : decode cX6_addShot 25 = .ok (.iload_n 1, 1) := by decide +kernel
theorem dX6_addShot_26 : decode cX6_addShot 26 = .ok (.sipush 999, 3) := by decide +kernel
theorem dX6_addShot_29 : decode cX6_addShot 29 = .ok (.aload_n 0, 1) := by decide +kernel
theorem dX6_addShot_30 : decode cX6_addShot 30 = .ok (.getfield 25, 3) := by decide +kernel
theorem dX6_addShot_33 : decode cX6_addShot 33 = .ok (.iload_n 1, 1) := by decide +kernel
theorem dX6_addShot_34 : decode cX6_addShot 34 = .ok (.iaload, 1) := by decide +kernel
theorem dX6_addShot_35 : decode cX6_addShot 35 = .ok (.iconst 1, 1) := by decide +kernel
theorem dX6_addShot_36 : decode cX6_addShot 36 = .ok (.iadd, 1) := by decide +kernel
theorem dX6_addShot_37 : decode cX6_addShot 37 = .ok (.invokestatic 75, 3) := by decide +kernel
theorem dX6_addShot_40 : decode cX6_addShot 40 = .ok (.iastore, 1) := by decide +kernel
theorem dX6_addShot_41 : decode cX6_addShot 41 = .ok (.aload_n 0, 1) := by decide +kernel
theorem dX6_addShot_42 : decode cX6_addShot 42 = .ok (.sipush 999, 3) := by decide +kernel
theorem dX6_addShot_45 : decode cX6_addShot 45 = .ok (.aload_n 0, 1) := by decide +kernel
theorem dX6_addShot_46 : decode cX6_addShot 46 = .ok (.getfield 52, 3) := by decide +kernel
theorem dX6_addShot_49 : decode cX6_addShot 49 = .ok (.iconst 1, 1) := by decide +kernel
theorem dX6_addShot_50 : decode cX6_addShot 50 = .ok (.iadd, 1) := by decide +kernel
theorem dX6_addShot_51 : decode cX6_addShot 51 = .ok (.invokestatic 75, 3) := by decide +kernel
theorem dX6_addShot_54 : decode cX6_addShot 54 = .ok (.putfield 52, 3) := by decide +kernel
theorem dX6_addShot_57 : decode cX6_addShot 57 = .ok (.iload_n 3, 1) := by decide +kernel
theorem dX6_addShot_58 : decode cX6_addShot 58 = .ok (.ifCond .eq 39, 3) := by decide +kernel
theorem dX6_addShot_61 : decode cX6_addShot 61 = .ok (.aload_n 0, 1) := by decide +kernel
theorem dX6_addShot_62 : decode cX6_addShot 62 = .ok (.getfield 28, 3) := by decide +kernel
theorem dX6_addShot_65 : decode cX6_addShot 65 = .ok (.iload_n 1, 1) := by decide +kernel
theorem dX6_addShot_66 : decode cX6_addShot 66 = .ok (.sipush 999, 3) := by decide +kernel
theorem dX6_addShot_69 : decode cX6_addShot 69 = .ok (.aload_n 0, 1) := by decide +kernel
theorem dX6_addShot_70 : decode cX6_addShot 70 = .ok (.getfield 28, 3) := by decide +kernel
theorem dX6_addShot_73 : decode cX6_addShot 73 = .ok (.iload_n 1, 1) := by decide +kernel
theorem dX6_addShot_74 : decode cX6_addShot 74 = .ok (.iaload, 1) := by decide +kernel
theorem dX6_addShot_75 : decode cX6_addShot 75 = .ok (.iconst 1, 1) := by decide +kernel
theorem dX6_addShot_76 : decode cX6_addShot 76 = .ok (.iadd, 1) := by decide +kernel
theorem dX6_addShot_77 : decode cX6_addShot 77 = .ok (.invokestatic 75, 3) := by decide +kernel
theorem dX6_addShot_80 : decode cX6_addShot 80 = .ok (.iastore, 1) := by decide +kernel
theorem dX6_addShot_81 : decode cX6_addShot 81 = .ok (.aload_n 0, 1) := by decide +kernel
theorem dX6_addShot_82 : decode cX6_addShot 82 = .ok (.sipush 999, 3) := by decide +kernel
theorem dX6_addShot_85 : decode cX6_addShot 85 = .ok (.aload_n 0, 1) := by decide +kernel
theorem dX6_addShot_86 : decode cX6_addShot 86 = .ok (.getfield 55, 3) := by decide +kernel
theorem dX6_addShot_89 : decode cX6_addShot 89 = .ok (.iconst 1, 1) := by decide +kernel
theorem dX6_addShot_90 : decode cX6_addShot 90 = .ok (.iadd, 1) := by decide +kernel
theorem dX6_addShot_91 : decode cX6_addShot 91 = .ok (.invokestatic 75, 3) := by decide +kernel
theorem dX6_addShot_94 : decode cX6_addShot 94 = .ok (.putfield 55, 3) := by decide +kernel
theorem dX6_addShot_97 : decode cX6_addShot 97 = .ok (.return_, 1) := by decide +kernel
theorem dX7_init_0 : decode cX7_init 0 = .ok (.aload_n 0, 1) := by decide +kernel
theorem dX7_init_1 : decode cX7_init 1 = .ok (.iload_n 1, 1) := by decide +kernel
theorem dX7_init_2 : decode cX7_init 2 = .ok (.iload_n 2, 1) := by decide +kernel
theorem dX7_init_3 : decode cX7_init 3 = .ok (.invokespecial 3, 3) := by decide +kernel
theorem dX7_init_6 : decode cX7_init 6 = .ok (.return_, 1) := by decide +kernel
theorem dX7_kind_0 : decode cX7_kind 0 = .ok (.bipush 6, 2) := by decide +kernel
theorem dX7_kind_2 : decode cX7_kind 2 = .ok (.ireturn, 1) := by decide +kernel
theorem dX7_side_0 : decode cX7_side 0 = .ok (.aload_n 1, 1) := by decide +kernel
theorem dX7_side_1 : decode cX7_side 1 = .ok (.getfield 9, 3) := by decide +kernel
theorem dX7_side_4 : decode cX7_side 4 = .ok (.iconst 1, 1) := by decide +kernel
theorem dX7_side_5 : decode cX7_side 5 = .ok (.if_icmp .eq 10, 3) := by decide +kernel
theorem dX7_side_8 : decode cX7_side 8 = .ok (.aload_n 0, 1) := by decide +kernel
theorem dX7_side_9 : decode cX7_side 9 = .ok (.aload_n 1, 1) := by decide +kernel
theorem dX7_side_10 : decode cX7_side 10 = .ok (.aload_n 2, 1) := by decide +kernel
theorem dX7_side_11 : decode cX7_side 11 = .ok (.invokespecial 15, 3) := by decide +kernel
theorem dX7_side_14 : decode cX7_side 14 = .ok (.ireturn, 1) := by decide +kernel
theorem dX7_side_15 : decode cX7_side 15 = .ok (.aload_n 2, 1) := by decide +kernel
theorem dX7_side_16 : decode cX7_side 16 = .ok (.aload_n 0, 1) := by decide +kernel
theorem dX7_side_17 : decode cX7_side 17 = .ok (.getfield 19, 3) := by decide +kernel
theorem dX7_side_20 : decode cX7_side 20 = .ok (.aload_n 2, 1) := by decide +kernel
theorem dX7_side_21 : decode cX7_side 21 = .ok (.aload_n 0, 1) := by decide +kernel
theorem dX7_side_22 : decode cX7_side 22 = .ok (.getfield 19, 3) := by decide +kernel
theorem dX7_side_25 : decode cX7_side 25 = .ok (.invokevirtual 24, 3) := by decide +kernel
theorem dX7_side_28 : decode cX7_side 28 = .ok (.iconst 4, 1) := by decide +kernel
theorem dX7_side_29 : decode cX7_side 29 = .ok (.irem, 1) := by decide +kernel
theorem dX7_side_30 : decode cX7_side 30 = .ok (.invokevirtual 30, 3) := by decide +kernel
theorem dX7_side_33 : decode cX7_side 33 = .ok (.ireturn, 1) := by decide +kernel
theorem dX7_shows_0 : decode cX7_shows 0 = .ok (.aload_n 2, 1) := by decide +kernel
theorem dX7_shows_1 : decode cX7_shows 1 = .ok (.bipush 70, 2) := by decide +kernel
theorem dX7_shows_3 : decode cX7_shows 3 = .ok (.invokevirtual 34, 3) := by decide +kernel
theorem dX7_shows_6 : decode cX7_shows 6 = .ok (.pop, 1) := by decide +kernel
theorem dX7_shows_7 : decode cX7_shows 7 = .ok (.aload_n 0, 1) := by decide +kernel
theorem dX7_shows_8 : decode cX7_shows 8 = .ok (.iload_n 1, 1) := by decide +kernel
theorem dX7_shows_9 : decode cX7_shows 9 = .ok (.aload_n 2, 1) := by decide +kernel
theorem dX7_shows_10 : decode cX7_shows 10 = .ok (.invokespecial 40, 3) := by decide +kernel
theorem dX7_shows_13 : decode cX7_shows 13 = .ok (.istore_n 3, 1) := by decide +kernel
theorem dX7_shows_14 : decode cX7_shows 14 = .ok (.iload_n 3, 1) := by decide +kernel
theorem dX7_shows_15 : decode cX7_shows 15 = .ok (.aload_n 0, 1) := by decide +kernel
theorem dX7_shows_16 : decode cX7_shows 16 = .ok (.iconst 2, 1) := by decide +kernel
theorem dX7_shows_17 : decode cX7_shows 17 = .ok (.aload_n 2, 1) := by decide +kernel
theorem dX7_shows_18 : decode cX7_shows 18 = .ok (.invokespecial 44, 3) := by decide +kernel
theorem dX7_shows_21 : decode cX7_shows 21 = .ok (.iadd, 1) := by decide +kernel
theorem dX7_shows_22 : decode cX7_shows 22 = .ok (.ireturn, 1) := by decide +kernel
theorem dX7_aims_0 : decode cX7_aims 0 = .ok (.aload_n 2, 1) := by decide +kernel
theorem dX7_aims_1 : decode cX7_aims 1 = .ok (.bipush 71, 2) := by decide +kernel
theorem dX7_aims_3 : decode cX7_aims 3 = .ok (.invokevirtual 34, 3) := by decide +kernel
theorem dX7_aims_6 : decode cX7_aims 6 = .ok (.pop, 1) := by decide +kernel
theorem dX7_aims_7 : decode cX7_aims 7 = .ok (.aload_n 0, 1) := by decide +kernel
theorem dX7_aims_8 : decode cX7_aims 8 = .ok (.iload_n 1, 1) := by decide +kernel
theorem dX7_aims_9 : decode cX7_aims 9 = .ok (.aload_n 2, 1) := by decide +kernel
theorem dX7_aims_10 : decode cX7_aims 10 = .ok (.invokespecial 44, 3) := by decide +kernel
theorem dX7_aims_13 : decode cX7_aims 13 = .ok (.aload_n 0, 1) := by decide +kernel
theorem dX7_aims_14 : decode cX7_aims 14 = .ok (.getfield 47, 3) := by decide +kernel
theorem dX7_aims_17 : decode cX7_aims 17 = .ok (.ixor, 1) := by decide +kernel
theorem dX7_aims_18 : decode cX7_aims 18 = .ok (.ireturn, 1) := by decide +kernel
theorem dX8_init_0 : decode cX8_init 0 = .ok (.aload_n 0, 1) := by decide +kernel
theorem dX8_init_1 : decode cX8_init 1 = .ok (.iload_n 1, 1) := by decide +kernel
theorem dX8_init_2 : decode cX8_init 2 = .ok (.iload_n 2, 1) := by decide +kernel
theorem dX8_init_3 : decode cX8_init 3 = .ok (.invokespecial 3, 3) := by decide +kernel
theorem dX8_init_6 : decode cX8_init 6 = .ok (.return_, 1) := by decide +kernel
theorem dX8_kind_0 : decode cX8_kind 0 = .ok (.iconst 1, 1) := by decide +kernel
theorem dX8_kind_1 : decode cX8_kind 1 = .ok (.ireturn, 1) := by decide +kernel
theorem dX8_side_0 : decode cX8_side 0 = .ok (.aload_n 2, 1) := by decide +kernel
theorem dX8_side_1 : decode cX8_side 1 = .ok (.aload_n 0, 1) := by decide +kernel
theorem dX8_side_2 : decode cX8_side 2 = .ok (.getfield 9, 3) := by decide +kernel
theorem dX8_side_5 : decode cX8_side 5 = .ok (.invokevirtual 15, 3) := by decide +kernel
theorem dX8_side_8 : decode cX8_side 8 = .ok (.istore_n 3, 1) := by decide +kernel
theorem dX8_side_9 : decode cX8_side 9 = .ok (.iload_n 3, 1) := by decide +kernel
theorem dX8_side_10 : decode cX8_side 10 = .ok (.iconst 1, 1) := by decide +kernel
theorem dX8_side_11 : decode cX8_side 11 = .ok (.if_icmp .eq 8, 3) := by decide +kernel
theorem dX8_side_14 : decode cX8_side 14 = .ok (.iload_n 3, 1) := by decide +kernel
theorem dX8_side_15 : decode cX8_side 15 = .ok (.iconst 3, 1) := by decide +kernel
theorem dX8_side_16 : decode cX8_side 16 = .ok (.if_icmp .ne 12, 3) := by decide +kernel
theorem dX8_side_19 : decode cX8_side 19 = .ok (.aload_n 0, 1) := by decide +kernel
theorem dX8_side_20 : decode cX8_side 20 = .ok (.aload_n 1, 1) := by decide +kernel
theorem dX8_side_21 : decode cX8_side 21 = .ok (.aload_n 2, 1) := by decide +kernel
theorem dX8_side_22 : decode cX8_side 22 = .ok (.invokespecial 21, 3) := by decide +kernel
theorem dX8_side_25 : decode cX8_side 25 = .ok (.goto 6, 3) := by decide +kernel
theorem dX8_side_28 : decode cX8_side 28 = .ok (.iconst 2, 1) := by decide +kernel
theorem dX8_side_29 : decode cX8_side 29 = .ok (.iload_n 3, 1) := by decide +kernel
theorem dX8_side_30 : decode cX8_side 30 = .ok (.isub, 1) := by decide +kernel
theorem dX8_side_31 : decode cX8_side 31 = .ok (.ireturn, 1) := by decide +kernel
theorem dX8_shows_0 : decode cX8_shows 0 = .ok (.aload_n 2, 1) := by decide +kernel
theorem dX8_shows_1 : decode cX8_shows 1 = .ok (.bipush 20, 2) := by decide +kernel
theorem dX8_shows_3 : decode cX8_shows 3 = .ok (.invokevirtual 25, 3) := by decide +kernel
theorem dX8_shows_6 : decode cX8_shows 6 = .ok (.pop, 1) := by decide +kernel
theorem dX8_shows_7 : decode cX8_shows 7 = .ok (.aload_n 0, 1) := by decide +kernel
theorem dX8_shows_8 : decode cX8_shows 8 = .ok (.iload_n 1, 1) := by decide +kernel
theorem dX8_shows_9 : decode cX8_shows 9 = .ok (.aload_n 2, 1) := by decide +kernel
theorem dX8_shows_10 : decode cX8_shows 10 = .ok (.invokespecial 31, 3) := by decide +kernel
theorem dX8_shows_13 : decode cX8_shows 13 = .ok (.bipush 6, 2) := by decide +kernel
theorem dX8_shows_15 : decode cX8_shows 15 = .ok (.ixor, 1) := by decide +kernel
theorem dX8_shows_16 : decode cX8_shows 16 = .ok (.ireturn, 1) := by decide +kernel
theorem dX9_init_0 : decode cX9_init 0 = .ok (.aload_n 0, 1) := by decide +kernel
theorem dX9_init_1 : decode cX9_init 1 = .ok (.invokespecial 3, 3) := by decide +kernel
theorem dX9_init_4 : decode cX9_init 4 = .ok (.aload_n 0, 1) := by decide +kernel
theorem dX9_init_5 : decode cX9_init 5 = .ok (.iconst 3, 1) := by decide +kernel
theorem dX9_init_6 : decode cX9_init 6 = .ok (.newarray .int, 2) := by decide +kernel
theorem dX9_init_8 : decode cX9_init 8 = .ok (.putfield 9, 3) := by decide +kernel
theorem dX9_init_11 : decode cX9_init 11 = .ok (.aload_n 0, 1) := by decide +kernel
theorem dX9_init_12 : decode cX9_init 12 = .ok (.iconst 3, 1) := by decide +kernel
theorem dX9_init_13 : decode cX9_init 13 = .ok (.newarray .int, 2) := by decide +kernel
theorem dX9_init_15 : decode cX9_init 15 = .ok (.putfield 15, 3) := by decide +kernel
theorem dX9_init_18 : decode cX9_init 18 = .ok (.return_, 1) := by decide +kernel
theorem dX9_begin_0 : decode cX9_begin 0 = .ok (.aload_n 0, 1) := by decide +kernel
theorem dX9_begin_1 : decode cX9_begin 1 = .ok (.getfield 9, 3) := by decide +kernel
theorem dX9_begin_4 : decode cX9_begin 4 = .ok (.iconst 0, 1) := by decide +kernel
theorem dX9_begin_5 : decode cX9_begin 5 = .ok (.invokestatic 18, 3) := by decide +kernel
theorem dX9_begin_8 : decode cX9_begin 8 = .ok (.aload_n 0, 1) := by decide +kernel
theorem dX9_begin_9 : decode cX9_begin 9 = .ok (.getfield 15, 3) := by decide +kernel
theorem dX9_begin_12 : decode cX9_begin 12 = .ok (.iconst 0, 1) := by decide +kernel
theorem dX9_begin_13 : decode cX9_begin 13 = .ok (.invokestatic 18, 3) := by decide +kernel
theorem dX9_begin_16 : decode cX9_begin 16 = .ok (.aload_n 0, 1) := by decide +kernel
theorem dX9_begin_17 : decode cX9_begin 17 = .ok (.iload_n 1, 1) := by decide +kernel
theorem dX9_begin_18 : decode cX9_begin 18 = .ok (.iconst 3, 1) := by decide +kernel
theorem dX9_begin_19 : decode cX9_begin 19 = .ok (.if_icmp .ne 7, 3) := by decide +kernel
theorem dX9_begin_22 : decode cX9_begin 22 = .ok (.iconst 1, 1) := by decide +kernel
theorem dX9_begin_23 : decode cX9_begin 23 = .ok (.goto 4, 3) := by decide +kernel
theorem dX9_begin_26 : decode cX9_begin 26 = .ok (.iload_n 1, 1) := by decide +kernel
theorem dX9_begin_27 : decode cX9_begin 27 = .ok (.putfield 24, 3) := by decide +kernel
theorem dX9_begin_30 : decode cX9_begin 30 = .ok (.return_, 1) := by decide +kernel
theorem dX9_addSure_0 : decode cX9_addSure 0 = .ok (.aload_n 0, 1) := by decide +kernel
theorem dX9_addSure_1 : decode cX9_addSure 1 = .ok (.getfield 9, 3) := by decide +kernel
theorem dX9_addSure_4 : decode cX9_addSure 4 = .ok (.iload_n 1, 1) := by decide +kernel
theorem dX9_addSure_5 : decode cX9_addSure 5 = .ok (.iload_n 2, 1) := by decide +kernel
theorem dX9_addSure_6 : decode cX9_addSure 6 = .ok (.invokestatic 28, 3) := by decide +kernel
theorem dX9_addSure_9 : decode cX9_addSure 9 = .ok (.return_, 1) := by decide +kernel
theorem dX9_addSaves_0 : decode cX9_addSaves 0 = .ok (.aload_n 0, 1) := by decide +kernel
theorem dX9_addSaves_1 : decode cX9_addSaves 1 = .ok (.getfield 15, 3) := by decide +kernel
theorem dX9_addSaves_4 : decode cX9_addSaves 4 = .ok (.iload_n 1, 1) := by decide +kernel
theorem dX9_addSaves_5 : decode cX9_addSaves 5 = .ok (.iload_n 2, 1) := by decide +kernel
theorem dX9_addSaves_6 : decode cX9_addSaves 6 = .ok (.invokestatic 28, 3) := by decide +kernel
theorem dX9_addSaves_9 : decode cX9_addSaves 9 = .ok (.return_, 1) := by decide +kernel
theorem dX9_addTo_0 : decode cX9_addTo 0 = .ok (.iconst 0, 1) := by decide +kernel
theorem dX9_addTo_1 : decode cX9_addTo 1 = .ok (.istore_n 3, 1) := by decide +kernel
theorem dX9_addTo_2 : decode cX9_addTo 2 = .ok (.iload_n 3, 1) := by decide +kernel
theorem dX9_addTo_3 : decode cX9_addTo 3 = .ok (.aload_n 0, 1) := by decide +kernel
theorem dX9_addTo_4 : decode cX9_addTo 4 = .ok (.arraylength, 1) := by decide +kernel
theorem dX9_addTo_5 : decode cX9_addTo 5 = .ok (.if_icmp .ge 31, 3) := by decide +kernel
theorem dX9_addTo_8 : decode cX9_addTo 8 = .ok (.iload_n 1, 1) := by decide +kernel
theorem dX9_addTo_9 : decode cX9_addTo 9 = .ok (.iload_n 3, 1) := by decide +kernel
theorem dX9_addTo_10 : decode cX9_addTo 10 = .ok (.ishr, 1) := by decide +kernel
theorem dX9_addTo_11 : decode cX9_addTo 11 = .ok (.iconst 1, 1) := by decide +kernel
theorem dX9_addTo_12 : decode cX9_addTo 12 = .ok (.iand, 1) := by decide +kernel
theorem dX9_addTo_13 : decode cX9_addTo 13 = .ok (.iconst 1, 1) := by decide +kernel
theorem dX9_addTo_14 : decode cX9_addTo 14 = .ok (.if_icmp .ne 16, 3) := by decide +kernel
theorem dX9_addTo_17 : decode cX9_addTo 17 = .ok (.aload_n 0, 1) := by decide +kernel
theorem dX9_addTo_18 : decode cX9_addTo 18 = .ok (.iload_n 3, 1) := by decide +kernel
theorem dX9_addTo_19 : decode cX9_addTo 19 = .ok (.bipush 100, 2) := by decide +kernel
theorem dX9_addTo_21 : decode cX9_addTo 21 = .ok (.aload_n 0, 1) := by decide +kernel
theorem dX9_addTo_22 : decode cX9_addTo 22 = .ok (.iload_n 3, 1) := by decide +kernel
theorem dX9_addTo_23 : decode cX9_addTo 23 = .ok (.iaload, 1) := by decide +kernel
theorem dX9_addTo_24 : decode cX9_addTo 24 = .ok (.iload_n 2, 1) := by decide +kernel
theorem dX9_addTo_25 : decode cX9_addTo 25 = .ok (.iadd, 1) := by decide +kernel
theorem dX9_addTo_26 : decode cX9_addTo 26 = .ok (.invokestatic 32, 3) := by decide +kernel
theorem dX9_addTo_29 : decode cX9_addTo 29 = .ok (.iastore, 1) := by decide +kernel
theorem dX9_addTo_30 : decode cX9_addTo 30 = .ok (.iinc 3 1, 3) := by decide +kernel
theorem dX9_addTo_33 : decode cX9_addTo 33 = .ok (.goto (-31), 3) := by decide +kernel
theorem dX9_addTo_36 : decode cX9_addTo 36 = .ok (.return_, 1) := by decide +kernel
theorem dX9_end_0 : decode cX9_end 0 = .ok (.iload_n 1, 1) := by decide +kernel
theorem dX9_end_1 : decode cX9_end 1 = .ok (.ifCond .ne 12, 3) := by decide +kernel
theorem dX9_end_4 : decode cX9_end 4 = .ok (.aload_n 0, 1) := by decide +kernel
theorem dX9_end_5 : decode cX9_end 5 = .ok (.getfield 9, 3) := by decide +kernel
theorem dX9_end_8 : decode cX9_end 8 = .ok (.bipush 80, 2) := by decide +kernel
theorem dX9_end_10 : decode cX9_end 10 = .ok (.invokestatic 18, 3) := by decide +kernel
theorem dX9_end_13 : decode cX9_end 13 = .ok (.iload_n 2, 1) := by decide +kernel
theorem dX9_end_14 : decode cX9_end 14 = .ok (.ifCond .ne 12, 3) := by decide +kernel
theorem dX9_end_17 : decode cX9_end 17 = .ok (.aload_n 0, 1) := by decide +kernel
theorem dX9_end_18 : decode cX9_end 18 = .ok (.getfield 15, 3) := by decide +kernel
theorem dX9_end_21 : decode cX9_end 21 = .ok (.bipush 40, 2) := by decide +kernel
theorem dX9_end_23 : decode cX9_end 23 = .ok (.invokestatic 18, 3) := by decide +kernel
theorem dX9_end_26 : decode cX9_end 26 = .ok (.return_, 1) := by decide +kernel
theorem dX9_sureOf_0 : decode cX9_sureOf 0 = .ok (.iload_n 1, 1) := by decide +kernel
theorem dX9_sureOf_1 : decode cX9_sureOf 1 = .ok (.ifCond .lt 21, 3) := by decide +kernel
theorem dX9_sureOf_4 : decode cX9_sureOf 4 = .ok (.iload_n 1, 1) := by decide +kernel
theorem dX9_sureOf_5 : decode cX9_sureOf 5 = .ok (.aload_n 0, 1) := by decide +kernel
theorem dX9_sureOf_6 : decode cX9_sureOf 6 = .ok (.getfield 9, 3) := by decide +kernel
theorem dX9_sureOf_9 : decode cX9_sureOf 9 = .ok (.arraylength, 1) := by decide +kernel
theorem dX9_sureOf_10 : decode cX9_sureOf 10 = .ok (.if_icmp .ge 12, 3) := by decide +kernel
theorem dX9_sureOf_13 : decode cX9_sureOf 13 = .ok (.aload_n 0, 1) := by decide +kernel
theorem dX9_sureOf_14 : decode cX9_sureOf 14 = .ok (.getfield 9, 3) := by decide +kernel
theorem dX9_sureOf_17 : decode cX9_sureOf 17 = .ok (.iload_n 1, 1) := by decide +kernel
theorem dX9_sureOf_18 : decode cX9_sureOf 18 = .ok (.iaload, 1) := by decide +kernel
theorem dX9_sureOf_19 : decode cX9_sureOf 19 = .ok (.goto 4, 3) := by decide +kernel
theorem dX9_sureOf_22 : decode cX9_sureOf 22 = .ok (.iconst 0, 1) := by decide +kernel
theorem dX9_sureOf_23 : decode cX9_sureOf 23 = .ok (.ireturn, 1) := by decide +kernel
theorem dX9_savesOf_0 : decode cX9_savesOf 0 = .ok (.iload_n 1, 1) := by decide +kernel
theorem dX9_savesOf_1 : decode cX9_savesOf 1 = .ok (.ifCond .lt 21, 3) := by decide +kernel
theorem dX9_savesOf_4 : decode cX9_savesOf 4 = .ok (.iload_n 1, 1) := by decide +kernel
theorem dX9_savesOf_5 : decode cX9_savesOf 5 = .ok (.aload_n 0, 1) := by decide +kernel
theorem dX9_savesOf_6 : decode cX9_savesOf 6 = .ok (.getfield 15, 3) := by decide +kernel
theorem dX9_savesOf_9 : decode cX9_savesOf 9 = .ok (.arraylength, 1) := by decide +kernel
theorem dX9_savesOf_10 : decode cX9_savesOf 10 = .ok (.if_icmp .ge 12, 3) := by decide +kernel
theorem dX9_savesOf_13 : decode cX9_savesOf 13 = .ok (.aload_n 0, 1) := by decide +kernel
theorem dX9_savesOf_14 : decode cX9_savesOf 14 = .ok (.getfield 15, 3) := by decide +kernel
theorem dX9_savesOf_17 : decode cX9_savesOf 17 = .ok (.iload_n 1, 1) := by decide +kernel
theorem dX9_savesOf_18 : decode cX9_savesOf 18 = .ok (.iaload, 1) := by decide +kernel
theorem dX9_savesOf_19 : decode cX9_savesOf 19 = .ok (.goto 4, 3) := by decide +kernel
theorem dX9_savesOf_22 : decode cX9_savesOf 22 = .ok (.iconst 0, 1) := by decide +kernel
theorem dX9_savesOf_23 : decode cX9_savesOf 23 = .ok (.ireturn, 1) := by decide +kernel
theorem dX9_chanceBy_0 : decode cX9_chanceBy 0 = .ok (.iload_n 1, 1) := by decide +kernel
theorem dX9_chanceBy_1 : decode cX9_chanceBy 1 = .ok (.iload_n 2, 1) := by decide +kernel
theorem dX9_chanceBy_2 : decode cX9_chanceBy 2 = .ok (.if_icmp .ne 21, 3) := by decide +kernel
theorem dX9_chanceBy_5 : decode cX9_chanceBy 5 = .ok (.iconst 0, 1) := by decide +kernel
theorem dX9_chanceBy_6 : decode cX9_chanceBy 6 = .ok (.aload_n 0, 1) := by decide +kernel
theorem dX9_chanceBy_7 : decode cX9_chanceBy 7 = .ok (.iload_n 1, 1) := by decide +kernel
theorem dX9_chanceBy_8 : decode cX9_chanceBy 8 = .ok (.invokevirtual 38, 3) := by decide +kernel
theorem dX9_chanceBy_11 : decode cX9_chanceBy 11 = .ok (.aload_n 0, 1) := by decide +kernel
theorem dX9_chanceBy_12 : decode cX9_chanceBy 12 = .ok (.iload_n 1, 1) := by decide +kernel
theorem dX9_chanceBy_13 : decode cX9_chanceBy 13 = .ok (.invokevirtual 42, 3) := by decide +kernel
theorem dX9_chanceBy_16 : decode cX9_chanceBy 16 = .ok (.isub, 1) := by decide +kernel
theorem dX9_chanceBy_17 : decode cX9_chanceBy 17 = .ok (.invokestatic 45, 3) := by decide +kernel
theorem dX9_chanceBy_20 : decode cX9_chanceBy 20 = .ok (.goto 8, 3) := by decide +kernel
theorem dX9_chanceBy_23 : decode cX9_chanceBy 23 = .ok (.aload_n 0, 1) := by decide +kernel
theorem dX9_chanceBy_24 : decode cX9_chanceBy 24 = .ok (.iload_n 1, 1) := by decide +kernel
theorem dX9_chanceBy_25 : decode cX9_chanceBy 25 = .ok (.invokevirtual 38, 3) := by decide +kernel
theorem dX9_chanceBy_28 : decode cX9_chanceBy 28 = .ok (.ireturn, 1) := by decide +kernel
theorem dX9_bestSide_0 : decode cX9_bestSide 0 = .ok (.iconst 0, 1) := by decide +kernel
theorem dX9_bestSide_1 : decode cX9_bestSide 1 = .ok (.istore_n 1, 1) := by decide +kernel
theorem dX9_bestSide_2 : decode cX9_bestSide 2 = .ok (.iconst 1, 1) := by decide +kernel
theorem dX9_bestSide_3 : decode cX9_bestSide 3 = .ok (.istore_n 2, 1) := by decide +kernel
theorem dX9_bestSide_4 : decode cX9_bestSide 4 = .ok (.iload_n 2, 1) := by decide +kernel
theorem dX9_bestSide_5 : decode cX9_bestSide 5 = .ok (.iconst 3, 1) := by decide +kernel
theorem dX9_bestSide_6 : decode cX9_bestSide 6 = .ok (.if_icmp .ge 32, 3) := by decide +kernel
theorem dX9_bestSide_9 : decode cX9_bestSide 9 = .ok (.aload_n 0, 1) := by decide +kernel
theorem dX9_bestSide_10 : decode cX9_bestSide 10 = .ok (.iload_n 2, 1) := by decide +kernel
theorem dX9_bestSide_11 : decode cX9_bestSide 11 = .ok (.aload_n 0, 1) := by decide +kernel
theorem dX9_bestSide_12 : decode cX9_bestSide 12 = .ok (.getfield 24, 3) := by decide +kernel
theorem dX9_bestSide_15 : decode cX9_bestSide 15 = .ok (.invokevirtual 48, 3) := by decide +kernel
theorem dX9_bestSide_18 : decode cX9_bestSide 18 = .ok (.aload_n 0, 1) := by decide +kernel
theorem dX9_bestSide_19 : decode cX9_bestSide 19 = .ok (.iload_n 1, 1) := by decide +kernel
theorem dX9_bestSide_20 : decode cX9_bestSide 20 = .ok (.aload_n 0, 1) := by decide +kernel
theorem dX9_bestSide_21 : decode cX9_bestSide 21 = .ok (.getfield 24, 3) := by decide +kernel
theorem dX9_bestSide_24 : decode cX9_bestSide 24 = .ok (.invokevirtual 48, 3) := by decide +kernel
theorem dX9_bestSide_27 : decode cX9_bestSide 27 = .ok (.if_icmp .le 5, 3) := by decide +kernel
theorem dX9_bestSide_30 : decode cX9_bestSide 30 = .ok (.iload_n 2, 1) := by decide +kernel
theorem dX9_bestSide_31 : decode cX9_bestSide 31 = .ok (.istore_n 1, 1) := by decide +kernel
theorem dX9_bestSide_32 : decode cX9_bestSide 32 = .ok (.iinc 2 1, 3) := by decide +kernel
theorem dX9_bestSide_35 : decode cX9_bestSide 35 = .ok (.goto (-31), 3) := by decide +kernel
theorem dX9_bestSide_38 : decode cX9_bestSide 38 = .ok (.iload_n 1, 1) := by decide +kernel
theorem dX9_bestSide_39 : decode cX9_bestSide 39 = .ok (.ireturn, 1) := by decide +kernel
theorem dX9_sideAway_0 : decode cX9_sideAway 0 = .ok (.aload_n 0, 1) := by decide +kernel
theorem dX9_sideAway_1 : decode cX9_sideAway 1 = .ok (.getfield 24, 3) := by decide +kernel
theorem dX9_sideAway_4 : decode cX9_sideAway 4 = .ok (.ifCond .ne 7, 3) := by decide +kernel
theorem dX9_sideAway_7 : decode cX9_sideAway 7 = .ok (.iconst 1, 1) := by decide +kernel
theorem dX9_sideAway_8 : decode cX9_sideAway 8 = .ok (.goto 4, 3) := by decide +kernel
theorem dX9_sideAway_11 : decode cX9_sideAway 11 = .ok (.iconst 0, 1) := by decide +kernel
theorem dX9_sideAway_12 : decode cX9_sideAway 12 = .ok (.istore_n 1, 1) := by decide +kernel
theorem dX9_sideAway_13 : decode cX9_sideAway 13 = .ok (.iload_n 1, 1) := by decide +kernel
theorem dX9_sideAway_14 : decode cX9_sideAway 14 = .ok (.iconst 1, 1) := by decide +kernel
theorem dX9_sideAway_15 : decode cX9_sideAway 15 = .ok (.iadd, 1) := by decide +kernel
theorem dX9_sideAway_16 : decode cX9_sideAway 16 = .ok (.istore_n 2, 1) := by decide +kernel
theorem dX9_sideAway_17 : decode cX9_sideAway 17 = .ok (.iload_n 2, 1) := by decide +kernel
theorem dX9_sideAway_18 : decode cX9_sideAway 18 = .ok (.iconst 3, 1) := by decide +kernel
theorem dX9_sideAway_19 : decode cX9_sideAway 19 = .ok (.if_icmp .ge 32, 3) := by decide +kernel
theorem dX9_sideAway_22 : decode cX9_sideAway 22 = .ok (.iload_n 2, 1) := by decide +kernel
theorem dX9_sideAway_23 : decode cX9_sideAway 23 = .ok (.aload_n 0, 1) := by decide +kernel
theorem dX9_sideAway_24 : decode cX9_sideAway 24 = .ok (.getfield 24, 3) := by decide +kernel
theorem dX9_sideAway_27 : decode cX9_sideAway 27 = .ok (.if_icmp .eq 18, 3) := by decide +kernel
theorem dX9_sideAway_30 : decode cX9_sideAway 30 = .ok (.aload_n 0, 1) := by decide +kernel
theorem dX9_sideAway_31 : decode cX9_sideAway 31 = .ok (.iload_n 2, 1) := by decide +kernel
theorem dX9_sideAway_32 : decode cX9_sideAway 32 = .ok (.invokevirtual 38, 3) := by decide +kernel
theorem dX9_sideAway_35 : decode cX9_sideAway 35 = .ok (.aload_n 0, 1) := by decide +kernel
theorem dX9_sideAway_36 : decode cX9_sideAway 36 = .ok (.iload_n 1, 1) := by decide +kernel
theorem dX9_sideAway_37 : decode cX9_sideAway 37 = .ok (.invokevirtual 38, 3) := by decide +kernel
theorem dX9_sideAway_40 : decode cX9_sideAway 40 = .ok (.if_icmp .le 5, 3) := by decide +kernel
theorem dX9_sideAway_43 : decode cX9_sideAway 43 = .ok (.iload_n 2, 1) := by decide +kernel
theorem dX9_sideAway_44 : decode cX9_sideAway 44 = .ok (.istore_n 1, 1) := by decide +kernel
theorem dX9_sideAway_45 : decode cX9_sideAway 45 = .ok (.iinc 2 1, 3) := by decide +kernel
theorem dX9_sideAway_48 : decode cX9_sideAway 48 = .ok (.goto (-31), 3) := by decide +kernel
theorem dX9_sideAway_51 : decode cX9_sideAway 51 = .ok (.iload_n 1, 1) := by decide +kernel
theorem dX9_sideAway_52 : decode cX9_sideAway 52 = .ok (.ireturn, 1) := by decide +kernel
theorem dX9_leastSum_0 : decode cX9_leastSum 0 = .ok (.aload_n 0, 1) := by decide +kernel
theorem dX9_leastSum_1 : decode cX9_leastSum 1 = .ok (.iload_n 1, 1) := by decide +kernel
theorem dX9_leastSum_2 : decode cX9_leastSum 2 = .ok (.iload_n 2, 1) := by decide +kernel
theorem dX9_leastSum_3 : decode cX9_leastSum 3 = .ok (.iload_n 3, 1) := by decide +kernel
theorem dX9_leastSum_4 : decode cX9_leastSum 4 = .ok (.iconst 0, 1) := by decide +kernel
theorem dX9_leastSum_5 : decode cX9_leastSum 5 = .ok (.invokevirtual 51, 3) := by decide +kernel
theorem dX9_leastSum_8 : decode cX9_leastSum 8 = .ok (.istore 4, 2) := by decide +kernel
theorem dX9_leastSum_10 : decode cX9_leastSum 10 = .ok (.aload_n 0, 1) := by decide +kernel
theorem dX9_leastSum_11 : decode cX9_leastSum 11 = .ok (.iload_n 1, 1) := by decide +kernel
theorem dX9_leastSum_12 : decode cX9_leastSum 12 = .ok (.iload_n 2, 1) := by decide +kernel
theorem dX9_leastSum_13 : decode cX9_leastSum 13 = .ok (.iload_n 3, 1) := by decide +kernel
theorem dX9_leastSum_14 : decode cX9_leastSum 14 = .ok (.iconst 1, 1) := by decide +kernel
theorem dX9_leastSum_15 : decode cX9_leastSum 15 = .ok (.invokevirtual 51, 3) := by decide +kernel
theorem dX9_leastSum_18 : decode cX9_leastSum 18 = .ok (.istore 5, 2) := by decide +kernel
theorem dX9_leastSum_20 : decode cX9_leastSum 20 = .ok (.aload_n 0, 1) := by decide +kernel
theorem dX9_leastSum_21 : decode cX9_leastSum 21 = .ok (.iload_n 1, 1) := by decide +kernel
theorem dX9_leastSum_22 : decode cX9_leastSum 22 = .ok (.iload_n 2, 1) := by decide +kernel
theorem dX9_leastSum_23 : decode cX9_leastSum 23 = .ok (.iload_n 3, 1) := by decide +kernel
theorem dX9_leastSum_24 : decode cX9_leastSum 24 = .ok (.iconst 2, 1) := by decide +kernel
theorem dX9_leastSum_25 : decode cX9_leastSum 25 = .ok (.invokevirtual 51, 3) := by decide +kernel
theorem dX9_leastSum_28 : decode cX9_leastSum 28 = .ok (.istore 6, 2) := by decide +kernel
theorem dX9_leastSum_30 : decode cX9_leastSum 30 = .ok (.iload 4, 2) := by decide +kernel
theorem dX9_leastSum_32 : decode cX9_leastSum 32 = .ok (.iload 5, 2) := by decide +kernel
theorem dX9_leastSum_34 : decode cX9_leastSum 34 = .ok (.iload 6, 2) := by decide +kernel
theorem dX9_leastSum_36 : decode cX9_leastSum 36 = .ok (.invokestatic 32, 3) := by decide +kernel
theorem dX9_leastSum_39 : decode cX9_leastSum 39 = .ok (.invokestatic 32, 3) := by decide +kernel
theorem dX9_leastSum_42 : decode cX9_leastSum 42 = .ok (.ireturn, 1) := by decide +kernel
theorem dX9_sum_0 : decode cX9_sum 0 = .ok (.iload_n 1, 1) := by decide +kernel
theorem dX9_sum_1 : decode cX9_sum 1 = .ok (.aload_n 0, 1) := by decide +kernel
theorem dX9_sum_2 : decode cX9_sum 2 = .ok (.iconst 0, 1) := by decide +kernel
theorem dX9_sum_3 : decode cX9_sum 3 = .ok (.iload 4, 2) := by decide +kernel
theorem dX9_sum_5 : decode cX9_sum 5 = .ok (.invokevirtual 48, 3) := by decide +kernel
theorem dX9_sum_8 : decode cX9_sum 8 = .ok (.imul, 1) := by decide +kernel
theorem dX9_sum_9 : decode cX9_sum 9 = .ok (.iload_n 2, 1) := by decide +kernel
theorem dX9_sum_10 : decode cX9_sum 10 = .ok (.aload_n 0, 1) := by decide +kernel
theorem dX9_sum_11 : decode cX9_sum 11 = .ok (.iconst 1, 1) := by decide +kernel
theorem dX9_sum_12 : decode cX9_sum 12 = .ok (.iload 4, 2) := by decide +kernel
theorem dX9_sum_14 : decode cX9_sum 14 = .ok (.invokevirtual 48, 3) := by decide +kernel
theorem dX9_sum_17 : decode cX9_sum 17 = .ok (.imul, 1) := by decide +kernel
theorem dX9_sum_18 : decode cX9_sum 18 = .ok (.iadd, 1) := by decide +kernel
theorem dX9_sum_19 : decode cX9_sum 19 = .ok (.iload_n 3, 1) := by decide +kernel
theorem dX9_sum_20 : decode cX9_sum 20 = .ok (.aload_n 0, 1) := by decide +kernel
theorem dX9_sum_21 : decode cX9_sum 21 = .ok (.iconst 2, 1) := by decide +kernel
theorem dX9_sum_22 : decode cX9_sum 22 = .ok (.iload 4, 2) := by decide +kernel
theorem dX9_sum_24 : decode cX9_sum 24 = .ok (.invokevirtual 48, 3) := by decide +kernel
theorem dX9_sum_27 : decode cX9_sum 27 = .ok (.imul, 1) := by decide +kernel
theorem dX9_sum_28 : decode cX9_sum 28 = .ok (.iadd, 1) := by decide +kernel
theorem dX9_sum_29 : decode cX9_sum 29 = .ok (.ireturn, 1) := by decide +kernel
theorem dX10_init_0 : decode cX10_init 0 = .ok (.aload_n 0, 1) := by decide +kernel
theorem dX10_init_1 : decode cX10_init 1 = .ok (.iload_n 1, 1) := by decide +kernel
theorem dX10_init_2 : decode cX10_init 2 = .ok (.iload_n 2, 1) := by decide +kernel
theorem dX10_init_3 : decode cX10_init 3 = .ok (.invokespecial 1, 3) := by decide +kernel
theorem dX10_init_6 : decode cX10_init 6 = .ok (.return_, 1) := by decide +kernel
theorem dX10_kind_0 : decode cX10_kind 0 = .ok (.iconst 3, 1) := by decide +kernel
theorem dX10_kind_1 : decode cX10_kind 1 = .ok (.ireturn, 1) := by decide +kernel
theorem dX10_side_0 : decode cX10_side 0 = .ok (.aload_n 1, 1) := by decide +kernel
theorem dX10_side_1 : decode cX10_side 1 = .ok (.invokevirtual 7, 3) := by decide +kernel
theorem dX10_side_4 : decode cX10_side 4 = .ok (.ireturn, 1) := by decide +kernel
theorem dX10_tells_0 : decode cX10_tells 0 = .ok (.aload_n 2, 1) := by decide +kernel
theorem dX10_tells_1 : decode cX10_tells 1 = .ok (.bipush 40, 2) := by decide +kernel
theorem dX10_tells_3 : decode cX10_tells 3 = .ok (.invokevirtual 13, 3) := by decide +kernel
theorem dX10_tells_6 : decode cX10_tells 6 = .ok (.pop, 1) := by decide +kernel
theorem dX10_tells_7 : decode cX10_tells 7 = .ok (.aload_n 0, 1) := by decide +kernel
theorem dX10_tells_8 : decode cX10_tells 8 = .ok (.iload_n 1, 1) := by decide +kernel
theorem dX10_tells_9 : decode cX10_tells 9 = .ok (.aload_n 2, 1) := by decide +kernel
theorem dX10_tells_10 : decode cX10_tells 10 = .ok (.invokespecial 19, 3) := by decide +kernel
theorem dX10_tells_13 : decode cX10_tells 13 = .ok (.istore_n 3, 1) := by decide +kernel
theorem dX10_tells_14 : decode cX10_tells 14 = .ok (.iload_n 3, 1) := by decide +kernel
theorem dX10_tells_15 : decode cX10_tells 15 = .ok (.aload_n 0, 1) := by decide +kernel
theorem dX10_tells_16 : decode cX10_tells 16 = .ok (.iconst 1, 1) := by decide +kernel
theorem dX10_tells_17 : decode cX10_tells 17 = .ok (.aload_n 2, 1) := by decide +kernel
theorem dX10_tells_18 : decode cX10_tells 18 = .ok (.invokevirtual 23, 3) := by decide +kernel
theorem dX10_tells_21 : decode cX10_tells 21 = .ok (.iadd, 1) := by decide +kernel
theorem dX10_tells_22 : decode cX10_tells 22 = .ok (.ireturn, 1) := by decide +kernel
theorem dX11_init_0 : decode cX11_init 0 = .ok (.aload_n 0, 1) := by decide +kernel
theorem dX11_init_1 : decode cX11_init 1 = .ok (.invokespecial 3, 3) := by decide +kernel
theorem dX11_init_4 : decode cX11_init 4 = .ok (.aload_n 0, 1) := by decide +kernel
theorem dX11_init_5 : decode cX11_init 5 = .ok (.bipush 6, 2) := by decide +kernel
theorem dX11_init_7 : decode cX11_init 7 = .ok (.anewarray 11, 3) := by decide +kernel
theorem dX11_init_10 : decode cX11_init 10 = .ok (.putfield 13, 3) := by decide +kernel
theorem dX11_init_13 : decode cX11_init 13 = .ok (.aload_n 0, 1) := by decide +kernel
theorem dX11_init_14 : decode cX11_init 14 = .ok (.bipush 6, 2) := by decide +kernel
theorem dX11_init_16 : decode cX11_init 16 = .ok (.anewarray 17, 3) := by decide +kernel
theorem dX11_init_19 : decode cX11_init 19 = .ok (.putfield 19, 3) := by decide +kernel
theorem dX11_init_22 : decode cX11_init 22 = .ok (.iconst 0, 1) := by decide +kernel
theorem dX11_init_23 : decode cX11_init 23 = .ok (.istore_n 1, 1) := by decide +kernel
theorem dX11_init_24 : decode cX11_init 24 = .ok (.iload_n 1, 1) := by decide +kernel
theorem dX11_init_25 : decode cX11_init 25 = .ok (.aload_n 0, 1) := by decide +kernel
theorem dX11_init_26 : decode cX11_init 26 = .ok (.getfield 19, 3) := by decide +kernel
theorem dX11_init_29 : decode cX11_init 29 = .ok (.arraylength, 1) := by decide +kernel
theorem dX11_init_30 : decode cX11_init 30 = .ok (.if_icmp .ge 22, 3) := by decide +kernel
theorem dX11_init_33 : decode cX11_init 33 = .ok (.aload_n 0, 1) := by decide +kernel
theorem dX11_init_34 : decode cX11_init 34 = .ok (.getfield 19, 3) := by decide +kernel
theorem dX11_init_37 : decode cX11_init 37 = .ok (.iload_n 1, 1) := by decide +kernel
theorem dX11_init_38 : decode cX11_init 38 = .ok (.new 17, 3) := by decide +kernel
theorem dX11_init_41 : decode cX11_init 41 = .ok (.dup, 1) := by decide +kernel
theorem dX11_init_42 : decode cX11_init 42 = .ok (.invokespecial 23, 3) := by decide +kernel
theorem dX11_init_45 : decode cX11_init 45 = .ok (.aastore, 1) := by decide +kernel
theorem dX11_init_46 : decode cX11_init 46 = .ok (.iinc 1 1, 3) := by decide +kernel
theorem dX11_init_49 : decode cX11_init 49 = .ok (.goto (-25), 3) := by decide +kernel
theorem dX11_init_52 : decode cX11_init 52 = .ok (.aload_n 0, 1) := by decide +kernel
theorem dX11_init_53 : decode cX11_init 53 = .ok (.new 24, 3) := by decide +kernel
theorem dX11_init_56 : decode cX11_init 56 = .ok (.dup, 1) := by decide +kernel
theorem dX11_init_57 : decode cX11_init 57 = .ok (.bipush 100, 2) := by decide +kernel
theorem dX11_init_59 : decode cX11_init 59 = .ok (.invokespecial 26, 3) := by decide +kernel
theorem dX11_init_62 : decode cX11_init 62 = .ok (.putfield 29, 3) := by decide +kernel
theorem dX11_init_65 : decode cX11_init 65 = .ok (.aload_n 0, 1) := by decide +kernel
theorem dX11_init_66 : decode cX11_init 66 = .ok (.new 33, 3) := by decide +kernel
theorem dX11_init_69 : decode cX11_init 69 = .ok (.dup, 1) := by decide +kernel
theorem dX11_init_70 : decode cX11_init 70 = .ok (.invokespecial 35, 3) := by decide +kernel
theorem dX11_init_73 : decode cX11_init 73 = .ok (.putfield 36, 3) := by decide +kernel
theorem dX11_init_76 : decode cX11_init 76 = .ok (.aload_n 0, 1) := by decide +kernel
theorem dX11_init_77 : decode cX11_init 77 = .ok (.new 33, 3) := by decide +kernel
theorem dX11_init_80 : decode cX11_init 80 = .ok (.dup, 1) := by decide +kernel
theorem dX11_init_81 : decode cX11_init 81 = .ok (.invokespecial 35, 3) := by decide +kernel
theorem dX11_init_84 : decode cX11_init 84 = .ok (.putfield 40, 3) := by decide +kernel
theorem dX11_init_87 : decode cX11_init 87 = .ok (.aload_n 0, 1) := by decide +kernel
theorem dX11_init_88 : decode cX11_init 88 = .ok (.iconst 5, 1) := by decide +kernel
theorem dX11_init_89 : decode cX11_init 89 = .ok (.anewarray 33, 3) := by decide +kernel
theorem dX11_init_92 : decode cX11_init 92 = .ok (.putfield 43, 3) := by decide +kernel
theorem dX11_init_95 : decode cX11_init 95 = .ok (.iconst 0, 1) := by decide +kernel
theorem dX11_init_96 : decode cX11_init 96 = .ok (.istore_n 1, 1) := by decide +kernel
theorem dX11_init_97 : decode cX11_init 97 = .ok (.iload_n 1, 1) := by decide +kernel
theorem dX11_init_98 : decode cX11_init 98 = .ok (.aload_n 0, 1) := by decide +kernel
theorem dX11_init_99 : decode cX11_init 99 = .ok (.getfield 43, 3) := by decide +kernel
theorem dX11_init_102 : decode cX11_init 102 = .ok (.arraylength, 1) := by decide +kernel
theorem dX11_init_103 : decode cX11_init 103 = .ok (.if_icmp .ge 22, 3) := by decide +kernel
theorem dX11_init_106 : decode cX11_init 106 = .ok (.aload_n 0, 1) := by decide +kernel
theorem dX11_init_107 : decode cX11_init 107 = .ok (.getfield 43, 3) := by decide +kernel
theorem dX11_init_110 : decode cX11_init 110 = .ok (.iload_n 1, 1) := by decide +kernel
theorem dX11_init_111 : decode cX11_init 111 = .ok (.new 33, 3) := by decide +kernel
theorem dX11_init_114 : decode cX11_init 114 = .ok (.dup, 1) := by decide +kernel
theorem dX11_init_115 : decode cX11_init 115 = .ok (.invokespecial 35, 3) := by decide +kernel
theorem dX11_init_118 : decode cX11_init 118 = .ok (.aastore, 1) := by decide +kernel
theorem dX11_init_119 : decode cX11_init 119 = .ok (.iinc 1 1, 3) := by decide +kernel
theorem dX11_init_122 : decode cX11_init 122 = .ok (.goto (-25), 3) := by decide +kernel
theorem dX11_init_125 : decode cX11_init 125 = .ok (.aload_n 0, 1) := by decide +kernel
theorem dX11_init_126 : decode cX11_init 126 = .ok (.new 47, 3) := by decide +kernel
theorem dX11_init_129 : decode cX11_init 129 = .ok (.dup, 1) := by decide +kernel
theorem dX11_init_130 : decode cX11_init 130 = .ok (.invokespecial 49, 3) := by decide +kernel
theorem dX11_init_133 : decode cX11_init 133 = .ok (.putfield 50, 3) := by decide +kernel
theorem dX11_init_136 : decode cX11_init 136 = .ok (.aload_n 0, 1) := by decide +kernel
theorem dX11_init_137 : decode cX11_init 137 = .ok (.new 24, 3) := by decide +kernel
theorem dX11_init_140 : decode cX11_init 140 = .ok (.dup, 1) := by decide +kernel
theorem dX11_init_141 : decode cX11_init 141 = .ok (.bipush 20, 2) := by decide +kernel
theorem dX11_init_143 : decode cX11_init 143 = .ok (.invokespecial 26, 3) := by decide +kernel
theorem dX11_init_146 : decode cX11_init 146 = .ok (.putfield 54, 3) := by decide +kernel
theorem dX11_init_149 : decode cX11_init 149 = .ok (.aload_n 0, 1) := by decide +kernel
theorem dX11_init_150 : decode cX11_init 150 = .ok (.bipush 6, 2) := by decide +kernel
theorem dX11_init_152 : decode cX11_init 152 = .ok (.bipush 60, 2) := by decide +kernel
theorem dX11_init_154 : decode cX11_init 154 = .ok (.multianewarray 57 2, 4) := by decide +kernel
theorem dX11_init_158 : decode cX11_init 158 = .ok (.putfield 59, 3) := by decide +kernel
theorem dX11_init_161 : decode cX11_init 161 = .ok (.aload_n 0, 1) := by decide +kernel
theorem dX11_init_162 : decode cX11_init 162 = .ok (.bipush 6, 2) := by decide +kernel
theorem dX11_init_164 : decode cX11_init 164 = .ok (.newarray .int, 2) := by decide +kernel
theorem dX11_init_166 : decode cX11_init 166 = .ok (.putfield 62, 3) := by decide +kernel
theorem dX11_init_169 : decode cX11_init 169 = .ok (.aload_n 0, 1) := by decide +kernel
theorem dX11_init_170 : decode cX11_init 170 = .ok (.getfield 62, 3) := by decide +kernel
theorem dX11_init_173 : decode cX11_init 173 = .ok (.iconst (-1), 1) := by decide +kernel
theorem dX11_init_174 : decode cX11_init 174 = .ok (.invokestatic 66, 3) := by decide +kernel
theorem dX11_init_177 : decode cX11_init 177 = .ok (.aload_n 0, 1) := by decide +kernel
theorem dX11_init_178 : decode cX11_init 178 = .ok (.bipush 6, 2) := by decide +kernel
theorem dX11_init_180 : decode cX11_init 180 = .ok (.newarray .int, 2) := by decide +kernel
theorem dX11_init_182 : decode cX11_init 182 = .ok (.putfield 72, 3) := by decide +kernel
theorem dX11_init_185 : decode cX11_init 185 = .ok (.aload_n 0, 1) := by decide +kernel
theorem dX11_init_186 : decode cX11_init 186 = .ok (.iconst 5, 1) := by decide +kernel
theorem dX11_init_187 : decode cX11_init 187 = .ok (.newarray .long, 2) := by decide +kernel
theorem dX11_init_189 : decode cX11_init 189 = .ok (.putfield 75, 3) := by decide +kernel
theorem dX11_init_192 : decode cX11_init 192 = .ok (.aload_n 0, 1) := by decide +kernel
theorem dX11_init_193 : decode cX11_init 193 = .ok (.iconst 5, 1) := by decide +kernel
theorem dX11_init_194 : decode cX11_init 194 = .ok (.newarray .long, 2) := by decide +kernel
theorem dX11_init_196 : decode cX11_init 196 = .ok (.putfield 79, 3) := by decide +kernel
theorem dX11_init_199 : decode cX11_init 199 = .ok (.aload_n 0, 1) := by decide +kernel
theorem dX11_init_200 : decode cX11_init 200 = .ok (.iconst 4, 1) := by decide +kernel
theorem dX11_init_201 : decode cX11_init 201 = .ok (.newarray .int, 2) := by decide +kernel
theorem dX11_init_203 : decode cX11_init 203 = .ok (.putfield 82, 3) := by decide +kernel
theorem dX11_init_206 : decode cX11_init 206 = .ok (.aload_n 0, 1) := by decide +kernel
theorem dX11_init_207 : decode cX11_init 207 = .ok (.iconst 4, 1) := by decide +kernel
theorem dX11_init_208 : decode cX11_init 208 = .ok (.newarray .int, 2) := by decide +kernel
theorem dX11_init_210 : decode cX11_init 210 = .ok (.putfield 85, 3) := by decide +kernel
theorem dX11_init_213 : decode cX11_init 213 = .ok (.return_, 1) := by decide +kernel
theorem dX11_shooter_0 : decode cX11_shooter 0 = .ok (.iload_n 1, 1) := by decide +kernel
theorem dX11_shooter_1 : decode cX11_shooter 1 = .ok (.ifCond .lt 9, 3) := by decide +kernel
theorem dX11_shooter_4 : decode cX11_shooter 4 = .ok (.iload_n 1, 1) := by decide +kernel
theorem dX11_shooter_5 : decode cX11_shooter 5 = .ok (.bipush 7, 2) := by decide +kernel
theorem dX11_shooter_7 : decode cX11_shooter 7 = .ok (.if_icmp .lt 5, 3) := by decide +kernel
theorem dX11_shooter_10 : decode cX11_shooter 10 = .ok (.iconst (-1), 1) := by decide +kernel
theorem dX11_shooter_11 : decode cX11_shooter 11 = .ok (.ireturn, 1) := by decide +kernel
theorem dX11_shooter_12 : decode cX11_shooter 12 = .ok (.iload_n 2, 1) := by decide +kernel
theorem dX11_shooter_13 : decode cX11_shooter 13 = .ok (.ifCond .lt 9, 3) := by decide +kernel
theorem dX11_shooter_16 : decode cX11_shooter 16 = .ok (.iload_n 2, 1) := by decide +kernel
theorem dX11_shooter_17 : decode cX11_shooter 17 = .ok (.bipush 9, 2) := by decide +kernel
theorem dX11_shooter_19 : decode cX11_shooter 19 = .ok (.if_icmp .le 6, 3) := by decide +kernel
theorem dX11_shooter_22 : decode cX11_shooter 22 = .ok (.bipush (-2), 2) := by decide +kernel
theorem dX11_shooter_24 : decode cX11_shooter 24 = .ok (.ireturn, 1) := by decide +kernel
theorem dX11_shooter_25 : decode cX11_shooter 25 = .ok (.aload_n 0, 1) := by decide +kernel
theorem dX11_shooter_26 : decode cX11_shooter 26 = .ok (.getfield 36, 3) := by decide +kernel
theorem dX11_shooter_29 : decode cX11_shooter 29 = .ok (.getfield 88, 3) := by decide +kernel
theorem dX11_shooter_32 : decode cX11_shooter 32 = .ok (.istore_n 3, 1) := by decide +kernel
theorem dX11_shooter_33 : decode cX11_shooter 33 = .ok (.iload_n 3, 1) := by decide +kernel
theorem dX11_shooter_34 : decode cX11_shooter 34 = .ok (.ifCond .lt 12, 3) := by decide +kernel
theorem dX11_shooter_37 : decode cX11_shooter 37 = .ok (.iload_n 3, 1) := by decide +kernel
theorem dX11_shooter_38 : decode cX11_shooter 38 = .ok (.aload_n 0, 1) := by decide +kernel
theorem dX11_shooter_39 : decode cX11_shooter 39 = .ok (.getfield 13, 3) := by decide +kernel
theorem dX11_shooter_42 : decode cX11_shooter 42 = .ok (.arraylength, 1) := by decide +kernel
theorem dX11_shooter_43 : decode cX11_shooter 43 = .ok (.if_icmp .lt 6, 3) := by decide +kernel
theorem dX11_shooter_46 : decode cX11_shooter 46 = .ok (.bipush (-4), 2) := by decide +kernel
theorem dX11_shooter_48 : decode cX11_shooter 48 = .ok (.ireturn, 1) := by decide +kernel
theorem dX11_shooter_49 : decode cX11_shooter 49 = .ok (.aload_n 0, 1) := by decide +kernel
theorem dX11_shooter_50 : decode cX11_shooter 50 = .ok (.getfield 13, 3) := by decide +kernel
theorem dX11_shooter_53 : decode cX11_shooter 53 = .ok (.iload_n 3, 1) := by decide +kernel
theorem dX11_shooter_54 : decode cX11_shooter 54 = .ok (.iload_n 1, 1) := by decide +kernel
theorem dX11_shooter_55 : decode cX11_shooter 55 = .ok (.iload_n 3, 1) := by decide +kernel
theorem dX11_shooter_56 : decode cX11_shooter 56 = .ok (.iload_n 2, 1) := by decide +kernel
theorem dX11_shooter_57 : decode cX11_shooter 57 = .ok (.invokestatic 91, 3) := by decide +kernel
theorem dX11_shooter_60 : decode cX11_shooter 60 = .ok (.aastore, 1) := by decide +kernel
theorem dX11_shooter_61 : decode cX11_shooter 61 = .ok (.aload_n 0, 1) := by decide +kernel
theorem dX11_shooter_62 : decode cX11_shooter 62 = .ok (.getfield 36, 3) := by decide +kernel
theorem dX11_shooter_65 : decode cX11_shooter 65 = .ok (.iload_n 3, 1) := by decide +kernel
theorem dX11_shooter_66 : decode cX11_shooter 66 = .ok (.iconst 1, 1) := by decide +kernel
theorem dX11_shooter_67 : decode cX11_shooter 67 = .ok (.iadd, 1) := by decide +kernel
theorem dX11_shooter_68 : decode cX11_shooter 68 = .ok (.putfield 88, 3) := by decide +kernel
theorem dX11_shooter_71 : decode cX11_shooter 71 = .ok (.iload_n 3, 1) := by decide +kernel
theorem dX11_shooter_72 : decode cX11_shooter 72 = .ok (.ireturn, 1) := by decide +kernel
theorem dX11_of_0 : decode cX11_of 0 = .ok (.aload_n 0, 1) := by decide +kernel
theorem dX11_of_1 : decode cX11_of 1 = .ok (.iload_n 1, 1) := by decide +kernel
theorem dX11_of_2 : decode cX11_of 2 = .ok (.invokevirtual 95, 3) := by decide +kernel
theorem dX11_of_5 : decode cX11_of 5 = .ok (.astore_n 3, 1) := by decide +kernel
theorem dX11_of_6 : decode cX11_of 6 = .ok (.aload_n 3, 1) := by decide +kernel
theorem dX11_of_7 : decode cX11_of 7 = .ok (.ifnonnull 5, 3) := by decide +kernel
theorem dX11_of_10 : decode cX11_of 10 = .ok (.iconst (-1), 1) := by decide +kernel
theorem dX11_of_11 : decode cX11_of 11 = .ok (.ireturn, 1) := by decide +kernel
theorem dX11_of_12 : decode cX11_of 12 = .ok (.iload_n 2, 1) := by decide +kernel
theorem dX11_of_13 : decode cX11_of 13 = .ok (.tableswitch 72 0 4 #[35, 40, 45, 54, 63], 35) := by decide +kernel
theorem dX11_of_48 : decode cX11_of 48 = .ok (.aload_n 3, 1) := by decide +kernel
theorem dX11_of_49 : decode cX11_of 49 = .ok (.invokevirtual 99, 3) := by decide +kernel
theorem dX11_of_52 : decode cX11_of 52 = .ok (.ireturn, 1) := by decide +kernel
theorem dX11_of_53 : decode cX11_of 53 = .ok (.aload_n 3, 1) := by decide +kernel
theorem dX11_of_54 : decode cX11_of 54 = .ok (.getfield 103, 3) := by decide +kernel
theorem dX11_of_57 : decode cX11_of 57 = .ok (.ireturn, 1) := by decide +kernel
theorem dX11_of_58 : decode cX11_of 58 = .ok (.aload_n 0, 1) := by decide +kernel
theorem dX11_of_59 : decode cX11_of 59 = .ok (.getfield 36, 3) := by decide +kernel
theorem dX11_of_62 : decode cX11_of 62 = .ok (.iload_n 1, 1) := by decide +kernel
theorem dX11_of_63 : decode cX11_of 63 = .ok (.invokevirtual 106, 3) := by decide +kernel
theorem dX11_of_66 : decode cX11_of 66 = .ok (.ireturn, 1) := by decide +kernel
theorem dX11_of_67 : decode cX11_of 67 = .ok (.aload_n 0, 1) := by decide +kernel
theorem dX11_of_68 : decode cX11_of 68 = .ok (.getfield 36, 3) := by decide +kernel
theorem dX11_of_71 : decode cX11_of 71 = .ok (.iload_n 1, 1) := by decide +kernel
theorem dX11_of_72 : decode cX11_of 72 = .ok (.invokevirtual 110, 3) := by decide +kernel
theorem dX11_of_75 : decode cX11_of 75 = .ok (.ireturn, 1) := by decide +kernel
theorem dX11_of_76 : decode cX11_of 76 = .ok (.aload_n 0, 1) := by decide +kernel
theorem dX11_of_77 : decode cX11_of 77 = .ok (.getfield 36, 3) := by decide +kernel
theorem dX11_of_80 : decode cX11_of 80 = .ok (.iload_n 1, 1) := by decide +kernel
theorem dX11_of_81 : decode cX11_of 81 = .ok (.invokevirtual 113, 3) := by decide +kernel
theorem dX11_of_84 : decode cX11_of 84 = .ok (.ireturn, 1) := by decide +kernel
theorem dX11_of_85 : decode cX11_of 85 = .ok (.aload_n 0, 1) := by decide +kernel
theorem dX11_of_86 : decode cX11_of 86 = .ok (.aload_n 0, 1) := by decide +kernel
theorem dX11_of_87 : decode cX11_of 87 = .ok (.getfield 36, 3) := by decide +kernel
theorem dX11_of_90 : decode cX11_of 90 = .ok (.aload_n 3, 1) := by decide +kernel
theorem dX11_of_91 : decode cX11_of 91 = .ok (.invokevirtual 116, 3) := by decide +kernel
theorem dX11_of_94 : decode cX11_of 94 = .ok (.aload_n 0, 1) := by decide +kernel
theorem dX11_of_95 : decode cX11_of 95 = .ok (.aload_n 3, 1) := by decide +kernel
theorem dX11_of_96 : decode cX11_of 96 = .ok (.iload_n 2, 1) := by decide +kernel
theorem dX11_of_97 : decode cX11_of 97 = .ok (.invokevirtual 120, 3) := by decide +kernel
theorem dX11_of_100 : decode cX11_of 100 = .ok (.ireturn, 1) := by decide +kernel
theorem dX11_last_0 : decode cX11_last 0 = .ok (.aload_n 0, 1) := by decide +kernel
theorem dX11_last_1 : decode cX11_last 1 = .ok (.iload_n 1, 1) := by decide +kernel
theorem dX11_last_2 : decode cX11_last 2 = .ok (.invokevirtual 95, 3) := by decide +kernel
theorem dX11_last_5 : decode cX11_last 5 = .ok (.ifnull 12, 3) := by decide +kernel
theorem dX11_last_8 : decode cX11_last 8 = .ok (.iload_n 2, 1) := by decide +kernel
theorem dX11_last_9 : decode cX11_last 9 = .ok (.ifCond .lt 8, 3) := by decide +kernel
theorem dX11_last_12 : decode cX11_last 12 = .ok (.iload_n 2, 1) := by decide +kernel
theorem dX11_last_13 : decode cX11_last 13 = .ok (.iconst 3, 1) := by decide +kernel
theorem dX11_last_14 : decode cX11_last 14 = .ok (.if_icmp .le 5, 3) := by decide +kernel
theorem dX11_last_17 : decode cX11_last 17 = .ok (.iconst (-1), 1) := by decide +kernel
theorem dX11_last_18 : decode cX11_last 18 = .ok (.ireturn, 1) := by decide +kernel
theorem dX11_last_19 : decode cX11_last 19 = .ok (.aload_n 0, 1) := by decide +kernel
theorem dX11_last_20 : decode cX11_last 20 = .ok (.getfield 36, 3) := by decide +kernel
theorem dX11_last_23 : decode cX11_last 23 = .ok (.iload_n 1, 1) := by decide +kernel
theorem dX11_last_24 : decode cX11_last 24 = .ok (.invokevirtual 106, 3) := by decide +kernel
theorem dX11_last_27 : decode cX11_last 27 = .ok (.istore_n 3, 1) := by decide +kernel
theorem dX11_last_28 : decode cX11_last 28 = .ok (.aload_n 0, 1) := by decide +kernel
theorem dX11_last_29 : decode cX11_last 29 = .ok (.getfield 36, 3) := by decide +kernel
theorem dX11_last_32 : decode cX11_last 32 = .ok (.iload_n 1, 1) := by decide +kernel
theorem dX11_last_33 : decode cX11_last 33 = .ok (.iload_n 2, 1) := by decide +kernel
theorem dX11_last_34 : decode cX11_last 34 = .ok (.invokevirtual 124, 3) := by decide +kernel
theorem dX11_last_37 : decode cX11_last 37 = .ok (.iload_n 3, 1) := by decide +kernel
theorem dX11_last_38 : decode cX11_last 38 = .ok (.ireturn, 1) := by decide +kernel
theorem dX11_row_0 : decode cX11_row 0 = .ok (.aload_n 0, 1) := by decide +kernel
theorem dX11_row_1 : decode cX11_row 1 = .ok (.iload_n 1, 1) := by decide +kernel
theorem dX11_row_2 : decode cX11_row 2 = .ok (.invokevirtual 95, 3) := by decide +kernel
theorem dX11_row_5 : decode cX11_row 5 = .ok (.astore 4, 2) := by decide +kernel
theorem dX11_row_7 : decode cX11_row 7 = .ok (.aload 4, 2) := by decide +kernel
theorem dX11_row_9 : decode cX11_row 9 = .ok (.ifnull 12, 3) := by decide +kernel
theorem dX11_row_12 : decode cX11_row 12 = .ok (.iload_n 2, 1) := by decide +kernel
theorem dX11_row_13 : decode cX11_row 13 = .ok (.ifCond .lt 8, 3) := by decide +kernel
theorem dX11_row_16 : decode cX11_row 16 = .ok (.iload_n 2, 1) := by decide +kernel
theorem dX11_row_17 : decode cX11_row 17 = .ok (.iconst 4, 1) := by decide +kernel
theorem dX11_row_18 : decode cX11_row 18 = .ok (.if_icmp .lt 5, 3) := by decide +kernel
theorem dX11_row_21 : decode cX11_row 21 = .ok (.iconst (-1), 1) := by decide +kernel
theorem dX11_row_22 : decode cX11_row 22 = .ok (.ireturn, 1) := by decide +kernel
theorem dX11_row_23 : decode cX11_row 23 = .ok (.iload_n 3, 1) := by decide +kernel
theorem dX11_row_24 : decode cX11_row 24 = .ok (.invokestatic 128, 3) := by decide +kernel
theorem dX11_row_27 : decode cX11_row 27 = .ok (.ifCond .ne 6, 3) := by decide +kernel
theorem dX11_row_30 : decode cX11_row 30 = .ok (.bipush (-2), 2) := by decide +kernel
theorem dX11_row_32 : decode cX11_row 32 = .ok (.ireturn, 1) := by decide +kernel
theorem dX11_row_33 : decode cX11_row 33 = .ok (.aload 4, 2) := by decide +kernel
theorem dX11_row_35 : decode cX11_row 35 = .ok (.instanceof 132, 3) := by decide +kernel
theorem dX11_row_38 : decode cX11_row 38 = .ok (.ifCond .ne 6, 3) := by decide +kernel
theorem dX11_row_41 : decode cX11_row 41 = .ok (.bipush (-3), 2) := by decide +kernel
theorem dX11_row_43 : decode cX11_row 43 = .ok (.ireturn, 1) := by decide +kernel
theorem dX11_row_44 : decode cX11_row 44 = .ok (.aload_n 0, 1) := by decide +kernel
theorem dX11_row_45 : decode cX11_row 45 = .ok (.getfield 36, 3) := by decide +kernel
theorem dX11_row_48 : decode cX11_row 48 = .ok (.iload_n 1, 1) := by decide +kernel
theorem dX11_row_49 : decode cX11_row 49 = .ok (.iload_n 2, 1) := by decide +kernel
theorem dX11_row_50 : decode cX11_row 50 = .ok (.invokevirtual 134, 3) := by decide +kernel
theorem dX11_row_53 : decode cX11_row 53 = .ok (.istore 5, 2) := by decide +kernel
theorem dX11_row_55 : decode cX11_row 55 = .ok (.aload_n 0, 1) := by decide +kernel
theorem dX11_row_56 : decode cX11_row 56 = .ok (.getfield 36, 3) := by decide +kernel
theorem dX11_row_59 : decode cX11_row 59 = .ok (.iload_n 1, 1) := by decide +kernel
theorem dX11_row_60 : decode cX11_row 60 = .ok (.iload_n 2, 1) := by decide +kernel
theorem dX11_row_61 : decode cX11_row 61 = .ok (.iload_n 3, 1) := by decide +kernel
theorem dX11_row_62 : decode cX11_row 62 = .ok (.invokevirtual 138, 3) := by decide +kernel
theorem dX11_row_65 : decode cX11_row 65 = .ok (.iload 5, 2) := by decide +kernel
theorem dX11_row_67 : decode cX11_row 67 = .ok (.ireturn, 1) := by decide +kernel
theorem dX11_feed_0 : decode cX11_feed 0 = .ok (.iload_n 1, 1) := by decide +kernel
theorem dX11_feed_1 : decode cX11_feed 1 = .ok (.ifCond .lt 9, 3) := by decide +kernel
theorem dX11_feed_4 : decode cX11_feed 4 = .ok (.iload_n 1, 1) := by decide +kernel
theorem dX11_feed_5 : decode cX11_feed 5 = .ok (.bipush 127, 2) := by decide +kernel
theorem dX11_feed_7 : decode cX11_feed 7 = .ok (.if_icmp .le 6, 3) := by decide +kernel
theorem dX11_feed_10 : decode cX11_feed 10 = .ok (.bipush (-2), 2) := by decide +kernel
theorem dX11_feed_12 : decode cX11_feed 12 = .ok (.ireturn, 1) := by decide +kernel
theorem dX11_feed_13 : decode cX11_feed 13 = .ok (.aload_n 0, 1) := by decide +kernel
theorem dX11_feed_14 : decode cX11_feed 14 = .ok (.getfield 29, 3) := by decide +kernel
theorem dX11_feed_17 : decode cX11_feed 17 = .ok (.iload_n 1, 1) := by decide +kernel
theorem dX11_feed_18 : decode cX11_feed 18 = .ok (.invokevirtual 142, 3) := by decide +kernel
theorem dX11_feed_21 : decode cX11_feed 21 = .ok (.ifCond .eq 13, 3) := by decide +kernel
theorem dX11_feed_24 : decode cX11_feed 24 = .ok (.aload_n 0, 1) := by decide +kernel
theorem dX11_feed_25 : decode cX11_feed 25 = .ok (.getfield 29, 3) := by decide +kernel
theorem dX11_feed_28 : decode cX11_feed 28 = .ok (.getfield 145, 3) := by decide +kernel
theorem dX11_feed_31 : decode cX11_feed 31 = .ok (.goto 5, 3) := by decide +kernel
theorem dX11_feed_34 : decode cX11_feed 34 = .ok (.bipush (-4), 2) := by decide +kernel
theorem dX11_feed_36 : decode cX11_feed 36 = .ok (.ireturn, 1) := by decide +kernel
theorem dX11_ground_0 : decode cX11_ground 0 = .ok (.aload_n 0, 1) := by decide +kernel
theorem dX11_ground_1 : decode cX11_ground 1 = .ok (.getfield 148, 3) := by decide +kernel
theorem dX11_ground_4 : decode cX11_ground 4 = .ok (.ifCond .lt 15, 3) := by decide +kernel
theorem dX11_ground_7 : decode cX11_ground 7 = .ok (.aload_n 0, 1) := by decide +kernel
theorem dX11_ground_8 : decode cX11_ground 8 = .ok (.getfield 148, 3) := by decide +kernel
theorem dX11_ground_11 : decode cX11_ground 11 = .ok (.aload_n 0, 1) := by decide +kernel
theorem dX11_ground_12 : decode cX11_ground 12 = .ok (.getfield 19, 3) := by decide +kernel
theorem dX11_ground_15 : decode cX11_ground 15 = .ok (.arraylength, 1) := by decide +kernel
theorem dX11_ground_16 : decode cX11_ground 16 = .ok (.if_icmp .lt 6, 3) := by decide +kernel
theorem dX11_ground_19 : decode cX11_ground 19 = .ok (.bipush (-4), 2) := by decide +kernel
theorem dX11_ground_21 : decode cX11_ground 21 = .ok (.ireturn, 1) := by decide +kernel
theorem dX11_ground_22 : decode cX11_ground 22 = .ok (.aload_n 0, 1) := by decide +kernel
theorem dX11_ground_23 : decode cX11_ground 23 = .ok (.getfield 19, 3) := by decide +kernel
theorem dX11_ground_26 : decode cX11_ground 26 = .ok (.aload_n 0, 1) := by decide +kernel
theorem dX11_ground_27 : decode cX11_ground 27 = .ok (.getfield 148, 3) := by decide +kernel
theorem dX11_ground_30 : decode cX11_ground 30 = .ok (.aaload, 1) := by decide +kernel
theorem dX11_ground_31 : decode cX11_ground 31 = .ok (.astore_n 1, 1) := by decide +kernel
theorem dX11_ground_32 : decode cX11_ground 32 = .ok (.aload_n 1, 1) := by decide +kernel
theorem dX11_ground_33 : decode cX11_ground 33 = .ok (.ifnonnull 6, 3) := by decide +kernel
theorem dX11_ground_36 : decode cX11_ground 36 = .ok (.bipush (-4), 2) := by decide +kernel
theorem dX11_ground_38 : decode cX11_ground 38 = .ok (.ireturn, 1) := by decide +kernel
theorem dX11_ground_39 : decode cX11_ground 39 = .ok (.aload_n 1, 1) := by decide +kernel
theorem dX11_ground_40 : decode cX11_ground 40 = .ok (.aload_n 0, 1) := by decide +kernel
theorem dX11_ground_41 : decode cX11_ground 41 = .ok (.getfield 29, 3) := by decide +kernel
theorem dX11_ground_44 : decode cX11_ground 44 = .ok (.invokevirtual 151, 3) := by decide +kernel
theorem dX11_ground_47 : decode cX11_ground 47 = .ok (.istore_n 2, 1) := by decide +kernel
theorem dX11_ground_48 : decode cX11_ground 48 = .ok (.aload_n 0, 1) := by decide +kernel
theorem dX11_ground_49 : decode cX11_ground 49 = .ok (.getfield 29, 3) := by decide +kernel
theorem dX11_ground_52 : decode cX11_ground 52 = .ok (.invokevirtual 155, 3) := by decide +kernel
theorem dX11_ground_55 : decode cX11_ground 55 = .ok (.pop, 1) := by decide +kernel
theorem dX11_ground_56 : decode cX11_ground 56 = .ok (.iload_n 2, 1) := by decide +kernel
theorem dX11_ground_57 : decode cX11_ground 57 = .ok (.iconst (-1), 1) := by decide +kernel
theorem dX11_ground_58 : decode cX11_ground 58 = .ok (.if_icmp .eq 8, 3) := by decide +kernel
theorem dX11_ground_61 : decode cX11_ground 61 = .ok (.bipush (-10), 2) := by decide +kernel
theorem dX11_ground_63 : decode cX11_ground 63 = .ok (.iload_n 2, 1) := by decide +kernel
theorem dX11_ground_64 : decode cX11_ground 64 = .ok (.isub, 1) := by decide +kernel
theorem dX11_ground_65 : decode cX11_ground 65 = .ok (.ireturn, 1) := by decide +kernel
theorem dX11_ground_66 : decode cX11_ground 66 = .ok (.aload_n 0, 1) := by decide +kernel
theorem dX11_ground_67 : decode cX11_ground 67 = .ok (.getfield 36, 3) := by decide +kernel
theorem dX11_ground_70 : decode cX11_ground 70 = .ok (.aload_n 0, 1) := by decide +kernel
theorem dX11_ground_71 : decode cX11_ground 71 = .ok (.getfield 148, 3) := by decide +kernel
theorem dX11_ground_74 : decode cX11_ground 74 = .ok (.putfield 158, 3) := by decide +kernel
theorem dX11_ground_77 : decode cX11_ground 77 = .ok (.aload_n 0, 1) := by decide +kernel
theorem dX11_ground_78 : decode cX11_ground 78 = .ok (.dup, 1) := by decide +kernel
theorem dX11_ground_79 : decode cX11_ground 79 = .ok (.getfield 148, 3) := by decide +kernel
theorem dX11_ground_82 : decode cX11_ground 82 = .ok (.iconst 1, 1) := by decide +kernel
theorem dX11_ground_83 : decode cX11_ground 83 = .ok (.iadd, 1) := by decide +kernel
theorem dX11_ground_84 : decode cX11_ground 84 = .ok (.putfield 148, 3) := by decide +kernel
theorem dX11_ground_87 : decode cX11_ground 87 = .ok (.aload_n 0, 1) := by decide +kernel
theorem dX11_ground_88 : decode cX11_ground 88 = .ok (.getfield 36, 3) := by decide +kernel
theorem dX11_ground_91 : decode cX11_ground 91 = .ok (.getfield 158, 3) := by decide +kernel
theorem dX11_ground_94 : decode cX11_ground 94 = .ok (.ireturn, 1) := by decide +kernel
theorem dX11_told_0 : decode cX11_told 0 = .ok (.iload_n 1, 1) := by decide +kernel
theorem dX11_told_1 : decode cX11_told 1 = .ok (.ifCond .ne 11, 3) := by decide +kernel
theorem dX11_told_4 : decode cX11_told 4 = .ok (.aload_n 0, 1) := by decide +kernel
theorem dX11_told_5 : decode cX11_told 5 = .ok (.getfield 36, 3) := by decide +kernel
theorem dX11_told_8 : decode cX11_told 8 = .ok (.getfield 161, 3) := by decide +kernel
theorem dX11_told_11 : decode cX11_told 11 = .ok (.ireturn, 1) := by decide +kernel
theorem dX11_told_12 : decode cX11_told 12 = .ok (.iload_n 1, 1) := by decide +kernel
theorem dX11_told_13 : decode cX11_told 13 = .ok (.iconst 1, 1) := by decide +kernel
theorem dX11_told_14 : decode cX11_told 14 = .ok (.if_icmp .ne 13, 3) := by decide +kernel
theorem dX11_told_17 : decode cX11_told 17 = .ok (.aload_n 0, 1) := by decide +kernel
theorem dX11_told_18 : decode cX11_told 18 = .ok (.getfield 36, 3) := by decide +kernel
theorem dX11_told_21 : decode cX11_told 21 = .ok (.getfield 164, 3) := by decide +kernel
theorem dX11_told_24 : decode cX11_told 24 = .ok (.goto 4, 3) := by decide +kernel
theorem dX11_told_27 : decode cX11_told 27 = .ok (.iconst (-1), 1) := by decide +kernel
theorem dX11_told_28 : decode cX11_told 28 = .ok (.ireturn, 1) := by decide +kernel
theorem dX11_chance_0 : decode cX11_chance 0 = .ok (.aload_n 0, 1) := by decide +kernel
theorem dX11_chance_1 : decode cX11_chance 1 = .ok (.iload_n 1, 1) := by decide +kernel
theorem dX11_chance_2 : decode cX11_chance 2 = .ok (.invokevirtual 95, 3) := by decide +kernel
theorem dX11_chance_5 : decode cX11_chance 5 = .ok (.astore 4, 2) := by decide +kernel
theorem dX11_chance_7 : decode cX11_chance 7 = .ok (.aload 4, 2) := by decide +kernel
theorem dX11_chance_9 : decode cX11_chance 9 = .ok (.ifnull 17, 3) := by decide +kernel
theorem dX11_chance_12 : decode cX11_chance 12 = .ok (.iload_n 2, 1) := by decide +kernel
theorem dX11_chance_13 : decode cX11_chance 13 = .ok (.invokestatic 128, 3) := by decide +kernel
theorem dX11_chance_16 : decode cX11_chance 16 = .ok (.ifCond .eq 10, 3) := by decide +kernel
theorem dX11_chance_19 : decode cX11_chance 19 = .ok (.iload_n 3, 1) := by decide +kernel
theorem dX11_chance_20 : decode cX11_chance 20 = .ok (.invokestatic 128, 3) := by decide +kernel
theorem dX11_chance_23 : decode cX11_chance 23 = .ok (.ifCond .ne 5, 3) := by decide +kernel
theorem dX11_chance_26 : decode cX11_chance 26 = .ok (.iconst (-1), 1) := by decide +kernel
theorem dX11_chance_27 : decode cX11_chance 27 = .ok (.ireturn, 1) := by decide +kernel
theorem dX11_chance_28 : decode cX11_chance 28 = .ok (.aload_n 0, 1) := by decide +kernel
theorem dX11_chance_29 : decode cX11_chance 29 = .ok (.aload_n 0, 1) := by decide +kernel
theorem dX11_chance_30 : decode cX11_chance 30 = .ok (.getfield 36, 3) := by decide +kernel
theorem dX11_chance_33 : decode cX11_chance 33 = .ok (.aload 4, 2) := by decide +kernel
theorem dX11_chance_35 : decode cX11_chance 35 = .ok (.invokevirtual 116, 3) := by decide +kernel
theorem dX11_chance_38 : decode cX11_chance 38 = .ok (.aload_n 0, 1) := by decide +kernel
theorem dX11_chance_39 : decode cX11_chance 39 = .ok (.getfield 50, 3) := by decide +kernel
theorem dX11_chance_42 : decode cX11_chance 42 = .ok (.iload_n 2, 1) := by decide +kernel
theorem dX11_chance_43 : decode cX11_chance 43 = .ok (.iload_n 3, 1) := by decide +kernel
theorem dX11_chance_44 : decode cX11_chance 44 = .ok (.invokevirtual 167, 3) := by decide +kernel
theorem dX11_chance_47 : decode cX11_chance 47 = .ok (.ireturn, 1) := by decide +kernel
theorem dX11_shoot_0 : decode cX11_shoot 0 = .ok (.aload_n 0, 1) := by decide +kernel
theorem dX11_shoot_1 : decode cX11_shoot 1 = .ok (.iload_n 1, 1) := by decide +kernel
theorem dX11_shoot_2 : decode cX11_shoot 2 = .ok (.invokevirtual 95, 3) := by decide +kernel
theorem dX11_shoot_5 : decode cX11_shoot 5 = .ok (.astore_n 3, 1) := by decide +kernel
theorem dX11_shoot_6 : decode cX11_shoot 6 = .ok (.aload_n 3, 1) := by decide +kernel
theorem dX11_shoot_7 : decode cX11_shoot 7 = .ok (.ifnonnull 5, 3) := by decide +kernel
theorem dX11_shoot_10 : decode cX11_shoot 10 = .ok (.iconst (-1), 1) := by decide +kernel
theorem dX11_shoot_11 : decode cX11_shoot 11 = .ok (.ireturn, 1) := by decide +kernel
theorem dX11_shoot_12 : decode cX11_shoot 12 = .ok (.iload_n 2, 1) := by decide +kernel
theorem dX11_shoot_13 : decode cX11_shoot 13 = .ok (.invokestatic 170, 3) := by decide +kernel
theorem dX11_shoot_16 : decode cX11_shoot 16 = .ok (.ifCond .ne 6, 3) := by decide +kernel
theorem dX11_shoot_19 : decode cX11_shoot 19 = .ok (.bipush (-2), 2) := by decide +kernel
theorem dX11_shoot_21 : decode cX11_shoot 21 = .ok (.ireturn, 1) := by decide +kernel
theorem dX11_shoot_22 : decode cX11_shoot 22 = .ok (.aload_n 0, 1) := by decide +kernel
theorem dX11_shoot_23 : decode cX11_shoot 23 = .ok (.getfield 36, 3) := by decide +kernel
theorem dX11_shoot_26 : decode cX11_shoot 26 = .ok (.getfield 161, 3) := by decide +kernel
theorem dX11_shoot_29 : decode cX11_shoot 29 = .ok (.sipush 999, 3) := by decide +kernel
theorem dX11_shoot_32 : decode cX11_shoot 32 = .ok (.if_icmp .lt 6, 3) := by decide +kernel
theorem dX11_shoot_35 : decode cX11_shoot 35 = .ok (.bipush (-3), 2) := by decide +kernel
theorem dX11_shoot_37 : decode cX11_shoot 37 = .ok (.ireturn, 1) := by decide +kernel
theorem dX11_shoot_38 : decode cX11_shoot 38 = .ok (.aload_n 0, 1) := by decide +kernel
theorem dX11_shoot_39 : decode cX11_shoot 39 = .ok (.aload_n 0, 1) := by decide +kernel
theorem dX11_shoot_40 : decode cX11_shoot 40 = .ok (.getfield 36, 3) := by decide +kernel
theorem dX11_shoot_43 : decode cX11_shoot 43 = .ok (.aload_n 3, 1) := by decide +kernel
theorem dX11_shoot_44 : decode cX11_shoot 44 = .ok (.invokevirtual 116, 3) := by decide +kernel
theorem dX11_shoot_47 : decode cX11_shoot 47 = .ok (.aload_n 3, 1) := by decide +kernel
theorem dX11_shoot_48 : decode cX11_shoot 48 = .ok (.aload_n 0, 1) := by decide +kernel
theorem dX11_shoot_49 : decode cX11_shoot 49 = .ok (.getfield 50, 3) := by decide +kernel
theorem dX11_shoot_52 : decode cX11_shoot 52 = .ok (.aload_n 0, 1) := by decide +kernel
theorem dX11_shoot_53 : decode cX11_shoot 53 = .ok (.getfield 36, 3) := by decide +kernel
theorem dX11_shoot_56 : decode cX11_shoot 56 = .ok (.invokevirtual 173, 3) := by decide +kernel
theorem dX11_shoot_59 : decode cX11_shoot 59 = .ok (.istore 4, 2) := by decide +kernel
theorem dX11_shoot_61 : decode cX11_shoot 61 = .ok (.iload_n 2, 1) := by decide +kernel
theorem dX11_shoot_62 : decode cX11_shoot 62 = .ok (.aload_n 0, 1) := by decide +kernel
theorem dX11_shoot_63 : decode cX11_shoot 63 = .ok (.getfield 50, 3) := by decide +kernel
theorem dX11_shoot_66 : decode cX11_shoot 66 = .ok (.iload 4, 2) := by decide +kernel
theorem dX11_shoot_68 : decode cX11_shoot 68 = .ok (.aload_n 0, 1) := by decide +kernel
theorem dX11_shoot_69 : decode cX11_shoot 69 = .ok (.getfield 50, 3) := by decide +kernel
theorem dX11_shoot_72 : decode cX11_shoot 72 = .ok (.getfield 177, 3) := by decide +kernel
theorem dX11_shoot_75 : decode cX11_shoot 75 = .ok (.invokevirtual 167, 3) := by decide +kernel
theorem dX11_shoot_78 : decode cX11_shoot 78 = .ok (.if_icmp .ge 7, 3) := by decide +kernel
theorem dX11_shoot_81 : decode cX11_shoot 81 = .ok (.iconst 1, 1) := by decide +kernel
theorem dX11_shoot_82 : decode cX11_shoot 82 = .ok (.goto 4, 3) := by decide +kernel
theorem dX11_shoot_85 : decode cX11_shoot 85 = .ok (.iconst 0, 1) := by decide +kernel
theorem dX11_shoot_86 : decode cX11_shoot 86 = .ok (.istore 5, 2) := by decide +kernel
theorem dX11_shoot_88 : decode cX11_shoot 88 = .ok (.aload_n 0, 1) := by decide +kernel
theorem dX11_shoot_89 : decode cX11_shoot 89 = .ok (.getfield 36, 3) := by decide +kernel
theorem dX11_shoot_92 : decode cX11_shoot 92 = .ok (.iload_n 1, 1) := by decide +kernel
theorem dX11_shoot_93 : decode cX11_shoot 93 = .ok (.iload 4, 2) := by decide +kernel
theorem dX11_shoot_95 : decode cX11_shoot 95 = .ok (.iload 5, 2) := by decide +kernel
theorem dX11_shoot_97 : decode cX11_shoot 97 = .ok (.invokevirtual 180, 3) := by decide +kernel
theorem dX11_shoot_100 : decode cX11_shoot 100 = .ok (.iload 5, 2) := by decide +kernel
theorem dX11_shoot_102 : decode cX11_shoot 102 = .ok (.ifCond .eq 11, 3) := by decide +kernel
theorem dX11_shoot_105 : decode cX11_shoot 105 = .ok (.bipush 10, 2) := by decide +kernel
theorem dX11_shoot_107 : decode cX11_shoot 107 = .ok (.iload 4, 2) := by decide +kernel
theorem dX11_shoot_109 : decode cX11_shoot 109 = .ok (.iadd, 1) := by decide +kernel
theorem dX11_shoot_110 : decode cX11_shoot 110 = .ok (.goto 5, 3) := by decide +kernel
theorem dX11_shoot_113 : decode cX11_shoot 113 = .ok (.iload 4, 2) := by decide +kernel
theorem dX11_shoot_115 : decode cX11_shoot 115 = .ok (.ireturn, 1) := by decide +kernel
theorem dX11_anew_0 : decode cX11_anew 0 = .ok (.aload_n 0, 1) := by decide +kernel
theorem dX11_anew_1 : decode cX11_anew 1 = .ok (.getfield 36, 3) := by decide +kernel
theorem dX11_anew_4 : decode cX11_anew 4 = .ok (.getfield 164, 3) := by decide +kernel
theorem dX11_anew_7 : decode cX11_anew 7 = .ok (.istore_n 1, 1) := by decide +kernel
theorem dX11_anew_8 : decode cX11_anew 8 = .ok (.aload_n 0, 1) := by decide +kernel
theorem dX11_anew_9 : decode cX11_anew 9 = .ok (.getfield 36, 3) := by decide +kernel
theorem dX11_anew_12 : decode cX11_anew 12 = .ok (.iconst 0, 1) := by decide +kernel
theorem dX11_anew_13 : decode cX11_anew 13 = .ok (.putfield 161, 3) := by decide +kernel
theorem dX11_anew_16 : decode cX11_anew 16 = .ok (.aload_n 0, 1) := by decide +kernel
theorem dX11_anew_17 : decode cX11_anew 17 = .ok (.getfield 36, 3) := by decide +kernel
theorem dX11_anew_20 : decode cX11_anew 20 = .ok (.iconst 0, 1) := by decide +kernel
theorem dX11_anew_21 : decode cX11_anew 21 = .ok (.putfield 164, 3) := by decide +kernel
theorem dX11_anew_24 : decode cX11_anew 24 = .ok (.iload_n 1, 1) := by decide +kernel
theorem dX11_anew_25 : decode cX11_anew 25 = .ok (.ireturn, 1) := by decide +kernel
theorem dX11_best_0 : decode cX11_best 0 = .ok (.aload_n 0, 1) := by decide +kernel
theorem dX11_best_1 : decode cX11_best 1 = .ok (.iload_n 1, 1) := by decide +kernel
theorem dX11_best_2 : decode cX11_best 2 = .ok (.invokevirtual 95, 3) := by decide +kernel
theorem dX11_best_5 : decode cX11_best 5 = .ok (.astore_n 3, 1) := by decide +kernel
theorem dX11_best_6 : decode cX11_best 6 = .ok (.aload_n 3, 1) := by decide +kernel
theorem dX11_best_7 : decode cX11_best 7 = .ok (.ifnull 10, 3) := by decide +kernel
theorem dX11_best_10 : decode cX11_best 10 = .ok (.iload_n 2, 1) := by decide +kernel
theorem dX11_best_11 : decode cX11_best 11 = .ok (.invokestatic 184, 3) := by decide +kernel
theorem dX11_best_14 : decode cX11_best 14 = .ok (.ifCond .ne 5, 3) := by decide +kernel
theorem dX11_best_17 : decode cX11_best 17 = .ok (.iconst (-1), 1) := by decide +kernel
theorem dX11_best_18 : decode cX11_best 18 = .ok (.ireturn, 1) := by decide +kernel
theorem dX11_best_19 : decode cX11_best 19 = .ok (.aload_n 0, 1) := by decide +kernel
theorem dX11_best_20 : decode cX11_best 20 = .ok (.aload_n 0, 1) := by decide +kernel
theorem dX11_best_21 : decode cX11_best 21 = .ok (.getfield 36, 3) := by decide +kernel
theorem dX11_best_24 : decode cX11_best 24 = .ok (.aload_n 3, 1) := by decide +kernel
theorem dX11_best_25 : decode cX11_best 25 = .ok (.invokevirtual 116, 3) := by decide +kernel
theorem dX11_best_28 : decode cX11_best 28 = .ok (.aload_n 0, 1) := by decide +kernel
theorem dX11_best_29 : decode cX11_best 29 = .ok (.getfield 50, 3) := by decide +kernel
theorem dX11_best_32 : decode cX11_best 32 = .ok (.invokevirtual 187, 3) := by decide +kernel
theorem dX11_best_35 : decode cX11_best 35 = .ok (.istore 4, 2) := by decide +kernel
theorem dX11_best_37 : decode cX11_best 37 = .ok (.iload_n 2, 1) := by decide +kernel
theorem dX11_best_38 : decode cX11_best 38 = .ok (.ifCond .ne 8, 3) := by decide +kernel
theorem dX11_best_41 : decode cX11_best 41 = .ok (.iload 4, 2) := by decide +kernel
theorem dX11_best_43 : decode cX11_best 43 = .ok (.goto 19, 3) := by decide +kernel
theorem dX11_best_46 : decode cX11_best 46 = .ok (.aload_n 0, 1) := by decide +kernel
theorem dX11_best_47 : decode cX11_best 47 = .ok (.getfield 50, 3) := by decide +kernel
theorem dX11_best_50 : decode cX11_best 50 = .ok (.iload 4, 2) := by decide +kernel
theorem dX11_best_52 : decode cX11_best 52 = .ok (.aload_n 0, 1) := by decide +kernel
theorem dX11_best_53 : decode cX11_best 53 = .ok (.getfield 50, 3) := by decide +kernel
theorem dX11_best_56 : decode cX11_best 56 = .ok (.getfield 177, 3) := by decide +kernel
theorem dX11_best_59 : decode cX11_best 59 = .ok (.invokevirtual 167, 3) := by decide +kernel
theorem dX11_best_62 : decode cX11_best 62 = .ok (.ireturn, 1) := by decide +kernel
theorem dX11_mix_0 : decode cX11_mix 0 = .ok (.aload_n 0, 1) := by decide +kernel
theorem dX11_mix_1 : decode cX11_mix 1 = .ok (.iload_n 1, 1) := by decide +kernel
theorem dX11_mix_2 : decode cX11_mix 2 = .ok (.invokevirtual 95, 3) := by decide +kernel
theorem dX11_mix_5 : decode cX11_mix 5 = .ok (.astore_n 3, 1) := by decide +kernel
theorem dX11_mix_6 : decode cX11_mix 6 = .ok (.aload_n 3, 1) := by decide +kernel
theorem dX11_mix_7 : decode cX11_mix 7 = .ok (.ifnull 10, 3) := by decide +kernel
theorem dX11_mix_10 : decode cX11_mix 10 = .ok (.iload_n 2, 1) := by decide +kernel
theorem dX11_mix_11 : decode cX11_mix 11 = .ok (.invokestatic 184, 3) := by decide +kernel
theorem dX11_mix_14 : decode cX11_mix 14 = .ok (.ifCond .ne 5, 3) := by decide +kernel
theorem dX11_mix_17 : decode cX11_mix 17 = .ok (.iconst (-1), 1) := by decide +kernel
theorem dX11_mix_18 : decode cX11_mix 18 = .ok (.ireturn, 1) := by decide +kernel
theorem dX11_mix_19 : decode cX11_mix 19 = .ok (.aload_n 0, 1) := by decide +kernel
theorem dX11_mix_20 : decode cX11_mix 20 = .ok (.aload_n 0, 1) := by decide +kernel
theorem dX11_mix_21 : decode cX11_mix 21 = .ok (.getfield 36, 3) := by decide +kernel
theorem dX11_mix_24 : decode cX11_mix 24 = .ok (.aload_n 3, 1) := by decide +kernel
theorem dX11_mix_25 : decode cX11_mix 25 = .ok (.invokevirtual 116, 3) := by decide +kernel
theorem dX11_mix_28 : decode cX11_mix 28 = .ok (.iconst 0, 1) := by decide +kernel
theorem dX11_mix_29 : decode cX11_mix 29 = .ok (.istore 4, 2) := by decide +kernel
theorem dX11_mix_31 : decode cX11_mix 31 = .ok (.iconst (-1), 1) := by decide +kernel
theorem dX11_mix_32 : decode cX11_mix 32 = .ok (.istore 5, 2) := by decide +kernel
theorem dX11_mix_34 : decode cX11_mix 34 = .ok (.iconst 0, 1) := by decide +kernel
theorem dX11_mix_35 : decode cX11_mix 35 = .ok (.istore 6, 2) := by decide +kernel
theorem dX11_mix_37 : decode cX11_mix 37 = .ok (.iload 6, 2) := by decide +kernel
theorem dX11_mix_39 : decode cX11_mix 39 = .ok (.bipush 10, 2) := by decide +kernel
theorem dX11_mix_41 : decode cX11_mix 41 = .ok (.if_icmp .gt 80, 3) := by decide +kernel
theorem dX11_mix_44 : decode cX11_mix 44 = .ok (.iconst 0, 1) := by decide +kernel
theorem dX11_mix_45 : decode cX11_mix 45 = .ok (.istore 7, 2) := by decide +kernel
theorem dX11_mix_47 : decode cX11_mix 47 = .ok (.iload 7, 2) := by decide +kernel
theorem dX11_mix_49 : decode cX11_mix 49 = .ok (.bipush 10, 2) := by decide +kernel
theorem dX11_mix_51 : decode cX11_mix 51 = .ok (.iload 6, 2) := by decide +kernel
theorem dX11_mix_53 : decode cX11_mix 53 = .ok (.isub, 1) := by decide +kernel
theorem dX11_mix_54 : decode cX11_mix 54 = .ok (.if_icmp .gt 61, 3) := by decide +kernel
theorem dX11_mix_57 : decode cX11_mix 57 = .ok (.bipush 10, 2) := by decide +kernel
theorem dX11_mix_59 : decode cX11_mix 59 = .ok (.iload 6, 2) := by decide +kernel
theorem dX11_mix_61 : decode cX11_mix 61 = .ok (.isub, 1) := by decide +kernel
theorem dX11_mix_62 : decode cX11_mix 62 = .ok (.iload 7, 2) := by decide +kernel
theorem dX11_mix_64 : decode cX11_mix 64 = .ok (.isub, 1) := by decide +kernel
theorem dX11_mix_65 : decode cX11_mix 65 = .ok (.istore 8, 2) := by decide +kernel
theorem dX11_mix_67 : decode cX11_mix 67 = .ok (.aload_n 0, 1) := by decide +kernel
theorem dX11_mix_68 : decode cX11_mix 68 = .ok (.getfield 50, 3) := by decide +kernel
theorem dX11_mix_71 : decode cX11_mix 71 = .ok (.iload 6, 2) := by decide +kernel
theorem dX11_mix_73 : decode cX11_mix 73 = .ok (.iload 7, 2) := by decide +kernel
theorem dX11_mix_75 : decode cX11_mix 75 = .ok (.iload 8, 2) := by decide +kernel
theorem dX11_mix_77 : decode cX11_mix 77 = .ok (.invokevirtual 190, 3) := by decide +kernel
theorem dX11_mix_80 : decode cX11_mix 80 = .ok (.istore 9, 2) := by decide +kernel
theorem dX11_mix_82 : decode cX11_mix 82 = .ok (.iload 9, 2) := by decide +kernel
theorem dX11_mix_84 : decode cX11_mix 84 = .ok (.iload 5, 2) := by decide +kernel
