theorem dX12_forget_97 : decode cX12_forget 97 = .ok (.iload 5, 2) := by decide +kernel
theorem dX12_forget_99 : decode cX12_forget 99 = .ok (.ireturn, 1) := by decide +kernel
theorem dX12_caught_0 : decode cX12_caught 0 = .ok (.aload_n 0, 1) := by decide +kernel
theorem dX12_caught_1 : decode cX12_caught 1 = .ok (.iload_n 1, 1) := by decide +kernel
theorem dX12_caught_2 : decode cX12_caught 2 = .ok (.invokevirtual 219, 3) := by decide +kernel
theorem dX12_caught_5 : decode cX12_caught 5 = .ok (.ifCond .ne 5, 3) := by decide +kernel
theorem dX12_caught_8 : decode cX12_caught 8 = .ok (.iconst (-1), 1) := by decide +kernel
theorem dX12_caught_9 : decode cX12_caught 9 = .ok (.ireturn, 1) := by decide +kernel
theorem dX12_caught_10 : decode cX12_caught 10 = .ok (.aload_n 0, 1) := by decide +kernel
theorem dX12_caught_11 : decode cX12_caught 11 = .ok (.iload_n 2, 1) := by decide +kernel
theorem dX12_caught_12 : decode cX12_caught 12 = .ok (.iconst 0, 1) := by decide +kernel
theorem dX12_caught_13 : decode cX12_caught 13 = .ok (.bipush 20, 2) := by decide +kernel
theorem dX12_caught_15 : decode cX12_caught 15 = .ok (.invokevirtual 215, 3) := by decide +kernel
theorem dX12_caught_18 : decode cX12_caught 18 = .ok (.ifCond .ne 6, 3) := by decide +kernel
theorem dX12_caught_21 : decode cX12_caught 21 = .ok (.bipush (-2), 2) := by decide +kernel
theorem dX12_caught_23 : decode cX12_caught 23 = .ok (.ireturn, 1) := by decide +kernel
theorem dX12_caught_24 : decode cX12_caught 24 = .ok (.aload_n 0, 1) := by decide +kernel
theorem dX12_caught_25 : decode cX12_caught 25 = .ok (.invokevirtual 333, 3) := by decide +kernel
theorem dX12_caught_28 : decode cX12_caught 28 = .ok (.iconst 0, 1) := by decide +kernel
theorem dX12_caught_29 : decode cX12_caught 29 = .ok (.istore_n 3, 1) := by decide +kernel
theorem dX12_caught_30 : decode cX12_caught 30 = .ok (.iconst 0, 1) := by decide +kernel
theorem dX12_caught_31 : decode cX12_caught 31 = .ok (.istore 4, 2) := by decide +kernel
theorem dX12_caught_33 : decode cX12_caught 33 = .ok (.iload 4, 2) := by decide +kernel
theorem dX12_caught_35 : decode cX12_caught 35 = .ok (.iload_n 2, 1) := by decide +kernel
theorem dX12_caught_36 : decode cX12_caught 36 = .ok (.if_icmp .ge 35, 3) := by decide +kernel
theorem dX12_caught_39 : decode cX12_caught 39 = .ok (.aload_n 0, 1) := by decide +kernel
theorem dX12_caught_40 : decode cX12_caught 40 = .ok (.iload_n 1, 1) := by decide +kernel
theorem dX12_caught_41 : decode cX12_caught 41 = .ok (.invokevirtual 296, 3) := by decide +kernel
theorem dX12_caught_44 : decode cX12_caught 44 = .ok (.istore 5, 2) := by decide +kernel
theorem dX12_caught_46 : decode cX12_caught 46 = .ok (.iload_n 3, 1) := by decide +kernel
theorem dX12_caught_47 : decode cX12_caught 47 = .ok (.aload_n 0, 1) := by decide +kernel
theorem dX12_caught_48 : decode cX12_caught 48 = .ok (.iload_n 1, 1) := by decide +kernel
theorem dX12_caught_49 : decode cX12_caught 49 = .ok (.iconst 0, 1) := by decide +kernel
theorem dX12_caught_50 : decode cX12_caught 50 = .ok (.invokevirtual 326, 3) := by decide +kernel
theorem dX12_caught_53 : decode cX12_caught 53 = .ok (.iload 5, 2) := by decide +kernel
theorem dX12_caught_55 : decode cX12_caught 55 = .ok (.if_icmp .ne 7, 3) := by decide +kernel
theorem dX12_caught_58 : decode cX12_caught 58 = .ok (.iconst 1, 1) := by decide +kernel
theorem dX12_caught_59 : decode cX12_caught 59 = .ok (.goto 4, 3) := by decide +kernel
theorem dX12_caught_62 : decode cX12_caught 62 = .ok (.iconst 0, 1) := by decide +kernel
theorem dX12_caught_63 : decode cX12_caught 63 = .ok (.iadd, 1) := by decide +kernel
theorem dX12_caught_64 : decode cX12_caught 64 = .ok (.istore_n 3, 1) := by decide +kernel
theorem dX12_caught_65 : decode cX12_caught 65 = .ok (.iinc 4 1, 3) := by decide +kernel
theorem dX12_caught_68 : decode cX12_caught 68 = .ok (.goto (-35), 3) := by decide +kernel
theorem dX12_caught_71 : decode cX12_caught 71 = .ok (.aload_n 0, 1) := by decide +kernel
theorem dX12_caught_72 : decode cX12_caught 72 = .ok (.invokevirtual 339, 3) := by decide +kernel
theorem dX12_caught_75 : decode cX12_caught 75 = .ok (.iload_n 3, 1) := by decide +kernel
theorem dX12_caught_76 : decode cX12_caught 76 = .ok (.ireturn, 1) := by decide +kernel
theorem dX12_see_0 : decode cX12_see 0 = .ok (.iload_n 1, 1) := by decide +kernel
theorem dX12_see_1 : decode cX12_see 1 = .ok (.iconst (-1), 1) := by decide +kernel
theorem dX12_see_2 : decode cX12_see 2 = .ok (.if_icmp .ne 10, 3) := by decide +kernel
theorem dX12_see_5 : decode cX12_see 5 = .ok (.aload_n 0, 1) := by decide +kernel
theorem dX12_see_6 : decode cX12_see 6 = .ok (.iconst 0, 1) := by decide +kernel
theorem dX12_see_7 : decode cX12_see 7 = .ok (.putfield 127, 3) := by decide +kernel
theorem dX12_see_10 : decode cX12_see 10 = .ok (.iconst 0, 1) := by decide +kernel
theorem dX12_see_11 : decode cX12_see 11 = .ok (.ireturn, 1) := by decide +kernel
theorem dX12_see_12 : decode cX12_see 12 = .ok (.aload_n 0, 1) := by decide +kernel
theorem dX12_see_13 : decode cX12_see 13 = .ok (.iload_n 1, 1) := by decide +kernel
theorem dX12_see_14 : decode cX12_see 14 = .ok (.invokevirtual 223, 3) := by decide +kernel
theorem dX12_see_17 : decode cX12_see 17 = .ok (.ifCond .ne 5, 3) := by decide +kernel
theorem dX12_see_20 : decode cX12_see 20 = .ok (.iconst (-1), 1) := by decide +kernel
theorem dX12_see_21 : decode cX12_see 21 = .ok (.ireturn, 1) := by decide +kernel
theorem dX12_see_22 : decode cX12_see 22 = .ok (.aload_n 0, 1) := by decide +kernel
theorem dX12_see_23 : decode cX12_see 23 = .ok (.getfield 127, 3) := by decide +kernel
theorem dX12_see_26 : decode cX12_see 26 = .ok (.bipush 6, 2) := by decide +kernel
theorem dX12_see_28 : decode cX12_see 28 = .ok (.if_icmp .ne 6, 3) := by decide +kernel
theorem dX12_see_31 : decode cX12_see 31 = .ok (.bipush (-4), 2) := by decide +kernel
theorem dX12_see_33 : decode cX12_see 33 = .ok (.ireturn, 1) := by decide +kernel
theorem dX12_see_34 : decode cX12_see 34 = .ok (.aload_n 0, 1) := by decide +kernel
theorem dX12_see_35 : decode cX12_see 35 = .ok (.getfield 130, 3) := by decide +kernel
theorem dX12_see_38 : decode cX12_see 38 = .ok (.aload_n 0, 1) := by decide +kernel
theorem dX12_see_39 : decode cX12_see 39 = .ok (.getfield 127, 3) := by decide +kernel
theorem dX12_see_42 : decode cX12_see 42 = .ok (.iload_n 1, 1) := by decide +kernel
theorem dX12_see_43 : decode cX12_see 43 = .ok (.iastore, 1) := by decide +kernel
theorem dX12_see_44 : decode cX12_see 44 = .ok (.aload_n 0, 1) := by decide +kernel
theorem dX12_see_45 : decode cX12_see 45 = .ok (.dup, 1) := by decide +kernel
theorem dX12_see_46 : decode cX12_see 46 = .ok (.getfield 127, 3) := by decide +kernel
theorem dX12_see_49 : decode cX12_see 49 = .ok (.iconst 1, 1) := by decide +kernel
theorem dX12_see_50 : decode cX12_see 50 = .ok (.iadd, 1) := by decide +kernel
theorem dX12_see_51 : decode cX12_see 51 = .ok (.putfield 127, 3) := by decide +kernel
theorem dX12_see_54 : decode cX12_see 54 = .ok (.aload_n 0, 1) := by decide +kernel
theorem dX12_see_55 : decode cX12_see 55 = .ok (.getfield 127, 3) := by decide +kernel
theorem dX12_see_58 : decode cX12_see 58 = .ok (.ireturn, 1) := by decide +kernel
theorem dX12_isSeen_0 : decode cX12_isSeen 0 = .ok (.aload_n 0, 1) := by decide +kernel
theorem dX12_isSeen_1 : decode cX12_isSeen 1 = .ok (.invokevirtual 333, 3) := by decide +kernel
theorem dX12_isSeen_4 : decode cX12_isSeen 4 = .ok (.iconst 1, 1) := by decide +kernel
theorem dX12_isSeen_5 : decode cX12_isSeen 5 = .ok (.istore_n 2, 1) := by decide +kernel
theorem dX12_isSeen_6 : decode cX12_isSeen 6 = .ok (.iconst 0, 1) := by decide +kernel
theorem dX12_isSeen_7 : decode cX12_isSeen 7 = .ok (.istore_n 3, 1) := by decide +kernel
theorem dX12_isSeen_8 : decode cX12_isSeen 8 = .ok (.iload_n 3, 1) := by decide +kernel
theorem dX12_isSeen_9 : decode cX12_isSeen 9 = .ok (.aload_n 0, 1) := by decide +kernel
theorem dX12_isSeen_10 : decode cX12_isSeen 10 = .ok (.getfield 127, 3) := by decide +kernel
theorem dX12_isSeen_13 : decode cX12_isSeen 13 = .ok (.if_icmp .ge 34, 3) := by decide +kernel
theorem dX12_isSeen_16 : decode cX12_isSeen 16 = .ok (.iload_n 2, 1) := by decide +kernel
theorem dX12_isSeen_17 : decode cX12_isSeen 17 = .ok (.ifCond .eq 30, 3) := by decide +kernel
theorem dX12_isSeen_20 : decode cX12_isSeen 20 = .ok (.aload_n 0, 1) := by decide +kernel
theorem dX12_isSeen_21 : decode cX12_isSeen 21 = .ok (.iload_n 1, 1) := by decide +kernel
theorem dX12_isSeen_22 : decode cX12_isSeen 22 = .ok (.iconst 0, 1) := by decide +kernel
theorem dX12_isSeen_23 : decode cX12_isSeen 23 = .ok (.invokevirtual 326, 3) := by decide +kernel
theorem dX12_isSeen_26 : decode cX12_isSeen 26 = .ok (.aload_n 0, 1) := by decide +kernel
theorem dX12_isSeen_27 : decode cX12_isSeen 27 = .ok (.getfield 130, 3) := by decide +kernel
theorem dX12_isSeen_30 : decode cX12_isSeen 30 = .ok (.iload_n 3, 1) := by decide +kernel
theorem dX12_isSeen_31 : decode cX12_isSeen 31 = .ok (.iaload, 1) := by decide +kernel
theorem dX12_isSeen_32 : decode cX12_isSeen 32 = .ok (.if_icmp .ne 7, 3) := by decide +kernel
theorem dX12_isSeen_35 : decode cX12_isSeen 35 = .ok (.iconst 1, 1) := by decide +kernel
theorem dX12_isSeen_36 : decode cX12_isSeen 36 = .ok (.goto 4, 3) := by decide +kernel
theorem dX12_isSeen_39 : decode cX12_isSeen 39 = .ok (.iconst 0, 1) := by decide +kernel
theorem dX12_isSeen_40 : decode cX12_isSeen 40 = .ok (.istore_n 2, 1) := by decide +kernel
theorem dX12_isSeen_41 : decode cX12_isSeen 41 = .ok (.iinc 3 1, 3) := by decide +kernel
theorem dX12_isSeen_44 : decode cX12_isSeen 44 = .ok (.goto (-36), 3) := by decide +kernel
theorem dX12_isSeen_47 : decode cX12_isSeen 47 = .ok (.aload_n 0, 1) := by decide +kernel
theorem dX12_isSeen_48 : decode cX12_isSeen 48 = .ok (.invokevirtual 339, 3) := by decide +kernel
theorem dX12_isSeen_51 : decode cX12_isSeen 51 = .ok (.iload_n 2, 1) := by decide +kernel
theorem dX12_isSeen_52 : decode cX12_isSeen 52 = .ok (.ireturn, 1) := by decide +kernel
theorem dX12_who_0 : decode cX12_who 0 = .ok (.iconst 0, 1) := by decide +kernel
theorem dX12_who_1 : decode cX12_who 1 = .ok (.istore_n 1, 1) := by decide +kernel
theorem dX12_who_2 : decode cX12_who 2 = .ok (.iconst 0, 1) := by decide +kernel
theorem dX12_who_3 : decode cX12_who 3 = .ok (.istore_n 2, 1) := by decide +kernel
theorem dX12_who_4 : decode cX12_who 4 = .ok (.iload_n 2, 1) := by decide +kernel
theorem dX12_who_5 : decode cX12_who 5 = .ok (.aload_n 0, 1) := by decide +kernel
theorem dX12_who_6 : decode cX12_who 6 = .ok (.getfield 7, 3) := by decide +kernel
theorem dX12_who_9 : decode cX12_who 9 = .ok (.if_icmp .ge 27, 3) := by decide +kernel
theorem dX12_who_12 : decode cX12_who 12 = .ok (.iload_n 1, 1) := by decide +kernel
theorem dX12_who_13 : decode cX12_who 13 = .ok (.aload_n 0, 1) := by decide +kernel
theorem dX12_who_14 : decode cX12_who 14 = .ok (.iload_n 2, 1) := by decide +kernel
theorem dX12_who_15 : decode cX12_who 15 = .ok (.invokevirtual 372, 3) := by decide +kernel
theorem dX12_who_18 : decode cX12_who 18 = .ok (.ifCond .eq 9, 3) := by decide +kernel
theorem dX12_who_21 : decode cX12_who 21 = .ok (.iconst 1, 1) := by decide +kernel
theorem dX12_who_22 : decode cX12_who 22 = .ok (.iload_n 2, 1) := by decide +kernel
theorem dX12_who_23 : decode cX12_who 23 = .ok (.ishl, 1) := by decide +kernel
theorem dX12_who_24 : decode cX12_who 24 = .ok (.goto 4, 3) := by decide +kernel
theorem dX12_who_27 : decode cX12_who 27 = .ok (.iconst 0, 1) := by decide +kernel
theorem dX12_who_28 : decode cX12_who 28 = .ok (.ior, 1) := by decide +kernel
theorem dX12_who_29 : decode cX12_who 29 = .ok (.istore_n 1, 1) := by decide +kernel
theorem dX12_who_30 : decode cX12_who 30 = .ok (.iinc 2 1, 3) := by decide +kernel
theorem dX12_who_33 : decode cX12_who 33 = .ok (.goto (-29), 3) := by decide +kernel
theorem dX12_who_36 : decode cX12_who 36 = .ok (.iload_n 1, 1) := by decide +kernel
theorem dX12_who_37 : decode cX12_who 37 = .ok (.ireturn, 1) := by decide +kernel
theorem dX12_odds_0 : decode cX12_odds 0 = .ok (.aload_n 0, 1) := by decide +kernel
theorem dX12_odds_1 : decode cX12_odds 1 = .ok (.iload_n 1, 1) := by decide +kernel
theorem dX12_odds_2 : decode cX12_odds 2 = .ok (.invokevirtual 219, 3) := by decide +kernel
theorem dX12_odds_5 : decode cX12_odds 5 = .ok (.ifCond .eq 13, 3) := by decide +kernel
theorem dX12_odds_8 : decode cX12_odds 8 = .ok (.aload_n 0, 1) := by decide +kernel
theorem dX12_odds_9 : decode cX12_odds 9 = .ok (.iload_n 2, 1) := by decide +kernel
theorem dX12_odds_10 : decode cX12_odds 10 = .ok (.iconst 0, 1) := by decide +kernel
theorem dX12_odds_11 : decode cX12_odds 11 = .ok (.iconst 1, 1) := by decide +kernel
theorem dX12_odds_12 : decode cX12_odds 12 = .ok (.invokevirtual 215, 3) := by decide +kernel
theorem dX12_odds_15 : decode cX12_odds 15 = .ok (.ifCond .ne 7, 3) := by decide +kernel
theorem dX12_odds_18 : decode cX12_odds 18 = .ok (.ldc2_w 351, 3) := by decide +kernel
theorem dX12_odds_21 : decode cX12_odds 21 = .ok (.lreturn, 1) := by decide +kernel
theorem dX12_odds_22 : decode cX12_odds 22 = .ok (.aload_n 0, 1) := by decide +kernel
theorem dX12_odds_23 : decode cX12_odds 23 = .ok (.iload_n 1, 1) := by decide +kernel
theorem dX12_odds_24 : decode cX12_odds 24 = .ok (.invokevirtual 296, 3) := by decide +kernel
theorem dX12_odds_27 : decode cX12_odds 27 = .ok (.istore_n 3, 1) := by decide +kernel
theorem dX12_odds_28 : decode cX12_odds 28 = .ok (.aload_n 0, 1) := by decide +kernel
theorem dX12_odds_29 : decode cX12_odds 29 = .ok (.aload_n 0, 1) := by decide +kernel
theorem dX12_odds_30 : decode cX12_odds 30 = .ok (.iload_n 1, 1) := by decide +kernel
theorem dX12_odds_31 : decode cX12_odds 31 = .ok (.iconst 0, 1) := by decide +kernel
theorem dX12_odds_32 : decode cX12_odds 32 = .ok (.iload_n 3, 1) := by decide +kernel
theorem dX12_odds_33 : decode cX12_odds 33 = .ok (.invokevirtual 317, 3) := by decide +kernel
theorem dX12_odds_36 : decode cX12_odds 36 = .ok (.aload_n 0, 1) := by decide +kernel
theorem dX12_odds_37 : decode cX12_odds 37 = .ok (.iload_n 1, 1) := by decide +kernel
theorem dX12_odds_38 : decode cX12_odds 38 = .ok (.iconst 1, 1) := by decide +kernel
theorem dX12_odds_39 : decode cX12_odds 39 = .ok (.iload_n 3, 1) := by decide +kernel
theorem dX12_odds_40 : decode cX12_odds 40 = .ok (.invokevirtual 317, 3) := by decide +kernel
theorem dX12_odds_43 : decode cX12_odds 43 = .ok (.iadd, 1) := by decide +kernel
theorem dX12_odds_44 : decode cX12_odds 44 = .ok (.aload_n 0, 1) := by decide +kernel
theorem dX12_odds_45 : decode cX12_odds 45 = .ok (.iload_n 1, 1) := by decide +kernel
theorem dX12_odds_46 : decode cX12_odds 46 = .ok (.iconst 2, 1) := by decide +kernel
theorem dX12_odds_47 : decode cX12_odds 47 = .ok (.iload_n 3, 1) := by decide +kernel
theorem dX12_odds_48 : decode cX12_odds 48 = .ok (.invokevirtual 317, 3) := by decide +kernel
theorem dX12_odds_51 : decode cX12_odds 51 = .ok (.iadd, 1) := by decide +kernel
theorem dX12_odds_52 : decode cX12_odds 52 = .ok (.i2l, 1) := by decide +kernel
theorem dX12_odds_53 : decode cX12_odds 53 = .ok (.ldc2_w 375, 3) := by decide +kernel
theorem dX12_odds_56 : decode cX12_odds 56 = .ok (.iload_n 2, 1) := by decide +kernel
theorem dX12_odds_57 : decode cX12_odds 57 = .ok (.invokevirtual 360, 3) := by decide +kernel
theorem dX12_odds_60 : decode cX12_odds 60 = .ok (.lreturn, 1) := by decide +kernel
theorem dX12_mean_0 : decode cX12_mean 0 = .ok (.aload_n 0, 1) := by decide +kernel
theorem dX12_mean_1 : decode cX12_mean 1 = .ok (.iload_n 1, 1) := by decide +kernel
theorem dX12_mean_2 : decode cX12_mean 2 = .ok (.iconst 0, 1) := by decide +kernel
theorem dX12_mean_3 : decode cX12_mean 3 = .ok (.iconst 1, 1) := by decide +kernel
theorem dX12_mean_4 : decode cX12_mean 4 = .ok (.invokevirtual 215, 3) := by decide +kernel
theorem dX12_mean_7 : decode cX12_mean 7 = .ok (.ifCond .eq 10, 3) := by decide +kernel
theorem dX12_mean_10 : decode cX12_mean 10 = .ok (.aload_n 0, 1) := by decide +kernel
theorem dX12_mean_11 : decode cX12_mean 11 = .ok (.getfield 7, 3) := by decide +kernel
theorem dX12_mean_14 : decode cX12_mean 14 = .ok (.ifCond .ne 7, 3) := by decide +kernel
theorem dX12_mean_17 : decode cX12_mean 17 = .ok (.ldc2_w 351, 3) := by decide +kernel
theorem dX12_mean_20 : decode cX12_mean 20 = .ok (.lreturn, 1) := by decide +kernel
theorem dX12_mean_21 : decode cX12_mean 21 = .ok (.lconst 0, 1) := by decide +kernel
theorem dX12_mean_22 : decode cX12_mean 22 = .ok (.lstore_n 2, 1) := by decide +kernel
theorem dX12_mean_23 : decode cX12_mean 23 = .ok (.iconst 0, 1) := by decide +kernel
theorem dX12_mean_24 : decode cX12_mean 24 = .ok (.istore 4, 2) := by decide +kernel
theorem dX12_mean_26 : decode cX12_mean 26 = .ok (.iload 4, 2) := by decide +kernel
theorem dX12_mean_28 : decode cX12_mean 28 = .ok (.aload_n 0, 1) := by decide +kernel
theorem dX12_mean_29 : decode cX12_mean 29 = .ok (.getfield 7, 3) := by decide +kernel
theorem dX12_mean_32 : decode cX12_mean 32 = .ok (.if_icmp .ge 19, 3) := by decide +kernel
theorem dX12_mean_35 : decode cX12_mean 35 = .ok (.lload_n 2, 1) := by decide +kernel
theorem dX12_mean_36 : decode cX12_mean 36 = .ok (.aload_n 0, 1) := by decide +kernel
theorem dX12_mean_37 : decode cX12_mean 37 = .ok (.iload 4, 2) := by decide +kernel
theorem dX12_mean_39 : decode cX12_mean 39 = .ok (.invokevirtual 323, 3) := by decide +kernel
theorem dX12_mean_42 : decode cX12_mean 42 = .ok (.i2l, 1) := by decide +kernel
theorem dX12_mean_43 : decode cX12_mean 43 = .ok (.ladd, 1) := by decide +kernel
theorem dX12_mean_44 : decode cX12_mean 44 = .ok (.lstore_n 2, 1) := by decide +kernel
theorem dX12_mean_45 : decode cX12_mean 45 = .ok (.iinc 4 1, 3) := by decide +kernel
theorem dX12_mean_48 : decode cX12_mean 48 = .ok (.goto (-22), 3) := by decide +kernel
theorem dX12_mean_51 : decode cX12_mean 51 = .ok (.aload_n 0, 1) := by decide +kernel
theorem dX12_mean_52 : decode cX12_mean 52 = .ok (.lload_n 2, 1) := by decide +kernel
theorem dX12_mean_53 : decode cX12_mean 53 = .ok (.aload_n 0, 1) := by decide +kernel
theorem dX12_mean_54 : decode cX12_mean 54 = .ok (.getfield 7, 3) := by decide +kernel
theorem dX12_mean_57 : decode cX12_mean 57 = .ok (.i2l, 1) := by decide +kernel
theorem dX12_mean_58 : decode cX12_mean 58 = .ok (.iload_n 1, 1) := by decide +kernel
theorem dX12_mean_59 : decode cX12_mean 59 = .ok (.invokevirtual 360, 3) := by decide +kernel
theorem dX12_mean_62 : decode cX12_mean 62 = .ok (.lreturn, 1) := by decide +kernel
theorem dX12_book_0 : decode cX12_book 0 = .ok (.iload_n 1, 1) := by decide +kernel
theorem dX12_book_1 : decode cX12_book 1 = .ok (.iconst (-1), 1) := by decide +kernel
theorem dX12_book_2 : decode cX12_book 2 = .ok (.if_icmp .ne 10, 3) := by decide +kernel
theorem dX12_book_5 : decode cX12_book 5 = .ok (.aload_n 0, 1) := by decide +kernel
theorem dX12_book_6 : decode cX12_book 6 = .ok (.iconst 0, 1) := by decide +kernel
theorem dX12_book_7 : decode cX12_book 7 = .ok (.putfield 133, 3) := by decide +kernel
theorem dX12_book_10 : decode cX12_book 10 = .ok (.iconst 0, 1) := by decide +kernel
theorem dX12_book_11 : decode cX12_book 11 = .ok (.ireturn, 1) := by decide +kernel
theorem dX12_book_12 : decode cX12_book 12 = .ok (.aload_n 0, 1) := by decide +kernel
theorem dX12_book_13 : decode cX12_book 13 = .ok (.iload_n 1, 1) := by decide +kernel
theorem dX12_book_14 : decode cX12_book 14 = .ok (.invokevirtual 219, 3) := by decide +kernel
theorem dX12_book_17 : decode cX12_book 17 = .ok (.ifCond .ne 5, 3) := by decide +kernel
theorem dX12_book_20 : decode cX12_book 20 = .ok (.iconst (-1), 1) := by decide +kernel
theorem dX12_book_21 : decode cX12_book 21 = .ok (.ireturn, 1) := by decide +kernel
theorem dX12_book_22 : decode cX12_book 22 = .ok (.aload_n 0, 1) := by decide +kernel
theorem dX12_book_23 : decode cX12_book 23 = .ok (.iload_n 2, 1) := by decide +kernel
theorem dX12_book_24 : decode cX12_book 24 = .ok (.iconst 0, 1) := by decide +kernel
theorem dX12_book_25 : decode cX12_book 25 = .ok (.bipush 99, 2) := by decide +kernel
theorem dX12_book_27 : decode cX12_book 27 = .ok (.invokevirtual 215, 3) := by decide +kernel
theorem dX12_book_30 : decode cX12_book 30 = .ok (.ifCond .ne 6, 3) := by decide +kernel
theorem dX12_book_33 : decode cX12_book 33 = .ok (.bipush (-2), 2) := by decide +kernel
theorem dX12_book_35 : decode cX12_book 35 = .ok (.ireturn, 1) := by decide +kernel
theorem dX12_book_36 : decode cX12_book 36 = .ok (.aload_n 0, 1) := by decide +kernel
theorem dX12_book_37 : decode cX12_book 37 = .ok (.getfield 133, 3) := by decide +kernel
theorem dX12_book_40 : decode cX12_book 40 = .ok (.bipush 10, 2) := by decide +kernel
theorem dX12_book_42 : decode cX12_book 42 = .ok (.if_icmp .ne 6, 3) := by decide +kernel
theorem dX12_book_45 : decode cX12_book 45 = .ok (.bipush (-4), 2) := by decide +kernel
theorem dX12_book_47 : decode cX12_book 47 = .ok (.ireturn, 1) := by decide +kernel
theorem dX12_book_48 : decode cX12_book 48 = .ok (.aload_n 0, 1) := by decide +kernel
theorem dX12_book_49 : decode cX12_book 49 = .ok (.getfield 136, 3) := by decide +kernel
theorem dX12_book_52 : decode cX12_book 52 = .ok (.aload_n 0, 1) := by decide +kernel
theorem dX12_book_53 : decode cX12_book 53 = .ok (.getfield 133, 3) := by decide +kernel
theorem dX12_book_56 : decode cX12_book 56 = .ok (.iload_n 1, 1) := by decide +kernel
theorem dX12_book_57 : decode cX12_book 57 = .ok (.iastore, 1) := by decide +kernel
theorem dX12_book_58 : decode cX12_book 58 = .ok (.aload_n 0, 1) := by decide +kernel
theorem dX12_book_59 : decode cX12_book 59 = .ok (.getfield 139, 3) := by decide +kernel
theorem dX12_book_62 : decode cX12_book 62 = .ok (.aload_n 0, 1) := by decide +kernel
theorem dX12_book_63 : decode cX12_book 63 = .ok (.getfield 133, 3) := by decide +kernel
theorem dX12_book_66 : decode cX12_book 66 = .ok (.iload_n 2, 1) := by decide +kernel
theorem dX12_book_67 : decode cX12_book 67 = .ok (.iastore, 1) := by decide +kernel
theorem dX12_book_68 : decode cX12_book 68 = .ok (.aload_n 0, 1) := by decide +kernel
theorem dX12_book_69 : decode cX12_book 69 = .ok (.dup, 1) := by decide +kernel
theorem dX12_book_70 : decode cX12_book 70 = .ok (.getfield 133, 3) := by decide +kernel
theorem dX12_book_73 : decode cX12_book 73 = .ok (.iconst 1, 1) := by decide +kernel
theorem dX12_book_74 : decode cX12_book 74 = .ok (.iadd, 1) := by decide +kernel
theorem dX12_book_75 : decode cX12_book 75 = .ok (.putfield 133, 3) := by decide +kernel
theorem dX12_book_78 : decode cX12_book 78 = .ok (.aload_n 0, 1) := by decide +kernel
theorem dX12_book_79 : decode cX12_book 79 = .ok (.getfield 133, 3) := by decide +kernel
theorem dX12_book_82 : decode cX12_book 82 = .ok (.ireturn, 1) := by decide +kernel
theorem dX12_looked_0 : decode cX12_looked 0 = .ok (.aload_n 0, 1) := by decide +kernel
theorem dX12_looked_1 : decode cX12_looked 1 = .ok (.invokevirtual 333, 3) := by decide +kernel
theorem dX12_looked_4 : decode cX12_looked 4 = .ok (.bipush (-5), 2) := by decide +kernel
theorem dX12_looked_6 : decode cX12_looked 6 = .ok (.istore_n 1, 1) := by decide +kernel
theorem dX12_looked_7 : decode cX12_looked 7 = .ok (.iconst 0, 1) := by decide +kernel
theorem dX12_looked_8 : decode cX12_looked 8 = .ok (.istore_n 2, 1) := by decide +kernel
theorem dX12_looked_9 : decode cX12_looked 9 = .ok (.iload_n 2, 1) := by decide +kernel
theorem dX12_looked_10 : decode cX12_looked 10 = .ok (.aload_n 0, 1) := by decide +kernel
theorem dX12_looked_11 : decode cX12_looked 11 = .ok (.getfield 133, 3) := by decide +kernel
theorem dX12_looked_14 : decode cX12_looked 14 = .ok (.if_icmp .ge 62, 3) := by decide +kernel
theorem dX12_looked_17 : decode cX12_looked 17 = .ok (.iload_n 1, 1) := by decide +kernel
theorem dX12_looked_18 : decode cX12_looked 18 = .ok (.ifCond .ge 58, 3) := by decide +kernel
theorem dX12_looked_21 : decode cX12_looked 21 = .ok (.aload_n 0, 1) := by decide +kernel
theorem dX12_looked_22 : decode cX12_looked 22 = .ok (.getfield 139, 3) := by decide +kernel
theorem dX12_looked_25 : decode cX12_looked 25 = .ok (.iload_n 2, 1) := by decide +kernel
theorem dX12_looked_26 : decode cX12_looked 26 = .ok (.iaload, 1) := by decide +kernel
theorem dX12_looked_27 : decode cX12_looked 27 = .ok (.aload_n 0, 1) := by decide +kernel
theorem dX12_looked_28 : decode cX12_looked 28 = .ok (.aload_n 0, 1) := by decide +kernel
theorem dX12_looked_29 : decode cX12_looked 29 = .ok (.getfield 136, 3) := by decide +kernel
theorem dX12_looked_32 : decode cX12_looked 32 = .ok (.iload_n 2, 1) := by decide +kernel
theorem dX12_looked_33 : decode cX12_looked 33 = .ok (.iaload, 1) := by decide +kernel
theorem dX12_looked_34 : decode cX12_looked 34 = .ok (.invokevirtual 323, 3) := by decide +kernel
theorem dX12_looked_37 : decode cX12_looked 37 = .ok (.if_icmp .ge 7, 3) := by decide +kernel
theorem dX12_looked_40 : decode cX12_looked 40 = .ok (.iconst 1, 1) := by decide +kernel
theorem dX12_looked_41 : decode cX12_looked 41 = .ok (.goto 4, 3) := by decide +kernel
theorem dX12_looked_44 : decode cX12_looked 44 = .ok (.iconst 0, 1) := by decide +kernel
theorem dX12_looked_45 : decode cX12_looked 45 = .ok (.istore_n 3, 1) := by decide +kernel
theorem dX12_looked_46 : decode cX12_looked 46 = .ok (.aload_n 0, 1) := by decide +kernel
theorem dX12_looked_47 : decode cX12_looked 47 = .ok (.aload_n 0, 1) := by decide +kernel
theorem dX12_looked_48 : decode cX12_looked 48 = .ok (.getfield 136, 3) := by decide +kernel
theorem dX12_looked_51 : decode cX12_looked 51 = .ok (.iload_n 2, 1) := by decide +kernel
theorem dX12_looked_52 : decode cX12_looked 52 = .ok (.iaload, 1) := by decide +kernel
theorem dX12_looked_53 : decode cX12_looked 53 = .ok (.iload_n 3, 1) := by decide +kernel
theorem dX12_looked_54 : decode cX12_looked 54 = .ok (.invokevirtual 326, 3) := by decide +kernel
theorem dX12_looked_57 : decode cX12_looked 57 = .ok (.istore 4, 2) := by decide +kernel
theorem dX12_looked_59 : decode cX12_looked 59 = .ok (.iload_n 3, 1) := by decide +kernel
theorem dX12_looked_60 : decode cX12_looked 60 = .ok (.ifCond .eq 8, 3) := by decide +kernel
theorem dX12_looked_63 : decode cX12_looked 63 = .ok (.bipush (-5), 2) := by decide +kernel
theorem dX12_looked_65 : decode cX12_looked 65 = .ok (.goto 4, 3) := by decide +kernel
theorem dX12_looked_68 : decode cX12_looked 68 = .ok (.iload_n 2, 1) := by decide +kernel
theorem dX12_looked_69 : decode cX12_looked 69 = .ok (.istore_n 1, 1) := by decide +kernel
theorem dX12_looked_70 : decode cX12_looked 70 = .ok (.iinc 2 1, 3) := by decide +kernel
theorem dX12_looked_73 : decode cX12_looked 73 = .ok (.goto (-64), 3) := by decide +kernel
theorem dX12_looked_76 : decode cX12_looked 76 = .ok (.aload_n 0, 1) := by decide +kernel
theorem dX12_looked_77 : decode cX12_looked 77 = .ok (.invokevirtual 339, 3) := by decide +kernel
theorem dX12_looked_80 : decode cX12_looked 80 = .ok (.iload_n 1, 1) := by decide +kernel
theorem dX12_looked_81 : decode cX12_looked 81 = .ok (.ireturn, 1) := by decide +kernel
theorem dX12_judge_0 : decode cX12_judge 0 = .ok (.aload_n 0, 1) := by decide +kernel
theorem dX12_judge_1 : decode cX12_judge 1 = .ok (.iload_n 1, 1) := by decide +kernel
theorem dX12_judge_2 : decode cX12_judge 2 = .ok (.invokevirtual 377, 3) := by decide +kernel
theorem dX12_judge_5 : decode cX12_judge 5 = .ok (.ifCond .ne 5, 3) := by decide +kernel
theorem dX12_judge_8 : decode cX12_judge 8 = .ok (.iconst (-1), 1) := by decide +kernel
theorem dX12_judge_9 : decode cX12_judge 9 = .ok (.ireturn, 1) := by decide +kernel
theorem dX12_judge_10 : decode cX12_judge 10 = .ok (.aload_n 0, 1) := by decide +kernel
theorem dX12_judge_11 : decode cX12_judge 11 = .ok (.getfield 203, 3) := by decide +kernel
theorem dX12_judge_14 : decode cX12_judge 14 = .ok (.iload_n 1, 1) := by decide +kernel
theorem dX12_judge_15 : decode cX12_judge 15 = .ok (.iaload, 1) := by decide +kernel
theorem dX12_judge_16 : decode cX12_judge 16 = .ok (.ifCond .le 6, 3) := by decide +kernel
theorem dX12_judge_19 : decode cX12_judge 19 = .ok (.bipush (-12), 2) := by decide +kernel
theorem dX12_judge_21 : decode cX12_judge 21 = .ok (.ireturn, 1) := by decide +kernel
theorem dX12_judge_22 : decode cX12_judge 22 = .ok (.iconst 0, 1) := by decide +kernel
theorem dX12_judge_23 : decode cX12_judge 23 = .ok (.istore_n 3, 1) := by decide +kernel
theorem dX12_judge_24 : decode cX12_judge 24 = .ok (.iload_n 3, 1) := by decide +kernel
theorem dX12_judge_25 : decode cX12_judge 25 = .ok (.aload_n 0, 1) := by decide +kernel
theorem dX12_judge_26 : decode cX12_judge 26 = .ok (.getfield 7, 3) := by decide +kernel
theorem dX12_judge_29 : decode cX12_judge 29 = .ok (.if_icmp .ge 67, 3) := by decide +kernel
theorem dX12_judge_32 : decode cX12_judge 32 = .ok (.aload_n 0, 1) := by decide +kernel
theorem dX12_judge_33 : decode cX12_judge 33 = .ok (.getfield 203, 3) := by decide +kernel
theorem dX12_judge_36 : decode cX12_judge 36 = .ok (.iload_n 1, 1) := by decide +kernel
theorem dX12_judge_37 : decode cX12_judge 37 = .ok (.iaload, 1) := by decide +kernel
theorem dX12_judge_38 : decode cX12_judge 38 = .ok (.ifCond .lt 21, 3) := by decide +kernel
theorem dX12_judge_41 : decode cX12_judge 41 = .ok (.iload_n 2, 1) := by decide +kernel
theorem dX12_judge_42 : decode cX12_judge 42 = .ok (.ifCond .lt 17, 3) := by decide +kernel
theorem dX12_judge_45 : decode cX12_judge 45 = .ok (.iload_n 2, 1) := by decide +kernel
theorem dX12_judge_46 : decode cX12_judge 46 = .ok (.aload_n 0, 1) := by decide +kernel
theorem dX12_judge_47 : decode cX12_judge 47 = .ok (.getfield 206, 3) := by decide +kernel
theorem dX12_judge_50 : decode cX12_judge 50 = .ok (.iload_n 1, 1) := by decide +kernel
theorem dX12_judge_51 : decode cX12_judge 51 = .ok (.iaload, 1) := by decide +kernel
theorem dX12_judge_52 : decode cX12_judge 52 = .ok (.iload_n 3, 1) := by decide +kernel
theorem dX12_judge_53 : decode cX12_judge 53 = .ok (.isub, 1) := by decide +kernel
theorem dX12_judge_54 : decode cX12_judge 54 = .ok (.iconst 1, 1) := by decide +kernel
theorem dX12_judge_55 : decode cX12_judge 55 = .ok (.isub, 1) := by decide +kernel
theorem dX12_judge_56 : decode cX12_judge 56 = .ok (.if_icmp .le 8, 3) := by decide +kernel
theorem dX12_judge_59 : decode cX12_judge 59 = .ok (.bipush 100, 2) := by decide +kernel
theorem dX12_judge_61 : decode cX12_judge 61 = .ok (.iload_n 3, 1) := by decide +kernel
theorem dX12_judge_62 : decode cX12_judge 62 = .ok (.iadd, 1) := by decide +kernel
theorem dX12_judge_63 : decode cX12_judge 63 = .ok (.ireturn, 1) := by decide +kernel
theorem dX12_judge_64 : decode cX12_judge 64 = .ok (.aload_n 0, 1) := by decide +kernel
theorem dX12_judge_65 : decode cX12_judge 65 = .ok (.getfield 209, 3) := by decide +kernel
theorem dX12_judge_68 : decode cX12_judge 68 = .ok (.bipush 60, 2) := by decide +kernel
theorem dX12_judge_70 : decode cX12_judge 70 = .ok (.iload_n 1, 1) := by decide +kernel
theorem dX12_judge_71 : decode cX12_judge 71 = .ok (.imul, 1) := by decide +kernel
theorem dX12_judge_72 : decode cX12_judge 72 = .ok (.iload_n 2, 1) := by decide +kernel
theorem dX12_judge_73 : decode cX12_judge 73 = .ok (.iadd, 1) := by decide +kernel
theorem dX12_judge_74 : decode cX12_judge 74 = .ok (.iload_n 3, 1) := by decide +kernel
theorem dX12_judge_75 : decode cX12_judge 75 = .ok (.iadd, 1) := by decide +kernel
theorem dX12_judge_76 : decode cX12_judge 76 = .ok (.laload, 1) := by decide +kernel
theorem dX12_judge_77 : decode cX12_judge 77 = .ok (.aload_n 0, 1) := by decide +kernel
theorem dX12_judge_78 : decode cX12_judge 78 = .ok (.getfield 26, 3) := by decide +kernel
theorem dX12_judge_81 : decode cX12_judge 81 = .ok (.iload_n 3, 1) := by decide +kernel
theorem dX12_judge_82 : decode cX12_judge 82 = .ok (.iaload, 1) := by decide +kernel
theorem dX12_judge_83 : decode cX12_judge 83 = .ok (.i2l, 1) := by decide +kernel
theorem dX12_judge_84 : decode cX12_judge 84 = .ok (.lcmp, 1) := by decide +kernel
theorem dX12_judge_85 : decode cX12_judge 85 = .ok (.ifCond .eq 5, 3) := by decide +kernel
theorem dX12_judge_88 : decode cX12_judge 88 = .ok (.iload_n 3, 1) := by decide +kernel
theorem dX12_judge_89 : decode cX12_judge 89 = .ok (.ireturn, 1) := by decide +kernel
theorem dX12_judge_90 : decode cX12_judge 90 = .ok (.iinc 3 1, 3) := by decide +kernel
theorem dX12_judge_93 : decode cX12_judge 93 = .ok (.goto (-69), 3) := by decide +kernel
theorem dX12_judge_96 : decode cX12_judge 96 = .ok (.bipush (-5), 2) := by decide +kernel
theorem dX12_judge_98 : decode cX12_judge 98 = .ok (.ireturn, 1) := by decide +kernel
theorem dX12_image_0 : decode cX12_image 0 = .ok (.aload_n 0, 1) := by decide +kernel
theorem dX12_image_1 : decode cX12_image 1 = .ok (.iconst 1, 1) := by decide +kernel
theorem dX12_image_2 : decode cX12_image 2 = .ok (.putfield 142, 3) := by decide +kernel
theorem dX12_image_5 : decode cX12_image 5 = .ok (.aload_n 0, 1) := by decide +kernel
theorem dX12_image_6 : decode cX12_image 6 = .ok (.aload_n 0, 1) := by decide +kernel
theorem dX12_image_7 : decode cX12_image 7 = .ok (.getfield 41, 3) := by decide +kernel
theorem dX12_image_10 : decode cX12_image 10 = .ok (.putfield 146, 3) := by decide +kernel
theorem dX12_image_13 : decode cX12_image 13 = .ok (.aload_n 0, 1) := by decide +kernel
theorem dX12_image_14 : decode cX12_image 14 = .ok (.aload_n 0, 1) := by decide +kernel
theorem dX12_image_15 : decode cX12_image 15 = .ok (.getfield 7, 3) := by decide +kernel
theorem dX12_image_18 : decode cX12_image 18 = .ok (.putfield 149, 3) := by decide +kernel
theorem dX12_image_21 : decode cX12_image 21 = .ok (.aload_n 0, 1) := by decide +kernel
theorem dX12_image_22 : decode cX12_image 22 = .ok (.aload_n 0, 1) := by decide +kernel
theorem dX12_image_23 : decode cX12_image 23 = .ok (.getfield 13, 3) := by decide +kernel
theorem dX12_image_26 : decode cX12_image 26 = .ok (.putfield 152, 3) := by decide +kernel
theorem dX12_image_29 : decode cX12_image 29 = .ok (.aload_n 0, 1) := by decide +kernel
theorem dX12_image_30 : decode cX12_image 30 = .ok (.aload_n 0, 1) := by decide +kernel
theorem dX12_image_31 : decode cX12_image 31 = .ok (.getfield 16, 3) := by decide +kernel
theorem dX12_image_34 : decode cX12_image 34 = .ok (.putfield 155, 3) := by decide +kernel
theorem dX12_image_37 : decode cX12_image 37 = .ok (.aload_n 0, 1) := by decide +kernel
theorem dX12_image_38 : decode cX12_image 38 = .ok (.aload_n 0, 1) := by decide +kernel
theorem dX12_image_39 : decode cX12_image 39 = .ok (.getfield 108, 3) := by decide +kernel
theorem dX12_image_42 : decode cX12_image 42 = .ok (.putfield 158, 3) := by decide +kernel
theorem dX12_image_45 : decode cX12_image 45 = .ok (.aload_n 0, 1) := by decide +kernel
theorem dX12_image_46 : decode cX12_image 46 = .ok (.aload_n 0, 1) := by decide +kernel
theorem dX12_image_47 : decode cX12_image 47 = .ok (.getfield 127, 3) := by decide +kernel
theorem dX12_image_50 : decode cX12_image 50 = .ok (.putfield 161, 3) := by decide +kernel
theorem dX12_image_53 : decode cX12_image 53 = .ok (.aload_n 0, 1) := by decide +kernel
theorem dX12_image_54 : decode cX12_image 54 = .ok (.aload_n 0, 1) := by decide +kernel
theorem dX12_image_55 : decode cX12_image 55 = .ok (.getfield 133, 3) := by decide +kernel
theorem dX12_image_58 : decode cX12_image 58 = .ok (.putfield 164, 3) := by decide +kernel
theorem dX12_image_61 : decode cX12_image 61 = .ok (.iconst 0, 1) := by decide +kernel
theorem dX12_image_62 : decode cX12_image 62 = .ok (.istore_n 1, 1) := by decide +kernel
theorem dX12_image_63 : decode cX12_image 63 = .ok (.iload_n 1, 1) := by decide +kernel
theorem dX12_image_64 : decode cX12_image 64 = .ok (.bipush 6, 2) := by decide +kernel
theorem dX12_image_66 : decode cX12_image 66 = .ok (.if_icmp .ge 81, 3) := by decide +kernel
theorem dX12_image_69 : decode cX12_image 69 = .ok (.aload_n 0, 1) := by decide +kernel
theorem dX12_image_70 : decode cX12_image 70 = .ok (.getfield 167, 3) := by decide +kernel
theorem dX12_image_73 : decode cX12_image 73 = .ok (.iload_n 1, 1) := by decide +kernel
theorem dX12_image_74 : decode cX12_image 74 = .ok (.aload_n 0, 1) := by decide +kernel
theorem dX12_image_75 : decode cX12_image 75 = .ok (.getfield 19, 3) := by decide +kernel
theorem dX12_image_78 : decode cX12_image 78 = .ok (.iload_n 1, 1) := by decide +kernel
theorem dX12_image_79 : decode cX12_image 79 = .ok (.iaload, 1) := by decide +kernel
theorem dX12_image_80 : decode cX12_image 80 = .ok (.iastore, 1) := by decide +kernel
theorem dX12_image_81 : decode cX12_image 81 = .ok (.aload_n 0, 1) := by decide +kernel
theorem dX12_image_82 : decode cX12_image 82 = .ok (.getfield 170, 3) := by decide +kernel
theorem dX12_image_85 : decode cX12_image 85 = .ok (.iload_n 1, 1) := by decide +kernel
theorem dX12_image_86 : decode cX12_image 86 = .ok (.aload_n 0, 1) := by decide +kernel
theorem dX12_image_87 : decode cX12_image 87 = .ok (.getfield 23, 3) := by decide +kernel
theorem dX12_image_90 : decode cX12_image 90 = .ok (.iload_n 1, 1) := by decide +kernel
theorem dX12_image_91 : decode cX12_image 91 = .ok (.iaload, 1) := by decide +kernel
theorem dX12_image_92 : decode cX12_image 92 = .ok (.iastore, 1) := by decide +kernel
theorem dX12_image_93 : decode cX12_image 93 = .ok (.aload_n 0, 1) := by decide +kernel
theorem dX12_image_94 : decode cX12_image 94 = .ok (.getfield 173, 3) := by decide +kernel
theorem dX12_image_97 : decode cX12_image 97 = .ok (.iload_n 1, 1) := by decide +kernel
theorem dX12_image_98 : decode cX12_image 98 = .ok (.aload_n 0, 1) := by decide +kernel
theorem dX12_image_99 : decode cX12_image 99 = .ok (.getfield 26, 3) := by decide +kernel
theorem dX12_image_102 : decode cX12_image 102 = .ok (.iload_n 1, 1) := by decide +kernel
theorem dX12_image_103 : decode cX12_image 103 = .ok (.iaload, 1) := by decide +kernel
theorem dX12_image_104 : decode cX12_image 104 = .ok (.iastore, 1) := by decide +kernel
theorem dX12_image_105 : decode cX12_image 105 = .ok (.aload_n 0, 1) := by decide +kernel
theorem dX12_image_106 : decode cX12_image 106 = .ok (.getfield 176, 3) := by decide +kernel
theorem dX12_image_109 : decode cX12_image 109 = .ok (.iload_n 1, 1) := by decide +kernel
theorem dX12_image_110 : decode cX12_image 110 = .ok (.aload_n 0, 1) := by decide +kernel
theorem dX12_image_111 : decode cX12_image 111 = .ok (.getfield 29, 3) := by decide +kernel
theorem dX12_image_114 : decode cX12_image 114 = .ok (.iload_n 1, 1) := by decide +kernel
theorem dX12_image_115 : decode cX12_image 115 = .ok (.iaload, 1) := by decide +kernel
theorem dX12_image_116 : decode cX12_image 116 = .ok (.iastore, 1) := by decide +kernel
theorem dX12_image_117 : decode cX12_image 117 = .ok (.aload_n 0, 1) := by decide +kernel
theorem dX12_image_118 : decode cX12_image 118 = .ok (.getfield 179, 3) := by decide +kernel
theorem dX12_image_121 : decode cX12_image 121 = .ok (.iload_n 1, 1) := by decide +kernel
theorem dX12_image_122 : decode cX12_image 122 = .ok (.aload_n 0, 1) := by decide +kernel
theorem dX12_image_123 : decode cX12_image 123 = .ok (.getfield 32, 3) := by decide +kernel
theorem dX12_image_126 : decode cX12_image 126 = .ok (.iload_n 1, 1) := by decide +kernel
theorem dX12_image_127 : decode cX12_image 127 = .ok (.iaload, 1) := by decide +kernel
theorem dX12_image_128 : decode cX12_image 128 = .ok (.iastore, 1) := by decide +kernel
theorem dX12_image_129 : decode cX12_image 129 = .ok (.aload_n 0, 1) := by decide +kernel
theorem dX12_image_130 : decode cX12_image 130 = .ok (.getfield 188, 3) := by decide +kernel
theorem dX12_image_133 : decode cX12_image 133 = .ok (.iload_n 1, 1) := by decide +kernel
theorem dX12_image_134 : decode cX12_image 134 = .ok (.aload_n 0, 1) := by decide +kernel
theorem dX12_image_135 : decode cX12_image 135 = .ok (.getfield 130, 3) := by decide +kernel
theorem dX12_image_138 : decode cX12_image 138 = .ok (.iload_n 1, 1) := by decide +kernel
theorem dX12_image_139 : decode cX12_image 139 = .ok (.iaload, 1) := by decide +kernel
theorem dX12_image_140 : decode cX12_image 140 = .ok (.iastore, 1) := by decide +kernel
theorem dX12_image_141 : decode cX12_image 141 = .ok (.iinc 1 1, 3) := by decide +kernel
theorem dX12_image_144 : decode cX12_image 144 = .ok (.goto (-81), 3) := by decide +kernel
theorem dX12_image_147 : decode cX12_image 147 = .ok (.iconst 0, 1) := by decide +kernel
theorem dX12_image_148 : decode cX12_image 148 = .ok (.istore_n 1, 1) := by decide +kernel
theorem dX12_image_149 : decode cX12_image 149 = .ok (.iload_n 1, 1) := by decide +kernel
theorem dX12_image_150 : decode cX12_image 150 = .ok (.bipush 24, 2) := by decide +kernel
theorem dX12_image_152 : decode cX12_image 152 = .ok (.if_icmp .ge 21, 3) := by decide +kernel
theorem dX12_image_155 : decode cX12_image 155 = .ok (.aload_n 0, 1) := by decide +kernel
theorem dX12_image_156 : decode cX12_image 156 = .ok (.getfield 182, 3) := by decide +kernel
theorem dX12_image_159 : decode cX12_image 159 = .ok (.iload_n 1, 1) := by decide +kernel
theorem dX12_image_160 : decode cX12_image 160 = .ok (.aload_n 0, 1) := by decide +kernel
theorem dX12_image_161 : decode cX12_image 161 = .ok (.getfield 35, 3) := by decide +kernel
theorem dX12_image_164 : decode cX12_image 164 = .ok (.iload_n 1, 1) := by decide +kernel
theorem dX12_image_165 : decode cX12_image 165 = .ok (.iaload, 1) := by decide +kernel
theorem dX12_image_166 : decode cX12_image 166 = .ok (.iastore, 1) := by decide +kernel
theorem dX12_image_167 : decode cX12_image 167 = .ok (.iinc 1 1, 3) := by decide +kernel
theorem dX12_image_170 : decode cX12_image 170 = .ok (.goto (-21), 3) := by decide +kernel
theorem dX12_image_173 : decode cX12_image 173 = .ok (.iconst 0, 1) := by decide +kernel
theorem dX12_image_174 : decode cX12_image 174 = .ok (.istore_n 1, 1) := by decide +kernel
theorem dX12_image_175 : decode cX12_image 175 = .ok (.iload_n 1, 1) := by decide +kernel
theorem dX12_image_176 : decode cX12_image 176 = .ok (.iconst 4, 1) := by decide +kernel
theorem dX12_image_177 : decode cX12_image 177 = .ok (.if_icmp .ge 21, 3) := by decide +kernel
theorem dX12_image_180 : decode cX12_image 180 = .ok (.aload_n 0, 1) := by decide +kernel
theorem dX12_image_181 : decode cX12_image 181 = .ok (.getfield 185, 3) := by decide +kernel
theorem dX12_image_184 : decode cX12_image 184 = .ok (.iload_n 1, 1) := by decide +kernel
theorem dX12_image_185 : decode cX12_image 185 = .ok (.aload_n 0, 1) := by decide +kernel
theorem dX12_image_186 : decode cX12_image 186 = .ok (.getfield 111, 3) := by decide +kernel
theorem dX12_image_189 : decode cX12_image 189 = .ok (.iload_n 1, 1) := by decide +kernel
theorem dX12_image_190 : decode cX12_image 190 = .ok (.iaload, 1) := by decide +kernel
theorem dX12_image_191 : decode cX12_image 191 = .ok (.iastore, 1) := by decide +kernel
theorem dX12_image_192 : decode cX12_image 192 = .ok (.iinc 1 1, 3) := by decide +kernel
theorem dX12_image_195 : decode cX12_image 195 = .ok (.goto (-20), 3) := by decide +kernel
theorem dX12_image_198 : decode cX12_image 198 = .ok (.iconst 0, 1) := by decide +kernel
theorem dX12_image_199 : decode cX12_image 199 = .ok (.istore_n 1, 1) := by decide +kernel
theorem dX12_image_200 : decode cX12_image 200 = .ok (.iload_n 1, 1) := by decide +kernel
theorem dX12_image_201 : decode cX12_image 201 = .ok (.bipush 10, 2) := by decide +kernel
theorem dX12_image_203 : decode cX12_image 203 = .ok (.if_icmp .ge 33, 3) := by decide +kernel
theorem dX12_image_206 : decode cX12_image 206 = .ok (.aload_n 0, 1) := by decide +kernel
theorem dX12_image_207 : decode cX12_image 207 = .ok (.getfield 191, 3) := by decide +kernel
theorem dX12_image_210 : decode cX12_image 210 = .ok (.iload_n 1, 1) := by decide +kernel
theorem dX12_image_211 : decode cX12_image 211 = .ok (.aload_n 0, 1) := by decide +kernel
theorem dX12_image_212 : decode cX12_image 212 = .ok (.getfield 136, 3) := by decide +kernel
theorem dX12_image_215 : decode cX12_image 215 = .ok (.iload_n 1, 1) := by decide +kernel
theorem dX12_image_216 : decode cX12_image 216 = .ok (.iaload, 1) := by decide +kernel
theorem dX12_image_217 : decode cX12_image 217 = .ok (.iastore, 1) := by decide +kernel
theorem dX12_image_218 : decode cX12_image 218 = .ok (.aload_n 0, 1) := by decide +kernel
theorem dX12_image_219 : decode cX12_image 219 = .ok (.getfield 194, 3) := by decide +kernel
theorem dX12_image_222 : decode cX12_image 222 = .ok (.iload_n 1, 1) := by decide +kernel
theorem dX12_image_223 : decode cX12_image 223 = .ok (.aload_n 0, 1) := by decide +kernel
theorem dX12_image_224 : decode cX12_image 224 = .ok (.getfield 139, 3) := by decide +kernel
theorem dX12_image_227 : decode cX12_image 227 = .ok (.iload_n 1, 1) := by decide +kernel
theorem dX12_image_228 : decode cX12_image 228 = .ok (.iaload, 1) := by decide +kernel
theorem dX12_image_229 : decode cX12_image 229 = .ok (.iastore, 1) := by decide +kernel
theorem dX12_image_230 : decode cX12_image 230 = .ok (.iinc 1 1, 3) := by decide +kernel
theorem dX12_image_233 : decode cX12_image 233 = .ok (.goto (-33), 3) := by decide +kernel
theorem dX12_image_236 : decode cX12_image 236 = .ok (.aload_n 0, 1) := by decide +kernel
theorem dX12_image_237 : decode cX12_image 237 = .ok (.getfield 7, 3) := by decide +kernel
theorem dX12_image_240 : decode cX12_image 240 = .ok (.ireturn, 1) := by decide +kernel
theorem dX12_undo_0 : decode cX12_undo 0 = .ok (.aload_n 0, 1) := by decide +kernel
theorem dX12_undo_1 : decode cX12_undo 1 = .ok (.getfield 142, 3) := by decide +kernel
theorem dX12_undo_4 : decode cX12_undo 4 = .ok (.ifCond .ne 6, 3) := by decide +kernel
theorem dX12_undo_7 : decode cX12_undo 7 = .ok (.bipush (-3), 2) := by decide +kernel
theorem dX12_undo_9 : decode cX12_undo 9 = .ok (.ireturn, 1) := by decide +kernel
theorem dX12_undo_10 : decode cX12_undo 10 = .ok (.aload_n 0, 1) := by decide +kernel
theorem dX12_undo_11 : decode cX12_undo 11 = .ok (.aload_n 0, 1) := by decide +kernel
theorem dX12_undo_12 : decode cX12_undo 12 = .ok (.getfield 146, 3) := by decide +kernel
theorem dX12_undo_15 : decode cX12_undo 15 = .ok (.putfield 41, 3) := by decide +kernel
theorem dX12_undo_18 : decode cX12_undo 18 = .ok (.aload_n 0, 1) := by decide +kernel
theorem dX12_undo_19 : decode cX12_undo 19 = .ok (.aload_n 0, 1) := by decide +kernel
theorem dX12_undo_20 : decode cX12_undo 20 = .ok (.getfield 149, 3) := by decide +kernel
theorem dX12_undo_23 : decode cX12_undo 23 = .ok (.putfield 7, 3) := by decide +kernel
theorem dX12_undo_26 : decode cX12_undo 26 = .ok (.aload_n 0, 1) := by decide +kernel
theorem dX12_undo_27 : decode cX12_undo 27 = .ok (.aload_n 0, 1) := by decide +kernel
theorem dX12_undo_28 : decode cX12_undo 28 = .ok (.getfield 152, 3) := by decide +kernel
theorem dX12_undo_31 : decode cX12_undo 31 = .ok (.putfield 13, 3) := by decide +kernel
theorem dX12_undo_34 : decode cX12_undo 34 = .ok (.aload_n 0, 1) := by decide +kernel
theorem dX12_undo_35 : decode cX12_undo 35 = .ok (.aload_n 0, 1) := by decide +kernel
theorem dX12_undo_36 : decode cX12_undo 36 = .ok (.getfield 155, 3) := by decide +kernel
theorem dX12_undo_39 : decode cX12_undo 39 = .ok (.putfield 16, 3) := by decide +kernel
theorem dX12_undo_42 : decode cX12_undo 42 = .ok (.aload_n 0, 1) := by decide +kernel
theorem dX12_undo_43 : decode cX12_undo 43 = .ok (.aload_n 0, 1) := by decide +kernel
theorem dX12_undo_44 : decode cX12_undo 44 = .ok (.getfield 158, 3) := by decide +kernel
theorem dX12_undo_47 : decode cX12_undo 47 = .ok (.putfield 108, 3) := by decide +kernel
theorem dX12_undo_50 : decode cX12_undo 50 = .ok (.aload_n 0, 1) := by decide +kernel
theorem dX12_undo_51 : decode cX12_undo 51 = .ok (.aload_n 0, 1) := by decide +kernel
theorem dX12_undo_52 : decode cX12_undo 52 = .ok (.getfield 161, 3) := by decide +kernel
theorem dX12_undo_55 : decode cX12_undo 55 = .ok (.putfield 127, 3) := by decide +kernel
theorem dX12_undo_58 : decode cX12_undo 58 = .ok (.aload_n 0, 1) := by decide +kernel
theorem dX12_undo_59 : decode cX12_undo 59 = .ok (.aload_n 0, 1) := by decide +kernel
theorem dX12_undo_60 : decode cX12_undo 60 = .ok (.getfield 164, 3) := by decide +kernel
theorem dX12_undo_63 : decode cX12_undo 63 = .ok (.putfield 133, 3) := by decide +kernel
theorem dX12_undo_66 : decode cX12_undo 66 = .ok (.iconst 0, 1) := by decide +kernel
theorem dX12_undo_67 : decode cX12_undo 67 = .ok (.istore_n 1, 1) := by decide +kernel
theorem dX12_undo_68 : decode cX12_undo 68 = .ok (.iload_n 1, 1) := by decide +kernel
theorem dX12_undo_69 : decode cX12_undo 69 = .ok (.bipush 6, 2) := by decide +kernel
theorem dX12_undo_71 : decode cX12_undo 71 = .ok (.if_icmp .ge 81, 3) := by decide +kernel
theorem dX12_undo_74 : decode cX12_undo 74 = .ok (.aload_n 0, 1) := by decide +kernel
theorem dX12_undo_75 : decode cX12_undo 75 = .ok (.getfield 19, 3) := by decide +kernel
theorem dX12_undo_78 : decode cX12_undo 78 = .ok (.iload_n 1, 1) := by decide +kernel
theorem dX12_undo_79 : decode cX12_undo 79 = .ok (.aload_n 0, 1) := by decide +kernel
theorem dX12_undo_80 : decode cX12_undo 80 = .ok (.getfield 167, 3) := by decide +kernel
theorem dX12_undo_83 : decode cX12_undo 83 = .ok (.iload_n 1, 1) := by decide +kernel
theorem dX12_undo_84 : decode cX12_undo 84 = .ok (.iaload, 1) := by decide +kernel
theorem dX12_undo_85 : decode cX12_undo 85 = .ok (.iastore, 1) := by decide +kernel
theorem dX12_undo_86 : decode cX12_undo 86 = .ok (.aload_n 0, 1) := by decide +kernel
theorem dX12_undo_87 : decode cX12_undo 87 = .ok (.getfield 23, 3) := by decide +kernel
theorem dX12_undo_90 : decode cX12_undo 90 = .ok (.iload_n 1, 1) := by decide +kernel
theorem dX12_undo_91 : decode cX12_undo 91 = .ok (.aload_n 0, 1) := by decide +kernel
theorem dX12_undo_92 : decode cX12_undo 92 = .ok (.getfield 170, 3) := by decide +kernel
theorem dX12_undo_95 : decode cX12_undo 95 = .ok (.iload_n 1, 1) := by decide +kernel
theorem dX12_undo_96 : decode cX12_undo 96 = .ok (.iaload, 1) := by decide +kernel
theorem dX12_undo_97 : decode cX12_undo 97 = .ok (.iastore, 1) := by decide +kernel
theorem dX12_undo_98 : decode cX12_undo 98 = .ok (.aload_n 0, 1) := by decide +kernel
theorem dX12_undo_99 : decode cX12_undo 99 = .ok (.getfield 26, 3) := by decide +kernel
theorem dX12_undo_102 : decode cX12_undo 102 = .ok (.iload_n 1, 1) := by decide +kernel
theorem dX12_undo_103 : decode cX12_undo 103 = .ok (.aload_n 0, 1) := by decide +kernel
theorem dX12_undo_104 : decode cX12_undo 104 = .ok (.getfield 173, 3) := by decide +kernel
theorem dX12_undo_107 : decode cX12_undo 107 = .ok (.iload_n 1, 1) := by decide +kernel
theorem dX12_undo_108 : decode cX12_undo 108 = .ok (.iaload, 1) := by decide +kernel
theorem dX12_undo_109 : decode cX12_undo 109 = .ok (.iastore, 1) := by decide +kernel
theorem dX12_undo_110 : decode cX12_undo 110 = .ok (.aload_n 0, 1) := by decide +kernel
theorem dX12_undo_111 : decode cX12_undo 111 = .ok (.getfield 29, 3) := by decide +kernel
theorem dX12_undo_114 : decode cX12_undo 114 = .ok (.iload_n 1, 1) := by decide +kernel
theorem dX12_undo_115 : decode cX12_undo 115 = .ok (.aload_n 0, 1) := by decide +kernel
theorem dX12_undo_116 : decode cX12_undo 116 = .ok (.getfield 176, 3) := by decide +kernel
theorem dX12_undo_119 : decode cX12_undo 119 = .ok (.iload_n 1, 1) := by decide +kernel
theorem dX12_undo_120 : decode cX12_undo 120 = .ok (.iaload, 1) := by decide +kernel
theorem dX12_undo_121 : decode cX12_undo 121 = .ok (.iastore, 1) := by decide +kernel
theorem dX12_undo_122 : decode cX12_undo 122 = .ok (.aload_n 0, 1) := by decide +kernel
theorem dX12_undo_123 : decode cX12_undo 123 = .ok (.getfield 32, 3) := by decide +kernel
theorem dX12_undo_126 : decode cX12_undo 126 = .ok (.iload_n 1, 1) := by decide +kernel
theorem dX12_undo_127 : decode cX12_undo 127 = .ok (.aload_n 0, 1) := by decide +kernel
theorem dX12_undo_128 : decode cX12_undo 128 = .ok (.getfield 179, 3) := by decide +kernel
theorem dX12_undo_131 : decode cX12_undo 131 = .ok (.iload_n 1, 1) := by decide +kernel
theorem dX12_undo_132 : decode cX12_undo 132 = .ok (.iaload, 1) := by decide +kernel
theorem dX12_undo_133 : decode cX12_undo 133 = .ok (.iastore, 1) := by decide +kernel
theorem dX12_undo_134 : decode cX12_undo 134 = .ok (.aload_n 0, 1) := by decide +kernel
theorem dX12_undo_135 : decode cX12_undo 135 = .ok (.getfield 130, 3) := by decide +kernel
theorem dX12_undo_138 : decode cX12_undo 138 = .ok (.iload_n 1, 1) := by decide +kernel
theorem dX12_undo_139 : decode cX12_undo 139 = .ok (.aload_n 0, 1) := by decide +kernel
theorem dX12_undo_140 : decode cX12_undo 140 = .ok (.getfield 188, 3) := by decide +kernel
theorem dX12_undo_143 : decode cX12_undo 143 = .ok (.iload_n 1, 1) := by decide +kernel
theorem dX12_undo_144 : decode cX12_undo 144 = .ok (.iaload, 1) := by decide +kernel
theorem dX12_undo_145 : decode cX12_undo 145 = .ok (.iastore, 1) := by decide +kernel
theorem dX12_undo_146 : decode cX12_undo 146 = .ok (.iinc 1 1, 3) := by decide +kernel
theorem dX12_undo_149 : decode cX12_undo 149 = .ok (.goto (-81), 3) := by decide +kernel
theorem dX12_undo_152 : decode cX12_undo 152 = .ok (.iconst 0, 1) := by decide +kernel
theorem dX12_undo_153 : decode cX12_undo 153 = .ok (.istore_n 1, 1) := by decide +kernel
theorem dX12_undo_154 : decode cX12_undo 154 = .ok (.iload_n 1, 1) := by decide +kernel
theorem dX12_undo_155 : decode cX12_undo 155 = .ok (.bipush 24, 2) := by decide +kernel
theorem dX12_undo_157 : decode cX12_undo 157 = .ok (.if_icmp .ge 21, 3) := by decide +kernel
theorem dX12_undo_160 : decode cX12_undo 160 = .ok (.aload_n 0, 1) := by decide +kernel
theorem dX12_undo_161 : decode cX12_undo 161 = .ok (.getfield 35, 3) := by decide +kernel
theorem dX12_undo_164 : decode cX12_undo 164 = .ok (.iload_n 1, 1) := by decide +kernel
theorem dX12_undo_165 : decode cX12_undo 165 = .ok (.aload_n 0, 1) := by decide +kernel
theorem dX12_undo_166 : decode cX12_undo 166 = .ok (.getfield 182, 3) := by decide +kernel
theorem dX12_undo_169 : decode cX12_undo 169 = .ok (.iload_n 1, 1) := by decide +kernel
theorem dX12_undo_170 : decode cX12_undo 170 = .ok (.iaload, 1) := by decide +kernel
theorem dX12_undo_171 : decode cX12_undo 171 = .ok (.iastore, 1) := by decide +kernel
theorem dX12_undo_172 : decode cX12_undo 172 = .ok (.iinc 1 1, 3) := by decide +kernel
theorem dX12_undo_175 : decode cX12_undo 175 = .ok (.goto (-21), 3) := by decide +kernel
theorem dX12_undo_178 : decode cX12_undo 178 = .ok (.iconst 0, 1) := by decide +kernel
theorem dX12_undo_179 : decode cX12_undo 179 = .ok (.istore_n 1, 1) := by decide +kernel
theorem dX12_undo_180 : decode cX12_undo 180 = .ok (.iload_n 1, 1) := by decide +kernel
theorem dX12_undo_181 : decode cX12_undo 181 = .ok (.iconst 4, 1) := by decide +kernel
theorem dX12_undo_182 : decode cX12_undo 182 = .ok (.if_icmp .ge 21, 3) := by decide +kernel
theorem dX12_undo_185 : decode cX12_undo 185 = .ok (.aload_n 0, 1) := by decide +kernel
theorem dX12_undo_186 : decode cX12_undo 186 = .ok (.getfield 111, 3) := by decide +kernel
theorem dX12_undo_189 : decode cX12_undo 189 = .ok (.iload_n 1, 1) := by decide +kernel
theorem dX12_undo_190 : decode cX12_undo 190 = .ok (.aload_n 0, 1) := by decide +kernel
theorem dX12_undo_191 : decode cX12_undo 191 = .ok (.getfield 185, 3) := by decide +kernel
theorem dX12_undo_194 : decode cX12_undo 194 = .ok (.iload_n 1, 1) := by decide +kernel
theorem dX12_undo_195 : decode cX12_undo 195 = .ok (.iaload, 1) := by decide +kernel
theorem dX12_undo_196 : decode cX12_undo 196 = .ok (.iastore, 1) := by decide +kernel
theorem dX12_undo_197 : decode cX12_undo 197 = .ok (.iinc 1 1, 3) := by decide +kernel
theorem dX12_undo_200 : decode cX12_undo 200 = .ok (.goto (-20), 3) := by decide +kernel
theorem dX12_undo_203 : decode cX12_undo 203 = .ok (.iconst 0, 1) := by decide +kernel
theorem dX12_undo_204 : decode cX12_undo 204 = .ok (.istore_n 1, 1) := by decide +kernel
theorem dX12_undo_205 : decode cX12_undo 205 = .ok (.iload_n 1, 1) := by decide +kernel
theorem dX12_undo_206 : decode cX12_undo 206 = .ok (.bipush 10, 2) := by decide +kernel
theorem dX12_undo_208 : decode cX12_undo 208 = .ok (.if_icmp .ge 33, 3) := by decide +kernel
theorem dX12_undo_211 : decode cX12_undo 211 = .ok (.aload_n 0, 1) := by decide +kernel
theorem dX12_undo_212 : decode cX12_undo 212 = .ok (.getfield 136, 3) := by decide +kernel
theorem dX12_undo_215 : decode cX12_undo 215 = .ok (.iload_n 1, 1) := by decide +kernel
theorem dX12_undo_216 : decode cX12_undo 216 = .ok (.aload_n 0, 1) := by decide +kernel
theorem dX12_undo_217 : decode cX12_undo 217 = .ok (.getfield 191, 3) := by decide +kernel
theorem dX12_undo_220 : decode cX12_undo 220 = .ok (.iload_n 1, 1) := by decide +kernel
theorem dX12_undo_221 : decode cX12_undo 221 = .ok (.iaload, 1) := by decide +kernel
theorem dX12_undo_222 : decode cX12_undo 222 = .ok (.iastore, 1) := by decide +kernel
theorem dX12_undo_223 : decode cX12_undo 223 = .ok (.aload_n 0, 1) := by decide +kernel
theorem dX12_undo_224 : decode cX12_undo 224 = .ok (.getfield 139, 3) := by decide +kernel
theorem dX12_undo_227 : decode cX12_undo 227 = .ok (.iload_n 1, 1) := by decide +kernel
theorem dX12_undo_228 : decode cX12_undo 228 = .ok (.aload_n 0, 1) := by decide +kernel
theorem dX12_undo_229 : decode cX12_undo 229 = .ok (.getfield 194, 3) := by decide +kernel
theorem dX12_undo_232 : decode cX12_undo 232 = .ok (.iload_n 1, 1) := by decide +kernel
theorem dX12_undo_233 : decode cX12_undo 233 = .ok (.iaload, 1) := by decide +kernel
theorem dX12_undo_234 : decode cX12_undo 234 = .ok (.iastore, 1) := by decide +kernel
theorem dX12_undo_235 : decode cX12_undo 235 = .ok (.iinc 1 1, 3) := by decide +kernel
theorem dX12_undo_238 : decode cX12_undo 238 = .ok (.goto (-33), 3) := by decide +kernel
theorem dX12_undo_241 : decode cX12_undo 241 = .ok (.aload_n 0, 1) := by decide +kernel
theorem dX12_undo_242 : decode cX12_undo 242 = .ok (.getfield 7, 3) := by decide +kernel
theorem dX12_undo_245 : decode cX12_undo 245 = .ok (.ireturn, 1) := by decide +kernel
theorem dX12_body_0 : decode cX12_body 0 = .ok (.aload_n 0, 1) := by decide +kernel
theorem dX12_body_1 : decode cX12_body 1 = .ok (.getfield 197, 3) := by decide +kernel
theorem dX12_body_4 : decode cX12_body 4 = .ok (.bipush 20, 2) := by decide +kernel
theorem dX12_body_6 : decode cX12_body 6 = .ok (.if_icmp .ge 13, 3) := by decide +kernel
theorem dX12_body_9 : decode cX12_body 9 = .ok (.aload_n 0, 1) := by decide +kernel
theorem dX12_body_10 : decode cX12_body 10 = .ok (.getfield 200, 3) := by decide +kernel
theorem dX12_body_13 : decode cX12_body 13 = .ok (.aload_n 0, 1) := by decide +kernel
theorem dX12_body_14 : decode cX12_body 14 = .ok (.getfield 197, 3) := by decide +kernel
theorem dX12_body_17 : decode cX12_body 17 = .ok (.iload_n 1, 1) := by decide +kernel
theorem dX12_body_18 : decode cX12_body 18 = .ok (.iastore, 1) := by decide +kernel
theorem dX12_body_19 : decode cX12_body 19 = .ok (.aload_n 0, 1) := by decide +kernel
theorem dX12_body_20 : decode cX12_body 20 = .ok (.dup, 1) := by decide +kernel
theorem dX12_body_21 : decode cX12_body 21 = .ok (.getfield 197, 3) := by decide +kernel
theorem dX12_body_24 : decode cX12_body 24 = .ok (.iconst 1, 1) := by decide +kernel
theorem dX12_body_25 : decode cX12_body 25 = .ok (.iadd, 1) := by decide +kernel
theorem dX12_body_26 : decode cX12_body 26 = .ok (.putfield 197, 3) := by decide +kernel
theorem dX12_body_29 : decode cX12_body 29 = .ok (.return_, 1) := by decide +kernel
theorem dX12_shooterAims_0 : decode cX12_shooterAims 0 = .ok (.aload_n 0, 1) := by decide +kernel
theorem dX12_shooterAims_1 : decode cX12_shooterAims 1 = .ok (.bipush 10, 2) := by decide +kernel
theorem dX12_shooterAims_3 : decode cX12_shooterAims 3 = .ok (.invokevirtual 380, 3) := by decide +kernel
theorem dX12_shooterAims_6 : decode cX12_shooterAims 6 = .ok (.iload_n 2, 1) := by decide +kernel
theorem dX12_shooterAims_7 : decode cX12_shooterAims 7 = .ok (.iload_n 1, 1) := by decide +kernel
theorem dX12_shooterAims_8 : decode cX12_shooterAims 8 = .ok (.iadd, 1) := by decide +kernel
theorem dX12_shooterAims_9 : decode cX12_shooterAims 9 = .ok (.ireturn, 1) := by decide +kernel
theorem dX12_aimsAct_0 : decode cX12_aimsAct 0 = .ok (.aload_n 0, 1) := by decide +kernel
theorem dX12_aimsAct_1 : decode cX12_aimsAct 1 = .ok (.getfield 19, 3) := by decide +kernel
theorem dX12_aimsAct_4 : decode cX12_aimsAct 4 = .ok (.iload_n 1, 1) := by decide +kernel
theorem dX12_aimsAct_5 : decode cX12_aimsAct 5 = .ok (.iaload, 1) := by decide +kernel
theorem dX12_aimsAct_6 : decode cX12_aimsAct 6 = .ok (.tableswitch 83 2 6 #[34, 83, 49, 34, 63], 34) := by decide +kernel
theorem dX12_aimsAct_40 : decode cX12_aimsAct 40 = .ok (.aload_n 0, 1) := by decide +kernel
theorem dX12_aimsAct_41 : decode cX12_aimsAct 41 = .ok (.bipush 30, 2) := by decide +kernel
theorem dX12_aimsAct_43 : decode cX12_aimsAct 43 = .ok (.invokevirtual 380, 3) := by decide +kernel
theorem dX12_aimsAct_46 : decode cX12_aimsAct 46 = .ok (.aload_n 0, 1) := by decide +kernel
theorem dX12_aimsAct_47 : decode cX12_aimsAct 47 = .ok (.iload_n 1, 1) := by decide +kernel
theorem dX12_aimsAct_48 : decode cX12_aimsAct 48 = .ok (.iload_n 2, 1) := by decide +kernel
theorem dX12_aimsAct_49 : decode cX12_aimsAct 49 = .ok (.iconst 3, 1) := by decide +kernel
theorem dX12_aimsAct_50 : decode cX12_aimsAct 50 = .ok (.imul, 1) := by decide +kernel
theorem dX12_aimsAct_51 : decode cX12_aimsAct 51 = .ok (.invokevirtual 383, 3) := by decide +kernel
theorem dX12_aimsAct_54 : decode cX12_aimsAct 54 = .ok (.ireturn, 1) := by decide +kernel
theorem dX12_aimsAct_55 : decode cX12_aimsAct 55 = .ok (.aload_n 0, 1) := by decide +kernel
theorem dX12_aimsAct_56 : decode cX12_aimsAct 56 = .ok (.bipush 50, 2) := by decide +kernel
theorem dX12_aimsAct_58 : decode cX12_aimsAct 58 = .ok (.invokevirtual 380, 3) := by decide +kernel
theorem dX12_aimsAct_61 : decode cX12_aimsAct 61 = .ok (.aload_n 0, 1) := by decide +kernel
theorem dX12_aimsAct_62 : decode cX12_aimsAct 62 = .ok (.iload_n 1, 1) := by decide +kernel
theorem dX12_aimsAct_63 : decode cX12_aimsAct 63 = .ok (.iload_n 2, 1) := by decide +kernel
theorem dX12_aimsAct_64 : decode cX12_aimsAct 64 = .ok (.invokevirtual 383, 3) := by decide +kernel
theorem dX12_aimsAct_67 : decode cX12_aimsAct 67 = .ok (.ineg, 1) := by decide +kernel
theorem dX12_aimsAct_68 : decode cX12_aimsAct 68 = .ok (.ireturn, 1) := by decide +kernel
theorem dX12_aimsAct_69 : decode cX12_aimsAct 69 = .ok (.aload_n 0, 1) := by decide +kernel
theorem dX12_aimsAct_70 : decode cX12_aimsAct 70 = .ok (.bipush 71, 2) := by decide +kernel
theorem dX12_aimsAct_72 : decode cX12_aimsAct 72 = .ok (.invokevirtual 380, 3) := by decide +kernel
theorem dX12_aimsAct_75 : decode cX12_aimsAct 75 = .ok (.aload_n 0, 1) := by decide +kernel
theorem dX12_aimsAct_76 : decode cX12_aimsAct 76 = .ok (.iload_n 1, 1) := by decide +kernel
theorem dX12_aimsAct_77 : decode cX12_aimsAct 77 = .ok (.iload_n 2, 1) := by decide +kernel
theorem dX12_aimsAct_78 : decode cX12_aimsAct 78 = .ok (.invokevirtual 383, 3) := by decide +kernel
theorem dX12_aimsAct_81 : decode cX12_aimsAct 81 = .ok (.aload_n 0, 1) := by decide +kernel
theorem dX12_aimsAct_82 : decode cX12_aimsAct 82 = .ok (.getfield 23, 3) := by decide +kernel
theorem dX12_aimsAct_85 : decode cX12_aimsAct 85 = .ok (.iload_n 1, 1) := by decide +kernel
theorem dX12_aimsAct_86 : decode cX12_aimsAct 86 = .ok (.iaload, 1) := by decide +kernel
theorem dX12_aimsAct_87 : decode cX12_aimsAct 87 = .ok (.ixor, 1) := by decide +kernel
theorem dX12_aimsAct_88 : decode cX12_aimsAct 88 = .ok (.ireturn, 1) := by decide +kernel
theorem dX12_aimsAct_89 : decode cX12_aimsAct 89 = .ok (.aload_n 0, 1) := by decide +kernel
theorem dX12_aimsAct_90 : decode cX12_aimsAct 90 = .ok (.iload_n 1, 1) := by decide +kernel
theorem dX12_aimsAct_91 : decode cX12_aimsAct 91 = .ok (.iload_n 2, 1) := by decide +kernel
theorem dX12_aimsAct_92 : decode cX12_aimsAct 92 = .ok (.invokevirtual 383, 3) := by decide +kernel
theorem dX12_aimsAct_95 : decode cX12_aimsAct 95 = .ok (.ireturn, 1) := by decide +kernel
theorem dX12_shooterShows_0 : decode cX12_shooterShows 0 = .ok (.aload_n 0, 1) := by decide +kernel
theorem dX12_shooterShows_1 : decode cX12_shooterShows 1 = .ok (.bipush 11, 2) := by decide +kernel
theorem dX12_shooterShows_3 : decode cX12_shooterShows 3 = .ok (.invokevirtual 380, 3) := by decide +kernel
theorem dX12_shooterShows_6 : decode cX12_shooterShows 6 = .ok (.aload_n 0, 1) := by decide +kernel
theorem dX12_shooterShows_7 : decode cX12_shooterShows 7 = .ok (.iload_n 1, 1) := by decide +kernel
theorem dX12_shooterShows_8 : decode cX12_shooterShows 8 = .ok (.iload_n 2, 1) := by decide +kernel
theorem dX12_shooterShows_9 : decode cX12_shooterShows 9 = .ok (.invokevirtual 386, 3) := by decide +kernel
theorem dX12_shooterShows_12 : decode cX12_shooterShows 12 = .ok (.aload_n 0, 1) := by decide +kernel
theorem dX12_shooterShows_13 : decode cX12_shooterShows 13 = .ok (.getfield 23, 3) := by decide +kernel
theorem dX12_shooterShows_16 : decode cX12_shooterShows 16 = .ok (.iload_n 1, 1) := by decide +kernel
theorem dX12_shooterShows_17 : decode cX12_shooterShows 17 = .ok (.iaload, 1) := by decide +kernel
theorem dX12_shooterShows_18 : decode cX12_shooterShows 18 = .ok (.isub, 1) := by decide +kernel
theorem dX12_shooterShows_19 : decode cX12_shooterShows 19 = .ok (.ireturn, 1) := by decide +kernel
theorem dX12_turnedShows_0 : decode cX12_turnedShows 0 = .ok (.aload_n 0, 1) := by decide +kernel
theorem dX12_turnedShows_1 : decode cX12_turnedShows 1 = .ok (.bipush 20, 2) := by decide +kernel
theorem dX12_turnedShows_3 : decode cX12_turnedShows 3 = .ok (.invokevirtual 380, 3) := by decide +kernel
theorem dX12_turnedShows_6 : decode cX12_turnedShows 6 = .ok (.aload_n 0, 1) := by decide +kernel
theorem dX12_turnedShows_7 : decode cX12_turnedShows 7 = .ok (.iload_n 1, 1) := by decide +kernel
theorem dX12_turnedShows_8 : decode cX12_turnedShows 8 = .ok (.iload_n 2, 1) := by decide +kernel
theorem dX12_turnedShows_9 : decode cX12_turnedShows 9 = .ok (.invokevirtual 389, 3) := by decide +kernel
theorem dX12_turnedShows_12 : decode cX12_turnedShows 12 = .ok (.bipush 6, 2) := by decide +kernel
theorem dX12_turnedShows_14 : decode cX12_turnedShows 14 = .ok (.ixor, 1) := by decide +kernel
theorem dX12_turnedShows_15 : decode cX12_turnedShows 15 = .ok (.ireturn, 1) := by decide +kernel
theorem dX12_showsAct_0 : decode cX12_showsAct 0 = .ok (.aload_n 0, 1) := by decide +kernel
theorem dX12_showsAct_1 : decode cX12_showsAct 1 = .ok (.getfield 19, 3) := by decide +kernel
theorem dX12_showsAct_4 : decode cX12_showsAct 4 = .ok (.iload_n 1, 1) := by decide +kernel
theorem dX12_showsAct_5 : decode cX12_showsAct 5 = .ok (.iaload, 1) := by decide +kernel
theorem dX12_showsAct_6 : decode cX12_showsAct 6 = .ok (.lookupswitch 78 #[(1, 34), (4, 41), (6, 56)], 34) := by decide +kernel
theorem dX12_showsAct_40 : decode cX12_showsAct 40 = .ok (.aload_n 0, 1) := by decide +kernel
theorem dX12_showsAct_41 : decode cX12_showsAct 41 = .ok (.iload_n 1, 1) := by decide +kernel
theorem dX12_showsAct_42 : decode cX12_showsAct 42 = .ok (.iload_n 2, 1) := by decide +kernel
theorem dX12_showsAct_43 : decode cX12_showsAct 43 = .ok (.invokevirtual 392, 3) := by decide +kernel
theorem dX12_showsAct_46 : decode cX12_showsAct 46 = .ok (.ireturn, 1) := by decide +kernel
theorem dX12_showsAct_47 : decode cX12_showsAct 47 = .ok (.aload_n 0, 1) := by decide +kernel
theorem dX12_showsAct_48 : decode cX12_showsAct 48 = .ok (.bipush 51, 2) := by decide +kernel
theorem dX12_showsAct_50 : decode cX12_showsAct 50 = .ok (.invokevirtual 380, 3) := by decide +kernel
theorem dX12_showsAct_53 : decode cX12_showsAct 53 = .ok (.aload_n 0, 1) := by decide +kernel
theorem dX12_showsAct_54 : decode cX12_showsAct 54 = .ok (.iload_n 1, 1) := by decide +kernel
theorem dX12_showsAct_55 : decode cX12_showsAct 55 = .ok (.iload_n 2, 1) := by decide +kernel
theorem dX12_showsAct_56 : decode cX12_showsAct 56 = .ok (.iconst 1, 1) := by decide +kernel
theorem dX12_showsAct_57 : decode cX12_showsAct 57 = .ok (.iadd, 1) := by decide +kernel
theorem dX12_showsAct_58 : decode cX12_showsAct 58 = .ok (.invokevirtual 392, 3) := by decide +kernel
theorem dX12_showsAct_61 : decode cX12_showsAct 61 = .ok (.ireturn, 1) := by decide +kernel
theorem dX12_showsAct_62 : decode cX12_showsAct 62 = .ok (.aload_n 0, 1) := by decide +kernel
theorem dX12_showsAct_63 : decode cX12_showsAct 63 = .ok (.bipush 70, 2) := by decide +kernel
theorem dX12_showsAct_65 : decode cX12_showsAct 65 = .ok (.invokevirtual 380, 3) := by decide +kernel
theorem dX12_showsAct_68 : decode cX12_showsAct 68 = .ok (.aload_n 0, 1) := by decide +kernel
theorem dX12_showsAct_69 : decode cX12_showsAct 69 = .ok (.iload_n 1, 1) := by decide +kernel
theorem dX12_showsAct_70 : decode cX12_showsAct 70 = .ok (.iload_n 2, 1) := by decide +kernel
theorem dX12_showsAct_71 : decode cX12_showsAct 71 = .ok (.invokevirtual 389, 3) := by decide +kernel
theorem dX12_showsAct_74 : decode cX12_showsAct 74 = .ok (.istore_n 3, 1) := by decide +kernel
theorem dX12_showsAct_75 : decode cX12_showsAct 75 = .ok (.iload_n 3, 1) := by decide +kernel
theorem dX12_showsAct_76 : decode cX12_showsAct 76 = .ok (.aload_n 0, 1) := by decide +kernel
theorem dX12_showsAct_77 : decode cX12_showsAct 77 = .ok (.iload_n 1, 1) := by decide +kernel
theorem dX12_showsAct_78 : decode cX12_showsAct 78 = .ok (.iconst 2, 1) := by decide +kernel
theorem dX12_showsAct_79 : decode cX12_showsAct 79 = .ok (.invokevirtual 383, 3) := by decide +kernel
theorem dX12_showsAct_82 : decode cX12_showsAct 82 = .ok (.iadd, 1) := by decide +kernel
theorem dX12_showsAct_83 : decode cX12_showsAct 83 = .ok (.ireturn, 1) := by decide +kernel
theorem dX12_showsAct_84 : decode cX12_showsAct 84 = .ok (.aload_n 0, 1) := by decide +kernel
theorem dX12_showsAct_85 : decode cX12_showsAct 85 = .ok (.iload_n 1, 1) := by decide +kernel
theorem dX12_showsAct_86 : decode cX12_showsAct 86 = .ok (.iload_n 2, 1) := by decide +kernel
theorem dX12_showsAct_87 : decode cX12_showsAct 87 = .ok (.invokevirtual 389, 3) := by decide +kernel
theorem dX12_showsAct_90 : decode cX12_showsAct 90 = .ok (.ireturn, 1) := by decide +kernel
theorem dX12_shooterTells_0 : decode cX12_shooterTells 0 = .ok (.aload_n 0, 1) := by decide +kernel
theorem dX12_shooterTells_1 : decode cX12_shooterTells 1 = .ok (.bipush 12, 2) := by decide +kernel
theorem dX12_shooterTells_3 : decode cX12_shooterTells 3 = .ok (.invokevirtual 380, 3) := by decide +kernel
theorem dX12_shooterTells_6 : decode cX12_shooterTells 6 = .ok (.aload_n 0, 1) := by decide +kernel
theorem dX12_shooterTells_7 : decode cX12_shooterTells 7 = .ok (.iload_n 1, 1) := by decide +kernel
theorem dX12_shooterTells_8 : decode cX12_shooterTells 8 = .ok (.iload_n 2, 1) := by decide +kernel
theorem dX12_shooterTells_9 : decode cX12_shooterTells 9 = .ok (.invokevirtual 395, 3) := by decide +kernel
theorem dX12_shooterTells_12 : decode cX12_shooterTells 12 = .ok (.iconst 2, 1) := by decide +kernel
theorem dX12_shooterTells_13 : decode cX12_shooterTells 13 = .ok (.imul, 1) := by decide +kernel
theorem dX12_shooterTells_14 : decode cX12_shooterTells 14 = .ok (.ireturn, 1) := by decide +kernel
theorem dX12_tellsAct_0 : decode cX12_tellsAct 0 = .ok (.aload_n 0, 1) := by decide +kernel
theorem dX12_tellsAct_1 : decode cX12_tellsAct 1 = .ok (.getfield 19, 3) := by decide +kernel
theorem dX12_tellsAct_4 : decode cX12_tellsAct 4 = .ok (.iload_n 1, 1) := by decide +kernel
theorem dX12_tellsAct_5 : decode cX12_tellsAct 5 = .ok (.iaload, 1) := by decide +kernel
theorem dX12_tellsAct_6 : decode cX12_tellsAct 6 = .ok (.tableswitch 67 3 6 #[30, 67, 52, 30], 30) := by decide +kernel
theorem dX12_tellsAct_36 : decode cX12_tellsAct 36 = .ok (.aload_n 0, 1) := by decide +kernel
theorem dX12_tellsAct_37 : decode cX12_tellsAct 37 = .ok (.bipush 40, 2) := by decide +kernel
theorem dX12_tellsAct_39 : decode cX12_tellsAct 39 = .ok (.invokevirtual 380, 3) := by decide +kernel
theorem dX12_tellsAct_42 : decode cX12_tellsAct 42 = .ok (.aload_n 0, 1) := by decide +kernel
theorem dX12_tellsAct_43 : decode cX12_tellsAct 43 = .ok (.iload_n 1, 1) := by decide +kernel
theorem dX12_tellsAct_44 : decode cX12_tellsAct 44 = .ok (.iload_n 2, 1) := by decide +kernel
theorem dX12_tellsAct_45 : decode cX12_tellsAct 45 = .ok (.invokevirtual 398, 3) := by decide +kernel
theorem dX12_tellsAct_48 : decode cX12_tellsAct 48 = .ok (.istore_n 3, 1) := by decide +kernel
theorem dX12_tellsAct_49 : decode cX12_tellsAct 49 = .ok (.iload_n 3, 1) := by decide +kernel
theorem dX12_tellsAct_50 : decode cX12_tellsAct 50 = .ok (.aload_n 0, 1) := by decide +kernel
theorem dX12_tellsAct_51 : decode cX12_tellsAct 51 = .ok (.iload_n 1, 1) := by decide +kernel
theorem dX12_tellsAct_52 : decode cX12_tellsAct 52 = .ok (.iconst 1, 1) := by decide +kernel
theorem dX12_tellsAct_53 : decode cX12_tellsAct 53 = .ok (.invokevirtual 395, 3) := by decide +kernel
theorem dX12_tellsAct_56 : decode cX12_tellsAct 56 = .ok (.iadd, 1) := by decide +kernel
theorem dX12_tellsAct_57 : decode cX12_tellsAct 57 = .ok (.ireturn, 1) := by decide +kernel
theorem dX12_tellsAct_58 : decode cX12_tellsAct 58 = .ok (.aload_n 0, 1) := by decide +kernel
theorem dX12_tellsAct_59 : decode cX12_tellsAct 59 = .ok (.bipush 60, 2) := by decide +kernel
theorem dX12_tellsAct_61 : decode cX12_tellsAct 61 = .ok (.invokevirtual 380, 3) := by decide +kernel
theorem dX12_tellsAct_64 : decode cX12_tellsAct 64 = .ok (.aload_n 0, 1) := by decide +kernel
theorem dX12_tellsAct_65 : decode cX12_tellsAct 65 = .ok (.iload_n 1, 1) := by decide +kernel
theorem dX12_tellsAct_66 : decode cX12_tellsAct 66 = .ok (.iload_n 2, 1) := by decide +kernel
theorem dX12_tellsAct_67 : decode cX12_tellsAct 67 = .ok (.iload_n 1, 1) := by decide +kernel
theorem dX12_tellsAct_68 : decode cX12_tellsAct 68 = .ok (.isub, 1) := by decide +kernel
theorem dX12_tellsAct_69 : decode cX12_tellsAct 69 = .ok (.invokevirtual 398, 3) := by decide +kernel
theorem dX12_tellsAct_72 : decode cX12_tellsAct 72 = .ok (.ireturn, 1) := by decide +kernel
theorem dX12_tellsAct_73 : decode cX12_tellsAct 73 = .ok (.aload_n 0, 1) := by decide +kernel
theorem dX12_tellsAct_74 : decode cX12_tellsAct 74 = .ok (.iload_n 1, 1) := by decide +kernel
theorem dX12_tellsAct_75 : decode cX12_tellsAct 75 = .ok (.iload_n 2, 1) := by decide +kernel
theorem dX12_tellsAct_76 : decode cX12_tellsAct 76 = .ok (.invokevirtual 398, 3) := by decide +kernel
theorem dX12_tellsAct_79 : decode cX12_tellsAct 79 = .ok (.ireturn, 1) := by decide +kernel
theorem dX12_act_0 : decode cX12_act 0 = .ok (.aload_n 0, 1) := by decide +kernel
theorem dX12_act_1 : decode cX12_act 1 = .ok (.iconst 0, 1) := by decide +kernel
theorem dX12_act_2 : decode cX12_act 2 = .ok (.putfield 197, 3) := by decide +kernel
theorem dX12_act_5 : decode cX12_act 5 = .ok (.aload_n 0, 1) := by decide +kernel
theorem dX12_act_6 : decode cX12_act 6 = .ok (.iload_n 1, 1) := by decide +kernel
theorem dX12_act_7 : decode cX12_act 7 = .ok (.invokevirtual 219, 3) := by decide +kernel
theorem dX12_act_10 : decode cX12_act 10 = .ok (.ifCond .eq 13, 3) := by decide +kernel
theorem dX12_act_13 : decode cX12_act 13 = .ok (.aload_n 0, 1) := by decide +kernel
theorem dX12_act_14 : decode cX12_act 14 = .ok (.iload_n 2, 1) := by decide +kernel
theorem dX12_act_15 : decode cX12_act 15 = .ok (.iconst 0, 1) := by decide +kernel
theorem dX12_act_16 : decode cX12_act 16 = .ok (.iconst 2, 1) := by decide +kernel
theorem dX12_act_17 : decode cX12_act 17 = .ok (.invokevirtual 215, 3) := by decide +kernel
theorem dX12_act_20 : decode cX12_act 20 = .ok (.ifCond .ne 5, 3) := by decide +kernel
theorem dX12_act_23 : decode cX12_act 23 = .ok (.iconst 0, 1) := by decide +kernel
theorem dX12_act_24 : decode cX12_act 24 = .ok (.ireturn, 1) := by decide +kernel
theorem dX12_act_25 : decode cX12_act 25 = .ok (.iload_n 2, 1) := by decide +kernel
theorem dX12_act_26 : decode cX12_act 26 = .ok (.ifCond .ne 12, 3) := by decide +kernel
theorem dX12_act_29 : decode cX12_act 29 = .ok (.aload_n 0, 1) := by decide +kernel
theorem dX12_act_30 : decode cX12_act 30 = .ok (.iload_n 1, 1) := by decide +kernel
theorem dX12_act_31 : decode cX12_act 31 = .ok (.iload_n 3, 1) := by decide +kernel
theorem dX12_act_32 : decode cX12_act 32 = .ok (.invokevirtual 386, 3) := by decide +kernel
theorem dX12_act_35 : decode cX12_act 35 = .ok (.goto 23, 3) := by decide +kernel
theorem dX12_act_38 : decode cX12_act 38 = .ok (.iload_n 2, 1) := by decide +kernel
theorem dX12_act_39 : decode cX12_act 39 = .ok (.iconst 1, 1) := by decide +kernel
theorem dX12_act_40 : decode cX12_act 40 = .ok (.if_icmp .ne 12, 3) := by decide +kernel
theorem dX12_act_43 : decode cX12_act 43 = .ok (.aload_n 0, 1) := by decide +kernel
theorem dX12_act_44 : decode cX12_act 44 = .ok (.iload_n 1, 1) := by decide +kernel
theorem dX12_act_45 : decode cX12_act 45 = .ok (.iload_n 3, 1) := by decide +kernel
theorem dX12_act_46 : decode cX12_act 46 = .ok (.invokevirtual 395, 3) := by decide +kernel
theorem dX12_act_49 : decode cX12_act 49 = .ok (.goto 9, 3) := by decide +kernel
theorem dX12_act_52 : decode cX12_act 52 = .ok (.aload_n 0, 1) := by decide +kernel
theorem dX12_act_53 : decode cX12_act 53 = .ok (.iload_n 1, 1) := by decide +kernel
theorem dX12_act_54 : decode cX12_act 54 = .ok (.iload_n 3, 1) := by decide +kernel
theorem dX12_act_55 : decode cX12_act 55 = .ok (.invokevirtual 401, 3) := by decide +kernel
theorem dX12_act_58 : decode cX12_act 58 = .ok (.ireturn, 1) := by decide +kernel
theorem dX12_trace_0 : decode cX12_trace 0 = .ok (.aload_n 0, 1) := by decide +kernel
theorem dX12_trace_1 : decode cX12_trace 1 = .ok (.iload_n 1, 1) := by decide +kernel
theorem dX12_trace_2 : decode cX12_trace 2 = .ok (.iconst 0, 1) := by decide +kernel
theorem dX12_trace_3 : decode cX12_trace 3 = .ok (.bipush 19, 2) := by decide +kernel
theorem dX12_trace_5 : decode cX12_trace 5 = .ok (.invokevirtual 215, 3) := by decide +kernel
theorem dX12_trace_8 : decode cX12_trace 8 = .ok (.ifCond .eq 20, 3) := by decide +kernel
theorem dX12_trace_11 : decode cX12_trace 11 = .ok (.iload_n 1, 1) := by decide +kernel
theorem dX12_trace_12 : decode cX12_trace 12 = .ok (.aload_n 0, 1) := by decide +kernel
theorem dX12_trace_13 : decode cX12_trace 13 = .ok (.getfield 197, 3) := by decide +kernel
theorem dX12_trace_16 : decode cX12_trace 16 = .ok (.if_icmp .ge 12, 3) := by decide +kernel
theorem dX12_trace_19 : decode cX12_trace 19 = .ok (.aload_n 0, 1) := by decide +kernel
theorem dX12_trace_20 : decode cX12_trace 20 = .ok (.getfield 200, 3) := by decide +kernel
theorem dX12_trace_23 : decode cX12_trace 23 = .ok (.iload_n 1, 1) := by decide +kernel
theorem dX12_trace_24 : decode cX12_trace 24 = .ok (.iaload, 1) := by decide +kernel
theorem dX12_trace_25 : decode cX12_trace 25 = .ok (.goto 4, 3) := by decide +kernel
theorem dX12_trace_28 : decode cX12_trace 28 = .ok (.iconst (-1), 1) := by decide +kernel
theorem dX12_trace_29 : decode cX12_trace 29 = .ok (.ireturn, 1) := by decide +kernel
theorem dX12_taken_0 : decode cX12_taken 0 = .ok (.aload_n 0, 1) := by decide +kernel
theorem dX12_taken_1 : decode cX12_taken 1 = .ok (.iload_n 2, 1) := by decide +kernel
theorem dX12_taken_2 : decode cX12_taken 2 = .ok (.iconst 0, 1) := by decide +kernel
theorem dX12_taken_3 : decode cX12_taken 3 = .ok (.bipush 6, 2) := by decide +kernel
theorem dX12_taken_5 : decode cX12_taken 5 = .ok (.invokevirtual 215, 3) := by decide +kernel
theorem dX12_taken_8 : decode cX12_taken 8 = .ok (.ifCond .ne 6, 3) := by decide +kernel
theorem dX12_taken_11 : decode cX12_taken 11 = .ok (.bipush (-2), 2) := by decide +kernel
theorem dX12_taken_13 : decode cX12_taken 13 = .ok (.ireturn, 1) := by decide +kernel
theorem dX12_taken_14 : decode cX12_taken 14 = .ok (.aload_n 0, 1) := by decide +kernel
theorem dX12_taken_15 : decode cX12_taken 15 = .ok (.iload_n 1, 1) := by decide +kernel
theorem dX12_taken_16 : decode cX12_taken 16 = .ok (.invokevirtual 219, 3) := by decide +kernel
theorem dX12_taken_19 : decode cX12_taken 19 = .ok (.ifCond .ne 6, 3) := by decide +kernel
theorem dX12_taken_22 : decode cX12_taken 22 = .ok (.bipush (-11), 2) := by decide +kernel
theorem dX12_taken_24 : decode cX12_taken 24 = .ok (.ireturn, 1) := by decide +kernel
theorem dX12_taken_25 : decode cX12_taken 25 = .ok (.aload_n 0, 1) := by decide +kernel
theorem dX12_taken_26 : decode cX12_taken 26 = .ok (.getfield 19, 3) := by decide +kernel
theorem dX12_taken_29 : decode cX12_taken 29 = .ok (.iload_n 1, 1) := by decide +kernel
theorem dX12_taken_30 : decode cX12_taken 30 = .ok (.iaload, 1) := by decide +kernel
theorem dX12_taken_31 : decode cX12_taken 31 = .ok (.istore_n 3, 1) := by decide +kernel
theorem dX12_taken_32 : decode cX12_taken 32 = .ok (.iload_n 2, 1) := by decide +kernel
theorem dX12_taken_33 : decode cX12_taken 33 = .ok (.ifCond .eq 39, 3) := by decide +kernel
theorem dX12_taken_36 : decode cX12_taken 36 = .ok (.iload_n 3, 1) := by decide +kernel
theorem dX12_taken_37 : decode cX12_taken 37 = .ok (.iload_n 2, 1) := by decide +kernel
theorem dX12_taken_38 : decode cX12_taken 38 = .ok (.if_icmp .eq 34, 3) := by decide +kernel
theorem dX12_taken_41 : decode cX12_taken 41 = .ok (.iload_n 2, 1) := by decide +kernel
theorem dX12_taken_42 : decode cX12_taken 42 = .ok (.iconst 1, 1) := by decide +kernel
theorem dX12_taken_43 : decode cX12_taken 43 = .ok (.if_icmp .ne 8, 3) := by decide +kernel
theorem dX12_taken_46 : decode cX12_taken 46 = .ok (.iload_n 3, 1) := by decide +kernel
theorem dX12_taken_47 : decode cX12_taken 47 = .ok (.iconst 4, 1) := by decide +kernel
theorem dX12_taken_48 : decode cX12_taken 48 = .ok (.if_icmp .eq 24, 3) := by decide +kernel
theorem dX12_taken_51 : decode cX12_taken 51 = .ok (.iload_n 2, 1) := by decide +kernel
theorem dX12_taken_52 : decode cX12_taken 52 = .ok (.iconst 2, 1) := by decide +kernel
theorem dX12_taken_53 : decode cX12_taken 53 = .ok (.if_icmp .ne 8, 3) := by decide +kernel
theorem dX12_taken_56 : decode cX12_taken 56 = .ok (.iload_n 3, 1) := by decide +kernel
theorem dX12_taken_57 : decode cX12_taken 57 = .ok (.iconst 5, 1) := by decide +kernel
theorem dX12_taken_58 : decode cX12_taken 58 = .ok (.if_icmp .eq 14, 3) := by decide +kernel
theorem dX12_taken_61 : decode cX12_taken 61 = .ok (.iload_n 2, 1) := by decide +kernel
theorem dX12_taken_62 : decode cX12_taken 62 = .ok (.iconst 3, 1) := by decide +kernel
theorem dX12_taken_63 : decode cX12_taken 63 = .ok (.if_icmp .ne 13, 3) := by decide +kernel
theorem dX12_taken_66 : decode cX12_taken 66 = .ok (.iload_n 3, 1) := by decide +kernel
theorem dX12_taken_67 : decode cX12_taken 67 = .ok (.bipush 6, 2) := by decide +kernel
theorem dX12_taken_69 : decode cX12_taken 69 = .ok (.if_icmp .ne 7, 3) := by decide +kernel
theorem dX12_taken_72 : decode cX12_taken 72 = .ok (.iload_n 3, 1) := by decide +kernel
theorem dX12_taken_73 : decode cX12_taken 73 = .ok (.goto 5, 3) := by decide +kernel
theorem dX12_taken_76 : decode cX12_taken 76 = .ok (.bipush (-12), 2) := by decide +kernel
theorem dX12_taken_78 : decode cX12_taken 78 = .ok (.ireturn, 1) := by decide +kernel
theorem dX12_count_0 : decode cX12_count 0 = .ok (.iload_n 1, 1) := by decide +kernel
theorem dX12_count_1 : decode cX12_count 1 = .ok (.tableswitch 78 0 6 #[43, 48, 53, 58, 63, 68, 73], 43) := by decide +kernel
theorem dX12_count_44 : decode cX12_count 44 = .ok (.aload_n 0, 1) := by decide +kernel
theorem dX12_count_45 : decode cX12_count 45 = .ok (.getfield 7, 3) := by decide +kernel
theorem dX12_count_48 : decode cX12_count 48 = .ok (.ireturn, 1) := by decide +kernel
theorem dX12_count_49 : decode cX12_count 49 = .ok (.aload_n 0, 1) := by decide +kernel
theorem dX12_count_50 : decode cX12_count 50 = .ok (.getfield 38, 3) := by decide +kernel
theorem dX12_count_53 : decode cX12_count 53 = .ok (.ireturn, 1) := by decide +kernel
theorem dX12_count_54 : decode cX12_count 54 = .ok (.aload_n 0, 1) := by decide +kernel
theorem dX12_count_55 : decode cX12_count 55 = .ok (.getfield 108, 3) := by decide +kernel
theorem dX12_count_58 : decode cX12_count 58 = .ok (.ireturn, 1) := by decide +kernel
theorem dX12_count_59 : decode cX12_count 59 = .ok (.aload_n 0, 1) := by decide +kernel
theorem dX12_count_60 : decode cX12_count 60 = .ok (.getfield 127, 3) := by decide +kernel
theorem dX12_count_63 : decode cX12_count 63 = .ok (.ireturn, 1) := by decide +kernel
theorem dX12_count_64 : decode cX12_count 64 = .ok (.aload_n 0, 1) := by decide +kernel
theorem dX12_count_65 : decode cX12_count 65 = .ok (.getfield 133, 3) := by decide +kernel
theorem dX12_count_68 : decode cX12_count 68 = .ok (.ireturn, 1) := by decide +kernel
theorem dX12_count_69 : decode cX12_count 69 = .ok (.aload_n 0, 1) := by decide +kernel
theorem dX12_count_70 : decode cX12_count 70 = .ok (.getfield 44, 3) := by decide +kernel
theorem dX12_count_73 : decode cX12_count 73 = .ok (.ireturn, 1) := by decide +kernel
theorem dX12_count_74 : decode cX12_count 74 = .ok (.aload_n 0, 1) := by decide +kernel
theorem dX12_count_75 : decode cX12_count 75 = .ok (.getfield 197, 3) := by decide +kernel
theorem dX12_count_78 : decode cX12_count 78 = .ok (.ireturn, 1) := by decide +kernel
theorem dX12_count_79 : decode cX12_count 79 = .ok (.bipush (-2), 2) := by decide +kernel
theorem dX12_count_81 : decode cX12_count 81 = .ok (.ireturn, 1) := by decide +kernel
theorem dX12_isTape_0 : decode cX12_isTape 0 = .ok (.aload_n 0, 1) := by decide +kernel
theorem dX12_isTape_1 : decode cX12_isTape 1 = .ok (.iload_n 1, 1) := by decide +kernel
theorem dX12_isTape_2 : decode cX12_isTape 2 = .ok (.iconst 0, 1) := by decide +kernel
theorem dX12_isTape_3 : decode cX12_isTape 3 = .ok (.iconst 5, 1) := by decide +kernel
theorem dX12_isTape_4 : decode cX12_isTape 4 = .ok (.invokevirtual 215, 3) := by decide +kernel
theorem dX12_isTape_7 : decode cX12_isTape 7 = .ok (.ireturn, 1) := by decide +kernel
theorem dX12_tape_0 : decode cX12_tape 0 = .ok (.aload_n 0, 1) := by decide +kernel
theorem dX12_tape_1 : decode cX12_tape 1 = .ok (.iload_n 1, 1) := by decide +kernel
theorem dX12_tape_2 : decode cX12_tape 2 = .ok (.invokevirtual 377, 3) := by decide +kernel
theorem dX12_tape_5 : decode cX12_tape 5 = .ok (.ifCond .ne 5, 3) := by decide +kernel
theorem dX12_tape_8 : decode cX12_tape 8 = .ok (.iconst (-1), 1) := by decide +kernel
theorem dX12_tape_9 : decode cX12_tape 9 = .ok (.ireturn, 1) := by decide +kernel
theorem dX12_tape_10 : decode cX12_tape 10 = .ok (.aload_n 0, 1) := by decide +kernel
theorem dX12_tape_11 : decode cX12_tape 11 = .ok (.iload_n 2, 1) := by decide +kernel
theorem dX12_tape_12 : decode cX12_tape 12 = .ok (.iconst (-1), 1) := by decide +kernel
theorem dX12_tape_13 : decode cX12_tape 13 = .ok (.iconst 4, 1) := by decide +kernel
theorem dX12_tape_14 : decode cX12_tape 14 = .ok (.invokevirtual 215, 3) := by decide +kernel
theorem dX12_tape_17 : decode cX12_tape 17 = .ok (.ifCond .eq 13, 3) := by decide +kernel
theorem dX12_tape_20 : decode cX12_tape 20 = .ok (.iload_n 2, 1) := by decide +kernel
theorem dX12_tape_21 : decode cX12_tape 21 = .ok (.ifCond .lt 12, 3) := by decide +kernel
theorem dX12_tape_24 : decode cX12_tape 24 = .ok (.iload_n 3, 1) := by decide +kernel
theorem dX12_tape_25 : decode cX12_tape 25 = .ok (.bipush 60, 2) := by decide +kernel
theorem dX12_tape_27 : decode cX12_tape 27 = .ok (.if_icmp .le 6, 3) := by decide +kernel
theorem dX12_tape_30 : decode cX12_tape 30 = .ok (.bipush (-2), 2) := by decide +kernel
theorem dX12_tape_32 : decode cX12_tape 32 = .ok (.ireturn, 1) := by decide +kernel
theorem dX12_tape_33 : decode cX12_tape 33 = .ok (.iload_n 2, 1) := by decide +kernel
theorem dX12_tape_34 : decode cX12_tape 34 = .ok (.ifCond .lt 10, 3) := by decide +kernel
theorem dX12_tape_37 : decode cX12_tape 37 = .ok (.iload_n 3, 1) := by decide +kernel
theorem dX12_tape_38 : decode cX12_tape 38 = .ok (.ifCond .ge 6, 3) := by decide +kernel
theorem dX12_tape_41 : decode cX12_tape 41 = .ok (.bipush (-14), 2) := by decide +kernel
theorem dX12_tape_43 : decode cX12_tape 43 = .ok (.ireturn, 1) := by decide +kernel
theorem dX12_tape_44 : decode cX12_tape 44 = .ok (.aload_n 0, 1) := by decide +kernel
theorem dX12_tape_45 : decode cX12_tape 45 = .ok (.getfield 203, 3) := by decide +kernel
theorem dX12_tape_48 : decode cX12_tape 48 = .ok (.iload_n 1, 1) := by decide +kernel
theorem dX12_tape_49 : decode cX12_tape 49 = .ok (.iload_n 2, 1) := by decide +kernel
theorem dX12_tape_50 : decode cX12_tape 50 = .ok (.iastore, 1) := by decide +kernel
theorem dX12_tape_51 : decode cX12_tape 51 = .ok (.aload_n 0, 1) := by decide +kernel
theorem dX12_tape_52 : decode cX12_tape 52 = .ok (.getfield 206, 3) := by decide +kernel
theorem dX12_tape_55 : decode cX12_tape 55 = .ok (.iload_n 1, 1) := by decide +kernel
theorem dX12_tape_56 : decode cX12_tape 56 = .ok (.iload_n 2, 1) := by decide +kernel
theorem dX12_tape_57 : decode cX12_tape 57 = .ok (.ifCond .ge 7, 3) := by decide +kernel
theorem dX12_tape_60 : decode cX12_tape 60 = .ok (.iconst 0, 1) := by decide +kernel
theorem dX12_tape_61 : decode cX12_tape 61 = .ok (.goto 4, 3) := by decide +kernel
theorem dX12_tape_64 : decode cX12_tape 64 = .ok (.iload_n 3, 1) := by decide +kernel
theorem dX12_tape_65 : decode cX12_tape 65 = .ok (.iastore, 1) := by decide +kernel
theorem dX12_tape_66 : decode cX12_tape 66 = .ok (.iconst 0, 1) := by decide +kernel
theorem dX12_tape_67 : decode cX12_tape 67 = .ok (.istore 4, 2) := by decide +kernel
theorem dX12_tape_69 : decode cX12_tape 69 = .ok (.iload 4, 2) := by decide +kernel
theorem dX12_tape_71 : decode cX12_tape 71 = .ok (.bipush 60, 2) := by decide +kernel
theorem dX12_tape_73 : decode cX12_tape 73 = .ok (.if_icmp .ge 22, 3) := by decide +kernel
theorem dX12_tape_76 : decode cX12_tape 76 = .ok (.aload_n 0, 1) := by decide +kernel
theorem dX12_tape_77 : decode cX12_tape 77 = .ok (.getfield 209, 3) := by decide +kernel
theorem dX12_tape_80 : decode cX12_tape 80 = .ok (.bipush 60, 2) := by decide +kernel
theorem dX12_tape_82 : decode cX12_tape 82 = .ok (.iload_n 1, 1) := by decide +kernel
theorem dX12_tape_83 : decode cX12_tape 83 = .ok (.imul, 1) := by decide +kernel
theorem dX12_tape_84 : decode cX12_tape 84 = .ok (.iload 4, 2) := by decide +kernel
theorem dX12_tape_86 : decode cX12_tape 86 = .ok (.iadd, 1) := by decide +kernel
theorem dX12_tape_87 : decode cX12_tape 87 = .ok (.lconst 0, 1) := by decide +kernel
theorem dX12_tape_88 : decode cX12_tape 88 = .ok (.lastore, 1) := by decide +kernel
theorem dX12_tape_89 : decode cX12_tape 89 = .ok (.iinc 4 1, 3) := by decide +kernel
theorem dX12_tape_92 : decode cX12_tape 92 = .ok (.goto (-23), 3) := by decide +kernel
theorem dX12_tape_95 : decode cX12_tape 95 = .ok (.iconst 1, 1) := by decide +kernel
theorem dX12_tape_96 : decode cX12_tape 96 = .ok (.ireturn, 1) := by decide +kernel
theorem dX12_narrow_0 : decode cX12_narrow 0 = .ok (.iload_n 1, 1) := by decide +kernel
theorem dX12_narrow_1 : decode cX12_narrow 1 = .ok (.ifCond .ne 10, 3) := by decide +kernel
theorem dX12_narrow_4 : decode cX12_narrow 4 = .ok (.lload_n 2, 1) := by decide +kernel
theorem dX12_narrow_5 : decode cX12_narrow 5 = .ok (.l2i, 1) := by decide +kernel
theorem dX12_narrow_6 : decode cX12_narrow 6 = .ok (.i2b, 1) := by decide +kernel
theorem dX12_narrow_7 : decode cX12_narrow 7 = .ok (.i2l, 1) := by decide +kernel
theorem dX12_narrow_8 : decode cX12_narrow 8 = .ok (.goto 46, 3) := by decide +kernel
theorem dX12_narrow_11 : decode cX12_narrow 11 = .ok (.iload_n 1, 1) := by decide +kernel
theorem dX12_narrow_12 : decode cX12_narrow 12 = .ok (.iconst 1, 1) := by decide +kernel
theorem dX12_narrow_13 : decode cX12_narrow 13 = .ok (.if_icmp .ne 10, 3) := by decide +kernel
theorem dX12_narrow_16 : decode cX12_narrow 16 = .ok (.lload_n 2, 1) := by decide +kernel
theorem dX12_narrow_17 : decode cX12_narrow 17 = .ok (.l2i, 1) := by decide +kernel
theorem dX12_narrow_18 : decode cX12_narrow 18 = .ok (.i2s, 1) := by decide +kernel
theorem dX12_narrow_19 : decode cX12_narrow 19 = .ok (.i2l, 1) := by decide +kernel
theorem dX12_narrow_20 : decode cX12_narrow 20 = .ok (.goto 34, 3) := by decide +kernel
theorem dX12_narrow_23 : decode cX12_narrow 23 = .ok (.iload_n 1, 1) := by decide +kernel
theorem dX12_narrow_24 : decode cX12_narrow 24 = .ok (.iconst 2, 1) := by decide +kernel
theorem dX12_narrow_25 : decode cX12_narrow 25 = .ok (.if_icmp .ne 9, 3) := by decide +kernel
theorem dX12_narrow_28 : decode cX12_narrow 28 = .ok (.lload_n 2, 1) := by decide +kernel
theorem dX12_narrow_29 : decode cX12_narrow 29 = .ok (.l2i, 1) := by decide +kernel
theorem dX12_narrow_30 : decode cX12_narrow 30 = .ok (.i2l, 1) := by decide +kernel
theorem dX12_narrow_31 : decode cX12_narrow 31 = .ok (.goto 23, 3) := by decide +kernel
theorem dX12_narrow_34 : decode cX12_narrow 34 = .ok (.iload_n 1, 1) := by decide +kernel
theorem dX12_narrow_35 : decode cX12_narrow 35 = .ok (.iconst 4, 1) := by decide +kernel
theorem dX12_narrow_36 : decode cX12_narrow 36 = .ok (.if_icmp .ne 17, 3) := by decide +kernel
theorem dX12_narrow_39 : decode cX12_narrow 39 = .ok (.lload_n 2, 1) := by decide +kernel
theorem dX12_narrow_40 : decode cX12_narrow 40 = .ok (.lconst 0, 1) := by decide +kernel
theorem dX12_narrow_41 : decode cX12_narrow 41 = .ok (.lcmp, 1) := by decide +kernel
theorem dX12_narrow_42 : decode cX12_narrow 42 = .ok (.ifCond .eq 7, 3) := by decide +kernel
theorem dX12_narrow_45 : decode cX12_narrow 45 = .ok (.lconst 1, 1) := by decide +kernel
theorem dX12_narrow_46 : decode cX12_narrow 46 = .ok (.goto 8, 3) := by decide +kernel
theorem dX12_narrow_49 : decode cX12_narrow 49 = .ok (.lconst 0, 1) := by decide +kernel
theorem dX12_narrow_50 : decode cX12_narrow 50 = .ok (.goto 4, 3) := by decide +kernel
theorem dX12_narrow_53 : decode cX12_narrow 53 = .ok (.lload_n 2, 1) := by decide +kernel
theorem dX12_narrow_54 : decode cX12_narrow 54 = .ok (.lreturn, 1) := by decide +kernel
theorem dX12_item_0 : decode cX12_item 0 = .ok (.aload_n 0, 1) := by decide +kernel
theorem dX12_item_1 : decode cX12_item 1 = .ok (.iload_n 1, 1) := by decide +kernel
theorem dX12_item_2 : decode cX12_item 2 = .ok (.invokevirtual 377, 3) := by decide +kernel
theorem dX12_item_5 : decode cX12_item 5 = .ok (.ifCond .ne 5, 3) := by decide +kernel
theorem dX12_item_8 : decode cX12_item 8 = .ok (.iconst (-1), 1) := by decide +kernel
theorem dX12_item_9 : decode cX12_item 9 = .ok (.ireturn, 1) := by decide +kernel
theorem dX12_item_10 : decode cX12_item 10 = .ok (.aload_n 0, 1) := by decide +kernel
theorem dX12_item_11 : decode cX12_item 11 = .ok (.getfield 203, 3) := by decide +kernel
theorem dX12_item_14 : decode cX12_item 14 = .ok (.iload_n 1, 1) := by decide +kernel
theorem dX12_item_15 : decode cX12_item 15 = .ok (.iaload, 1) := by decide +kernel
theorem dX12_item_16 : decode cX12_item 16 = .ok (.ifCond .ge 6, 3) := by decide +kernel
theorem dX12_item_19 : decode cX12_item 19 = .ok (.bipush (-11), 2) := by decide +kernel
theorem dX12_item_21 : decode cX12_item 21 = .ok (.ireturn, 1) := by decide +kernel
theorem dX12_item_22 : decode cX12_item 22 = .ok (.aload_n 0, 1) := by decide +kernel
theorem dX12_item_23 : decode cX12_item 23 = .ok (.iload_n 2, 1) := by decide +kernel
theorem dX12_item_24 : decode cX12_item 24 = .ok (.iconst 0, 1) := by decide +kernel
theorem dX12_item_25 : decode cX12_item 25 = .ok (.aload_n 0, 1) := by decide +kernel
theorem dX12_item_26 : decode cX12_item 26 = .ok (.getfield 206, 3) := by decide +kernel
theorem dX12_item_29 : decode cX12_item 29 = .ok (.iload_n 1, 1) := by decide +kernel
theorem dX12_item_30 : decode cX12_item 30 = .ok (.iaload, 1) := by decide +kernel
theorem dX12_item_31 : decode cX12_item 31 = .ok (.iconst 1, 1) := by decide +kernel
theorem dX12_item_32 : decode cX12_item 32 = .ok (.isub, 1) := by decide +kernel
theorem dX12_item_33 : decode cX12_item 33 = .ok (.invokevirtual 215, 3) := by decide +kernel
theorem dX12_item_36 : decode cX12_item 36 = .ok (.ifCond .ne 6, 3) := by decide +kernel
theorem dX12_item_39 : decode cX12_item 39 = .ok (.bipush (-13), 2) := by decide +kernel
theorem dX12_item_41 : decode cX12_item 41 = .ok (.ireturn, 1) := by decide +kernel
theorem dX12_item_42 : decode cX12_item 42 = .ok (.aload_n 0, 1) := by decide +kernel
theorem dX12_item_43 : decode cX12_item 43 = .ok (.getfield 209, 3) := by decide +kernel
theorem dX12_item_46 : decode cX12_item 46 = .ok (.bipush 60, 2) := by decide +kernel
theorem dX12_item_48 : decode cX12_item 48 = .ok (.iload_n 1, 1) := by decide +kernel
theorem dX12_item_49 : decode cX12_item 49 = .ok (.imul, 1) := by decide +kernel
theorem dX12_item_50 : decode cX12_item 50 = .ok (.iload_n 2, 1) := by decide +kernel
theorem dX12_item_51 : decode cX12_item 51 = .ok (.iadd, 1) := by decide +kernel
theorem dX12_item_52 : decode cX12_item 52 = .ok (.aload_n 0, 1) := by decide +kernel
theorem dX12_item_53 : decode cX12_item 53 = .ok (.aload_n 0, 1) := by decide +kernel
theorem dX12_item_54 : decode cX12_item 54 = .ok (.getfield 203, 3) := by decide +kernel
theorem dX12_item_57 : decode cX12_item 57 = .ok (.iload_n 1, 1) := by decide +kernel
theorem dX12_item_58 : decode cX12_item 58 = .ok (.iaload, 1) := by decide +kernel
theorem dX12_item_59 : decode cX12_item 59 = .ok (.lload_n 3, 1) := by decide +kernel
theorem dX12_item_60 : decode cX12_item 60 = .ok (.invokevirtual 404, 3) := by decide +kernel
theorem dX12_item_63 : decode cX12_item 63 = .ok (.lastore, 1) := by decide +kernel
theorem dX12_item_64 : decode cX12_item 64 = .ok (.iconst 1, 1) := by decide +kernel
theorem dX12_item_65 : decode cX12_item 65 = .ok (.ireturn, 1) := by decide +kernel
theorem dX12_read_0 : decode cX12_read 0 = .ok (.aload_n 0, 1) := by decide +kernel
theorem dX12_read_1 : decode cX12_read 1 = .ok (.iload_n 1, 1) := by decide +kernel
theorem dX12_read_2 : decode cX12_read 2 = .ok (.invokevirtual 377, 3) := by decide +kernel
theorem dX12_read_5 : decode cX12_read 5 = .ok (.ifCond .eq 29, 3) := by decide +kernel
theorem dX12_read_8 : decode cX12_read 8 = .ok (.aload_n 0, 1) := by decide +kernel
