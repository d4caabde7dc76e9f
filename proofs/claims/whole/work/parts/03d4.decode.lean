theorem dX12_last_32 : decode cX12_last 32 = .ok (.iload_n 2, 1) := by decide +kernel
theorem dX12_last_33 : decode cX12_last 33 = .ok (.iastore, 1) := by decide +kernel
theorem dX12_last_34 : decode cX12_last 34 = .ok (.iload_n 3, 1) := by decide +kernel
theorem dX12_last_35 : decode cX12_last 35 = .ok (.ireturn, 1) := by decide +kernel
theorem dX12_row_0 : decode cX12_row 0 = .ok (.aload_n 0, 1) := by decide +kernel
theorem dX12_row_1 : decode cX12_row 1 = .ok (.iload_n 1, 1) := by decide +kernel
theorem dX12_row_2 : decode cX12_row 2 = .ok (.invokevirtual 219, 3) := by decide +kernel
theorem dX12_row_5 : decode cX12_row 5 = .ok (.ifCond .eq 13, 3) := by decide +kernel
theorem dX12_row_8 : decode cX12_row 8 = .ok (.aload_n 0, 1) := by decide +kernel
theorem dX12_row_9 : decode cX12_row 9 = .ok (.iload_n 2, 1) := by decide +kernel
theorem dX12_row_10 : decode cX12_row 10 = .ok (.iconst 0, 1) := by decide +kernel
theorem dX12_row_11 : decode cX12_row 11 = .ok (.iconst 3, 1) := by decide +kernel
theorem dX12_row_12 : decode cX12_row 12 = .ok (.invokevirtual 215, 3) := by decide +kernel
theorem dX12_row_15 : decode cX12_row 15 = .ok (.ifCond .ne 5, 3) := by decide +kernel
theorem dX12_row_18 : decode cX12_row 18 = .ok (.iconst (-1), 1) := by decide +kernel
theorem dX12_row_19 : decode cX12_row 19 = .ok (.ireturn, 1) := by decide +kernel
theorem dX12_row_20 : decode cX12_row 20 = .ok (.aload_n 0, 1) := by decide +kernel
theorem dX12_row_21 : decode cX12_row 21 = .ok (.iload_n 3, 1) := by decide +kernel
theorem dX12_row_22 : decode cX12_row 22 = .ok (.invokevirtual 223, 3) := by decide +kernel
theorem dX12_row_25 : decode cX12_row 25 = .ok (.ifCond .ne 6, 3) := by decide +kernel
theorem dX12_row_28 : decode cX12_row 28 = .ok (.bipush (-2), 2) := by decide +kernel
theorem dX12_row_30 : decode cX12_row 30 = .ok (.ireturn, 1) := by decide +kernel
theorem dX12_row_31 : decode cX12_row 31 = .ok (.aload_n 0, 1) := by decide +kernel
theorem dX12_row_32 : decode cX12_row 32 = .ok (.getfield 19, 3) := by decide +kernel
theorem dX12_row_35 : decode cX12_row 35 = .ok (.iload_n 1, 1) := by decide +kernel
theorem dX12_row_36 : decode cX12_row 36 = .ok (.iaload, 1) := by decide +kernel
theorem dX12_row_37 : decode cX12_row 37 = .ok (.bipush 6, 2) := by decide +kernel
theorem dX12_row_39 : decode cX12_row 39 = .ok (.if_icmp .eq 6, 3) := by decide +kernel
theorem dX12_row_42 : decode cX12_row 42 = .ok (.bipush (-3), 2) := by decide +kernel
theorem dX12_row_44 : decode cX12_row 44 = .ok (.ireturn, 1) := by decide +kernel
theorem dX12_row_45 : decode cX12_row 45 = .ok (.aload_n 0, 1) := by decide +kernel
theorem dX12_row_46 : decode cX12_row 46 = .ok (.getfield 35, 3) := by decide +kernel
theorem dX12_row_49 : decode cX12_row 49 = .ok (.iconst 4, 1) := by decide +kernel
theorem dX12_row_50 : decode cX12_row 50 = .ok (.iload_n 1, 1) := by decide +kernel
theorem dX12_row_51 : decode cX12_row 51 = .ok (.imul, 1) := by decide +kernel
theorem dX12_row_52 : decode cX12_row 52 = .ok (.iload_n 2, 1) := by decide +kernel
theorem dX12_row_53 : decode cX12_row 53 = .ok (.iadd, 1) := by decide +kernel
theorem dX12_row_54 : decode cX12_row 54 = .ok (.iaload, 1) := by decide +kernel
theorem dX12_row_55 : decode cX12_row 55 = .ok (.istore 4, 2) := by decide +kernel
theorem dX12_row_57 : decode cX12_row 57 = .ok (.aload_n 0, 1) := by decide +kernel
theorem dX12_row_58 : decode cX12_row 58 = .ok (.getfield 35, 3) := by decide +kernel
theorem dX12_row_61 : decode cX12_row 61 = .ok (.iconst 4, 1) := by decide +kernel
theorem dX12_row_62 : decode cX12_row 62 = .ok (.iload_n 1, 1) := by decide +kernel
theorem dX12_row_63 : decode cX12_row 63 = .ok (.imul, 1) := by decide +kernel
theorem dX12_row_64 : decode cX12_row 64 = .ok (.iload_n 2, 1) := by decide +kernel
theorem dX12_row_65 : decode cX12_row 65 = .ok (.iadd, 1) := by decide +kernel
theorem dX12_row_66 : decode cX12_row 66 = .ok (.iload_n 3, 1) := by decide +kernel
theorem dX12_row_67 : decode cX12_row 67 = .ok (.iastore, 1) := by decide +kernel
theorem dX12_row_68 : decode cX12_row 68 = .ok (.iload 4, 2) := by decide +kernel
theorem dX12_row_70 : decode cX12_row 70 = .ok (.ireturn, 1) := by decide +kernel
theorem dX12_feed_0 : decode cX12_feed 0 = .ok (.aload_n 0, 1) := by decide +kernel
theorem dX12_feed_1 : decode cX12_feed 1 = .ok (.iload_n 1, 1) := by decide +kernel
theorem dX12_feed_2 : decode cX12_feed 2 = .ok (.iconst 0, 1) := by decide +kernel
theorem dX12_feed_3 : decode cX12_feed 3 = .ok (.bipush 127, 2) := by decide +kernel
theorem dX12_feed_5 : decode cX12_feed 5 = .ok (.invokevirtual 215, 3) := by decide +kernel
theorem dX12_feed_8 : decode cX12_feed 8 = .ok (.ifCond .ne 6, 3) := by decide +kernel
theorem dX12_feed_11 : decode cX12_feed 11 = .ok (.bipush (-2), 2) := by decide +kernel
theorem dX12_feed_13 : decode cX12_feed 13 = .ok (.ireturn, 1) := by decide +kernel
theorem dX12_feed_14 : decode cX12_feed 14 = .ok (.aload_n 0, 1) := by decide +kernel
theorem dX12_feed_15 : decode cX12_feed 15 = .ok (.getfield 44, 3) := by decide +kernel
theorem dX12_feed_18 : decode cX12_feed 18 = .ok (.bipush 100, 2) := by decide +kernel
theorem dX12_feed_20 : decode cX12_feed 20 = .ok (.if_icmp .ne 6, 3) := by decide +kernel
theorem dX12_feed_23 : decode cX12_feed 23 = .ok (.bipush (-4), 2) := by decide +kernel
theorem dX12_feed_25 : decode cX12_feed 25 = .ok (.ireturn, 1) := by decide +kernel
theorem dX12_feed_26 : decode cX12_feed 26 = .ok (.aload_n 0, 1) := by decide +kernel
theorem dX12_feed_27 : decode cX12_feed 27 = .ok (.getfield 53, 3) := by decide +kernel
theorem dX12_feed_30 : decode cX12_feed 30 = .ok (.aload_n 0, 1) := by decide +kernel
theorem dX12_feed_31 : decode cX12_feed 31 = .ok (.getfield 44, 3) := by decide +kernel
theorem dX12_feed_34 : decode cX12_feed 34 = .ok (.iload_n 1, 1) := by decide +kernel
theorem dX12_feed_35 : decode cX12_feed 35 = .ok (.iastore, 1) := by decide +kernel
theorem dX12_feed_36 : decode cX12_feed 36 = .ok (.aload_n 0, 1) := by decide +kernel
theorem dX12_feed_37 : decode cX12_feed 37 = .ok (.dup, 1) := by decide +kernel
theorem dX12_feed_38 : decode cX12_feed 38 = .ok (.getfield 44, 3) := by decide +kernel
theorem dX12_feed_41 : decode cX12_feed 41 = .ok (.iconst 1, 1) := by decide +kernel
theorem dX12_feed_42 : decode cX12_feed 42 = .ok (.iadd, 1) := by decide +kernel
theorem dX12_feed_43 : decode cX12_feed 43 = .ok (.putfield 44, 3) := by decide +kernel
theorem dX12_feed_46 : decode cX12_feed 46 = .ok (.aload_n 0, 1) := by decide +kernel
theorem dX12_feed_47 : decode cX12_feed 47 = .ok (.getfield 44, 3) := by decide +kernel
theorem dX12_feed_50 : decode cX12_feed 50 = .ok (.ireturn, 1) := by decide +kernel
theorem dX12_next_0 : decode cX12_next 0 = .ok (.aload_n 0, 1) := by decide +kernel
theorem dX12_next_1 : decode cX12_next 1 = .ok (.getfield 47, 3) := by decide +kernel
theorem dX12_next_4 : decode cX12_next 4 = .ok (.aload_n 0, 1) := by decide +kernel
theorem dX12_next_5 : decode cX12_next 5 = .ok (.getfield 44, 3) := by decide +kernel
theorem dX12_next_8 : decode cX12_next 8 = .ok (.if_icmp .ge 15, 3) := by decide +kernel
theorem dX12_next_11 : decode cX12_next 11 = .ok (.aload_n 0, 1) := by decide +kernel
theorem dX12_next_12 : decode cX12_next 12 = .ok (.getfield 53, 3) := by decide +kernel
theorem dX12_next_15 : decode cX12_next 15 = .ok (.aload_n 0, 1) := by decide +kernel
theorem dX12_next_16 : decode cX12_next 16 = .ok (.getfield 47, 3) := by decide +kernel
theorem dX12_next_19 : decode cX12_next 19 = .ok (.iaload, 1) := by decide +kernel
theorem dX12_next_20 : decode cX12_next 20 = .ok (.goto 4, 3) := by decide +kernel
theorem dX12_next_23 : decode cX12_next 23 = .ok (.iconst (-1), 1) := by decide +kernel
theorem dX12_next_24 : decode cX12_next 24 = .ok (.ireturn, 1) := by decide +kernel
theorem dX12_second_0 : decode cX12_second 0 = .ok (.aload_n 0, 1) := by decide +kernel
theorem dX12_second_1 : decode cX12_second 1 = .ok (.getfield 47, 3) := by decide +kernel
theorem dX12_second_4 : decode cX12_second 4 = .ok (.iconst 1, 1) := by decide +kernel
theorem dX12_second_5 : decode cX12_second 5 = .ok (.iadd, 1) := by decide +kernel
theorem dX12_second_6 : decode cX12_second 6 = .ok (.aload_n 0, 1) := by decide +kernel
theorem dX12_second_7 : decode cX12_second 7 = .ok (.getfield 44, 3) := by decide +kernel
theorem dX12_second_10 : decode cX12_second 10 = .ok (.if_icmp .ge 17, 3) := by decide +kernel
theorem dX12_second_13 : decode cX12_second 13 = .ok (.aload_n 0, 1) := by decide +kernel
theorem dX12_second_14 : decode cX12_second 14 = .ok (.getfield 53, 3) := by decide +kernel
theorem dX12_second_17 : decode cX12_second 17 = .ok (.aload_n 0, 1) := by decide +kernel
theorem dX12_second_18 : decode cX12_second 18 = .ok (.getfield 47, 3) := by decide +kernel
theorem dX12_second_21 : decode cX12_second 21 = .ok (.iconst 1, 1) := by decide +kernel
theorem dX12_second_22 : decode cX12_second 22 = .ok (.iadd, 1) := by decide +kernel
theorem dX12_second_23 : decode cX12_second 23 = .ok (.iaload, 1) := by decide +kernel
theorem dX12_second_24 : decode cX12_second 24 = .ok (.goto 4, 3) := by decide +kernel
theorem dX12_second_27 : decode cX12_second 27 = .ok (.iconst (-1), 1) := by decide +kernel
theorem dX12_second_28 : decode cX12_second 28 = .ok (.ireturn, 1) := by decide +kernel
theorem dX12_takes_0 : decode cX12_takes 0 = .ok (.aload_n 0, 1) := by decide +kernel
theorem dX12_takes_1 : decode cX12_takes 1 = .ok (.invokevirtual 226, 3) := by decide +kernel
theorem dX12_takes_4 : decode cX12_takes 4 = .ok (.iload_n 1, 1) := by decide +kernel
theorem dX12_takes_5 : decode cX12_takes 5 = .ok (.if_icmp .eq 5, 3) := by decide +kernel
theorem dX12_takes_8 : decode cX12_takes 8 = .ok (.iconst 0, 1) := by decide +kernel
theorem dX12_takes_9 : decode cX12_takes 9 = .ok (.ireturn, 1) := by decide +kernel
theorem dX12_takes_10 : decode cX12_takes 10 = .ok (.aload_n 0, 1) := by decide +kernel
theorem dX12_takes_11 : decode cX12_takes 11 = .ok (.dup, 1) := by decide +kernel
theorem dX12_takes_12 : decode cX12_takes 12 = .ok (.getfield 47, 3) := by decide +kernel
theorem dX12_takes_15 : decode cX12_takes 15 = .ok (.iconst 1, 1) := by decide +kernel
theorem dX12_takes_16 : decode cX12_takes 16 = .ok (.iadd, 1) := by decide +kernel
theorem dX12_takes_17 : decode cX12_takes 17 = .ok (.putfield 47, 3) := by decide +kernel
theorem dX12_takes_20 : decode cX12_takes 20 = .ok (.iconst 1, 1) := by decide +kernel
theorem dX12_takes_21 : decode cX12_takes 21 = .ok (.ireturn, 1) := by decide +kernel
theorem dX12_takesWord_0 : decode cX12_takesWord 0 = .ok (.iconst 0, 1) := by decide +kernel
theorem dX12_takesWord_1 : decode cX12_takesWord 1 = .ok (.istore_n 3, 1) := by decide +kernel
theorem dX12_takesWord_2 : decode cX12_takesWord 2 = .ok (.iload_n 3, 1) := by decide +kernel
theorem dX12_takesWord_3 : decode cX12_takesWord 3 = .ok (.iload_n 2, 1) := by decide +kernel
theorem dX12_takesWord_4 : decode cX12_takesWord 4 = .ok (.if_icmp .ge 26, 3) := by decide +kernel
theorem dX12_takesWord_7 : decode cX12_takesWord 7 = .ok (.aload_n 0, 1) := by decide +kernel
theorem dX12_takesWord_8 : decode cX12_takesWord 8 = .ok (.aload_n 0, 1) := by decide +kernel
theorem dX12_takesWord_9 : decode cX12_takesWord 9 = .ok (.getfield 86, 3) := by decide +kernel
theorem dX12_takesWord_12 : decode cX12_takesWord 12 = .ok (.iload_n 1, 1) := by decide +kernel
theorem dX12_takesWord_13 : decode cX12_takesWord 13 = .ok (.iload_n 3, 1) := by decide +kernel
theorem dX12_takesWord_14 : decode cX12_takesWord 14 = .ok (.iadd, 1) := by decide +kernel
theorem dX12_takesWord_15 : decode cX12_takesWord 15 = .ok (.iaload, 1) := by decide +kernel
theorem dX12_takesWord_16 : decode cX12_takesWord 16 = .ok (.invokevirtual 230, 3) := by decide +kernel
theorem dX12_takesWord_19 : decode cX12_takesWord 19 = .ok (.ifCond .ne 5, 3) := by decide +kernel
theorem dX12_takesWord_22 : decode cX12_takesWord 22 = .ok (.iconst 0, 1) := by decide +kernel
theorem dX12_takesWord_23 : decode cX12_takesWord 23 = .ok (.ireturn, 1) := by decide +kernel
theorem dX12_takesWord_24 : decode cX12_takesWord 24 = .ok (.iinc 3 1, 3) := by decide +kernel
theorem dX12_takesWord_27 : decode cX12_takesWord 27 = .ok (.goto (-25), 3) := by decide +kernel
theorem dX12_takesWord_30 : decode cX12_takesWord 30 = .ok (.aload_n 0, 1) := by decide +kernel
theorem dX12_takesWord_31 : decode cX12_takesWord 31 = .ok (.bipush 32, 2) := by decide +kernel
theorem dX12_takesWord_33 : decode cX12_takesWord 33 = .ok (.invokevirtual 230, 3) := by decide +kernel
theorem dX12_takesWord_36 : decode cX12_takesWord 36 = .ok (.ireturn, 1) := by decide +kernel
theorem dX12_isDigit_0 : decode cX12_isDigit 0 = .ok (.aload_n 0, 1) := by decide +kernel
theorem dX12_isDigit_1 : decode cX12_isDigit 1 = .ok (.aload_n 0, 1) := by decide +kernel
theorem dX12_isDigit_2 : decode cX12_isDigit 2 = .ok (.invokevirtual 226, 3) := by decide +kernel
theorem dX12_isDigit_5 : decode cX12_isDigit 5 = .ok (.bipush 48, 2) := by decide +kernel
theorem dX12_isDigit_7 : decode cX12_isDigit 7 = .ok (.bipush 57, 2) := by decide +kernel
theorem dX12_isDigit_9 : decode cX12_isDigit 9 = .ok (.invokevirtual 215, 3) := by decide +kernel
theorem dX12_isDigit_12 : decode cX12_isDigit 12 = .ok (.ireturn, 1) := by decide +kernel
theorem dX12_takesNumber_0 : decode cX12_takesNumber 0 = .ok (.aload_n 0, 1) := by decide +kernel
theorem dX12_takesNumber_1 : decode cX12_takesNumber 1 = .ok (.invokevirtual 233, 3) := by decide +kernel
theorem dX12_takesNumber_4 : decode cX12_takesNumber 4 = .ok (.ifCond .ne 5, 3) := by decide +kernel
theorem dX12_takesNumber_7 : decode cX12_takesNumber 7 = .ok (.iconst 0, 1) := by decide +kernel
theorem dX12_takesNumber_8 : decode cX12_takesNumber 8 = .ok (.ireturn, 1) := by decide +kernel
theorem dX12_takesNumber_9 : decode cX12_takesNumber 9 = .ok (.aload_n 0, 1) := by decide +kernel
theorem dX12_takesNumber_10 : decode cX12_takesNumber 10 = .ok (.iconst 0, 1) := by decide +kernel
theorem dX12_takesNumber_11 : decode cX12_takesNumber 11 = .ok (.putfield 50, 3) := by decide +kernel
theorem dX12_takesNumber_14 : decode cX12_takesNumber 14 = .ok (.iconst 0, 1) := by decide +kernel
theorem dX12_takesNumber_15 : decode cX12_takesNumber 15 = .ok (.istore_n 1, 1) := by decide +kernel
theorem dX12_takesNumber_16 : decode cX12_takesNumber 16 = .ok (.iload_n 1, 1) := by decide +kernel
theorem dX12_takesNumber_17 : decode cX12_takesNumber 17 = .ok (.iconst 2, 1) := by decide +kernel
theorem dX12_takesNumber_18 : decode cX12_takesNumber 18 = .ok (.if_icmp .ge 45, 3) := by decide +kernel
theorem dX12_takesNumber_21 : decode cX12_takesNumber 21 = .ok (.aload_n 0, 1) := by decide +kernel
theorem dX12_takesNumber_22 : decode cX12_takesNumber 22 = .ok (.invokevirtual 233, 3) := by decide +kernel
theorem dX12_takesNumber_25 : decode cX12_takesNumber 25 = .ok (.ifCond .eq 38, 3) := by decide +kernel
theorem dX12_takesNumber_28 : decode cX12_takesNumber 28 = .ok (.aload_n 0, 1) := by decide +kernel
theorem dX12_takesNumber_29 : decode cX12_takesNumber 29 = .ok (.bipush 10, 2) := by decide +kernel
theorem dX12_takesNumber_31 : decode cX12_takesNumber 31 = .ok (.aload_n 0, 1) := by decide +kernel
theorem dX12_takesNumber_32 : decode cX12_takesNumber 32 = .ok (.getfield 50, 3) := by decide +kernel
theorem dX12_takesNumber_35 : decode cX12_takesNumber 35 = .ok (.imul, 1) := by decide +kernel
theorem dX12_takesNumber_36 : decode cX12_takesNumber 36 = .ok (.aload_n 0, 1) := by decide +kernel
theorem dX12_takesNumber_37 : decode cX12_takesNumber 37 = .ok (.invokevirtual 226, 3) := by decide +kernel
theorem dX12_takesNumber_40 : decode cX12_takesNumber 40 = .ok (.iadd, 1) := by decide +kernel
theorem dX12_takesNumber_41 : decode cX12_takesNumber 41 = .ok (.bipush 48, 2) := by decide +kernel
theorem dX12_takesNumber_43 : decode cX12_takesNumber 43 = .ok (.isub, 1) := by decide +kernel
theorem dX12_takesNumber_44 : decode cX12_takesNumber 44 = .ok (.putfield 50, 3) := by decide +kernel
theorem dX12_takesNumber_47 : decode cX12_takesNumber 47 = .ok (.aload_n 0, 1) := by decide +kernel
theorem dX12_takesNumber_48 : decode cX12_takesNumber 48 = .ok (.dup, 1) := by decide +kernel
theorem dX12_takesNumber_49 : decode cX12_takesNumber 49 = .ok (.getfield 47, 3) := by decide +kernel
theorem dX12_takesNumber_52 : decode cX12_takesNumber 52 = .ok (.iconst 1, 1) := by decide +kernel
theorem dX12_takesNumber_53 : decode cX12_takesNumber 53 = .ok (.iadd, 1) := by decide +kernel
theorem dX12_takesNumber_54 : decode cX12_takesNumber 54 = .ok (.putfield 47, 3) := by decide +kernel
theorem dX12_takesNumber_57 : decode cX12_takesNumber 57 = .ok (.iinc 1 1, 3) := by decide +kernel
theorem dX12_takesNumber_60 : decode cX12_takesNumber 60 = .ok (.goto (-44), 3) := by decide +kernel
theorem dX12_takesNumber_63 : decode cX12_takesNumber 63 = .ok (.iconst 1, 1) := by decide +kernel
theorem dX12_takesNumber_64 : decode cX12_takesNumber 64 = .ok (.ireturn, 1) := by decide +kernel
theorem dX12_emits_0 : decode cX12_emits 0 = .ok (.aload_n 0, 1) := by decide +kernel
theorem dX12_emits_1 : decode cX12_emits 1 = .ok (.getfield 71, 3) := by decide +kernel
theorem dX12_emits_4 : decode cX12_emits 4 = .ok (.aload_n 0, 1) := by decide +kernel
theorem dX12_emits_5 : decode cX12_emits 5 = .ok (.getfield 77, 3) := by decide +kernel
theorem dX12_emits_8 : decode cX12_emits 8 = .ok (.iload_n 1, 1) := by decide +kernel
theorem dX12_emits_9 : decode cX12_emits 9 = .ok (.iastore, 1) := by decide +kernel
theorem dX12_emits_10 : decode cX12_emits 10 = .ok (.aload_n 0, 1) := by decide +kernel
theorem dX12_emits_11 : decode cX12_emits 11 = .ok (.dup, 1) := by decide +kernel
theorem dX12_emits_12 : decode cX12_emits 12 = .ok (.getfield 77, 3) := by decide +kernel
theorem dX12_emits_15 : decode cX12_emits 15 = .ok (.iconst 1, 1) := by decide +kernel
theorem dX12_emits_16 : decode cX12_emits 16 = .ok (.iadd, 1) := by decide +kernel
theorem dX12_emits_17 : decode cX12_emits 17 = .ok (.putfield 77, 3) := by decide +kernel
theorem dX12_emits_20 : decode cX12_emits 20 = .ok (.return_, 1) := by decide +kernel
theorem dX12_whole_0 : decode cX12_whole 0 = .ok (.aload_n 0, 1) := by decide +kernel
theorem dX12_whole_1 : decode cX12_whole 1 = .ok (.getfield 80, 3) := by decide +kernel
theorem dX12_whole_4 : decode cX12_whole 4 = .ok (.ifCond .le 48, 3) := by decide +kernel
theorem dX12_whole_7 : decode cX12_whole 7 = .ok (.aload_n 0, 1) := by decide +kernel
theorem dX12_whole_8 : decode cX12_whole 8 = .ok (.getfield 74, 3) := by decide +kernel
theorem dX12_whole_11 : decode cX12_whole 11 = .ok (.aload_n 0, 1) := by decide +kernel
theorem dX12_whole_12 : decode cX12_whole 12 = .ok (.getfield 80, 3) := by decide +kernel
theorem dX12_whole_15 : decode cX12_whole 15 = .ok (.iconst 1, 1) := by decide +kernel
theorem dX12_whole_16 : decode cX12_whole 16 = .ok (.isub, 1) := by decide +kernel
theorem dX12_whole_17 : decode cX12_whole 17 = .ok (.iaload, 1) := by decide +kernel
theorem dX12_whole_18 : decode cX12_whole 18 = .ok (.bipush 33, 2) := by decide +kernel
theorem dX12_whole_20 : decode cX12_whole 20 = .ok (.if_icmp .ne 32, 3) := by decide +kernel
theorem dX12_whole_23 : decode cX12_whole 23 = .ok (.aload_n 0, 1) := by decide +kernel
theorem dX12_whole_24 : decode cX12_whole 24 = .ok (.bipush (-33), 2) := by decide +kernel
theorem dX12_whole_26 : decode cX12_whole 26 = .ok (.invokevirtual 237, 3) := by decide +kernel
theorem dX12_whole_29 : decode cX12_whole 29 = .ok (.aload_n 0, 1) := by decide +kernel
theorem dX12_whole_30 : decode cX12_whole 30 = .ok (.dup, 1) := by decide +kernel
theorem dX12_whole_31 : decode cX12_whole 31 = .ok (.getfield 80, 3) := by decide +kernel
theorem dX12_whole_34 : decode cX12_whole 34 = .ok (.iconst 1, 1) := by decide +kernel
theorem dX12_whole_35 : decode cX12_whole 35 = .ok (.isub, 1) := by decide +kernel
theorem dX12_whole_36 : decode cX12_whole 36 = .ok (.putfield 80, 3) := by decide +kernel
theorem dX12_whole_39 : decode cX12_whole 39 = .ok (.aload_n 0, 1) := by decide +kernel
theorem dX12_whole_40 : decode cX12_whole 40 = .ok (.dup, 1) := by decide +kernel
theorem dX12_whole_41 : decode cX12_whole 41 = .ok (.getfield 83, 3) := by decide +kernel
theorem dX12_whole_44 : decode cX12_whole 44 = .ok (.iconst 1, 1) := by decide +kernel
theorem dX12_whole_45 : decode cX12_whole 45 = .ok (.isub, 1) := by decide +kernel
theorem dX12_whole_46 : decode cX12_whole 46 = .ok (.putfield 83, 3) := by decide +kernel
theorem dX12_whole_49 : decode cX12_whole 49 = .ok (.goto (-49), 3) := by decide +kernel
theorem dX12_whole_52 : decode cX12_whole 52 = .ok (.return_, 1) := by decide +kernel
theorem dX12_settle_0 : decode cX12_settle 0 = .ok (.aload_n 0, 1) := by decide +kernel
theorem dX12_settle_1 : decode cX12_settle 1 = .ok (.getfield 80, 3) := by decide +kernel
theorem dX12_settle_4 : decode cX12_settle 4 = .ok (.ifCond .le 68, 3) := by decide +kernel
theorem dX12_settle_7 : decode cX12_settle 7 = .ok (.aload_n 0, 1) := by decide +kernel
theorem dX12_settle_8 : decode cX12_settle 8 = .ok (.getfield 74, 3) := by decide +kernel
theorem dX12_settle_11 : decode cX12_settle 11 = .ok (.aload_n 0, 1) := by decide +kernel
theorem dX12_settle_12 : decode cX12_settle 12 = .ok (.getfield 80, 3) := by decide +kernel
theorem dX12_settle_15 : decode cX12_settle 15 = .ok (.iconst 1, 1) := by decide +kernel
theorem dX12_settle_16 : decode cX12_settle 16 = .ok (.isub, 1) := by decide +kernel
theorem dX12_settle_17 : decode cX12_settle 17 = .ok (.iaload, 1) := by decide +kernel
theorem dX12_settle_18 : decode cX12_settle 18 = .ok (.bipush 38, 2) := by decide +kernel
theorem dX12_settle_20 : decode cX12_settle 20 = .ok (.if_icmp .eq 25, 3) := by decide +kernel
theorem dX12_settle_23 : decode cX12_settle 23 = .ok (.aload_n 0, 1) := by decide +kernel
theorem dX12_settle_24 : decode cX12_settle 24 = .ok (.getfield 74, 3) := by decide +kernel
theorem dX12_settle_27 : decode cX12_settle 27 = .ok (.aload_n 0, 1) := by decide +kernel
theorem dX12_settle_28 : decode cX12_settle 28 = .ok (.getfield 80, 3) := by decide +kernel
theorem dX12_settle_31 : decode cX12_settle 31 = .ok (.iconst 1, 1) := by decide +kernel
theorem dX12_settle_32 : decode cX12_settle 32 = .ok (.isub, 1) := by decide +kernel
theorem dX12_settle_33 : decode cX12_settle 33 = .ok (.iaload, 1) := by decide +kernel
theorem dX12_settle_34 : decode cX12_settle 34 = .ok (.bipush 124, 2) := by decide +kernel
theorem dX12_settle_36 : decode cX12_settle 36 = .ok (.if_icmp .ne 36, 3) := by decide +kernel
theorem dX12_settle_39 : decode cX12_settle 39 = .ok (.iload_n 1, 1) := by decide +kernel
theorem dX12_settle_40 : decode cX12_settle 40 = .ok (.bipush 38, 2) := by decide +kernel
theorem dX12_settle_42 : decode cX12_settle 42 = .ok (.if_icmp .eq 30, 3) := by decide +kernel
theorem dX12_settle_45 : decode cX12_settle 45 = .ok (.aload_n 0, 1) := by decide +kernel
theorem dX12_settle_46 : decode cX12_settle 46 = .ok (.dup, 1) := by decide +kernel
theorem dX12_settle_47 : decode cX12_settle 47 = .ok (.getfield 80, 3) := by decide +kernel
theorem dX12_settle_50 : decode cX12_settle 50 = .ok (.iconst 1, 1) := by decide +kernel
theorem dX12_settle_51 : decode cX12_settle 51 = .ok (.isub, 1) := by decide +kernel
theorem dX12_settle_52 : decode cX12_settle 52 = .ok (.putfield 80, 3) := by decide +kernel
theorem dX12_settle_55 : decode cX12_settle 55 = .ok (.aload_n 0, 1) := by decide +kernel
theorem dX12_settle_56 : decode cX12_settle 56 = .ok (.aload_n 0, 1) := by decide +kernel
theorem dX12_settle_57 : decode cX12_settle 57 = .ok (.getfield 74, 3) := by decide +kernel
theorem dX12_settle_60 : decode cX12_settle 60 = .ok (.aload_n 0, 1) := by decide +kernel
theorem dX12_settle_61 : decode cX12_settle 61 = .ok (.getfield 80, 3) := by decide +kernel
theorem dX12_settle_64 : decode cX12_settle 64 = .ok (.iaload, 1) := by decide +kernel
theorem dX12_settle_65 : decode cX12_settle 65 = .ok (.ineg, 1) := by decide +kernel
theorem dX12_settle_66 : decode cX12_settle 66 = .ok (.invokevirtual 237, 3) := by decide +kernel
theorem dX12_settle_69 : decode cX12_settle 69 = .ok (.goto (-69), 3) := by decide +kernel
theorem dX12_settle_72 : decode cX12_settle 72 = .ok (.return_, 1) := by decide +kernel
theorem dX12_place_0 : decode cX12_place 0 = .ok (.iload_n 1, 1) := by decide +kernel
theorem dX12_place_1 : decode cX12_place 1 = .ok (.tableswitch 103 97 115 #[101, 103, 103, 103, 103, 103, 99, 103, 103, 103, 93, 103, 103, 97, 103, 91, 103, 103, 95], 91) := by decide +kernel
theorem dX12_place_92 : decode cX12_place 92 = .ok (.iconst 0, 1) := by decide +kernel
theorem dX12_place_93 : decode cX12_place 93 = .ok (.ireturn, 1) := by decide +kernel
theorem dX12_place_94 : decode cX12_place 94 = .ok (.iconst 1, 1) := by decide +kernel
theorem dX12_place_95 : decode cX12_place 95 = .ok (.ireturn, 1) := by decide +kernel
theorem dX12_place_96 : decode cX12_place 96 = .ok (.iconst 2, 1) := by decide +kernel
theorem dX12_place_97 : decode cX12_place 97 = .ok (.ireturn, 1) := by decide +kernel
theorem dX12_place_98 : decode cX12_place 98 = .ok (.iconst 3, 1) := by decide +kernel
theorem dX12_place_99 : decode cX12_place 99 = .ok (.ireturn, 1) := by decide +kernel
theorem dX12_place_100 : decode cX12_place 100 = .ok (.iconst 4, 1) := by decide +kernel
theorem dX12_place_101 : decode cX12_place 101 = .ok (.ireturn, 1) := by decide +kernel
theorem dX12_place_102 : decode cX12_place 102 = .ok (.iconst 5, 1) := by decide +kernel
theorem dX12_place_103 : decode cX12_place 103 = .ok (.ireturn, 1) := by decide +kernel
theorem dX12_place_104 : decode cX12_place 104 = .ok (.iconst (-1), 1) := by decide +kernel
theorem dX12_place_105 : decode cX12_place 105 = .ok (.ireturn, 1) := by decide +kernel
theorem dX12_takesTest_0 : decode cX12_takesTest 0 = .ok (.aload_n 0, 1) := by decide +kernel
theorem dX12_takesTest_1 : decode cX12_takesTest 1 = .ok (.aload_n 0, 1) := by decide +kernel
theorem dX12_takesTest_2 : decode cX12_takesTest 2 = .ok (.invokevirtual 226, 3) := by decide +kernel
theorem dX12_takesTest_5 : decode cX12_takesTest 5 = .ok (.invokevirtual 241, 3) := by decide +kernel
theorem dX12_takesTest_8 : decode cX12_takesTest 8 = .ok (.istore_n 1, 1) := by decide +kernel
theorem dX12_takesTest_9 : decode cX12_takesTest 9 = .ok (.iload_n 1, 1) := by decide +kernel
theorem dX12_takesTest_10 : decode cX12_takesTest 10 = .ok (.ifCond .ge 5, 3) := by decide +kernel
theorem dX12_takesTest_13 : decode cX12_takesTest 13 = .ok (.iconst 0, 1) := by decide +kernel
theorem dX12_takesTest_14 : decode cX12_takesTest 14 = .ok (.ireturn, 1) := by decide +kernel
theorem dX12_takesTest_15 : decode cX12_takesTest 15 = .ok (.aload_n 0, 1) := by decide +kernel
theorem dX12_takesTest_16 : decode cX12_takesTest 16 = .ok (.dup, 1) := by decide +kernel
theorem dX12_takesTest_17 : decode cX12_takesTest 17 = .ok (.getfield 47, 3) := by decide +kernel
theorem dX12_takesTest_20 : decode cX12_takesTest 20 = .ok (.iconst 1, 1) := by decide +kernel
theorem dX12_takesTest_21 : decode cX12_takesTest 21 = .ok (.iadd, 1) := by decide +kernel
theorem dX12_takesTest_22 : decode cX12_takesTest 22 = .ok (.putfield 47, 3) := by decide +kernel
theorem dX12_takesTest_25 : decode cX12_takesTest 25 = .ok (.aload_n 0, 1) := by decide +kernel
theorem dX12_takesTest_26 : decode cX12_takesTest 26 = .ok (.invokevirtual 226, 3) := by decide +kernel
theorem dX12_takesTest_29 : decode cX12_takesTest 29 = .ok (.istore_n 2, 1) := by decide +kernel
theorem dX12_takesTest_30 : decode cX12_takesTest 30 = .ok (.aload_n 0, 1) := by decide +kernel
theorem dX12_takesTest_31 : decode cX12_takesTest 31 = .ok (.iload_n 2, 1) := by decide +kernel
theorem dX12_takesTest_32 : decode cX12_takesTest 32 = .ok (.bipush 60, 2) := by decide +kernel
theorem dX12_takesTest_34 : decode cX12_takesTest 34 = .ok (.bipush 62, 2) := by decide +kernel
theorem dX12_takesTest_36 : decode cX12_takesTest 36 = .ok (.invokevirtual 215, 3) := by decide +kernel
theorem dX12_takesTest_39 : decode cX12_takesTest 39 = .ok (.ifCond .ne 5, 3) := by decide +kernel
theorem dX12_takesTest_42 : decode cX12_takesTest 42 = .ok (.iconst 0, 1) := by decide +kernel
theorem dX12_takesTest_43 : decode cX12_takesTest 43 = .ok (.ireturn, 1) := by decide +kernel
theorem dX12_takesTest_44 : decode cX12_takesTest 44 = .ok (.aload_n 0, 1) := by decide +kernel
theorem dX12_takesTest_45 : decode cX12_takesTest 45 = .ok (.dup, 1) := by decide +kernel
theorem dX12_takesTest_46 : decode cX12_takesTest 46 = .ok (.getfield 47, 3) := by decide +kernel
theorem dX12_takesTest_49 : decode cX12_takesTest 49 = .ok (.iconst 1, 1) := by decide +kernel
theorem dX12_takesTest_50 : decode cX12_takesTest 50 = .ok (.iadd, 1) := by decide +kernel
theorem dX12_takesTest_51 : decode cX12_takesTest 51 = .ok (.putfield 47, 3) := by decide +kernel
theorem dX12_takesTest_54 : decode cX12_takesTest 54 = .ok (.aload_n 0, 1) := by decide +kernel
theorem dX12_takesTest_55 : decode cX12_takesTest 55 = .ok (.invokevirtual 245, 3) := by decide +kernel
theorem dX12_takesTest_58 : decode cX12_takesTest 58 = .ok (.ifCond .ne 5, 3) := by decide +kernel
theorem dX12_takesTest_61 : decode cX12_takesTest 61 = .ok (.iconst 0, 1) := by decide +kernel
theorem dX12_takesTest_62 : decode cX12_takesTest 62 = .ok (.ireturn, 1) := by decide +kernel
theorem dX12_takesTest_63 : decode cX12_takesTest 63 = .ok (.aload_n 0, 1) := by decide +kernel
theorem dX12_takesTest_64 : decode cX12_takesTest 64 = .ok (.sipush 1000, 3) := by decide +kernel
theorem dX12_takesTest_67 : decode cX12_takesTest 67 = .ok (.iload_n 1, 1) := by decide +kernel
theorem dX12_takesTest_68 : decode cX12_takesTest 68 = .ok (.imul, 1) := by decide +kernel
theorem dX12_takesTest_69 : decode cX12_takesTest 69 = .ok (.bipush 100, 2) := by decide +kernel
theorem dX12_takesTest_71 : decode cX12_takesTest 71 = .ok (.iload_n 2, 1) := by decide +kernel
theorem dX12_takesTest_72 : decode cX12_takesTest 72 = .ok (.bipush 60, 2) := by decide +kernel
theorem dX12_takesTest_74 : decode cX12_takesTest 74 = .ok (.isub, 1) := by decide +kernel
theorem dX12_takesTest_75 : decode cX12_takesTest 75 = .ok (.imul, 1) := by decide +kernel
theorem dX12_takesTest_76 : decode cX12_takesTest 76 = .ok (.iadd, 1) := by decide +kernel
theorem dX12_takesTest_77 : decode cX12_takesTest 77 = .ok (.aload_n 0, 1) := by decide +kernel
theorem dX12_takesTest_78 : decode cX12_takesTest 78 = .ok (.getfield 50, 3) := by decide +kernel
theorem dX12_takesTest_81 : decode cX12_takesTest 81 = .ok (.iadd, 1) := by decide +kernel
theorem dX12_takesTest_82 : decode cX12_takesTest 82 = .ok (.invokevirtual 237, 3) := by decide +kernel
theorem dX12_takesTest_85 : decode cX12_takesTest 85 = .ok (.aload_n 0, 1) := by decide +kernel
theorem dX12_takesTest_86 : decode cX12_takesTest 86 = .ok (.invokevirtual 248, 3) := by decide +kernel
theorem dX12_takesTest_89 : decode cX12_takesTest 89 = .ok (.iconst 1, 1) := by decide +kernel
theorem dX12_takesTest_90 : decode cX12_takesTest 90 = .ok (.ireturn, 1) := by decide +kernel
theorem dX12_takesE_0 : decode cX12_takesE 0 = .ok (.aload_n 0, 1) := by decide +kernel
theorem dX12_takesE_1 : decode cX12_takesE 1 = .ok (.iconst 0, 1) := by decide +kernel
theorem dX12_takesE_2 : decode cX12_takesE 2 = .ok (.putfield 80, 3) := by decide +kernel
theorem dX12_takesE_5 : decode cX12_takesE 5 = .ok (.aload_n 0, 1) := by decide +kernel
theorem dX12_takesE_6 : decode cX12_takesE 6 = .ok (.iconst 0, 1) := by decide +kernel
theorem dX12_takesE_7 : decode cX12_takesE 7 = .ok (.putfield 83, 3) := by decide +kernel
theorem dX12_takesE_10 : decode cX12_takesE 10 = .ok (.aload_n 0, 1) := by decide +kernel
theorem dX12_takesE_11 : decode cX12_takesE 11 = .ok (.getfield 65, 3) := by decide +kernel
theorem dX12_takesE_14 : decode cX12_takesE 14 = .ok (.iload_n 1, 1) := by decide +kernel
theorem dX12_takesE_15 : decode cX12_takesE 15 = .ok (.aload_n 0, 1) := by decide +kernel
theorem dX12_takesE_16 : decode cX12_takesE 16 = .ok (.getfield 77, 3) := by decide +kernel
theorem dX12_takesE_19 : decode cX12_takesE 19 = .ok (.iastore, 1) := by decide +kernel
theorem dX12_takesE_20 : decode cX12_takesE 20 = .ok (.iconst 1, 1) := by decide +kernel
theorem dX12_takesE_21 : decode cX12_takesE 21 = .ok (.istore_n 2, 1) := by decide +kernel
theorem dX12_takesE_22 : decode cX12_takesE 22 = .ok (.aload_n 0, 1) := by decide +kernel
theorem dX12_takesE_23 : decode cX12_takesE 23 = .ok (.invokevirtual 226, 3) := by decide +kernel
theorem dX12_takesE_26 : decode cX12_takesE 26 = .ok (.istore_n 3, 1) := by decide +kernel
theorem dX12_takesE_27 : decode cX12_takesE 27 = .ok (.iload_n 2, 1) := by decide +kernel
theorem dX12_takesE_28 : decode cX12_takesE 28 = .ok (.ifCond .eq 82, 3) := by decide +kernel
theorem dX12_takesE_31 : decode cX12_takesE 31 = .ok (.iload_n 3, 1) := by decide +kernel
theorem dX12_takesE_32 : decode cX12_takesE 32 = .ok (.bipush 33, 2) := by decide +kernel
theorem dX12_takesE_34 : decode cX12_takesE 34 = .ok (.if_icmp .eq 9, 3) := by decide +kernel
theorem dX12_takesE_37 : decode cX12_takesE 37 = .ok (.iload_n 3, 1) := by decide +kernel
theorem dX12_takesE_38 : decode cX12_takesE 38 = .ok (.bipush 40, 2) := by decide +kernel
theorem dX12_takesE_40 : decode cX12_takesE 40 = .ok (.if_icmp .ne 56, 3) := by decide +kernel
theorem dX12_takesE_43 : decode cX12_takesE 43 = .ok (.aload_n 0, 1) := by decide +kernel
theorem dX12_takesE_44 : decode cX12_takesE 44 = .ok (.getfield 83, 3) := by decide +kernel
theorem dX12_takesE_47 : decode cX12_takesE 47 = .ok (.iconst 4, 1) := by decide +kernel
theorem dX12_takesE_48 : decode cX12_takesE 48 = .ok (.if_icmp .ne 5, 3) := by decide +kernel
theorem dX12_takesE_51 : decode cX12_takesE 51 = .ok (.iconst 0, 1) := by decide +kernel
theorem dX12_takesE_52 : decode cX12_takesE 52 = .ok (.ireturn, 1) := by decide +kernel
theorem dX12_takesE_53 : decode cX12_takesE 53 = .ok (.aload_n 0, 1) := by decide +kernel
theorem dX12_takesE_54 : decode cX12_takesE 54 = .ok (.dup, 1) := by decide +kernel
theorem dX12_takesE_55 : decode cX12_takesE 55 = .ok (.getfield 83, 3) := by decide +kernel
theorem dX12_takesE_58 : decode cX12_takesE 58 = .ok (.iconst 1, 1) := by decide +kernel
theorem dX12_takesE_59 : decode cX12_takesE 59 = .ok (.iadd, 1) := by decide +kernel
theorem dX12_takesE_60 : decode cX12_takesE 60 = .ok (.putfield 83, 3) := by decide +kernel
theorem dX12_takesE_63 : decode cX12_takesE 63 = .ok (.aload_n 0, 1) := by decide +kernel
theorem dX12_takesE_64 : decode cX12_takesE 64 = .ok (.getfield 74, 3) := by decide +kernel
theorem dX12_takesE_67 : decode cX12_takesE 67 = .ok (.aload_n 0, 1) := by decide +kernel
theorem dX12_takesE_68 : decode cX12_takesE 68 = .ok (.getfield 80, 3) := by decide +kernel
theorem dX12_takesE_71 : decode cX12_takesE 71 = .ok (.iload_n 3, 1) := by decide +kernel
theorem dX12_takesE_72 : decode cX12_takesE 72 = .ok (.iastore, 1) := by decide +kernel
theorem dX12_takesE_73 : decode cX12_takesE 73 = .ok (.aload_n 0, 1) := by decide +kernel
theorem dX12_takesE_74 : decode cX12_takesE 74 = .ok (.dup, 1) := by decide +kernel
theorem dX12_takesE_75 : decode cX12_takesE 75 = .ok (.getfield 80, 3) := by decide +kernel
theorem dX12_takesE_78 : decode cX12_takesE 78 = .ok (.iconst 1, 1) := by decide +kernel
theorem dX12_takesE_79 : decode cX12_takesE 79 = .ok (.iadd, 1) := by decide +kernel
theorem dX12_takesE_80 : decode cX12_takesE 80 = .ok (.putfield 80, 3) := by decide +kernel
theorem dX12_takesE_83 : decode cX12_takesE 83 = .ok (.aload_n 0, 1) := by decide +kernel
theorem dX12_takesE_84 : decode cX12_takesE 84 = .ok (.dup, 1) := by decide +kernel
theorem dX12_takesE_85 : decode cX12_takesE 85 = .ok (.getfield 47, 3) := by decide +kernel
theorem dX12_takesE_88 : decode cX12_takesE 88 = .ok (.iconst 1, 1) := by decide +kernel
theorem dX12_takesE_89 : decode cX12_takesE 89 = .ok (.iadd, 1) := by decide +kernel
theorem dX12_takesE_90 : decode cX12_takesE 90 = .ok (.putfield 47, 3) := by decide +kernel
theorem dX12_takesE_93 : decode cX12_takesE 93 = .ok (.goto (-71), 3) := by decide +kernel
theorem dX12_takesE_96 : decode cX12_takesE 96 = .ok (.aload_n 0, 1) := by decide +kernel
theorem dX12_takesE_97 : decode cX12_takesE 97 = .ok (.invokevirtual 251, 3) := by decide +kernel
theorem dX12_takesE_100 : decode cX12_takesE 100 = .ok (.ifCond .eq 8, 3) := by decide +kernel
theorem dX12_takesE_103 : decode cX12_takesE 103 = .ok (.iconst 0, 1) := by decide +kernel
theorem dX12_takesE_104 : decode cX12_takesE 104 = .ok (.istore_n 2, 1) := by decide +kernel
theorem dX12_takesE_105 : decode cX12_takesE 105 = .ok (.goto (-83), 3) := by decide +kernel
theorem dX12_takesE_108 : decode cX12_takesE 108 = .ok (.iconst 0, 1) := by decide +kernel
theorem dX12_takesE_109 : decode cX12_takesE 109 = .ok (.ireturn, 1) := by decide +kernel
theorem dX12_takesE_110 : decode cX12_takesE 110 = .ok (.iload_n 3, 1) := by decide +kernel
theorem dX12_takesE_111 : decode cX12_takesE 111 = .ok (.bipush 38, 2) := by decide +kernel
theorem dX12_takesE_113 : decode cX12_takesE 113 = .ok (.if_icmp .eq 9, 3) := by decide +kernel
theorem dX12_takesE_116 : decode cX12_takesE 116 = .ok (.iload_n 3, 1) := by decide +kernel
theorem dX12_takesE_117 : decode cX12_takesE 117 = .ok (.bipush 124, 2) := by decide +kernel
theorem dX12_takesE_119 : decode cX12_takesE 119 = .ok (.if_icmp .ne 43, 3) := by decide +kernel
theorem dX12_takesE_122 : decode cX12_takesE 122 = .ok (.aload_n 0, 1) := by decide +kernel
theorem dX12_takesE_123 : decode cX12_takesE 123 = .ok (.iload_n 3, 1) := by decide +kernel
theorem dX12_takesE_124 : decode cX12_takesE 124 = .ok (.invokevirtual 254, 3) := by decide +kernel
theorem dX12_takesE_127 : decode cX12_takesE 127 = .ok (.aload_n 0, 1) := by decide +kernel
theorem dX12_takesE_128 : decode cX12_takesE 128 = .ok (.getfield 74, 3) := by decide +kernel
theorem dX12_takesE_131 : decode cX12_takesE 131 = .ok (.aload_n 0, 1) := by decide +kernel
theorem dX12_takesE_132 : decode cX12_takesE 132 = .ok (.getfield 80, 3) := by decide +kernel
theorem dX12_takesE_135 : decode cX12_takesE 135 = .ok (.iload_n 3, 1) := by decide +kernel
theorem dX12_takesE_136 : decode cX12_takesE 136 = .ok (.iastore, 1) := by decide +kernel
theorem dX12_takesE_137 : decode cX12_takesE 137 = .ok (.aload_n 0, 1) := by decide +kernel
theorem dX12_takesE_138 : decode cX12_takesE 138 = .ok (.dup, 1) := by decide +kernel
theorem dX12_takesE_139 : decode cX12_takesE 139 = .ok (.getfield 80, 3) := by decide +kernel
theorem dX12_takesE_142 : decode cX12_takesE 142 = .ok (.iconst 1, 1) := by decide +kernel
theorem dX12_takesE_143 : decode cX12_takesE 143 = .ok (.iadd, 1) := by decide +kernel
theorem dX12_takesE_144 : decode cX12_takesE 144 = .ok (.putfield 80, 3) := by decide +kernel
theorem dX12_takesE_147 : decode cX12_takesE 147 = .ok (.iconst 1, 1) := by decide +kernel
theorem dX12_takesE_148 : decode cX12_takesE 148 = .ok (.istore_n 2, 1) := by decide +kernel
theorem dX12_takesE_149 : decode cX12_takesE 149 = .ok (.aload_n 0, 1) := by decide +kernel
theorem dX12_takesE_150 : decode cX12_takesE 150 = .ok (.dup, 1) := by decide +kernel
theorem dX12_takesE_151 : decode cX12_takesE 151 = .ok (.getfield 47, 3) := by decide +kernel
theorem dX12_takesE_154 : decode cX12_takesE 154 = .ok (.iconst 1, 1) := by decide +kernel
theorem dX12_takesE_155 : decode cX12_takesE 155 = .ok (.iadd, 1) := by decide +kernel
theorem dX12_takesE_156 : decode cX12_takesE 156 = .ok (.putfield 47, 3) := by decide +kernel
theorem dX12_takesE_159 : decode cX12_takesE 159 = .ok (.goto (-137), 3) := by decide +kernel
theorem dX12_takesE_162 : decode cX12_takesE 162 = .ok (.aload_n 0, 1) := by decide +kernel
theorem dX12_takesE_163 : decode cX12_takesE 163 = .ok (.bipush 124, 2) := by decide +kernel
theorem dX12_takesE_165 : decode cX12_takesE 165 = .ok (.invokevirtual 254, 3) := by decide +kernel
theorem dX12_takesE_168 : decode cX12_takesE 168 = .ok (.aload_n 0, 1) := by decide +kernel
theorem dX12_takesE_169 : decode cX12_takesE 169 = .ok (.getfield 68, 3) := by decide +kernel
theorem dX12_takesE_172 : decode cX12_takesE 172 = .ok (.iload_n 1, 1) := by decide +kernel
theorem dX12_takesE_173 : decode cX12_takesE 173 = .ok (.aload_n 0, 1) := by decide +kernel
theorem dX12_takesE_174 : decode cX12_takesE 174 = .ok (.getfield 77, 3) := by decide +kernel
theorem dX12_takesE_177 : decode cX12_takesE 177 = .ok (.iastore, 1) := by decide +kernel
theorem dX12_takesE_178 : decode cX12_takesE 178 = .ok (.aload_n 0, 1) := by decide +kernel
theorem dX12_takesE_179 : decode cX12_takesE 179 = .ok (.getfield 80, 3) := by decide +kernel
theorem dX12_takesE_182 : decode cX12_takesE 182 = .ok (.ifCond .ne 5, 3) := by decide +kernel
theorem dX12_takesE_185 : decode cX12_takesE 185 = .ok (.iconst 1, 1) := by decide +kernel
theorem dX12_takesE_186 : decode cX12_takesE 186 = .ok (.ireturn, 1) := by decide +kernel
theorem dX12_takesE_187 : decode cX12_takesE 187 = .ok (.iload_n 3, 1) := by decide +kernel
theorem dX12_takesE_188 : decode cX12_takesE 188 = .ok (.bipush 41, 2) := by decide +kernel
theorem dX12_takesE_190 : decode cX12_takesE 190 = .ok (.if_icmp .eq 5, 3) := by decide +kernel
theorem dX12_takesE_193 : decode cX12_takesE 193 = .ok (.iconst 0, 1) := by decide +kernel
theorem dX12_takesE_194 : decode cX12_takesE 194 = .ok (.ireturn, 1) := by decide +kernel
theorem dX12_takesE_195 : decode cX12_takesE 195 = .ok (.aload_n 0, 1) := by decide +kernel
theorem dX12_takesE_196 : decode cX12_takesE 196 = .ok (.dup, 1) := by decide +kernel
theorem dX12_takesE_197 : decode cX12_takesE 197 = .ok (.getfield 80, 3) := by decide +kernel
theorem dX12_takesE_200 : decode cX12_takesE 200 = .ok (.iconst 1, 1) := by decide +kernel
theorem dX12_takesE_201 : decode cX12_takesE 201 = .ok (.isub, 1) := by decide +kernel
theorem dX12_takesE_202 : decode cX12_takesE 202 = .ok (.putfield 80, 3) := by decide +kernel
theorem dX12_takesE_205 : decode cX12_takesE 205 = .ok (.aload_n 0, 1) := by decide +kernel
theorem dX12_takesE_206 : decode cX12_takesE 206 = .ok (.dup, 1) := by decide +kernel
theorem dX12_takesE_207 : decode cX12_takesE 207 = .ok (.getfield 83, 3) := by decide +kernel
theorem dX12_takesE_210 : decode cX12_takesE 210 = .ok (.iconst 1, 1) := by decide +kernel
theorem dX12_takesE_211 : decode cX12_takesE 211 = .ok (.isub, 1) := by decide +kernel
theorem dX12_takesE_212 : decode cX12_takesE 212 = .ok (.putfield 83, 3) := by decide +kernel
theorem dX12_takesE_215 : decode cX12_takesE 215 = .ok (.aload_n 0, 1) := by decide +kernel
theorem dX12_takesE_216 : decode cX12_takesE 216 = .ok (.dup, 1) := by decide +kernel
theorem dX12_takesE_217 : decode cX12_takesE 217 = .ok (.getfield 47, 3) := by decide +kernel
theorem dX12_takesE_220 : decode cX12_takesE 220 = .ok (.iconst 1, 1) := by decide +kernel
theorem dX12_takesE_221 : decode cX12_takesE 221 = .ok (.iadd, 1) := by decide +kernel
theorem dX12_takesE_222 : decode cX12_takesE 222 = .ok (.putfield 47, 3) := by decide +kernel
theorem dX12_takesE_225 : decode cX12_takesE 225 = .ok (.aload_n 0, 1) := by decide +kernel
theorem dX12_takesE_226 : decode cX12_takesE 226 = .ok (.invokevirtual 248, 3) := by decide +kernel
theorem dX12_takesE_229 : decode cX12_takesE 229 = .ok (.goto (-207), 3) := by decide +kernel
theorem dX12_takesHead_0 : decode cX12_takesHead 0 = .ok (.aload_n 0, 1) := by decide +kernel
theorem dX12_takesHead_1 : decode cX12_takesHead 1 = .ok (.invokevirtual 226, 3) := by decide +kernel
theorem dX12_takesHead_4 : decode cX12_takesHead 4 = .ok (.lookupswitch 80 #[(105, 36), (108, 50), (114, 65)], 36) := by decide +kernel
theorem dX12_takesHead_40 : decode cX12_takesHead 40 = .ok (.aload_n 0, 1) := by decide +kernel
theorem dX12_takesHead_41 : decode cX12_takesHead 41 = .ok (.getfield 59, 3) := by decide +kernel
theorem dX12_takesHead_44 : decode cX12_takesHead 44 = .ok (.iload_n 1, 1) := by decide +kernel
theorem dX12_takesHead_45 : decode cX12_takesHead 45 = .ok (.iconst 0, 1) := by decide +kernel
theorem dX12_takesHead_46 : decode cX12_takesHead 46 = .ok (.iastore, 1) := by decide +kernel
theorem dX12_takesHead_47 : decode cX12_takesHead 47 = .ok (.aload_n 0, 1) := by decide +kernel
theorem dX12_takesHead_48 : decode cX12_takesHead 48 = .ok (.iconst 0, 1) := by decide +kernel
theorem dX12_takesHead_49 : decode cX12_takesHead 49 = .ok (.iconst 2, 1) := by decide +kernel
theorem dX12_takesHead_50 : decode cX12_takesHead 50 = .ok (.invokevirtual 257, 3) := by decide +kernel
theorem dX12_takesHead_53 : decode cX12_takesHead 53 = .ok (.ireturn, 1) := by decide +kernel
theorem dX12_takesHead_54 : decode cX12_takesHead 54 = .ok (.aload_n 0, 1) := by decide +kernel
theorem dX12_takesHead_55 : decode cX12_takesHead 55 = .ok (.getfield 59, 3) := by decide +kernel
theorem dX12_takesHead_58 : decode cX12_takesHead 58 = .ok (.iload_n 1, 1) := by decide +kernel
theorem dX12_takesHead_59 : decode cX12_takesHead 59 = .ok (.iconst 2, 1) := by decide +kernel
theorem dX12_takesHead_60 : decode cX12_takesHead 60 = .ok (.iastore, 1) := by decide +kernel
theorem dX12_takesHead_61 : decode cX12_takesHead 61 = .ok (.aload_n 0, 1) := by decide +kernel
theorem dX12_takesHead_62 : decode cX12_takesHead 62 = .ok (.bipush 6, 2) := by decide +kernel
theorem dX12_takesHead_64 : decode cX12_takesHead 64 = .ok (.iconst 4, 1) := by decide +kernel
theorem dX12_takesHead_65 : decode cX12_takesHead 65 = .ok (.invokevirtual 257, 3) := by decide +kernel
theorem dX12_takesHead_68 : decode cX12_takesHead 68 = .ok (.ireturn, 1) := by decide +kernel
theorem dX12_takesHead_69 : decode cX12_takesHead 69 = .ok (.aload_n 0, 1) := by decide +kernel
theorem dX12_takesHead_70 : decode cX12_takesHead 70 = .ok (.getfield 59, 3) := by decide +kernel
theorem dX12_takesHead_73 : decode cX12_takesHead 73 = .ok (.iload_n 1, 1) := by decide +kernel
theorem dX12_takesHead_74 : decode cX12_takesHead 74 = .ok (.iconst 3, 1) := by decide +kernel
theorem dX12_takesHead_75 : decode cX12_takesHead 75 = .ok (.iastore, 1) := by decide +kernel
theorem dX12_takesHead_76 : decode cX12_takesHead 76 = .ok (.aload_n 0, 1) := by decide +kernel
theorem dX12_takesHead_77 : decode cX12_takesHead 77 = .ok (.bipush 10, 2) := by decide +kernel
theorem dX12_takesHead_79 : decode cX12_takesHead 79 = .ok (.iconst 5, 1) := by decide +kernel
theorem dX12_takesHead_80 : decode cX12_takesHead 80 = .ok (.invokevirtual 257, 3) := by decide +kernel
theorem dX12_takesHead_83 : decode cX12_takesHead 83 = .ok (.ireturn, 1) := by decide +kernel
theorem dX12_takesHead_84 : decode cX12_takesHead 84 = .ok (.aload_n 0, 1) := by decide +kernel
theorem dX12_takesHead_85 : decode cX12_takesHead 85 = .ok (.getfield 59, 3) := by decide +kernel
theorem dX12_takesHead_88 : decode cX12_takesHead 88 = .ok (.iload_n 1, 1) := by decide +kernel
theorem dX12_takesHead_89 : decode cX12_takesHead 89 = .ok (.aload_n 0, 1) := by decide +kernel
theorem dX12_takesHead_90 : decode cX12_takesHead 90 = .ok (.invokevirtual 261, 3) := by decide +kernel
theorem dX12_takesHead_93 : decode cX12_takesHead 93 = .ok (.bipush 116, 2) := by decide +kernel
theorem dX12_takesHead_95 : decode cX12_takesHead 95 = .ok (.if_icmp .ne 7, 3) := by decide +kernel
theorem dX12_takesHead_98 : decode cX12_takesHead 98 = .ok (.iconst 4, 1) := by decide +kernel
theorem dX12_takesHead_99 : decode cX12_takesHead 99 = .ok (.goto 4, 3) := by decide +kernel
theorem dX12_takesHead_102 : decode cX12_takesHead 102 = .ok (.iconst 1, 1) := by decide +kernel
theorem dX12_takesHead_103 : decode cX12_takesHead 103 = .ok (.iastore, 1) := by decide +kernel
theorem dX12_takesHead_104 : decode cX12_takesHead 104 = .ok (.aload_n 0, 1) := by decide +kernel
theorem dX12_takesHead_105 : decode cX12_takesHead 105 = .ok (.getfield 59, 3) := by decide +kernel
theorem dX12_takesHead_108 : decode cX12_takesHead 108 = .ok (.iload_n 1, 1) := by decide +kernel
theorem dX12_takesHead_109 : decode cX12_takesHead 109 = .ok (.iaload, 1) := by decide +kernel
theorem dX12_takesHead_110 : decode cX12_takesHead 110 = .ok (.iconst 4, 1) := by decide +kernel
theorem dX12_takesHead_111 : decode cX12_takesHead 111 = .ok (.if_icmp .ne 13, 3) := by decide +kernel
theorem dX12_takesHead_114 : decode cX12_takesHead 114 = .ok (.aload_n 0, 1) := by decide +kernel
theorem dX12_takesHead_115 : decode cX12_takesHead 115 = .ok (.bipush 15, 2) := by decide +kernel
theorem dX12_takesHead_117 : decode cX12_takesHead 117 = .ok (.iconst 4, 1) := by decide +kernel
theorem dX12_takesHead_118 : decode cX12_takesHead 118 = .ok (.invokevirtual 257, 3) := by decide +kernel
theorem dX12_takesHead_121 : decode cX12_takesHead 121 = .ok (.goto 9, 3) := by decide +kernel
theorem dX12_takesHead_124 : decode cX12_takesHead 124 = .ok (.aload_n 0, 1) := by decide +kernel
theorem dX12_takesHead_125 : decode cX12_takesHead 125 = .ok (.iconst 2, 1) := by decide +kernel
theorem dX12_takesHead_126 : decode cX12_takesHead 126 = .ok (.iconst 4, 1) := by decide +kernel
theorem dX12_takesHead_127 : decode cX12_takesHead 127 = .ok (.invokevirtual 257, 3) := by decide +kernel
theorem dX12_takesHead_130 : decode cX12_takesHead 130 = .ok (.ireturn, 1) := by decide +kernel
theorem dX12_takesClause_0 : decode cX12_takesClause 0 = .ok (.aload_n 0, 1) := by decide +kernel
theorem dX12_takesClause_1 : decode cX12_takesClause 1 = .ok (.iload_n 1, 1) := by decide +kernel
theorem dX12_takesClause_2 : decode cX12_takesClause 2 = .ok (.invokevirtual 264, 3) := by decide +kernel
theorem dX12_takesClause_5 : decode cX12_takesClause 5 = .ok (.ifCond .ne 5, 3) := by decide +kernel
theorem dX12_takesClause_8 : decode cX12_takesClause 8 = .ok (.iconst 0, 1) := by decide +kernel
theorem dX12_takesClause_9 : decode cX12_takesClause 9 = .ok (.ireturn, 1) := by decide +kernel
theorem dX12_takesClause_10 : decode cX12_takesClause 10 = .ok (.aload_n 0, 1) := by decide +kernel
theorem dX12_takesClause_11 : decode cX12_takesClause 11 = .ok (.getfield 59, 3) := by decide +kernel
theorem dX12_takesClause_14 : decode cX12_takesClause 14 = .ok (.iload_n 1, 1) := by decide +kernel
theorem dX12_takesClause_15 : decode cX12_takesClause 15 = .ok (.iaload, 1) := by decide +kernel
theorem dX12_takesClause_16 : decode cX12_takesClause 16 = .ok (.iconst 1, 1) := by decide +kernel
theorem dX12_takesClause_17 : decode cX12_takesClause 17 = .ok (.if_icmp .le 9, 3) := by decide +kernel
theorem dX12_takesClause_20 : decode cX12_takesClause 20 = .ok (.aload_n 0, 1) := by decide +kernel
theorem dX12_takesClause_21 : decode cX12_takesClause 21 = .ok (.iload_n 1, 1) := by decide +kernel
theorem dX12_takesClause_22 : decode cX12_takesClause 22 = .ok (.invokevirtual 267, 3) := by decide +kernel
theorem dX12_takesClause_25 : decode cX12_takesClause 25 = .ok (.ireturn, 1) := by decide +kernel
theorem dX12_takesClause_26 : decode cX12_takesClause 26 = .ok (.aload_n 0, 1) := by decide +kernel
theorem dX12_takesClause_27 : decode cX12_takesClause 27 = .ok (.invokevirtual 245, 3) := by decide +kernel
theorem dX12_takesClause_30 : decode cX12_takesClause 30 = .ok (.ifCond .ne 5, 3) := by decide +kernel
theorem dX12_takesClause_33 : decode cX12_takesClause 33 = .ok (.iconst 0, 1) := by decide +kernel
theorem dX12_takesClause_34 : decode cX12_takesClause 34 = .ok (.ireturn, 1) := by decide +kernel
theorem dX12_takesClause_35 : decode cX12_takesClause 35 = .ok (.aload_n 0, 1) := by decide +kernel
theorem dX12_takesClause_36 : decode cX12_takesClause 36 = .ok (.getfield 62, 3) := by decide +kernel
theorem dX12_takesClause_39 : decode cX12_takesClause 39 = .ok (.iload_n 1, 1) := by decide +kernel
theorem dX12_takesClause_40 : decode cX12_takesClause 40 = .ok (.aload_n 0, 1) := by decide +kernel
theorem dX12_takesClause_41 : decode cX12_takesClause 41 = .ok (.getfield 50, 3) := by decide +kernel
theorem dX12_takesClause_44 : decode cX12_takesClause 44 = .ok (.iastore, 1) := by decide +kernel
theorem dX12_takesClause_45 : decode cX12_takesClause 45 = .ok (.aload_n 0, 1) := by decide +kernel
theorem dX12_takesClause_46 : decode cX12_takesClause 46 = .ok (.bipush 32, 2) := by decide +kernel
theorem dX12_takesClause_48 : decode cX12_takesClause 48 = .ok (.invokevirtual 230, 3) := by decide +kernel
theorem dX12_takesClause_51 : decode cX12_takesClause 51 = .ok (.ifCond .eq 15, 3) := by decide +kernel
theorem dX12_takesClause_54 : decode cX12_takesClause 54 = .ok (.aload_n 0, 1) := by decide +kernel
theorem dX12_takesClause_55 : decode cX12_takesClause 55 = .ok (.iload_n 1, 1) := by decide +kernel
theorem dX12_takesClause_56 : decode cX12_takesClause 56 = .ok (.invokevirtual 267, 3) := by decide +kernel
theorem dX12_takesClause_59 : decode cX12_takesClause 59 = .ok (.ifCond .eq 7, 3) := by decide +kernel
theorem dX12_takesClause_62 : decode cX12_takesClause 62 = .ok (.iconst 1, 1) := by decide +kernel
theorem dX12_takesClause_63 : decode cX12_takesClause 63 = .ok (.goto 4, 3) := by decide +kernel
theorem dX12_takesClause_66 : decode cX12_takesClause 66 = .ok (.iconst 0, 1) := by decide +kernel
theorem dX12_takesClause_67 : decode cX12_takesClause 67 = .ok (.ireturn, 1) := by decide +kernel
theorem dX12_goesText_0 : decode cX12_goesText 0 = .ok (.aload_n 0, 1) := by decide +kernel
theorem dX12_goesText_1 : decode cX12_goesText 1 = .ok (.iconst 0, 1) := by decide +kernel
theorem dX12_goesText_2 : decode cX12_goesText 2 = .ok (.putfield 47, 3) := by decide +kernel
theorem dX12_goesText_5 : decode cX12_goesText 5 = .ok (.aload_n 0, 1) := by decide +kernel
theorem dX12_goesText_6 : decode cX12_goesText 6 = .ok (.bipush 100, 2) := by decide +kernel
theorem dX12_goesText_8 : decode cX12_goesText 8 = .ok (.iload_n 1, 1) := by decide +kernel
theorem dX12_goesText_9 : decode cX12_goesText 9 = .ok (.imul, 1) := by decide +kernel
theorem dX12_goesText_10 : decode cX12_goesText 10 = .ok (.putfield 77, 3) := by decide +kernel
theorem dX12_goesText_13 : decode cX12_goesText 13 = .ok (.iconst 0, 1) := by decide +kernel
theorem dX12_goesText_14 : decode cX12_goesText 14 = .ok (.istore_n 2, 1) := by decide +kernel
theorem dX12_goesText_15 : decode cX12_goesText 15 = .ok (.aload_n 0, 1) := by decide +kernel
theorem dX12_goesText_16 : decode cX12_goesText 16 = .ok (.bipush 10, 2) := by decide +kernel
theorem dX12_goesText_18 : decode cX12_goesText 18 = .ok (.iload_n 1, 1) := by decide +kernel
theorem dX12_goesText_19 : decode cX12_goesText 19 = .ok (.imul, 1) := by decide +kernel
theorem dX12_goesText_20 : decode cX12_goesText 20 = .ok (.iload_n 2, 1) := by decide +kernel
theorem dX12_goesText_21 : decode cX12_goesText 21 = .ok (.iadd, 1) := by decide +kernel
theorem dX12_goesText_22 : decode cX12_goesText 22 = .ok (.invokevirtual 270, 3) := by decide +kernel
theorem dX12_goesText_25 : decode cX12_goesText 25 = .ok (.ifCond .ne 5, 3) := by decide +kernel
theorem dX12_goesText_28 : decode cX12_goesText 28 = .ok (.iconst 0, 1) := by decide +kernel
theorem dX12_goesText_29 : decode cX12_goesText 29 = .ok (.ireturn, 1) := by decide +kernel
theorem dX12_goesText_30 : decode cX12_goesText 30 = .ok (.iinc 2 1, 3) := by decide +kernel
theorem dX12_goesText_33 : decode cX12_goesText 33 = .ok (.aload_n 0, 1) := by decide +kernel
theorem dX12_goesText_34 : decode cX12_goesText 34 = .ok (.getfield 56, 3) := by decide +kernel
theorem dX12_goesText_37 : decode cX12_goesText 37 = .ok (.iload_n 1, 1) := by decide +kernel
theorem dX12_goesText_38 : decode cX12_goesText 38 = .ok (.iload_n 2, 1) := by decide +kernel
theorem dX12_goesText_39 : decode cX12_goesText 39 = .ok (.iastore, 1) := by decide +kernel
theorem dX12_goesText_40 : decode cX12_goesText 40 = .ok (.aload_n 0, 1) := by decide +kernel
theorem dX12_goesText_41 : decode cX12_goesText 41 = .ok (.getfield 47, 3) := by decide +kernel
theorem dX12_goesText_44 : decode cX12_goesText 44 = .ok (.aload_n 0, 1) := by decide +kernel
theorem dX12_goesText_45 : decode cX12_goesText 45 = .ok (.getfield 44, 3) := by decide +kernel
theorem dX12_goesText_48 : decode cX12_goesText 48 = .ok (.if_icmp .ne 5, 3) := by decide +kernel
theorem dX12_goesText_51 : decode cX12_goesText 51 = .ok (.iconst 1, 1) := by decide +kernel
theorem dX12_goesText_52 : decode cX12_goesText 52 = .ok (.ireturn, 1) := by decide +kernel
theorem dX12_goesText_53 : decode cX12_goesText 53 = .ok (.iload_n 2, 1) := by decide +kernel
theorem dX12_goesText_54 : decode cX12_goesText 54 = .ok (.bipush 10, 2) := by decide +kernel
theorem dX12_goesText_56 : decode cX12_goesText 56 = .ok (.if_icmp .eq 12, 3) := by decide +kernel
theorem dX12_goesText_59 : decode cX12_goesText 59 = .ok (.aload_n 0, 1) := by decide +kernel
theorem dX12_goesText_60 : decode cX12_goesText 60 = .ok (.bipush 59, 2) := by decide +kernel
theorem dX12_goesText_62 : decode cX12_goesText 62 = .ok (.invokevirtual 230, 3) := by decide +kernel
theorem dX12_goesText_65 : decode cX12_goesText 65 = .ok (.ifCond .ne (-50), 3) := by decide +kernel
theorem dX12_goesText_68 : decode cX12_goesText 68 = .ok (.iconst 0, 1) := by decide +kernel
theorem dX12_goesText_69 : decode cX12_goesText 69 = .ok (.ireturn, 1) := by decide +kernel
theorem dX12_ground_0 : decode cX12_ground 0 = .ok (.aload_n 0, 1) := by decide +kernel
theorem dX12_ground_1 : decode cX12_ground 1 = .ok (.getfield 38, 3) := by decide +kernel
theorem dX12_ground_4 : decode cX12_ground 4 = .ok (.bipush 6, 2) := by decide +kernel
theorem dX12_ground_6 : decode cX12_ground 6 = .ok (.if_icmp .ne 6, 3) := by decide +kernel
theorem dX12_ground_9 : decode cX12_ground 9 = .ok (.bipush (-4), 2) := by decide +kernel
theorem dX12_ground_11 : decode cX12_ground 11 = .ok (.ireturn, 1) := by decide +kernel
theorem dX12_ground_12 : decode cX12_ground 12 = .ok (.aload_n 0, 1) := by decide +kernel
theorem dX12_ground_13 : decode cX12_ground 13 = .ok (.aload_n 0, 1) := by decide +kernel
theorem dX12_ground_14 : decode cX12_ground 14 = .ok (.getfield 38, 3) := by decide +kernel
theorem dX12_ground_17 : decode cX12_ground 17 = .ok (.invokevirtual 273, 3) := by decide +kernel
theorem dX12_ground_20 : decode cX12_ground 20 = .ok (.istore_n 1, 1) := by decide +kernel
theorem dX12_ground_21 : decode cX12_ground 21 = .ok (.aload_n 0, 1) := by decide +kernel
theorem dX12_ground_22 : decode cX12_ground 22 = .ok (.iconst 0, 1) := by decide +kernel
theorem dX12_ground_23 : decode cX12_ground 23 = .ok (.putfield 44, 3) := by decide +kernel
theorem dX12_ground_26 : decode cX12_ground 26 = .ok (.iload_n 1, 1) := by decide +kernel
theorem dX12_ground_27 : decode cX12_ground 27 = .ok (.ifCond .ne 11, 3) := by decide +kernel
theorem dX12_ground_30 : decode cX12_ground 30 = .ok (.bipush (-10), 2) := by decide +kernel
theorem dX12_ground_32 : decode cX12_ground 32 = .ok (.aload_n 0, 1) := by decide +kernel
theorem dX12_ground_33 : decode cX12_ground 33 = .ok (.getfield 47, 3) := by decide +kernel
theorem dX12_ground_36 : decode cX12_ground 36 = .ok (.isub, 1) := by decide +kernel
theorem dX12_ground_37 : decode cX12_ground 37 = .ok (.ireturn, 1) := by decide +kernel
theorem dX12_ground_38 : decode cX12_ground 38 = .ok (.aload_n 0, 1) := by decide +kernel
theorem dX12_ground_39 : decode cX12_ground 39 = .ok (.aload_n 0, 1) := by decide +kernel
theorem dX12_ground_40 : decode cX12_ground 40 = .ok (.getfield 38, 3) := by decide +kernel
theorem dX12_ground_43 : decode cX12_ground 43 = .ok (.putfield 41, 3) := by decide +kernel
theorem dX12_ground_46 : decode cX12_ground 46 = .ok (.aload_n 0, 1) := by decide +kernel
theorem dX12_ground_47 : decode cX12_ground 47 = .ok (.dup, 1) := by decide +kernel
theorem dX12_ground_48 : decode cX12_ground 48 = .ok (.getfield 38, 3) := by decide +kernel
theorem dX12_ground_51 : decode cX12_ground 51 = .ok (.iconst 1, 1) := by decide +kernel
theorem dX12_ground_52 : decode cX12_ground 52 = .ok (.iadd, 1) := by decide +kernel
theorem dX12_ground_53 : decode cX12_ground 53 = .ok (.putfield 38, 3) := by decide +kernel
theorem dX12_ground_56 : decode cX12_ground 56 = .ok (.aload_n 0, 1) := by decide +kernel
theorem dX12_ground_57 : decode cX12_ground 57 = .ok (.getfield 41, 3) := by decide +kernel
theorem dX12_ground_60 : decode cX12_ground 60 = .ok (.ireturn, 1) := by decide +kernel
theorem dX12_begin_0 : decode cX12_begin 0 = .ok (.aload_n 0, 1) := by decide +kernel
theorem dX12_begin_1 : decode cX12_begin 1 = .ok (.getfield 41, 3) := by decide +kernel
theorem dX12_begin_4 : decode cX12_begin 4 = .ok (.ifCond .ge 7, 3) := by decide +kernel
theorem dX12_begin_7 : decode cX12_begin 7 = .ok (.iconst 0, 1) := by decide +kernel
theorem dX12_begin_8 : decode cX12_begin 8 = .ok (.goto 10, 3) := by decide +kernel
theorem dX12_begin_11 : decode cX12_begin 11 = .ok (.bipush 10, 2) := by decide +kernel
theorem dX12_begin_13 : decode cX12_begin 13 = .ok (.aload_n 0, 1) := by decide +kernel
theorem dX12_begin_14 : decode cX12_begin 14 = .ok (.getfield 41, 3) := by decide +kernel
theorem dX12_begin_17 : decode cX12_begin 17 = .ok (.imul, 1) := by decide +kernel
theorem dX12_begin_18 : decode cX12_begin 18 = .ok (.ireturn, 1) := by decide +kernel
theorem dX12_behind_0 : decode cX12_behind 0 = .ok (.aload_n 0, 1) := by decide +kernel
theorem dX12_behind_1 : decode cX12_behind 1 = .ok (.getfield 41, 3) := by decide +kernel
theorem dX12_behind_4 : decode cX12_behind 4 = .ok (.ifCond .ge 7, 3) := by decide +kernel
theorem dX12_behind_7 : decode cX12_behind 7 = .ok (.iconst 0, 1) := by decide +kernel
theorem dX12_behind_8 : decode cX12_behind 8 = .ok (.goto 20, 3) := by decide +kernel
theorem dX12_behind_11 : decode cX12_behind 11 = .ok (.bipush 10, 2) := by decide +kernel
theorem dX12_behind_13 : decode cX12_behind 13 = .ok (.aload_n 0, 1) := by decide +kernel
theorem dX12_behind_14 : decode cX12_behind 14 = .ok (.getfield 41, 3) := by decide +kernel
theorem dX12_behind_17 : decode cX12_behind 17 = .ok (.imul, 1) := by decide +kernel
theorem dX12_behind_18 : decode cX12_behind 18 = .ok (.aload_n 0, 1) := by decide +kernel
theorem dX12_behind_19 : decode cX12_behind 19 = .ok (.getfield 56, 3) := by decide +kernel
theorem dX12_behind_22 : decode cX12_behind 22 = .ok (.aload_n 0, 1) := by decide +kernel
theorem dX12_behind_23 : decode cX12_behind 23 = .ok (.getfield 41, 3) := by decide +kernel
theorem dX12_behind_26 : decode cX12_behind 26 = .ok (.iaload, 1) := by decide +kernel
theorem dX12_behind_27 : decode cX12_behind 27 = .ok (.iadd, 1) := by decide +kernel
theorem dX12_behind_28 : decode cX12_behind 28 = .ok (.ireturn, 1) := by decide +kernel
theorem dX12_factOf_0 : decode cX12_factOf 0 = .ok (.iload_n 1, 1) := by decide +kernel
theorem dX12_factOf_1 : decode cX12_factOf 1 = .ok (.tableswitch 64 0 4 #[35, 37, 44, 46, 56], 35) := by decide +kernel
theorem dX12_factOf_36 : decode cX12_factOf 36 = .ok (.iload_n 2, 1) := by decide +kernel
theorem dX12_factOf_37 : decode cX12_factOf 37 = .ok (.ireturn, 1) := by decide +kernel
theorem dX12_factOf_38 : decode cX12_factOf 38 = .ok (.aload_n 0, 1) := by decide +kernel
theorem dX12_factOf_39 : decode cX12_factOf 39 = .ok (.getfield 19, 3) := by decide +kernel
theorem dX12_factOf_42 : decode cX12_factOf 42 = .ok (.iload_n 2, 1) := by decide +kernel
theorem dX12_factOf_43 : decode cX12_factOf 43 = .ok (.iaload, 1) := by decide +kernel
theorem dX12_factOf_44 : decode cX12_factOf 44 = .ok (.ireturn, 1) := by decide +kernel
theorem dX12_factOf_45 : decode cX12_factOf 45 = .ok (.iload_n 3, 1) := by decide +kernel
theorem dX12_factOf_46 : decode cX12_factOf 46 = .ok (.ireturn, 1) := by decide +kernel
theorem dX12_factOf_47 : decode cX12_factOf 47 = .ok (.aload_n 0, 1) := by decide +kernel
theorem dX12_factOf_48 : decode cX12_factOf 48 = .ok (.getfield 29, 3) := by decide +kernel
theorem dX12_factOf_51 : decode cX12_factOf 51 = .ok (.iload_n 2, 1) := by decide +kernel
theorem dX12_factOf_52 : decode cX12_factOf 52 = .ok (.iaload, 1) := by decide +kernel
theorem dX12_factOf_53 : decode cX12_factOf 53 = .ok (.bipush 10, 2) := by decide +kernel
theorem dX12_factOf_55 : decode cX12_factOf 55 = .ok (.irem, 1) := by decide +kernel
theorem dX12_factOf_56 : decode cX12_factOf 56 = .ok (.ireturn, 1) := by decide +kernel
theorem dX12_factOf_57 : decode cX12_factOf 57 = .ok (.aload_n 0, 1) := by decide +kernel
theorem dX12_factOf_58 : decode cX12_factOf 58 = .ok (.getfield 16, 3) := by decide +kernel
theorem dX12_factOf_61 : decode cX12_factOf 61 = .ok (.bipush 10, 2) := by decide +kernel
theorem dX12_factOf_63 : decode cX12_factOf 63 = .ok (.irem, 1) := by decide +kernel
theorem dX12_factOf_64 : decode cX12_factOf 64 = .ok (.ireturn, 1) := by decide +kernel
theorem dX12_factOf_65 : decode cX12_factOf 65 = .ok (.aload_n 0, 1) := by decide +kernel
theorem dX12_factOf_66 : decode cX12_factOf 66 = .ok (.getfield 13, 3) := by decide +kernel
theorem dX12_factOf_69 : decode cX12_factOf 69 = .ok (.bipush 10, 2) := by decide +kernel
theorem dX12_factOf_71 : decode cX12_factOf 71 = .ok (.irem, 1) := by decide +kernel
theorem dX12_factOf_72 : decode cX12_factOf 72 = .ok (.ireturn, 1) := by decide +kernel
theorem dX12_holds_0 : decode cX12_holds 0 = .ok (.iconst 0, 1) := by decide +kernel
theorem dX12_holds_1 : decode cX12_holds 1 = .ok (.istore 4, 2) := by decide +kernel
theorem dX12_holds_3 : decode cX12_holds 3 = .ok (.aload_n 0, 1) := by decide +kernel
theorem dX12_holds_4 : decode cX12_holds 4 = .ok (.getfield 65, 3) := by decide +kernel
theorem dX12_holds_7 : decode cX12_holds 7 = .ok (.iload_n 1, 1) := by decide +kernel
theorem dX12_holds_8 : decode cX12_holds 8 = .ok (.iaload, 1) := by decide +kernel
theorem dX12_holds_9 : decode cX12_holds 9 = .ok (.istore 5, 2) := by decide +kernel
theorem dX12_holds_11 : decode cX12_holds 11 = .ok (.iload 5, 2) := by decide +kernel
theorem dX12_holds_13 : decode cX12_holds 13 = .ok (.aload_n 0, 1) := by decide +kernel
theorem dX12_holds_14 : decode cX12_holds 14 = .ok (.getfield 68, 3) := by decide +kernel
theorem dX12_holds_17 : decode cX12_holds 17 = .ok (.iload_n 1, 1) := by decide +kernel
theorem dX12_holds_18 : decode cX12_holds 18 = .ok (.iaload, 1) := by decide +kernel
theorem dX12_holds_19 : decode cX12_holds 19 = .ok (.if_icmp .ge 234, 3) := by decide +kernel
theorem dX12_holds_22 : decode cX12_holds 22 = .ok (.aload_n 0, 1) := by decide +kernel
theorem dX12_holds_23 : decode cX12_holds 23 = .ok (.getfield 71, 3) := by decide +kernel
theorem dX12_holds_26 : decode cX12_holds 26 = .ok (.iload 5, 2) := by decide +kernel
theorem dX12_holds_28 : decode cX12_holds 28 = .ok (.iaload, 1) := by decide +kernel
theorem dX12_holds_29 : decode cX12_holds 29 = .ok (.istore 6, 2) := by decide +kernel
theorem dX12_holds_31 : decode cX12_holds 31 = .ok (.iload 6, 2) := by decide +kernel
theorem dX12_holds_33 : decode cX12_holds 33 = .ok (.bipush (-33), 2) := by decide +kernel
theorem dX12_holds_35 : decode cX12_holds 35 = .ok (.if_icmp .ne 32, 3) := by decide +kernel
theorem dX12_holds_38 : decode cX12_holds 38 = .ok (.aload_n 0, 1) := by decide +kernel
theorem dX12_holds_39 : decode cX12_holds 39 = .ok (.getfield 89, 3) := by decide +kernel
theorem dX12_holds_42 : decode cX12_holds 42 = .ok (.iload 4, 2) := by decide +kernel
theorem dX12_holds_44 : decode cX12_holds 44 = .ok (.iconst 1, 1) := by decide +kernel
theorem dX12_holds_45 : decode cX12_holds 45 = .ok (.isub, 1) := by decide +kernel
theorem dX12_holds_46 : decode cX12_holds 46 = .ok (.aload_n 0, 1) := by decide +kernel
theorem dX12_holds_47 : decode cX12_holds 47 = .ok (.getfield 89, 3) := by decide +kernel
theorem dX12_holds_50 : decode cX12_holds 50 = .ok (.iload 4, 2) := by decide +kernel
theorem dX12_holds_52 : decode cX12_holds 52 = .ok (.iconst 1, 1) := by decide +kernel
theorem dX12_holds_53 : decode cX12_holds 53 = .ok (.isub, 1) := by decide +kernel
theorem dX12_holds_54 : decode cX12_holds 54 = .ok (.baload, 1) := by decide +kernel
theorem dX12_holds_55 : decode cX12_holds 55 = .ok (.ifCond .ne 7, 3) := by decide +kernel
theorem dX12_holds_58 : decode cX12_holds 58 = .ok (.iconst 1, 1) := by decide +kernel
theorem dX12_holds_59 : decode cX12_holds 59 = .ok (.goto 4, 3) := by decide +kernel
theorem dX12_holds_62 : decode cX12_holds 62 = .ok (.iconst 0, 1) := by decide +kernel
theorem dX12_holds_63 : decode cX12_holds 63 = .ok (.bastore, 1) := by decide +kernel
theorem dX12_holds_64 : decode cX12_holds 64 = .ok (.goto 183, 3) := by decide +kernel
theorem dX12_holds_67 : decode cX12_holds 67 = .ok (.iload 6, 2) := by decide +kernel
theorem dX12_holds_69 : decode cX12_holds 69 = .ok (.ifCond .ge 82, 3) := by decide +kernel
theorem dX12_holds_72 : decode cX12_holds 72 = .ok (.iinc 4 (-1), 3) := by decide +kernel
theorem dX12_holds_75 : decode cX12_holds 75 = .ok (.aload_n 0, 1) := by decide +kernel
theorem dX12_holds_76 : decode cX12_holds 76 = .ok (.getfield 89, 3) := by decide +kernel
theorem dX12_holds_79 : decode cX12_holds 79 = .ok (.iload 4, 2) := by decide +kernel
theorem dX12_holds_81 : decode cX12_holds 81 = .ok (.iconst 1, 1) := by decide +kernel
theorem dX12_holds_82 : decode cX12_holds 82 = .ok (.isub, 1) := by decide +kernel
theorem dX12_holds_83 : decode cX12_holds 83 = .ok (.iload 6, 2) := by decide +kernel
theorem dX12_holds_85 : decode cX12_holds 85 = .ok (.bipush (-38), 2) := by decide +kernel
theorem dX12_holds_87 : decode cX12_holds 87 = .ok (.if_icmp .ne 33, 3) := by decide +kernel
theorem dX12_holds_90 : decode cX12_holds 90 = .ok (.aload_n 0, 1) := by decide +kernel
theorem dX12_holds_91 : decode cX12_holds 91 = .ok (.getfield 89, 3) := by decide +kernel
theorem dX12_holds_94 : decode cX12_holds 94 = .ok (.iload 4, 2) := by decide +kernel
theorem dX12_holds_96 : decode cX12_holds 96 = .ok (.iconst 1, 1) := by decide +kernel
theorem dX12_holds_97 : decode cX12_holds 97 = .ok (.isub, 1) := by decide +kernel
theorem dX12_holds_98 : decode cX12_holds 98 = .ok (.baload, 1) := by decide +kernel
theorem dX12_holds_99 : decode cX12_holds 99 = .ok (.ifCond .eq 17, 3) := by decide +kernel
theorem dX12_holds_102 : decode cX12_holds 102 = .ok (.aload_n 0, 1) := by decide +kernel
theorem dX12_holds_103 : decode cX12_holds 103 = .ok (.getfield 89, 3) := by decide +kernel
theorem dX12_holds_106 : decode cX12_holds 106 = .ok (.iload 4, 2) := by decide +kernel
theorem dX12_holds_108 : decode cX12_holds 108 = .ok (.baload, 1) := by decide +kernel
theorem dX12_holds_109 : decode cX12_holds 109 = .ok (.ifCond .eq 7, 3) := by decide +kernel
theorem dX12_holds_112 : decode cX12_holds 112 = .ok (.iconst 1, 1) := by decide +kernel
theorem dX12_holds_113 : decode cX12_holds 113 = .ok (.goto 34, 3) := by decide +kernel
theorem dX12_holds_116 : decode cX12_holds 116 = .ok (.iconst 0, 1) := by decide +kernel
theorem dX12_holds_117 : decode cX12_holds 117 = .ok (.goto 30, 3) := by decide +kernel
theorem dX12_holds_120 : decode cX12_holds 120 = .ok (.aload_n 0, 1) := by decide +kernel
theorem dX12_holds_121 : decode cX12_holds 121 = .ok (.getfield 89, 3) := by decide +kernel
theorem dX12_holds_124 : decode cX12_holds 124 = .ok (.iload 4, 2) := by decide +kernel
theorem dX12_holds_126 : decode cX12_holds 126 = .ok (.iconst 1, 1) := by decide +kernel
theorem dX12_holds_127 : decode cX12_holds 127 = .ok (.isub, 1) := by decide +kernel
theorem dX12_holds_128 : decode cX12_holds 128 = .ok (.baload, 1) := by decide +kernel
theorem dX12_holds_129 : decode cX12_holds 129 = .ok (.ifCond .ne 13, 3) := by decide +kernel
theorem dX12_holds_132 : decode cX12_holds 132 = .ok (.aload_n 0, 1) := by decide +kernel
theorem dX12_holds_133 : decode cX12_holds 133 = .ok (.getfield 89, 3) := by decide +kernel
theorem dX12_holds_136 : decode cX12_holds 136 = .ok (.iload 4, 2) := by decide +kernel
theorem dX12_holds_138 : decode cX12_holds 138 = .ok (.baload, 1) := by decide +kernel
theorem dX12_holds_139 : decode cX12_holds 139 = .ok (.ifCond .eq 7, 3) := by decide +kernel
theorem dX12_holds_142 : decode cX12_holds 142 = .ok (.iconst 1, 1) := by decide +kernel
theorem dX12_holds_143 : decode cX12_holds 143 = .ok (.goto 4, 3) := by decide +kernel
theorem dX12_holds_146 : decode cX12_holds 146 = .ok (.iconst 0, 1) := by decide +kernel
theorem dX12_holds_147 : decode cX12_holds 147 = .ok (.bastore, 1) := by decide +kernel
theorem dX12_holds_148 : decode cX12_holds 148 = .ok (.goto 99, 3) := by decide +kernel
theorem dX12_holds_151 : decode cX12_holds 151 = .ok (.aload_n 0, 1) := by decide +kernel
theorem dX12_holds_152 : decode cX12_holds 152 = .ok (.iload 6, 2) := by decide +kernel
theorem dX12_holds_154 : decode cX12_holds 154 = .ok (.sipush 1000, 3) := by decide +kernel
theorem dX12_holds_157 : decode cX12_holds 157 = .ok (.idiv, 1) := by decide +kernel
theorem dX12_holds_158 : decode cX12_holds 158 = .ok (.iload_n 2, 1) := by decide +kernel
theorem dX12_holds_159 : decode cX12_holds 159 = .ok (.iload_n 3, 1) := by decide +kernel
theorem dX12_holds_160 : decode cX12_holds 160 = .ok (.invokevirtual 276, 3) := by decide +kernel
theorem dX12_holds_163 : decode cX12_holds 163 = .ok (.istore 7, 2) := by decide +kernel
theorem dX12_holds_165 : decode cX12_holds 165 = .ok (.iload 6, 2) := by decide +kernel
theorem dX12_holds_167 : decode cX12_holds 167 = .ok (.bipush 100, 2) := by decide +kernel
theorem dX12_holds_169 : decode cX12_holds 169 = .ok (.idiv, 1) := by decide +kernel
theorem dX12_holds_170 : decode cX12_holds 170 = .ok (.bipush 10, 2) := by decide +kernel
theorem dX12_holds_172 : decode cX12_holds 172 = .ok (.irem, 1) := by decide +kernel
theorem dX12_holds_173 : decode cX12_holds 173 = .ok (.istore 8, 2) := by decide +kernel
theorem dX12_holds_175 : decode cX12_holds 175 = .ok (.aload_n 0, 1) := by decide +kernel
theorem dX12_holds_176 : decode cX12_holds 176 = .ok (.getfield 89, 3) := by decide +kernel
theorem dX12_holds_179 : decode cX12_holds 179 = .ok (.iload 4, 2) := by decide +kernel
theorem dX12_holds_181 : decode cX12_holds 181 = .ok (.iload 8, 2) := by decide +kernel
theorem dX12_holds_183 : decode cX12_holds 183 = .ok (.ifCond .ne 21, 3) := by decide +kernel
theorem dX12_holds_186 : decode cX12_holds 186 = .ok (.iload 7, 2) := by decide +kernel
theorem dX12_holds_188 : decode cX12_holds 188 = .ok (.iload 6, 2) := by decide +kernel
theorem dX12_holds_190 : decode cX12_holds 190 = .ok (.bipush 100, 2) := by decide +kernel
theorem dX12_holds_192 : decode cX12_holds 192 = .ok (.irem, 1) := by decide +kernel
theorem dX12_holds_193 : decode cX12_holds 193 = .ok (.if_icmp .ge 7, 3) := by decide +kernel
theorem dX12_holds_196 : decode cX12_holds 196 = .ok (.iconst 1, 1) := by decide +kernel
theorem dX12_holds_197 : decode cX12_holds 197 = .ok (.goto 46, 3) := by decide +kernel
theorem dX12_holds_200 : decode cX12_holds 200 = .ok (.iconst 0, 1) := by decide +kernel
theorem dX12_holds_201 : decode cX12_holds 201 = .ok (.goto 42, 3) := by decide +kernel
theorem dX12_holds_204 : decode cX12_holds 204 = .ok (.iload 8, 2) := by decide +kernel
theorem dX12_holds_206 : decode cX12_holds 206 = .ok (.iconst 1, 1) := by decide +kernel
theorem dX12_holds_207 : decode cX12_holds 207 = .ok (.if_icmp .ne 21, 3) := by decide +kernel
theorem dX12_holds_210 : decode cX12_holds 210 = .ok (.iload 7, 2) := by decide +kernel
theorem dX12_holds_212 : decode cX12_holds 212 = .ok (.iload 6, 2) := by decide +kernel
theorem dX12_holds_214 : decode cX12_holds 214 = .ok (.bipush 100, 2) := by decide +kernel
theorem dX12_holds_216 : decode cX12_holds 216 = .ok (.irem, 1) := by decide +kernel
theorem dX12_holds_217 : decode cX12_holds 217 = .ok (.if_icmp .ne 7, 3) := by decide +kernel
theorem dX12_holds_220 : decode cX12_holds 220 = .ok (.iconst 1, 1) := by decide +kernel
theorem dX12_holds_221 : decode cX12_holds 221 = .ok (.goto 22, 3) := by decide +kernel
theorem dX12_holds_224 : decode cX12_holds 224 = .ok (.iconst 0, 1) := by decide +kernel
theorem dX12_holds_225 : decode cX12_holds 225 = .ok (.goto 18, 3) := by decide +kernel
theorem dX12_holds_228 : decode cX12_holds 228 = .ok (.iload 7, 2) := by decide +kernel
theorem dX12_holds_230 : decode cX12_holds 230 = .ok (.iload 6, 2) := by decide +kernel
theorem dX12_holds_232 : decode cX12_holds 232 = .ok (.bipush 100, 2) := by decide +kernel
theorem dX12_holds_234 : decode cX12_holds 234 = .ok (.irem, 1) := by decide +kernel
theorem dX12_holds_235 : decode cX12_holds 235 = .ok (.if_icmp .le 7, 3) := by decide +kernel
theorem dX12_holds_238 : decode cX12_holds 238 = .ok (.iconst 1, 1) := by decide +kernel
theorem dX12_holds_239 : decode cX12_holds 239 = .ok (.goto 4, 3) := by decide +kernel
theorem dX12_holds_242 : decode cX12_holds 242 = .ok (.iconst 0, 1) := by decide +kernel
theorem dX12_holds_243 : decode cX12_holds 243 = .ok (.bastore, 1) := by decide +kernel
theorem dX12_holds_244 : decode cX12_holds 244 = .ok (.iinc 4 1, 3) := by decide +kernel
theorem dX12_holds_247 : decode cX12_holds 247 = .ok (.iinc 5 1, 3) := by decide +kernel
theorem dX12_holds_250 : decode cX12_holds 250 = .ok (.goto (-239), 3) := by decide +kernel
theorem dX12_holds_253 : decode cX12_holds 253 = .ok (.aload_n 0, 1) := by decide +kernel
theorem dX12_holds_254 : decode cX12_holds 254 = .ok (.getfield 89, 3) := by decide +kernel
theorem dX12_holds_257 : decode cX12_holds 257 = .ok (.iconst 0, 1) := by decide +kernel
theorem dX12_holds_258 : decode cX12_holds 258 = .ok (.baload, 1) := by decide +kernel
theorem dX12_holds_259 : decode cX12_holds 259 = .ok (.ireturn, 1) := by decide +kernel
theorem dX12_percent_0 : decode cX12_percent 0 = .ok (.iconst 0, 1) := by decide +kernel
theorem dX12_percent_1 : decode cX12_percent 1 = .ok (.istore 5, 2) := by decide +kernel
theorem dX12_percent_3 : decode cX12_percent 3 = .ok (.iconst 0, 1) := by decide +kernel
theorem dX12_percent_4 : decode cX12_percent 4 = .ok (.istore 6, 2) := by decide +kernel
theorem dX12_percent_6 : decode cX12_percent 6 = .ok (.aload_n 0, 1) := by decide +kernel
theorem dX12_percent_7 : decode cX12_percent 7 = .ok (.invokevirtual 280, 3) := by decide +kernel
theorem dX12_percent_10 : decode cX12_percent 10 = .ok (.istore 7, 2) := by decide +kernel
theorem dX12_percent_12 : decode cX12_percent 12 = .ok (.iload 7, 2) := by decide +kernel
theorem dX12_percent_14 : decode cX12_percent 14 = .ok (.aload_n 0, 1) := by decide +kernel
theorem dX12_percent_15 : decode cX12_percent 15 = .ok (.invokevirtual 283, 3) := by decide +kernel
theorem dX12_percent_18 : decode cX12_percent 18 = .ok (.if_icmp .ge 53, 3) := by decide +kernel
theorem dX12_percent_21 : decode cX12_percent 21 = .ok (.aload_n 0, 1) := by decide +kernel
theorem dX12_percent_22 : decode cX12_percent 22 = .ok (.getfield 59, 3) := by decide +kernel
theorem dX12_percent_25 : decode cX12_percent 25 = .ok (.iload 7, 2) := by decide +kernel
theorem dX12_percent_27 : decode cX12_percent 27 = .ok (.iaload, 1) := by decide +kernel
theorem dX12_percent_28 : decode cX12_percent 28 = .ok (.iload_n 1, 1) := by decide +kernel
theorem dX12_percent_29 : decode cX12_percent 29 = .ok (.if_icmp .eq 6, 3) := by decide +kernel
theorem dX12_percent_32 : decode cX12_percent 32 = .ok (.goto 33, 3) := by decide +kernel
theorem dX12_percent_35 : decode cX12_percent 35 = .ok (.iconst 1, 1) := by decide +kernel
theorem dX12_percent_36 : decode cX12_percent 36 = .ok (.istore 6, 2) := by decide +kernel
theorem dX12_percent_38 : decode cX12_percent 38 = .ok (.iload 5, 2) := by decide +kernel
theorem dX12_percent_40 : decode cX12_percent 40 = .ok (.aload_n 0, 1) := by decide +kernel
theorem dX12_percent_41 : decode cX12_percent 41 = .ok (.iload 7, 2) := by decide +kernel
theorem dX12_percent_43 : decode cX12_percent 43 = .ok (.iload_n 2, 1) := by decide +kernel
theorem dX12_percent_44 : decode cX12_percent 44 = .ok (.iload_n 3, 1) := by decide +kernel
theorem dX12_percent_45 : decode cX12_percent 45 = .ok (.invokevirtual 286, 3) := by decide +kernel
theorem dX12_percent_48 : decode cX12_percent 48 = .ok (.ifCond .eq 13, 3) := by decide +kernel
theorem dX12_percent_51 : decode cX12_percent 51 = .ok (.aload_n 0, 1) := by decide +kernel
theorem dX12_percent_52 : decode cX12_percent 52 = .ok (.getfield 62, 3) := by decide +kernel
theorem dX12_percent_55 : decode cX12_percent 55 = .ok (.iload 7, 2) := by decide +kernel
theorem dX12_percent_57 : decode cX12_percent 57 = .ok (.iaload, 1) := by decide +kernel
theorem dX12_percent_58 : decode cX12_percent 58 = .ok (.goto 4, 3) := by decide +kernel
theorem dX12_percent_61 : decode cX12_percent 61 = .ok (.iconst 0, 1) := by decide +kernel
theorem dX12_percent_62 : decode cX12_percent 62 = .ok (.iadd, 1) := by decide +kernel
theorem dX12_percent_63 : decode cX12_percent 63 = .ok (.istore 5, 2) := by decide +kernel
theorem dX12_percent_65 : decode cX12_percent 65 = .ok (.iinc 7 1, 3) := by decide +kernel
theorem dX12_percent_68 : decode cX12_percent 68 = .ok (.goto (-56), 3) := by decide +kernel
theorem dX12_percent_71 : decode cX12_percent 71 = .ok (.iload 6, 2) := by decide +kernel
theorem dX12_percent_73 : decode cX12_percent 73 = .ok (.ifCond .ne 8, 3) := by decide +kernel
theorem dX12_percent_76 : decode cX12_percent 76 = .ok (.iload 4, 2) := by decide +kernel
theorem dX12_percent_78 : decode cX12_percent 78 = .ok (.goto 17, 3) := by decide +kernel
theorem dX12_percent_81 : decode cX12_percent 81 = .ok (.iload 5, 2) := by decide +kernel
theorem dX12_percent_83 : decode cX12_percent 83 = .ok (.bipush 100, 2) := by decide +kernel
theorem dX12_percent_85 : decode cX12_percent 85 = .ok (.if_icmp .le 8, 3) := by decide +kernel
theorem dX12_percent_88 : decode cX12_percent 88 = .ok (.bipush 100, 2) := by decide +kernel
theorem dX12_percent_90 : decode cX12_percent 90 = .ok (.goto 5, 3) := by decide +kernel
theorem dX12_percent_93 : decode cX12_percent 93 = .ok (.iload 5, 2) := by decide +kernel
theorem dX12_percent_95 : decode cX12_percent 95 = .ok (.ireturn, 1) := by decide +kernel
theorem dX12_sure_0 : decode cX12_sure 0 = .ok (.aload_n 0, 1) := by decide +kernel
theorem dX12_sure_1 : decode cX12_sure 1 = .ok (.iconst 0, 1) := by decide +kernel
theorem dX12_sure_2 : decode cX12_sure 2 = .ok (.iload_n 1, 1) := by decide +kernel
theorem dX12_sure_3 : decode cX12_sure 3 = .ok (.iload_n 2, 1) := by decide +kernel
theorem dX12_sure_4 : decode cX12_sure 4 = .ok (.bipush 80, 2) := by decide +kernel
theorem dX12_sure_6 : decode cX12_sure 6 = .ok (.invokevirtual 289, 3) := by decide +kernel
theorem dX12_sure_9 : decode cX12_sure 9 = .ok (.ireturn, 1) := by decide +kernel
theorem dX12_saves_0 : decode cX12_saves 0 = .ok (.aload_n 0, 1) := by decide +kernel
theorem dX12_saves_1 : decode cX12_saves 1 = .ok (.iconst 1, 1) := by decide +kernel
theorem dX12_saves_2 : decode cX12_saves 2 = .ok (.iload_n 1, 1) := by decide +kernel
theorem dX12_saves_3 : decode cX12_saves 3 = .ok (.iload_n 2, 1) := by decide +kernel
theorem dX12_saves_4 : decode cX12_saves 4 = .ok (.bipush 40, 2) := by decide +kernel
theorem dX12_saves_6 : decode cX12_saves 6 = .ok (.invokevirtual 289, 3) := by decide +kernel
theorem dX12_saves_9 : decode cX12_saves 9 = .ok (.ireturn, 1) := by decide +kernel
theorem dX12_note_0 : decode cX12_note 0 = .ok (.aload_n 0, 1) := by decide +kernel
theorem dX12_note_1 : decode cX12_note 1 = .ok (.invokevirtual 280, 3) := by decide +kernel
theorem dX12_note_4 : decode cX12_note 4 = .ok (.istore_n 2, 1) := by decide +kernel
theorem dX12_note_5 : decode cX12_note 5 = .ok (.iload_n 2, 1) := by decide +kernel
theorem dX12_note_6 : decode cX12_note 6 = .ok (.aload_n 0, 1) := by decide +kernel
theorem dX12_note_7 : decode cX12_note 7 = .ok (.invokevirtual 283, 3) := by decide +kernel
theorem dX12_note_10 : decode cX12_note 10 = .ok (.if_icmp .ge 67, 3) := by decide +kernel
theorem dX12_note_13 : decode cX12_note 13 = .ok (.aload_n 0, 1) := by decide +kernel
theorem dX12_note_14 : decode cX12_note 14 = .ok (.getfield 59, 3) := by decide +kernel
theorem dX12_note_17 : decode cX12_note 17 = .ok (.iload_n 2, 1) := by decide +kernel
theorem dX12_note_18 : decode cX12_note 18 = .ok (.iaload, 1) := by decide +kernel
theorem dX12_note_19 : decode cX12_note 19 = .ok (.iconst 2, 1) := by decide +kernel
theorem dX12_note_20 : decode cX12_note 20 = .ok (.if_icmp .lt 51, 3) := by decide +kernel
theorem dX12_note_23 : decode cX12_note 23 = .ok (.aload_n 0, 1) := by decide +kernel
theorem dX12_note_24 : decode cX12_note 24 = .ok (.iload_n 2, 1) := by decide +kernel
theorem dX12_note_25 : decode cX12_note 25 = .ok (.iload_n 1, 1) := by decide +kernel
theorem dX12_note_26 : decode cX12_note 26 = .ok (.aload_n 0, 1) := by decide +kernel
theorem dX12_note_27 : decode cX12_note 27 = .ok (.getfield 26, 3) := by decide +kernel
theorem dX12_note_30 : decode cX12_note 30 = .ok (.iload_n 1, 1) := by decide +kernel
theorem dX12_note_31 : decode cX12_note 31 = .ok (.iaload, 1) := by decide +kernel
theorem dX12_note_32 : decode cX12_note 32 = .ok (.invokevirtual 286, 3) := by decide +kernel
theorem dX12_note_35 : decode cX12_note 35 = .ok (.ifCond .ne 6, 3) := by decide +kernel
theorem dX12_note_38 : decode cX12_note 38 = .ok (.goto 33, 3) := by decide +kernel
theorem dX12_note_41 : decode cX12_note 41 = .ok (.aload_n 0, 1) := by decide +kernel
theorem dX12_note_42 : decode cX12_note 42 = .ok (.getfield 59, 3) := by decide +kernel
theorem dX12_note_45 : decode cX12_note 45 = .ok (.iload_n 2, 1) := by decide +kernel
theorem dX12_note_46 : decode cX12_note 46 = .ok (.iaload, 1) := by decide +kernel
theorem dX12_note_47 : decode cX12_note 47 = .ok (.iconst 2, 1) := by decide +kernel
theorem dX12_note_48 : decode cX12_note 48 = .ok (.if_icmp .ne 7, 3) := by decide +kernel
theorem dX12_note_51 : decode cX12_note 51 = .ok (.iconst 0, 1) := by decide +kernel
theorem dX12_note_52 : decode cX12_note 52 = .ok (.goto 18, 3) := by decide +kernel
theorem dX12_note_55 : decode cX12_note 55 = .ok (.aload_n 0, 1) := by decide +kernel
theorem dX12_note_56 : decode cX12_note 56 = .ok (.getfield 59, 3) := by decide +kernel
theorem dX12_note_59 : decode cX12_note 59 = .ok (.iload_n 2, 1) := by decide +kernel
theorem dX12_note_60 : decode cX12_note 60 = .ok (.iaload, 1) := by decide +kernel
theorem dX12_note_61 : decode cX12_note 61 = .ok (.iconst 3, 1) := by decide +kernel
theorem dX12_note_62 : decode cX12_note 62 = .ok (.if_icmp .ne 7, 3) := by decide +kernel
theorem dX12_note_65 : decode cX12_note 65 = .ok (.iconst 2, 1) := by decide +kernel
theorem dX12_note_66 : decode cX12_note 66 = .ok (.goto 4, 3) := by decide +kernel
theorem dX12_note_69 : decode cX12_note 69 = .ok (.iconst 1, 1) := by decide +kernel
theorem dX12_note_70 : decode cX12_note 70 = .ok (.ireturn, 1) := by decide +kernel
theorem dX12_note_71 : decode cX12_note 71 = .ok (.iinc 2 1, 3) := by decide +kernel
theorem dX12_note_74 : decode cX12_note 74 = .ok (.goto (-69), 3) := by decide +kernel
theorem dX12_note_77 : decode cX12_note 77 = .ok (.aload_n 0, 1) := by decide +kernel
theorem dX12_note_78 : decode cX12_note 78 = .ok (.getfield 26, 3) := by decide +kernel
theorem dX12_note_81 : decode cX12_note 81 = .ok (.iload_n 1, 1) := by decide +kernel
theorem dX12_note_82 : decode cX12_note 82 = .ok (.iaload, 1) := by decide +kernel
theorem dX12_note_83 : decode cX12_note 83 = .ok (.iconst 3, 1) := by decide +kernel
theorem dX12_note_84 : decode cX12_note 84 = .ok (.if_icmp .ne 7, 3) := by decide +kernel
theorem dX12_note_87 : decode cX12_note 87 = .ok (.iconst 1, 1) := by decide +kernel
theorem dX12_note_88 : decode cX12_note 88 = .ok (.goto 9, 3) := by decide +kernel
theorem dX12_note_91 : decode cX12_note 91 = .ok (.aload_n 0, 1) := by decide +kernel
theorem dX12_note_92 : decode cX12_note 92 = .ok (.getfield 26, 3) := by decide +kernel
theorem dX12_note_95 : decode cX12_note 95 = .ok (.iload_n 1, 1) := by decide +kernel
theorem dX12_note_96 : decode cX12_note 96 = .ok (.iaload, 1) := by decide +kernel
theorem dX12_note_97 : decode cX12_note 97 = .ok (.ireturn, 1) := by decide +kernel
theorem dX12_plainly_0 : decode cX12_plainly 0 = .ok (.aload_n 0, 1) := by decide +kernel
theorem dX12_plainly_1 : decode cX12_plainly 1 = .ok (.getfield 23, 3) := by decide +kernel
theorem dX12_plainly_4 : decode cX12_plainly 4 = .ok (.iload_n 1, 1) := by decide +kernel
theorem dX12_plainly_5 : decode cX12_plainly 5 = .ok (.iaload, 1) := by decide +kernel
theorem dX12_plainly_6 : decode cX12_plainly 6 = .ok (.iconst 3, 1) := by decide +kernel
theorem dX12_plainly_7 : decode cX12_plainly 7 = .ok (.irem, 1) := by decide +kernel
theorem dX12_plainly_8 : decode cX12_plainly 8 = .ok (.ireturn, 1) := by decide +kernel
theorem dX12_turned_0 : decode cX12_turned 0 = .ok (.aload_n 0, 1) := by decide +kernel
theorem dX12_turned_1 : decode cX12_turned 1 = .ok (.getfield 26, 3) := by decide +kernel
theorem dX12_turned_4 : decode cX12_turned 4 = .ok (.iload_n 1, 1) := by decide +kernel
theorem dX12_turned_5 : decode cX12_turned 5 = .ok (.iaload, 1) := by decide +kernel
theorem dX12_turned_6 : decode cX12_turned 6 = .ok (.iconst 1, 1) := by decide +kernel
theorem dX12_turned_7 : decode cX12_turned 7 = .ok (.if_icmp .eq 13, 3) := by decide +kernel
theorem dX12_turned_10 : decode cX12_turned 10 = .ok (.aload_n 0, 1) := by decide +kernel
theorem dX12_turned_11 : decode cX12_turned 11 = .ok (.getfield 26, 3) := by decide +kernel
theorem dX12_turned_14 : decode cX12_turned 14 = .ok (.iload_n 1, 1) := by decide +kernel
theorem dX12_turned_15 : decode cX12_turned 15 = .ok (.iaload, 1) := by decide +kernel
theorem dX12_turned_16 : decode cX12_turned 16 = .ok (.iconst 3, 1) := by decide +kernel
theorem dX12_turned_17 : decode cX12_turned 17 = .ok (.if_icmp .ne 11, 3) := by decide +kernel
theorem dX12_turned_20 : decode cX12_turned 20 = .ok (.aload_n 0, 1) := by decide +kernel
theorem dX12_turned_21 : decode cX12_turned 21 = .ok (.iload_n 1, 1) := by decide +kernel
theorem dX12_turned_22 : decode cX12_turned 22 = .ok (.invokevirtual 293, 3) := by decide +kernel
theorem dX12_turned_25 : decode cX12_turned 25 = .ok (.goto 11, 3) := by decide +kernel
theorem dX12_turned_28 : decode cX12_turned 28 = .ok (.iconst 2, 1) := by decide +kernel
theorem dX12_turned_29 : decode cX12_turned 29 = .ok (.aload_n 0, 1) := by decide +kernel
theorem dX12_turned_30 : decode cX12_turned 30 = .ok (.getfield 26, 3) := by decide +kernel
theorem dX12_turned_33 : decode cX12_turned 33 = .ok (.iload_n 1, 1) := by decide +kernel
theorem dX12_turned_34 : decode cX12_turned 34 = .ok (.iaload, 1) := by decide +kernel
theorem dX12_turned_35 : decode cX12_turned 35 = .ok (.isub, 1) := by decide +kernel
theorem dX12_turned_36 : decode cX12_turned 36 = .ok (.ireturn, 1) := by decide +kernel
theorem dX12_steady_0 : decode cX12_steady 0 = .ok (.aload_n 0, 1) := by decide +kernel
theorem dX12_steady_1 : decode cX12_steady 1 = .ok (.getfield 26, 3) := by decide +kernel
theorem dX12_steady_4 : decode cX12_steady 4 = .ok (.iload_n 1, 1) := by decide +kernel
theorem dX12_steady_5 : decode cX12_steady 5 = .ok (.iaload, 1) := by decide +kernel
theorem dX12_steady_6 : decode cX12_steady 6 = .ok (.iconst 3, 1) := by decide +kernel
theorem dX12_steady_7 : decode cX12_steady 7 = .ok (.if_icmp .ne 11, 3) := by decide +kernel
theorem dX12_steady_10 : decode cX12_steady 10 = .ok (.aload_n 0, 1) := by decide +kernel
theorem dX12_steady_11 : decode cX12_steady 11 = .ok (.iload_n 1, 1) := by decide +kernel
theorem dX12_steady_12 : decode cX12_steady 12 = .ok (.invokevirtual 293, 3) := by decide +kernel
theorem dX12_steady_15 : decode cX12_steady 15 = .ok (.goto 9, 3) := by decide +kernel
theorem dX12_steady_18 : decode cX12_steady 18 = .ok (.aload_n 0, 1) := by decide +kernel
theorem dX12_steady_19 : decode cX12_steady 19 = .ok (.getfield 26, 3) := by decide +kernel
theorem dX12_steady_22 : decode cX12_steady 22 = .ok (.iload_n 1, 1) := by decide +kernel
theorem dX12_steady_23 : decode cX12_steady 23 = .ok (.iaload, 1) := by decide +kernel
theorem dX12_steady_24 : decode cX12_steady 24 = .ok (.ireturn, 1) := by decide +kernel
theorem dX12_waits_0 : decode cX12_waits 0 = .ok (.aload_n 0, 1) := by decide +kernel
theorem dX12_waits_1 : decode cX12_waits 1 = .ok (.iload_n 1, 1) := by decide +kernel
theorem dX12_waits_2 : decode cX12_waits 2 = .ok (.invokevirtual 296, 3) := by decide +kernel
theorem dX12_waits_5 : decode cX12_waits 5 = .ok (.istore_n 2, 1) := by decide +kernel
theorem dX12_waits_6 : decode cX12_waits 6 = .ok (.iconst (-1), 1) := by decide +kernel
theorem dX12_waits_7 : decode cX12_waits 7 = .ok (.istore_n 3, 1) := by decide +kernel
theorem dX12_waits_8 : decode cX12_waits 8 = .ok (.iconst 0, 1) := by decide +kernel
theorem dX12_waits_9 : decode cX12_waits 9 = .ok (.istore 4, 2) := by decide +kernel
theorem dX12_waits_11 : decode cX12_waits 11 = .ok (.iload 4, 2) := by decide +kernel
theorem dX12_waits_13 : decode cX12_waits 13 = .ok (.iconst 3, 1) := by decide +kernel
theorem dX12_waits_14 : decode cX12_waits 14 = .ok (.if_icmp .ge 38, 3) := by decide +kernel
theorem dX12_waits_17 : decode cX12_waits 17 = .ok (.iload 4, 2) := by decide +kernel
theorem dX12_waits_19 : decode cX12_waits 19 = .ok (.iload_n 2, 1) := by decide +kernel
theorem dX12_waits_20 : decode cX12_waits 20 = .ok (.if_icmp .eq 26, 3) := by decide +kernel
theorem dX12_waits_23 : decode cX12_waits 23 = .ok (.iload_n 3, 1) := by decide +kernel
theorem dX12_waits_24 : decode cX12_waits 24 = .ok (.ifCond .lt 19, 3) := by decide +kernel
theorem dX12_waits_27 : decode cX12_waits 27 = .ok (.aload_n 0, 1) := by decide +kernel
theorem dX12_waits_28 : decode cX12_waits 28 = .ok (.iload_n 1, 1) := by decide +kernel
theorem dX12_waits_29 : decode cX12_waits 29 = .ok (.iload 4, 2) := by decide +kernel
theorem dX12_waits_31 : decode cX12_waits 31 = .ok (.invokevirtual 299, 3) := by decide +kernel
theorem dX12_waits_34 : decode cX12_waits 34 = .ok (.aload_n 0, 1) := by decide +kernel
theorem dX12_waits_35 : decode cX12_waits 35 = .ok (.iload_n 1, 1) := by decide +kernel
theorem dX12_waits_36 : decode cX12_waits 36 = .ok (.iload_n 3, 1) := by decide +kernel
theorem dX12_waits_37 : decode cX12_waits 37 = .ok (.invokevirtual 299, 3) := by decide +kernel
theorem dX12_waits_40 : decode cX12_waits 40 = .ok (.if_icmp .le 6, 3) := by decide +kernel
theorem dX12_waits_43 : decode cX12_waits 43 = .ok (.iload 4, 2) := by decide +kernel
theorem dX12_waits_45 : decode cX12_waits 45 = .ok (.istore_n 3, 1) := by decide +kernel
theorem dX12_waits_46 : decode cX12_waits 46 = .ok (.iinc 4 1, 3) := by decide +kernel
theorem dX12_waits_49 : decode cX12_waits 49 = .ok (.goto (-38), 3) := by decide +kernel
theorem dX12_waits_52 : decode cX12_waits 52 = .ok (.iload_n 3, 1) := by decide +kernel
theorem dX12_waits_53 : decode cX12_waits 53 = .ok (.ireturn, 1) := by decide +kernel
theorem dX12_aim_0 : decode cX12_aim 0 = .ok (.aload_n 0, 1) := by decide +kernel
theorem dX12_aim_1 : decode cX12_aim 1 = .ok (.getfield 19, 3) := by decide +kernel
theorem dX12_aim_4 : decode cX12_aim 4 = .ok (.iload_n 1, 1) := by decide +kernel
theorem dX12_aim_5 : decode cX12_aim 5 = .ok (.iaload, 1) := by decide +kernel
theorem dX12_aim_6 : decode cX12_aim 6 = .ok (.tableswitch 138 1 6 #[38, 44, 50, 56, 77, 103], 38) := by decide +kernel
theorem dX12_aim_44 : decode cX12_aim 44 = .ok (.aload_n 0, 1) := by decide +kernel
theorem dX12_aim_45 : decode cX12_aim 45 = .ok (.iload_n 1, 1) := by decide +kernel
theorem dX12_aim_46 : decode cX12_aim 46 = .ok (.invokevirtual 303, 3) := by decide +kernel
theorem dX12_aim_49 : decode cX12_aim 49 = .ok (.ireturn, 1) := by decide +kernel
theorem dX12_aim_50 : decode cX12_aim 50 = .ok (.aload_n 0, 1) := by decide +kernel
theorem dX12_aim_51 : decode cX12_aim 51 = .ok (.iload_n 1, 1) := by decide +kernel
theorem dX12_aim_52 : decode cX12_aim 52 = .ok (.invokevirtual 306, 3) := by decide +kernel
theorem dX12_aim_55 : decode cX12_aim 55 = .ok (.ireturn, 1) := by decide +kernel
theorem dX12_aim_56 : decode cX12_aim 56 = .ok (.aload_n 0, 1) := by decide +kernel
theorem dX12_aim_57 : decode cX12_aim 57 = .ok (.iload_n 1, 1) := by decide +kernel
theorem dX12_aim_58 : decode cX12_aim 58 = .ok (.invokevirtual 309, 3) := by decide +kernel
theorem dX12_aim_61 : decode cX12_aim 61 = .ok (.ireturn, 1) := by decide +kernel
theorem dX12_aim_62 : decode cX12_aim 62 = .ok (.aload_n 0, 1) := by decide +kernel
theorem dX12_aim_63 : decode cX12_aim 63 = .ok (.getfield 29, 3) := by decide +kernel
theorem dX12_aim_66 : decode cX12_aim 66 = .ok (.iload_n 1, 1) := by decide +kernel
theorem dX12_aim_67 : decode cX12_aim 67 = .ok (.iaload, 1) := by decide +kernel
theorem dX12_aim_68 : decode cX12_aim 68 = .ok (.iconst 2, 1) := by decide +kernel
theorem dX12_aim_69 : decode cX12_aim 69 = .ok (.irem, 1) := by decide +kernel
theorem dX12_aim_70 : decode cX12_aim 70 = .ok (.ifCond .ne 11, 3) := by decide +kernel
theorem dX12_aim_73 : decode cX12_aim 73 = .ok (.aload_n 0, 1) := by decide +kernel
theorem dX12_aim_74 : decode cX12_aim 74 = .ok (.iload_n 1, 1) := by decide +kernel
theorem dX12_aim_75 : decode cX12_aim 75 = .ok (.invokevirtual 303, 3) := by decide +kernel
theorem dX12_aim_78 : decode cX12_aim 78 = .ok (.goto 4, 3) := by decide +kernel
theorem dX12_aim_81 : decode cX12_aim 81 = .ok (.iconst 1, 1) := by decide +kernel
theorem dX12_aim_82 : decode cX12_aim 82 = .ok (.ireturn, 1) := by decide +kernel
theorem dX12_aim_83 : decode cX12_aim 83 = .ok (.aload_n 0, 1) := by decide +kernel
theorem dX12_aim_84 : decode cX12_aim 84 = .ok (.getfield 29, 3) := by decide +kernel
theorem dX12_aim_87 : decode cX12_aim 87 = .ok (.iload_n 1, 1) := by decide +kernel
theorem dX12_aim_88 : decode cX12_aim 88 = .ok (.iaload, 1) := by decide +kernel
theorem dX12_aim_89 : decode cX12_aim 89 = .ok (.iconst 3, 1) := by decide +kernel
theorem dX12_aim_90 : decode cX12_aim 90 = .ok (.if_icmp .ge 11, 3) := by decide +kernel
theorem dX12_aim_93 : decode cX12_aim 93 = .ok (.aload_n 0, 1) := by decide +kernel
theorem dX12_aim_94 : decode cX12_aim 94 = .ok (.iload_n 1, 1) := by decide +kernel
theorem dX12_aim_95 : decode cX12_aim 95 = .ok (.invokevirtual 306, 3) := by decide +kernel
theorem dX12_aim_98 : decode cX12_aim 98 = .ok (.goto 10, 3) := by decide +kernel
theorem dX12_aim_101 : decode cX12_aim 101 = .ok (.iconst 2, 1) := by decide +kernel
theorem dX12_aim_102 : decode cX12_aim 102 = .ok (.aload_n 0, 1) := by decide +kernel
theorem dX12_aim_103 : decode cX12_aim 103 = .ok (.iload_n 1, 1) := by decide +kernel
theorem dX12_aim_104 : decode cX12_aim 104 = .ok (.invokevirtual 306, 3) := by decide +kernel
theorem dX12_aim_107 : decode cX12_aim 107 = .ok (.isub, 1) := by decide +kernel
theorem dX12_aim_108 : decode cX12_aim 108 = .ok (.ireturn, 1) := by decide +kernel
theorem dX12_aim_109 : decode cX12_aim 109 = .ok (.aload_n 0, 1) := by decide +kernel
theorem dX12_aim_110 : decode cX12_aim 110 = .ok (.iload_n 1, 1) := by decide +kernel
theorem dX12_aim_111 : decode cX12_aim 111 = .ok (.invokevirtual 296, 3) := by decide +kernel
theorem dX12_aim_114 : decode cX12_aim 114 = .ok (.iconst 1, 1) := by decide +kernel
theorem dX12_aim_115 : decode cX12_aim 115 = .ok (.if_icmp .ne 23, 3) := by decide +kernel
theorem dX12_aim_118 : decode cX12_aim 118 = .ok (.aload_n 0, 1) := by decide +kernel
theorem dX12_aim_119 : decode cX12_aim 119 = .ok (.getfield 35, 3) := by decide +kernel
theorem dX12_aim_122 : decode cX12_aim 122 = .ok (.iconst 4, 1) := by decide +kernel
theorem dX12_aim_123 : decode cX12_aim 123 = .ok (.iload_n 1, 1) := by decide +kernel
theorem dX12_aim_124 : decode cX12_aim 124 = .ok (.imul, 1) := by decide +kernel
theorem dX12_aim_125 : decode cX12_aim 125 = .ok (.aload_n 0, 1) := by decide +kernel
theorem dX12_aim_126 : decode cX12_aim 126 = .ok (.getfield 29, 3) := by decide +kernel
theorem dX12_aim_129 : decode cX12_aim 129 = .ok (.iload_n 1, 1) := by decide +kernel
theorem dX12_aim_130 : decode cX12_aim 130 = .ok (.iaload, 1) := by decide +kernel
theorem dX12_aim_131 : decode cX12_aim 131 = .ok (.iconst 4, 1) := by decide +kernel
theorem dX12_aim_132 : decode cX12_aim 132 = .ok (.irem, 1) := by decide +kernel
