theorem dX12_gives_11 : decode cX12_gives 11 = .ok (.iadd, 1) := by decide +kernel
theorem dX12_gives_12 : decode cX12_gives 12 = .ok (.iload_n 2, 1) := by decide +kernel
theorem dX12_gives_13 : decode cX12_gives 13 = .ok (.iadd, 1) := by decide +kernel
theorem dX12_gives_14 : decode cX12_gives 14 = .ok (.iload_n 3, 1) := by decide +kernel
theorem dX12_gives_15 : decode cX12_gives 15 = .ok (.iastore, 1) := by decide +kernel
theorem dX12_gives_16 : decode cX12_gives 16 = .ok (.return_, 1) := by decide +kernel
theorem dX12_isLoad_0 : decode cX12_isLoad 0 = .ok (.iload_n 1, 1) := by decide +kernel
theorem dX12_isLoad_1 : decode cX12_isLoad 1 = .ok (.iconst 0, 1) := by decide +kernel
theorem dX12_isLoad_2 : decode cX12_isLoad 2 = .ok (.aload_n 0, 1) := by decide +kernel
theorem dX12_isLoad_3 : decode cX12_isLoad 3 = .ok (.getfield 7, 3) := by decide +kernel
theorem dX12_isLoad_6 : decode cX12_isLoad 6 = .ok (.iconst 2, 1) := by decide +kernel
theorem dX12_isLoad_7 : decode cX12_isLoad 7 = .ok (.iaload, 1) := by decide +kernel
theorem dX12_isLoad_8 : decode cX12_isLoad 8 = .ok (.iconst 1, 1) := by decide +kernel
theorem dX12_isLoad_9 : decode cX12_isLoad 9 = .ok (.isub, 1) := by decide +kernel
theorem dX12_isLoad_10 : decode cX12_isLoad 10 = .ok (.invokestatic 50, 3) := by decide +kernel
theorem dX12_isLoad_13 : decode cX12_isLoad 13 = .ok (.ireturn, 1) := by decide +kernel
theorem dX12_isOne_0 : decode cX12_isOne 0 = .ok (.iload_n 1, 1) := by decide +kernel
theorem dX12_isOne_1 : decode cX12_isOne 1 = .ok (.iconst 0, 1) := by decide +kernel
theorem dX12_isOne_2 : decode cX12_isOne 2 = .ok (.aload_n 0, 1) := by decide +kernel
theorem dX12_isOne_3 : decode cX12_isOne 3 = .ok (.getfield 7, 3) := by decide +kernel
theorem dX12_isOne_6 : decode cX12_isOne 6 = .ok (.iconst 3, 1) := by decide +kernel
theorem dX12_isOne_7 : decode cX12_isOne 7 = .ok (.iaload, 1) := by decide +kernel
theorem dX12_isOne_8 : decode cX12_isOne 8 = .ok (.iconst 1, 1) := by decide +kernel
theorem dX12_isOne_9 : decode cX12_isOne 9 = .ok (.isub, 1) := by decide +kernel
theorem dX12_isOne_10 : decode cX12_isOne 10 = .ok (.invokestatic 50, 3) := by decide +kernel
theorem dX12_isOne_13 : decode cX12_isOne 13 = .ok (.ireturn, 1) := by decide +kernel
theorem dX12_isEnd_0 : decode cX12_isEnd 0 = .ok (.iload_n 1, 1) := by decide +kernel
theorem dX12_isEnd_1 : decode cX12_isEnd 1 = .ok (.iconst 0, 1) := by decide +kernel
theorem dX12_isEnd_2 : decode cX12_isEnd 2 = .ok (.aload_n 0, 1) := by decide +kernel
theorem dX12_isEnd_3 : decode cX12_isEnd 3 = .ok (.getfield 7, 3) := by decide +kernel
theorem dX12_isEnd_6 : decode cX12_isEnd 6 = .ok (.iconst 0, 1) := by decide +kernel
theorem dX12_isEnd_7 : decode cX12_isEnd 7 = .ok (.iaload, 1) := by decide +kernel
theorem dX12_isEnd_8 : decode cX12_isEnd 8 = .ok (.invokestatic 50, 3) := by decide +kernel
theorem dX12_isEnd_11 : decode cX12_isEnd 11 = .ok (.ireturn, 1) := by decide +kernel
theorem dX12_isHour_0 : decode cX12_isHour 0 = .ok (.iload_n 1, 1) := by decide +kernel
theorem dX12_isHour_1 : decode cX12_isHour 1 = .ok (.aload_n 0, 1) := by decide +kernel
theorem dX12_isHour_2 : decode cX12_isHour 2 = .ok (.getfield 7, 3) := by decide +kernel
theorem dX12_isHour_5 : decode cX12_isHour 5 = .ok (.iconst 1, 1) := by decide +kernel
theorem dX12_isHour_6 : decode cX12_isHour 6 = .ok (.iaload, 1) := by decide +kernel
theorem dX12_isHour_7 : decode cX12_isHour 7 = .ok (.sipush 167, 3) := by decide +kernel
theorem dX12_isHour_10 : decode cX12_isHour 10 = .ok (.invokestatic 50, 3) := by decide +kernel
theorem dX12_isHour_13 : decode cX12_isHour 13 = .ok (.ireturn, 1) := by decide +kernel
theorem dX12_newLoad_0 : decode cX12_newLoad 0 = .ok (.aload_n 0, 1) := by decide +kernel
theorem dX12_newLoad_1 : decode cX12_newLoad 1 = .ok (.getfield 7, 3) := by decide +kernel
theorem dX12_newLoad_4 : decode cX12_newLoad 4 = .ok (.iconst 2, 1) := by decide +kernel
theorem dX12_newLoad_5 : decode cX12_newLoad 5 = .ok (.iaload, 1) := by decide +kernel
theorem dX12_newLoad_6 : decode cX12_newLoad 6 = .ok (.istore 4, 2) := by decide +kernel
theorem dX12_newLoad_8 : decode cX12_newLoad 8 = .ok (.aload_n 0, 1) := by decide +kernel
theorem dX12_newLoad_9 : decode cX12_newLoad 9 = .ok (.getfield 7, 3) := by decide +kernel
theorem dX12_newLoad_12 : decode cX12_newLoad 12 = .ok (.iconst 2, 1) := by decide +kernel
theorem dX12_newLoad_13 : decode cX12_newLoad 13 = .ok (.dup2, 1) := by decide +kernel
theorem dX12_newLoad_14 : decode cX12_newLoad 14 = .ok (.iaload, 1) := by decide +kernel
theorem dX12_newLoad_15 : decode cX12_newLoad 15 = .ok (.iconst 1, 1) := by decide +kernel
theorem dX12_newLoad_16 : decode cX12_newLoad 16 = .ok (.iadd, 1) := by decide +kernel
theorem dX12_newLoad_17 : decode cX12_newLoad 17 = .ok (.iastore, 1) := by decide +kernel
theorem dX12_newLoad_18 : decode cX12_newLoad 18 = .ok (.aload_n 0, 1) := by decide +kernel
theorem dX12_newLoad_19 : decode cX12_newLoad 19 = .ok (.iload 4, 2) := by decide +kernel
theorem dX12_newLoad_21 : decode cX12_newLoad 21 = .ok (.iconst 0, 1) := by decide +kernel
theorem dX12_newLoad_22 : decode cX12_newLoad 22 = .ok (.iload_n 1, 1) := by decide +kernel
theorem dX12_newLoad_23 : decode cX12_newLoad 23 = .ok (.invokevirtual 54, 3) := by decide +kernel
theorem dX12_newLoad_26 : decode cX12_newLoad 26 = .ok (.aload_n 0, 1) := by decide +kernel
theorem dX12_newLoad_27 : decode cX12_newLoad 27 = .ok (.iload 4, 2) := by decide +kernel
theorem dX12_newLoad_29 : decode cX12_newLoad 29 = .ok (.iconst 1, 1) := by decide +kernel
theorem dX12_newLoad_30 : decode cX12_newLoad 30 = .ok (.iload_n 2, 1) := by decide +kernel
theorem dX12_newLoad_31 : decode cX12_newLoad 31 = .ok (.invokevirtual 54, 3) := by decide +kernel
theorem dX12_newLoad_34 : decode cX12_newLoad 34 = .ok (.aload_n 0, 1) := by decide +kernel
theorem dX12_newLoad_35 : decode cX12_newLoad 35 = .ok (.iload 4, 2) := by decide +kernel
theorem dX12_newLoad_37 : decode cX12_newLoad 37 = .ok (.iconst 2, 1) := by decide +kernel
theorem dX12_newLoad_38 : decode cX12_newLoad 38 = .ok (.iload_n 3, 1) := by decide +kernel
theorem dX12_newLoad_39 : decode cX12_newLoad 39 = .ok (.invokevirtual 54, 3) := by decide +kernel
theorem dX12_newLoad_42 : decode cX12_newLoad 42 = .ok (.aload_n 0, 1) := by decide +kernel
theorem dX12_newLoad_43 : decode cX12_newLoad 43 = .ok (.iload 4, 2) := by decide +kernel
theorem dX12_newLoad_45 : decode cX12_newLoad 45 = .ok (.iconst 3, 1) := by decide +kernel
theorem dX12_newLoad_46 : decode cX12_newLoad 46 = .ok (.iconst (-1), 1) := by decide +kernel
theorem dX12_newLoad_47 : decode cX12_newLoad 47 = .ok (.invokevirtual 54, 3) := by decide +kernel
theorem dX12_newLoad_50 : decode cX12_newLoad 50 = .ok (.aload_n 0, 1) := by decide +kernel
theorem dX12_newLoad_51 : decode cX12_newLoad 51 = .ok (.iload 4, 2) := by decide +kernel
theorem dX12_newLoad_53 : decode cX12_newLoad 53 = .ok (.iconst 4, 1) := by decide +kernel
theorem dX12_newLoad_54 : decode cX12_newLoad 54 = .ok (.iconst (-1), 1) := by decide +kernel
theorem dX12_newLoad_55 : decode cX12_newLoad 55 = .ok (.invokevirtual 54, 3) := by decide +kernel
theorem dX12_newLoad_58 : decode cX12_newLoad 58 = .ok (.aload_n 0, 1) := by decide +kernel
theorem dX12_newLoad_59 : decode cX12_newLoad 59 = .ok (.iload 4, 2) := by decide +kernel
theorem dX12_newLoad_61 : decode cX12_newLoad 61 = .ok (.iconst 5, 1) := by decide +kernel
theorem dX12_newLoad_62 : decode cX12_newLoad 62 = .ok (.iconst (-1), 1) := by decide +kernel
theorem dX12_newLoad_63 : decode cX12_newLoad 63 = .ok (.invokevirtual 54, 3) := by decide +kernel
theorem dX12_newLoad_66 : decode cX12_newLoad 66 = .ok (.aload_n 0, 1) := by decide +kernel
theorem dX12_newLoad_67 : decode cX12_newLoad 67 = .ok (.iload 4, 2) := by decide +kernel
theorem dX12_newLoad_69 : decode cX12_newLoad 69 = .ok (.bipush 6, 2) := by decide +kernel
theorem dX12_newLoad_71 : decode cX12_newLoad 71 = .ok (.iconst (-1), 1) := by decide +kernel
theorem dX12_newLoad_72 : decode cX12_newLoad 72 = .ok (.invokevirtual 54, 3) := by decide +kernel
theorem dX12_newLoad_75 : decode cX12_newLoad 75 = .ok (.aload_n 0, 1) := by decide +kernel
theorem dX12_newLoad_76 : decode cX12_newLoad 76 = .ok (.iload 4, 2) := by decide +kernel
theorem dX12_newLoad_78 : decode cX12_newLoad 78 = .ok (.bipush 7, 2) := by decide +kernel
theorem dX12_newLoad_80 : decode cX12_newLoad 80 = .ok (.iconst 0, 1) := by decide +kernel
theorem dX12_newLoad_81 : decode cX12_newLoad 81 = .ok (.invokevirtual 54, 3) := by decide +kernel
theorem dX12_newLoad_84 : decode cX12_newLoad 84 = .ok (.aload_n 0, 1) := by decide +kernel
theorem dX12_newLoad_85 : decode cX12_newLoad 85 = .ok (.iload 4, 2) := by decide +kernel
theorem dX12_newLoad_87 : decode cX12_newLoad 87 = .ok (.bipush 8, 2) := by decide +kernel
theorem dX12_newLoad_89 : decode cX12_newLoad 89 = .ok (.iconst 0, 1) := by decide +kernel
theorem dX12_newLoad_90 : decode cX12_newLoad 90 = .ok (.invokevirtual 54, 3) := by decide +kernel
theorem dX12_newLoad_93 : decode cX12_newLoad 93 = .ok (.aload_n 0, 1) := by decide +kernel
theorem dX12_newLoad_94 : decode cX12_newLoad 94 = .ok (.iload 4, 2) := by decide +kernel
theorem dX12_newLoad_96 : decode cX12_newLoad 96 = .ok (.bipush 9, 2) := by decide +kernel
theorem dX12_newLoad_98 : decode cX12_newLoad 98 = .ok (.iconst 0, 1) := by decide +kernel
theorem dX12_newLoad_99 : decode cX12_newLoad 99 = .ok (.invokevirtual 54, 3) := by decide +kernel
theorem dX12_newLoad_102 : decode cX12_newLoad 102 = .ok (.return_, 1) := by decide +kernel
theorem dX12_load_0 : decode cX12_load 0 = .ok (.iload_n 1, 1) := by decide +kernel
theorem dX12_load_1 : decode cX12_load 1 = .ok (.iconst 1, 1) := by decide +kernel
theorem dX12_load_2 : decode cX12_load 2 = .ok (.bipush 99, 2) := by decide +kernel
theorem dX12_load_4 : decode cX12_load 4 = .ok (.invokestatic 50, 3) := by decide +kernel
theorem dX12_load_7 : decode cX12_load 7 = .ok (.ifCond .eq 30, 3) := by decide +kernel
theorem dX12_load_10 : decode cX12_load 10 = .ok (.aload_n 0, 1) := by decide +kernel
theorem dX12_load_11 : decode cX12_load 11 = .ok (.iload_n 2, 1) := by decide +kernel
theorem dX12_load_12 : decode cX12_load 12 = .ok (.invokevirtual 58, 3) := by decide +kernel
theorem dX12_load_15 : decode cX12_load 15 = .ok (.ifCond .eq 22, 3) := by decide +kernel
theorem dX12_load_18 : decode cX12_load 18 = .ok (.aload_n 0, 1) := by decide +kernel
theorem dX12_load_19 : decode cX12_load 19 = .ok (.iload_n 3, 1) := by decide +kernel
theorem dX12_load_20 : decode cX12_load 20 = .ok (.invokevirtual 62, 3) := by decide +kernel
theorem dX12_load_23 : decode cX12_load 23 = .ok (.ifCond .eq 14, 3) := by decide +kernel
theorem dX12_load_26 : decode cX12_load 26 = .ok (.aload_n 0, 1) := by decide +kernel
theorem dX12_load_27 : decode cX12_load 27 = .ok (.getfield 7, 3) := by decide +kernel
theorem dX12_load_30 : decode cX12_load 30 = .ok (.iconst 2, 1) := by decide +kernel
theorem dX12_load_31 : decode cX12_load 31 = .ok (.iaload, 1) := by decide +kernel
theorem dX12_load_32 : decode cX12_load 32 = .ok (.bipush 30, 2) := by decide +kernel
theorem dX12_load_34 : decode cX12_load 34 = .ok (.if_icmp .ne 5, 3) := by decide +kernel
theorem dX12_load_37 : decode cX12_load 37 = .ok (.iconst (-1), 1) := by decide +kernel
theorem dX12_load_38 : decode cX12_load 38 = .ok (.ireturn, 1) := by decide +kernel
theorem dX12_load_39 : decode cX12_load 39 = .ok (.aload_n 0, 1) := by decide +kernel
theorem dX12_load_40 : decode cX12_load 40 = .ok (.iload_n 1, 1) := by decide +kernel
theorem dX12_load_41 : decode cX12_load 41 = .ok (.iload_n 2, 1) := by decide +kernel
theorem dX12_load_42 : decode cX12_load 42 = .ok (.iload_n 3, 1) := by decide +kernel
theorem dX12_load_43 : decode cX12_load 43 = .ok (.invokevirtual 65, 3) := by decide +kernel
theorem dX12_load_46 : decode cX12_load 46 = .ok (.aload_n 0, 1) := by decide +kernel
theorem dX12_load_47 : decode cX12_load 47 = .ok (.getfield 7, 3) := by decide +kernel
theorem dX12_load_50 : decode cX12_load 50 = .ok (.iconst 2, 1) := by decide +kernel
theorem dX12_load_51 : decode cX12_load 51 = .ok (.iaload, 1) := by decide +kernel
theorem dX12_load_52 : decode cX12_load 52 = .ok (.iconst 1, 1) := by decide +kernel
theorem dX12_load_53 : decode cX12_load 53 = .ok (.isub, 1) := by decide +kernel
theorem dX12_load_54 : decode cX12_load 54 = .ok (.ireturn, 1) := by decide +kernel
theorem dX12_fetch_0 : decode cX12_fetch 0 = .ok (.aload_n 0, 1) := by decide +kernel
theorem dX12_fetch_1 : decode cX12_fetch 1 = .ok (.iload_n 1, 1) := by decide +kernel
theorem dX12_fetch_2 : decode cX12_fetch 2 = .ok (.invokevirtual 68, 3) := by decide +kernel
theorem dX12_fetch_5 : decode cX12_fetch 5 = .ok (.ifCond .eq 24, 3) := by decide +kernel
theorem dX12_fetch_8 : decode cX12_fetch 8 = .ok (.iload_n 2, 1) := by decide +kernel
theorem dX12_fetch_9 : decode cX12_fetch 9 = .ok (.iconst (-1), 1) := by decide +kernel
theorem dX12_fetch_10 : decode cX12_fetch 10 = .ok (.if_icmp .eq 21, 3) := by decide +kernel
theorem dX12_fetch_13 : decode cX12_fetch 13 = .ok (.aload_n 0, 1) := by decide +kernel
theorem dX12_fetch_14 : decode cX12_fetch 14 = .ok (.iload_n 2, 1) := by decide +kernel
theorem dX12_fetch_15 : decode cX12_fetch 15 = .ok (.invokevirtual 58, 3) := by decide +kernel
theorem dX12_fetch_18 : decode cX12_fetch 18 = .ok (.ifCond .eq 11, 3) := by decide +kernel
theorem dX12_fetch_21 : decode cX12_fetch 21 = .ok (.aload_n 0, 1) := by decide +kernel
theorem dX12_fetch_22 : decode cX12_fetch 22 = .ok (.iload_n 3, 1) := by decide +kernel
theorem dX12_fetch_23 : decode cX12_fetch 23 = .ok (.invokevirtual 62, 3) := by decide +kernel
theorem dX12_fetch_26 : decode cX12_fetch 26 = .ok (.ifCond .ne 5, 3) := by decide +kernel
theorem dX12_fetch_29 : decode cX12_fetch 29 = .ok (.iconst 0, 1) := by decide +kernel
theorem dX12_fetch_30 : decode cX12_fetch 30 = .ok (.ireturn, 1) := by decide +kernel
theorem dX12_fetch_31 : decode cX12_fetch 31 = .ok (.aload_n 0, 1) := by decide +kernel
theorem dX12_fetch_32 : decode cX12_fetch 32 = .ok (.iload_n 1, 1) := by decide +kernel
theorem dX12_fetch_33 : decode cX12_fetch 33 = .ok (.iconst 3, 1) := by decide +kernel
theorem dX12_fetch_34 : decode cX12_fetch 34 = .ok (.iload_n 2, 1) := by decide +kernel
theorem dX12_fetch_35 : decode cX12_fetch 35 = .ok (.invokevirtual 54, 3) := by decide +kernel
theorem dX12_fetch_38 : decode cX12_fetch 38 = .ok (.aload_n 0, 1) := by decide +kernel
theorem dX12_fetch_39 : decode cX12_fetch 39 = .ok (.iload_n 1, 1) := by decide +kernel
theorem dX12_fetch_40 : decode cX12_fetch 40 = .ok (.iconst 4, 1) := by decide +kernel
theorem dX12_fetch_41 : decode cX12_fetch 41 = .ok (.iload_n 2, 1) := by decide +kernel
theorem dX12_fetch_42 : decode cX12_fetch 42 = .ok (.iconst (-1), 1) := by decide +kernel
theorem dX12_fetch_43 : decode cX12_fetch 43 = .ok (.if_icmp .ne 7, 3) := by decide +kernel
theorem dX12_fetch_46 : decode cX12_fetch 46 = .ok (.iconst (-1), 1) := by decide +kernel
theorem dX12_fetch_47 : decode cX12_fetch 47 = .ok (.goto 4, 3) := by decide +kernel
theorem dX12_fetch_50 : decode cX12_fetch 50 = .ok (.iload_n 3, 1) := by decide +kernel
theorem dX12_fetch_51 : decode cX12_fetch 51 = .ok (.invokevirtual 54, 3) := by decide +kernel
theorem dX12_fetch_54 : decode cX12_fetch 54 = .ok (.iconst 1, 1) := by decide +kernel
theorem dX12_fetch_55 : decode cX12_fetch 55 = .ok (.ireturn, 1) := by decide +kernel
theorem dX12_isCrossing_0 : decode cX12_isCrossing 0 = .ok (.iload_n 1, 1) := by decide +kernel
theorem dX12_isCrossing_1 : decode cX12_isCrossing 1 = .ok (.iconst 0, 1) := by decide +kernel
theorem dX12_isCrossing_2 : decode cX12_isCrossing 2 = .ok (.aload_n 0, 1) := by decide +kernel
theorem dX12_isCrossing_3 : decode cX12_isCrossing 3 = .ok (.getfield 7, 3) := by decide +kernel
theorem dX12_isCrossing_6 : decode cX12_isCrossing 6 = .ok (.iconst 0, 1) := by decide +kernel
theorem dX12_isCrossing_7 : decode cX12_isCrossing 7 = .ok (.iaload, 1) := by decide +kernel
theorem dX12_isCrossing_8 : decode cX12_isCrossing 8 = .ok (.iconst 1, 1) := by decide +kernel
theorem dX12_isCrossing_9 : decode cX12_isCrossing 9 = .ok (.isub, 1) := by decide +kernel
theorem dX12_isCrossing_10 : decode cX12_isCrossing 10 = .ok (.invokestatic 50, 3) := by decide +kernel
theorem dX12_isCrossing_13 : decode cX12_isCrossing 13 = .ok (.ifCond .eq 26, 3) := by decide +kernel
theorem dX12_isCrossing_16 : decode cX12_isCrossing 16 = .ok (.iload_n 2, 1) := by decide +kernel
theorem dX12_isCrossing_17 : decode cX12_isCrossing 17 = .ok (.iconst 0, 1) := by decide +kernel
theorem dX12_isCrossing_18 : decode cX12_isCrossing 18 = .ok (.iconst 1, 1) := by decide +kernel
theorem dX12_isCrossing_19 : decode cX12_isCrossing 19 = .ok (.invokestatic 50, 3) := by decide +kernel
theorem dX12_isCrossing_22 : decode cX12_isCrossing 22 = .ok (.ifCond .eq 17, 3) := by decide +kernel
theorem dX12_isCrossing_25 : decode cX12_isCrossing 25 = .ok (.iload_n 3, 1) := by decide +kernel
theorem dX12_isCrossing_26 : decode cX12_isCrossing 26 = .ok (.iconst 0, 1) := by decide +kernel
theorem dX12_isCrossing_27 : decode cX12_isCrossing 27 = .ok (.bipush 99, 2) := by decide +kernel
theorem dX12_isCrossing_29 : decode cX12_isCrossing 29 = .ok (.invokestatic 50, 3) := by decide +kernel
theorem dX12_isCrossing_32 : decode cX12_isCrossing 32 = .ok (.ifCond .eq 7, 3) := by decide +kernel
theorem dX12_isCrossing_35 : decode cX12_isCrossing 35 = .ok (.iconst 1, 1) := by decide +kernel
theorem dX12_isCrossing_36 : decode cX12_isCrossing 36 = .ok (.goto 4, 3) := by decide +kernel
theorem dX12_isCrossing_39 : decode cX12_isCrossing 39 = .ok (.iconst 0, 1) := by decide +kernel
theorem dX12_isCrossing_40 : decode cX12_isCrossing 40 = .ok (.ireturn, 1) := by decide +kernel
theorem dX12_crosser_0 : decode cX12_crosser 0 = .ok (.aload_n 0, 1) := by decide +kernel
theorem dX12_crosser_1 : decode cX12_crosser 1 = .ok (.iload_n 1, 1) := by decide +kernel
theorem dX12_crosser_2 : decode cX12_crosser 2 = .ok (.invokevirtual 62, 3) := by decide +kernel
theorem dX12_crosser_5 : decode cX12_crosser 5 = .ok (.ifCond .eq 47, 3) := by decide +kernel
theorem dX12_crosser_8 : decode cX12_crosser 8 = .ok (.aload_n 0, 1) := by decide +kernel
theorem dX12_crosser_9 : decode cX12_crosser 9 = .ok (.iload_n 2, 1) := by decide +kernel
theorem dX12_crosser_10 : decode cX12_crosser 10 = .ok (.iload_n 3, 1) := by decide +kernel
theorem dX12_crosser_11 : decode cX12_crosser 11 = .ok (.iload 4, 2) := by decide +kernel
theorem dX12_crosser_13 : decode cX12_crosser 13 = .ok (.invokevirtual 71, 3) := by decide +kernel
theorem dX12_crosser_16 : decode cX12_crosser 16 = .ok (.ifCond .eq 36, 3) := by decide +kernel
theorem dX12_crosser_19 : decode cX12_crosser 19 = .ok (.iload 5, 2) := by decide +kernel
theorem dX12_crosser_21 : decode cX12_crosser 21 = .ok (.iconst 0, 1) := by decide +kernel
theorem dX12_crosser_22 : decode cX12_crosser 22 = .ok (.iload 4, 2) := by decide +kernel
theorem dX12_crosser_24 : decode cX12_crosser 24 = .ok (.invokestatic 50, 3) := by decide +kernel
theorem dX12_crosser_27 : decode cX12_crosser 27 = .ok (.ifCond .eq 25, 3) := by decide +kernel
theorem dX12_crosser_30 : decode cX12_crosser 30 = .ok (.iload 6, 2) := by decide +kernel
theorem dX12_crosser_32 : decode cX12_crosser 32 = .ok (.iconst 0, 1) := by decide +kernel
theorem dX12_crosser_33 : decode cX12_crosser 33 = .ok (.bipush 9, 2) := by decide +kernel
theorem dX12_crosser_35 : decode cX12_crosser 35 = .ok (.invokestatic 50, 3) := by decide +kernel
theorem dX12_crosser_38 : decode cX12_crosser 38 = .ok (.ifCond .eq 14, 3) := by decide +kernel
theorem dX12_crosser_41 : decode cX12_crosser 41 = .ok (.aload_n 0, 1) := by decide +kernel
theorem dX12_crosser_42 : decode cX12_crosser 42 = .ok (.getfield 7, 3) := by decide +kernel
theorem dX12_crosser_45 : decode cX12_crosser 45 = .ok (.iconst 3, 1) := by decide +kernel
theorem dX12_crosser_46 : decode cX12_crosser 46 = .ok (.iaload, 1) := by decide +kernel
theorem dX12_crosser_47 : decode cX12_crosser 47 = .ok (.bipush 20, 2) := by decide +kernel
theorem dX12_crosser_49 : decode cX12_crosser 49 = .ok (.if_icmp .ne 5, 3) := by decide +kernel
theorem dX12_crosser_52 : decode cX12_crosser 52 = .ok (.iconst (-1), 1) := by decide +kernel
theorem dX12_crosser_53 : decode cX12_crosser 53 = .ok (.ireturn, 1) := by decide +kernel
theorem dX12_crosser_54 : decode cX12_crosser 54 = .ok (.aload_n 0, 1) := by decide +kernel
theorem dX12_crosser_55 : decode cX12_crosser 55 = .ok (.getfield 7, 3) := by decide +kernel
theorem dX12_crosser_58 : decode cX12_crosser 58 = .ok (.iconst 3, 1) := by decide +kernel
theorem dX12_crosser_59 : decode cX12_crosser 59 = .ok (.iaload, 1) := by decide +kernel
theorem dX12_crosser_60 : decode cX12_crosser 60 = .ok (.istore 7, 2) := by decide +kernel
theorem dX12_crosser_62 : decode cX12_crosser 62 = .ok (.aload_n 0, 1) := by decide +kernel
theorem dX12_crosser_63 : decode cX12_crosser 63 = .ok (.getfield 7, 3) := by decide +kernel
theorem dX12_crosser_66 : decode cX12_crosser 66 = .ok (.iconst 3, 1) := by decide +kernel
theorem dX12_crosser_67 : decode cX12_crosser 67 = .ok (.dup2, 1) := by decide +kernel
theorem dX12_crosser_68 : decode cX12_crosser 68 = .ok (.iaload, 1) := by decide +kernel
theorem dX12_crosser_69 : decode cX12_crosser 69 = .ok (.iconst 1, 1) := by decide +kernel
theorem dX12_crosser_70 : decode cX12_crosser 70 = .ok (.iadd, 1) := by decide +kernel
theorem dX12_crosser_71 : decode cX12_crosser 71 = .ok (.iastore, 1) := by decide +kernel
theorem dX12_crosser_72 : decode cX12_crosser 72 = .ok (.iconst 0, 1) := by decide +kernel
theorem dX12_crosser_73 : decode cX12_crosser 73 = .ok (.istore 8, 2) := by decide +kernel
theorem dX12_crosser_75 : decode cX12_crosser 75 = .ok (.iload 8, 2) := by decide +kernel
theorem dX12_crosser_77 : decode cX12_crosser 77 = .ok (.bipush 14, 2) := by decide +kernel
theorem dX12_crosser_79 : decode cX12_crosser 79 = .ok (.if_icmp .ge 18, 3) := by decide +kernel
theorem dX12_crosser_82 : decode cX12_crosser 82 = .ok (.aload_n 0, 1) := by decide +kernel
theorem dX12_crosser_83 : decode cX12_crosser 83 = .ok (.iload 7, 2) := by decide +kernel
theorem dX12_crosser_85 : decode cX12_crosser 85 = .ok (.iload 8, 2) := by decide +kernel
theorem dX12_crosser_87 : decode cX12_crosser 87 = .ok (.iconst 0, 1) := by decide +kernel
theorem dX12_crosser_88 : decode cX12_crosser 88 = .ok (.invokevirtual 74, 3) := by decide +kernel
theorem dX12_crosser_91 : decode cX12_crosser 91 = .ok (.iinc 8 1, 3) := by decide +kernel
theorem dX12_crosser_94 : decode cX12_crosser 94 = .ok (.goto (-19), 3) := by decide +kernel
theorem dX12_crosser_97 : decode cX12_crosser 97 = .ok (.aload_n 0, 1) := by decide +kernel
theorem dX12_crosser_98 : decode cX12_crosser 98 = .ok (.iload 7, 2) := by decide +kernel
theorem dX12_crosser_100 : decode cX12_crosser 100 = .ok (.iconst 0, 1) := by decide +kernel
theorem dX12_crosser_101 : decode cX12_crosser 101 = .ok (.iload_n 1, 1) := by decide +kernel
theorem dX12_crosser_102 : decode cX12_crosser 102 = .ok (.invokevirtual 74, 3) := by decide +kernel
theorem dX12_crosser_105 : decode cX12_crosser 105 = .ok (.aload_n 0, 1) := by decide +kernel
theorem dX12_crosser_106 : decode cX12_crosser 106 = .ok (.iload 7, 2) := by decide +kernel
theorem dX12_crosser_108 : decode cX12_crosser 108 = .ok (.iconst 1, 1) := by decide +kernel
theorem dX12_crosser_109 : decode cX12_crosser 109 = .ok (.iload_n 2, 1) := by decide +kernel
theorem dX12_crosser_110 : decode cX12_crosser 110 = .ok (.invokevirtual 74, 3) := by decide +kernel
theorem dX12_crosser_113 : decode cX12_crosser 113 = .ok (.aload_n 0, 1) := by decide +kernel
theorem dX12_crosser_114 : decode cX12_crosser 114 = .ok (.iload 7, 2) := by decide +kernel
theorem dX12_crosser_116 : decode cX12_crosser 116 = .ok (.iconst 2, 1) := by decide +kernel
theorem dX12_crosser_117 : decode cX12_crosser 117 = .ok (.iload_n 3, 1) := by decide +kernel
theorem dX12_crosser_118 : decode cX12_crosser 118 = .ok (.invokevirtual 74, 3) := by decide +kernel
theorem dX12_crosser_121 : decode cX12_crosser 121 = .ok (.aload_n 0, 1) := by decide +kernel
theorem dX12_crosser_122 : decode cX12_crosser 122 = .ok (.iload 7, 2) := by decide +kernel
theorem dX12_crosser_124 : decode cX12_crosser 124 = .ok (.iconst 3, 1) := by decide +kernel
theorem dX12_crosser_125 : decode cX12_crosser 125 = .ok (.iload 4, 2) := by decide +kernel
theorem dX12_crosser_127 : decode cX12_crosser 127 = .ok (.invokevirtual 74, 3) := by decide +kernel
theorem dX12_crosser_130 : decode cX12_crosser 130 = .ok (.aload_n 0, 1) := by decide +kernel
theorem dX12_crosser_131 : decode cX12_crosser 131 = .ok (.iload 7, 2) := by decide +kernel
theorem dX12_crosser_133 : decode cX12_crosser 133 = .ok (.iconst 4, 1) := by decide +kernel
theorem dX12_crosser_134 : decode cX12_crosser 134 = .ok (.iload 5, 2) := by decide +kernel
theorem dX12_crosser_136 : decode cX12_crosser 136 = .ok (.invokevirtual 74, 3) := by decide +kernel
theorem dX12_crosser_139 : decode cX12_crosser 139 = .ok (.aload_n 0, 1) := by decide +kernel
theorem dX12_crosser_140 : decode cX12_crosser 140 = .ok (.iload 7, 2) := by decide +kernel
theorem dX12_crosser_142 : decode cX12_crosser 142 = .ok (.iconst 5, 1) := by decide +kernel
theorem dX12_crosser_143 : decode cX12_crosser 143 = .ok (.iload 6, 2) := by decide +kernel
theorem dX12_crosser_145 : decode cX12_crosser 145 = .ok (.invokevirtual 74, 3) := by decide +kernel
theorem dX12_crosser_148 : decode cX12_crosser 148 = .ok (.aload_n 0, 1) := by decide +kernel
theorem dX12_crosser_149 : decode cX12_crosser 149 = .ok (.iload 7, 2) := by decide +kernel
theorem dX12_crosser_151 : decode cX12_crosser 151 = .ok (.bipush 8, 2) := by decide +kernel
theorem dX12_crosser_153 : decode cX12_crosser 153 = .ok (.iconst (-1), 1) := by decide +kernel
theorem dX12_crosser_154 : decode cX12_crosser 154 = .ok (.invokevirtual 74, 3) := by decide +kernel
theorem dX12_crosser_157 : decode cX12_crosser 157 = .ok (.iload 7, 2) := by decide +kernel
theorem dX12_crosser_159 : decode cX12_crosser 159 = .ok (.ireturn, 1) := by decide +kernel
theorem dX12_kind_0 : decode cX12_kind 0 = .ok (.aload_n 0, 1) := by decide +kernel
theorem dX12_kind_1 : decode cX12_kind 1 = .ok (.iload_n 1, 1) := by decide +kernel
theorem dX12_kind_2 : decode cX12_kind 2 = .ok (.invokevirtual 77, 3) := by decide +kernel
theorem dX12_kind_5 : decode cX12_kind 5 = .ok (.ifCond .eq 23, 3) := by decide +kernel
theorem dX12_kind_8 : decode cX12_kind 8 = .ok (.aload_n 0, 1) := by decide +kernel
theorem dX12_kind_9 : decode cX12_kind 9 = .ok (.iload_n 1, 1) := by decide +kernel
theorem dX12_kind_10 : decode cX12_kind 10 = .ok (.bipush 8, 2) := by decide +kernel
theorem dX12_kind_12 : decode cX12_kind 12 = .ok (.invokevirtual 80, 3) := by decide +kernel
theorem dX12_kind_15 : decode cX12_kind 15 = .ok (.iconst (-1), 1) := by decide +kernel
theorem dX12_kind_16 : decode cX12_kind 16 = .ok (.if_icmp .ne 12, 3) := by decide +kernel
theorem dX12_kind_19 : decode cX12_kind 19 = .ok (.iload_n 2, 1) := by decide +kernel
theorem dX12_kind_20 : decode cX12_kind 20 = .ok (.iconst 0, 1) := by decide +kernel
theorem dX12_kind_21 : decode cX12_kind 21 = .ok (.iconst 2, 1) := by decide +kernel
theorem dX12_kind_22 : decode cX12_kind 22 = .ok (.invokestatic 50, 3) := by decide +kernel
theorem dX12_kind_25 : decode cX12_kind 25 = .ok (.ifCond .ne 5, 3) := by decide +kernel
theorem dX12_kind_28 : decode cX12_kind 28 = .ok (.iconst 0, 1) := by decide +kernel
theorem dX12_kind_29 : decode cX12_kind 29 = .ok (.ireturn, 1) := by decide +kernel
theorem dX12_kind_30 : decode cX12_kind 30 = .ok (.iload_n 2, 1) := by decide +kernel
theorem dX12_kind_31 : decode cX12_kind 31 = .ok (.iconst 1, 1) := by decide +kernel
theorem dX12_kind_32 : decode cX12_kind 32 = .ok (.if_icmp .ne 15, 3) := by decide +kernel
theorem dX12_kind_35 : decode cX12_kind 35 = .ok (.iload_n 3, 1) := by decide +kernel
theorem dX12_kind_36 : decode cX12_kind 36 = .ok (.iconst 0, 1) := by decide +kernel
theorem dX12_kind_37 : decode cX12_kind 37 = .ok (.bipush 24, 2) := by decide +kernel
theorem dX12_kind_39 : decode cX12_kind 39 = .ok (.invokestatic 50, 3) := by decide +kernel
theorem dX12_kind_42 : decode cX12_kind 42 = .ok (.ifCond .ne 5, 3) := by decide +kernel
theorem dX12_kind_45 : decode cX12_kind 45 = .ok (.iconst 0, 1) := by decide +kernel
theorem dX12_kind_46 : decode cX12_kind 46 = .ok (.ireturn, 1) := by decide +kernel
theorem dX12_kind_47 : decode cX12_kind 47 = .ok (.iload_n 2, 1) := by decide +kernel
theorem dX12_kind_48 : decode cX12_kind 48 = .ok (.iconst 2, 1) := by decide +kernel
theorem dX12_kind_49 : decode cX12_kind 49 = .ok (.if_icmp .ne 48, 3) := by decide +kernel
theorem dX12_kind_52 : decode cX12_kind 52 = .ok (.aload_n 0, 1) := by decide +kernel
theorem dX12_kind_53 : decode cX12_kind 53 = .ok (.iload_n 3, 1) := by decide +kernel
theorem dX12_kind_54 : decode cX12_kind 54 = .ok (.invokevirtual 77, 3) := by decide +kernel
theorem dX12_kind_57 : decode cX12_kind 57 = .ok (.ifCond .eq 38, 3) := by decide +kernel
theorem dX12_kind_60 : decode cX12_kind 60 = .ok (.iload_n 3, 1) := by decide +kernel
theorem dX12_kind_61 : decode cX12_kind 61 = .ok (.iload_n 1, 1) := by decide +kernel
theorem dX12_kind_62 : decode cX12_kind 62 = .ok (.if_icmp .eq 33, 3) := by decide +kernel
theorem dX12_kind_65 : decode cX12_kind 65 = .ok (.aload_n 0, 1) := by decide +kernel
theorem dX12_kind_66 : decode cX12_kind 66 = .ok (.iload_n 3, 1) := by decide +kernel
theorem dX12_kind_67 : decode cX12_kind 67 = .ok (.iconst 1, 1) := by decide +kernel
theorem dX12_kind_68 : decode cX12_kind 68 = .ok (.invokevirtual 80, 3) := by decide +kernel
theorem dX12_kind_71 : decode cX12_kind 71 = .ok (.aload_n 0, 1) := by decide +kernel
theorem dX12_kind_72 : decode cX12_kind 72 = .ok (.iload_n 1, 1) := by decide +kernel
theorem dX12_kind_73 : decode cX12_kind 73 = .ok (.iconst 1, 1) := by decide +kernel
theorem dX12_kind_74 : decode cX12_kind 74 = .ok (.invokevirtual 80, 3) := by decide +kernel
theorem dX12_kind_77 : decode cX12_kind 77 = .ok (.if_icmp .ne 18, 3) := by decide +kernel
theorem dX12_kind_80 : decode cX12_kind 80 = .ok (.aload_n 0, 1) := by decide +kernel
theorem dX12_kind_81 : decode cX12_kind 81 = .ok (.iload_n 3, 1) := by decide +kernel
theorem dX12_kind_82 : decode cX12_kind 82 = .ok (.iconst 2, 1) := by decide +kernel
theorem dX12_kind_83 : decode cX12_kind 83 = .ok (.invokevirtual 80, 3) := by decide +kernel
theorem dX12_kind_86 : decode cX12_kind 86 = .ok (.aload_n 0, 1) := by decide +kernel
theorem dX12_kind_87 : decode cX12_kind 87 = .ok (.iload_n 1, 1) := by decide +kernel
theorem dX12_kind_88 : decode cX12_kind 88 = .ok (.iconst 2, 1) := by decide +kernel
theorem dX12_kind_89 : decode cX12_kind 89 = .ok (.invokevirtual 80, 3) := by decide +kernel
theorem dX12_kind_92 : decode cX12_kind 92 = .ok (.if_icmp .eq 5, 3) := by decide +kernel
theorem dX12_kind_95 : decode cX12_kind 95 = .ok (.iconst 0, 1) := by decide +kernel
theorem dX12_kind_96 : decode cX12_kind 96 = .ok (.ireturn, 1) := by decide +kernel
theorem dX12_kind_97 : decode cX12_kind 97 = .ok (.aload_n 0, 1) := by decide +kernel
theorem dX12_kind_98 : decode cX12_kind 98 = .ok (.iload_n 1, 1) := by decide +kernel
theorem dX12_kind_99 : decode cX12_kind 99 = .ok (.bipush 6, 2) := by decide +kernel
theorem dX12_kind_101 : decode cX12_kind 101 = .ok (.iload_n 2, 1) := by decide +kernel
theorem dX12_kind_102 : decode cX12_kind 102 = .ok (.invokevirtual 74, 3) := by decide +kernel
theorem dX12_kind_105 : decode cX12_kind 105 = .ok (.aload_n 0, 1) := by decide +kernel
theorem dX12_kind_106 : decode cX12_kind 106 = .ok (.iload_n 1, 1) := by decide +kernel
theorem dX12_kind_107 : decode cX12_kind 107 = .ok (.bipush 7, 2) := by decide +kernel
theorem dX12_kind_109 : decode cX12_kind 109 = .ok (.iload_n 2, 1) := by decide +kernel
theorem dX12_kind_110 : decode cX12_kind 110 = .ok (.ifCond .ne 7, 3) := by decide +kernel
theorem dX12_kind_113 : decode cX12_kind 113 = .ok (.iconst 0, 1) := by decide +kernel
theorem dX12_kind_114 : decode cX12_kind 114 = .ok (.goto 4, 3) := by decide +kernel
theorem dX12_kind_117 : decode cX12_kind 117 = .ok (.iload_n 3, 1) := by decide +kernel
theorem dX12_kind_118 : decode cX12_kind 118 = .ok (.invokevirtual 74, 3) := by decide +kernel
theorem dX12_kind_121 : decode cX12_kind 121 = .ok (.iconst 1, 1) := by decide +kernel
theorem dX12_kind_122 : decode cX12_kind 122 = .ok (.ireturn, 1) := by decide +kernel
theorem dX12_set_0 : decode cX12_set 0 = .ok (.iload_n 1, 1) := by decide +kernel
theorem dX12_set_1 : decode cX12_set 1 = .ok (.ifCond .ne 24, 3) := by decide +kernel
theorem dX12_set_4 : decode cX12_set 4 = .ok (.iload_n 3, 1) := by decide +kernel
theorem dX12_set_5 : decode cX12_set 5 = .ok (.iconst (-1), 1) := by decide +kernel
theorem dX12_set_6 : decode cX12_set 6 = .ok (.sipush 999, 3) := by decide +kernel
theorem dX12_set_9 : decode cX12_set 9 = .ok (.invokestatic 50, 3) := by decide +kernel
theorem dX12_set_12 : decode cX12_set 12 = .ok (.ifCond .eq 13, 3) := by decide +kernel
theorem dX12_set_15 : decode cX12_set 15 = .ok (.aload_n 0, 1) := by decide +kernel
theorem dX12_set_16 : decode cX12_set 16 = .ok (.getfield 7, 3) := by decide +kernel
theorem dX12_set_19 : decode cX12_set 19 = .ok (.iconst 4, 1) := by decide +kernel
theorem dX12_set_20 : decode cX12_set 20 = .ok (.iload_n 3, 1) := by decide +kernel
theorem dX12_set_21 : decode cX12_set 21 = .ok (.iastore, 1) := by decide +kernel
theorem dX12_set_22 : decode cX12_set 22 = .ok (.goto 62, 3) := by decide +kernel
theorem dX12_set_25 : decode cX12_set 25 = .ok (.iload_n 1, 1) := by decide +kernel
theorem dX12_set_26 : decode cX12_set 26 = .ok (.iconst 1, 1) := by decide +kernel
theorem dX12_set_27 : decode cX12_set 27 = .ok (.if_icmp .ne 22, 3) := by decide +kernel
theorem dX12_set_30 : decode cX12_set 30 = .ok (.iload_n 3, 1) := by decide +kernel
theorem dX12_set_31 : decode cX12_set 31 = .ok (.iconst 0, 1) := by decide +kernel
theorem dX12_set_32 : decode cX12_set 32 = .ok (.iconst 1, 1) := by decide +kernel
theorem dX12_set_33 : decode cX12_set 33 = .ok (.invokestatic 50, 3) := by decide +kernel
theorem dX12_set_36 : decode cX12_set 36 = .ok (.ifCond .eq 13, 3) := by decide +kernel
theorem dX12_set_39 : decode cX12_set 39 = .ok (.aload_n 0, 1) := by decide +kernel
theorem dX12_set_40 : decode cX12_set 40 = .ok (.getfield 7, 3) := by decide +kernel
theorem dX12_set_43 : decode cX12_set 43 = .ok (.iconst 5, 1) := by decide +kernel
theorem dX12_set_44 : decode cX12_set 44 = .ok (.iload_n 3, 1) := by decide +kernel
theorem dX12_set_45 : decode cX12_set 45 = .ok (.iastore, 1) := by decide +kernel
theorem dX12_set_46 : decode cX12_set 46 = .ok (.goto 38, 3) := by decide +kernel
theorem dX12_set_49 : decode cX12_set 49 = .ok (.iload_n 1, 1) := by decide +kernel
theorem dX12_set_50 : decode cX12_set 50 = .ok (.iconst 2, 1) := by decide +kernel
theorem dX12_set_51 : decode cX12_set 51 = .ok (.if_icmp .ne 31, 3) := by decide +kernel
theorem dX12_set_54 : decode cX12_set 54 = .ok (.aload_n 0, 1) := by decide +kernel
theorem dX12_set_55 : decode cX12_set 55 = .ok (.iload_n 2, 1) := by decide +kernel
theorem dX12_set_56 : decode cX12_set 56 = .ok (.invokevirtual 77, 3) := by decide +kernel
theorem dX12_set_59 : decode cX12_set 59 = .ok (.ifCond .eq 23, 3) := by decide +kernel
theorem dX12_set_62 : decode cX12_set 62 = .ok (.iload_n 3, 1) := by decide +kernel
theorem dX12_set_63 : decode cX12_set 63 = .ok (.iconst 0, 1) := by decide +kernel
theorem dX12_set_64 : decode cX12_set 64 = .ok (.iconst 1, 1) := by decide +kernel
theorem dX12_set_65 : decode cX12_set 65 = .ok (.invokestatic 50, 3) := by decide +kernel
theorem dX12_set_68 : decode cX12_set 68 = .ok (.ifCond .eq 14, 3) := by decide +kernel
theorem dX12_set_71 : decode cX12_set 71 = .ok (.aload_n 0, 1) := by decide +kernel
theorem dX12_set_72 : decode cX12_set 72 = .ok (.iload_n 2, 1) := by decide +kernel
theorem dX12_set_73 : decode cX12_set 73 = .ok (.bipush 11, 2) := by decide +kernel
theorem dX12_set_75 : decode cX12_set 75 = .ok (.iload_n 3, 1) := by decide +kernel
theorem dX12_set_76 : decode cX12_set 76 = .ok (.invokevirtual 74, 3) := by decide +kernel
theorem dX12_set_79 : decode cX12_set 79 = .ok (.goto 5, 3) := by decide +kernel
theorem dX12_set_82 : decode cX12_set 82 = .ok (.iconst 0, 1) := by decide +kernel
theorem dX12_set_83 : decode cX12_set 83 = .ok (.ireturn, 1) := by decide +kernel
theorem dX12_set_84 : decode cX12_set 84 = .ok (.iconst 1, 1) := by decide +kernel
theorem dX12_set_85 : decode cX12_set 85 = .ok (.ireturn, 1) := by decide +kernel
theorem dX12_feed_0 : decode cX12_feed 0 = .ok (.aload_n 0, 1) := by decide +kernel
theorem dX12_feed_1 : decode cX12_feed 1 = .ok (.getfield 84, 3) := by decide +kernel
theorem dX12_feed_4 : decode cX12_feed 4 = .ok (.bipush 20, 2) := by decide +kernel
theorem dX12_feed_6 : decode cX12_feed 6 = .ok (.iadd, 1) := by decide +kernel
theorem dX12_feed_7 : decode cX12_feed 7 = .ok (.sipush 400, 3) := by decide +kernel
theorem dX12_feed_10 : decode cX12_feed 10 = .ok (.if_icmp .le 5, 3) := by decide +kernel
theorem dX12_feed_13 : decode cX12_feed 13 = .ok (.iconst (-1), 1) := by decide +kernel
theorem dX12_feed_14 : decode cX12_feed 14 = .ok (.ireturn, 1) := by decide +kernel
theorem dX12_feed_15 : decode cX12_feed 15 = .ok (.iconst 0, 1) := by decide +kernel
theorem dX12_feed_16 : decode cX12_feed 16 = .ok (.istore 6, 2) := by decide +kernel
theorem dX12_feed_18 : decode cX12_feed 18 = .ok (.iload 6, 2) := by decide +kernel
theorem dX12_feed_20 : decode cX12_feed 20 = .ok (.bipush 20, 2) := by decide +kernel
theorem dX12_feed_22 : decode cX12_feed 22 = .ok (.if_icmp .ge 93, 3) := by decide +kernel
theorem dX12_feed_25 : decode cX12_feed 25 = .ok (.iload 6, 2) := by decide +kernel
theorem dX12_feed_27 : decode cX12_feed 27 = .ok (.iconst 4, 1) := by decide +kernel
theorem dX12_feed_28 : decode cX12_feed 28 = .ok (.if_icmp .ge 7, 3) := by decide +kernel
theorem dX12_feed_31 : decode cX12_feed 31 = .ok (.iload_n 1, 1) := by decide +kernel
theorem dX12_feed_32 : decode cX12_feed 32 = .ok (.goto 39, 3) := by decide +kernel
theorem dX12_feed_35 : decode cX12_feed 35 = .ok (.iload 6, 2) := by decide +kernel
theorem dX12_feed_37 : decode cX12_feed 37 = .ok (.bipush 8, 2) := by decide +kernel
theorem dX12_feed_39 : decode cX12_feed 39 = .ok (.if_icmp .ge 7, 3) := by decide +kernel
theorem dX12_feed_42 : decode cX12_feed 42 = .ok (.iload_n 2, 1) := by decide +kernel
theorem dX12_feed_43 : decode cX12_feed 43 = .ok (.goto 28, 3) := by decide +kernel
theorem dX12_feed_46 : decode cX12_feed 46 = .ok (.iload 6, 2) := by decide +kernel
theorem dX12_feed_48 : decode cX12_feed 48 = .ok (.bipush 12, 2) := by decide +kernel
theorem dX12_feed_50 : decode cX12_feed 50 = .ok (.if_icmp .ge 7, 3) := by decide +kernel
theorem dX12_feed_53 : decode cX12_feed 53 = .ok (.iload_n 3, 1) := by decide +kernel
theorem dX12_feed_54 : decode cX12_feed 54 = .ok (.goto 17, 3) := by decide +kernel
theorem dX12_feed_57 : decode cX12_feed 57 = .ok (.iload 6, 2) := by decide +kernel
theorem dX12_feed_59 : decode cX12_feed 59 = .ok (.bipush 16, 2) := by decide +kernel
theorem dX12_feed_61 : decode cX12_feed 61 = .ok (.if_icmp .ge 8, 3) := by decide +kernel
theorem dX12_feed_64 : decode cX12_feed 64 = .ok (.iload 4, 2) := by decide +kernel
theorem dX12_feed_66 : decode cX12_feed 66 = .ok (.goto 5, 3) := by decide +kernel
theorem dX12_feed_69 : decode cX12_feed 69 = .ok (.iload 5, 2) := by decide +kernel
theorem dX12_feed_71 : decode cX12_feed 71 = .ok (.istore 7, 2) := by decide +kernel
theorem dX12_feed_73 : decode cX12_feed 73 = .ok (.aload_n 0, 1) := by decide +kernel
theorem dX12_feed_74 : decode cX12_feed 74 = .ok (.getfield 25, 3) := by decide +kernel
theorem dX12_feed_77 : decode cX12_feed 77 = .ok (.aload_n 0, 1) := by decide +kernel
theorem dX12_feed_78 : decode cX12_feed 78 = .ok (.getfield 84, 3) := by decide +kernel
theorem dX12_feed_81 : decode cX12_feed 81 = .ok (.iload 7, 2) := by decide +kernel
theorem dX12_feed_83 : decode cX12_feed 83 = .ok (.bipush 24, 2) := by decide +kernel
theorem dX12_feed_85 : decode cX12_feed 85 = .ok (.bipush 8, 2) := by decide +kernel
theorem dX12_feed_87 : decode cX12_feed 87 = .ok (.iload 6, 2) := by decide +kernel
theorem dX12_feed_89 : decode cX12_feed 89 = .ok (.iconst 4, 1) := by decide +kernel
theorem dX12_feed_90 : decode cX12_feed 90 = .ok (.irem, 1) := by decide +kernel
theorem dX12_feed_91 : decode cX12_feed 91 = .ok (.imul, 1) := by decide +kernel
theorem dX12_feed_92 : decode cX12_feed 92 = .ok (.isub, 1) := by decide +kernel
theorem dX12_feed_93 : decode cX12_feed 93 = .ok (.ishr, 1) := by decide +kernel
theorem dX12_feed_94 : decode cX12_feed 94 = .ok (.sipush 255, 3) := by decide +kernel
theorem dX12_feed_97 : decode cX12_feed 97 = .ok (.iand, 1) := by decide +kernel
theorem dX12_feed_98 : decode cX12_feed 98 = .ok (.iastore, 1) := by decide +kernel
theorem dX12_feed_99 : decode cX12_feed 99 = .ok (.aload_n 0, 1) := by decide +kernel
theorem dX12_feed_100 : decode cX12_feed 100 = .ok (.dup, 1) := by decide +kernel
theorem dX12_feed_101 : decode cX12_feed 101 = .ok (.getfield 84, 3) := by decide +kernel
theorem dX12_feed_104 : decode cX12_feed 104 = .ok (.iconst 1, 1) := by decide +kernel
theorem dX12_feed_105 : decode cX12_feed 105 = .ok (.iadd, 1) := by decide +kernel
theorem dX12_feed_106 : decode cX12_feed 106 = .ok (.putfield 84, 3) := by decide +kernel
theorem dX12_feed_109 : decode cX12_feed 109 = .ok (.iinc 6 1, 3) := by decide +kernel
theorem dX12_feed_112 : decode cX12_feed 112 = .ok (.goto (-94), 3) := by decide +kernel
theorem dX12_feed_115 : decode cX12_feed 115 = .ok (.aload_n 0, 1) := by decide +kernel
theorem dX12_feed_116 : decode cX12_feed 116 = .ok (.getfield 84, 3) := by decide +kernel
theorem dX12_feed_119 : decode cX12_feed 119 = .ok (.ireturn, 1) := by decide +kernel
theorem dX12_end_0 : decode cX12_end 0 = .ok (.iload_n 1, 1) := by decide +kernel
theorem dX12_end_1 : decode cX12_end 1 = .ok (.iconst 0, 1) := by decide +kernel
theorem dX12_end_2 : decode cX12_end 2 = .ok (.aload_n 0, 1) := by decide +kernel
theorem dX12_end_3 : decode cX12_end 3 = .ok (.getfield 84, 3) := by decide +kernel
theorem dX12_end_6 : decode cX12_end 6 = .ok (.invokestatic 50, 3) := by decide +kernel
theorem dX12_end_9 : decode cX12_end 9 = .ok (.ifCond .ne 5, 3) := by decide +kernel
theorem dX12_end_12 : decode cX12_end 12 = .ok (.iconst 0, 1) := by decide +kernel
theorem dX12_end_13 : decode cX12_end 13 = .ok (.ireturn, 1) := by decide +kernel
theorem dX12_end_14 : decode cX12_end 14 = .ok (.aload_n 0, 1) := by decide +kernel
theorem dX12_end_15 : decode cX12_end 15 = .ok (.iload_n 1, 1) := by decide +kernel
theorem dX12_end_16 : decode cX12_end 16 = .ok (.putfield 84, 3) := by decide +kernel
theorem dX12_end_19 : decode cX12_end 19 = .ok (.iconst 1, 1) := by decide +kernel
theorem dX12_end_20 : decode cX12_end 20 = .ok (.ireturn, 1) := by decide +kernel
theorem dX12_see_0 : decode cX12_see 0 = .ok (.iload_n 1, 1) := by decide +kernel
theorem dX12_see_1 : decode cX12_see 1 = .ok (.aload_n 0, 1) := by decide +kernel
theorem dX12_see_2 : decode cX12_see 2 = .ok (.getfield 84, 3) := by decide +kernel
theorem dX12_see_5 : decode cX12_see 5 = .ok (.if_icmp .ge 12, 3) := by decide +kernel
theorem dX12_see_8 : decode cX12_see 8 = .ok (.aload_n 0, 1) := by decide +kernel
theorem dX12_see_9 : decode cX12_see 9 = .ok (.getfield 25, 3) := by decide +kernel
theorem dX12_see_12 : decode cX12_see 12 = .ok (.iload_n 1, 1) := by decide +kernel
theorem dX12_see_13 : decode cX12_see 13 = .ok (.iaload, 1) := by decide +kernel
theorem dX12_see_14 : decode cX12_see 14 = .ok (.goto 4, 3) := by decide +kernel
theorem dX12_see_17 : decode cX12_see 17 = .ok (.iconst (-1), 1) := by decide +kernel
theorem dX12_see_18 : decode cX12_see 18 = .ok (.ireturn, 1) := by decide +kernel
theorem dX12_isLetter_0 : decode cX12_isLetter 0 = .ok (.iload_n 0, 1) := by decide +kernel
theorem dX12_isLetter_1 : decode cX12_isLetter 1 = .ok (.bipush 97, 2) := by decide +kernel
theorem dX12_isLetter_3 : decode cX12_isLetter 3 = .ok (.bipush 122, 2) := by decide +kernel
theorem dX12_isLetter_5 : decode cX12_isLetter 5 = .ok (.invokestatic 50, 3) := by decide +kernel
theorem dX12_isLetter_8 : decode cX12_isLetter 8 = .ok (.ifCond .ne 14, 3) := by decide +kernel
theorem dX12_isLetter_11 : decode cX12_isLetter 11 = .ok (.iload_n 0, 1) := by decide +kernel
theorem dX12_isLetter_12 : decode cX12_isLetter 12 = .ok (.bipush 65, 2) := by decide +kernel
theorem dX12_isLetter_14 : decode cX12_isLetter 14 = .ok (.bipush 90, 2) := by decide +kernel
theorem dX12_isLetter_16 : decode cX12_isLetter 16 = .ok (.invokestatic 50, 3) := by decide +kernel
theorem dX12_isLetter_19 : decode cX12_isLetter 19 = .ok (.ifCond .eq 7, 3) := by decide +kernel
theorem dX12_isLetter_22 : decode cX12_isLetter 22 = .ok (.iconst 1, 1) := by decide +kernel
theorem dX12_isLetter_23 : decode cX12_isLetter 23 = .ok (.goto 4, 3) := by decide +kernel
theorem dX12_isLetter_26 : decode cX12_isLetter 26 = .ok (.iconst 0, 1) := by decide +kernel
theorem dX12_isLetter_27 : decode cX12_isLetter 27 = .ok (.ireturn, 1) := by decide +kernel
theorem dX12_isDigit_0 : decode cX12_isDigit 0 = .ok (.iload_n 0, 1) := by decide +kernel
theorem dX12_isDigit_1 : decode cX12_isDigit 1 = .ok (.bipush 48, 2) := by decide +kernel
theorem dX12_isDigit_3 : decode cX12_isDigit 3 = .ok (.bipush 57, 2) := by decide +kernel
theorem dX12_isDigit_5 : decode cX12_isDigit 5 = .ok (.invokestatic 50, 3) := by decide +kernel
theorem dX12_isDigit_8 : decode cX12_isDigit 8 = .ok (.ireturn, 1) := by decide +kernel
theorem dX12_is_0 : decode cX12_is 0 = .ok (.aload_n 0, 1) := by decide +kernel
theorem dX12_is_1 : decode cX12_is 1 = .ok (.getfield 87, 3) := by decide +kernel
theorem dX12_is_4 : decode cX12_is 4 = .ok (.aload_n 0, 1) := by decide +kernel
theorem dX12_is_5 : decode cX12_is 5 = .ok (.getfield 90, 3) := by decide +kernel
theorem dX12_is_8 : decode cX12_is 8 = .ok (.isub, 1) := by decide +kernel
theorem dX12_is_9 : decode cX12_is 9 = .ok (.aload_n 1, 1) := by decide +kernel
theorem dX12_is_10 : decode cX12_is 10 = .ok (.invokevirtual 93, 3) := by decide +kernel
theorem dX12_is_13 : decode cX12_is 13 = .ok (.if_icmp .ne 7, 3) := by decide +kernel
theorem dX12_is_16 : decode cX12_is 16 = .ok (.iconst 1, 1) := by decide +kernel
theorem dX12_is_17 : decode cX12_is 17 = .ok (.goto 4, 3) := by decide +kernel
theorem dX12_is_20 : decode cX12_is 20 = .ok (.iconst 0, 1) := by decide +kernel
theorem dX12_is_21 : decode cX12_is 21 = .ok (.istore_n 2, 1) := by decide +kernel
theorem dX12_is_22 : decode cX12_is 22 = .ok (.iconst 0, 1) := by decide +kernel
theorem dX12_is_23 : decode cX12_is 23 = .ok (.istore_n 3, 1) := by decide +kernel
theorem dX12_is_24 : decode cX12_is 24 = .ok (.iload_n 3, 1) := by decide +kernel
theorem dX12_is_25 : decode cX12_is 25 = .ok (.aload_n 1, 1) := by decide +kernel
theorem dX12_is_26 : decode cX12_is 26 = .ok (.invokevirtual 93, 3) := by decide +kernel
theorem dX12_is_29 : decode cX12_is 29 = .ok (.if_icmp .ge 38, 3) := by decide +kernel
theorem dX12_is_32 : decode cX12_is 32 = .ok (.iload_n 2, 1) := by decide +kernel
theorem dX12_is_33 : decode cX12_is 33 = .ok (.ifCond .eq 34, 3) := by decide +kernel
theorem dX12_is_36 : decode cX12_is 36 = .ok (.aload_n 0, 1) := by decide +kernel
theorem dX12_is_37 : decode cX12_is 37 = .ok (.getfield 25, 3) := by decide +kernel
theorem dX12_is_40 : decode cX12_is 40 = .ok (.aload_n 0, 1) := by decide +kernel
theorem dX12_is_41 : decode cX12_is 41 = .ok (.getfield 90, 3) := by decide +kernel
theorem dX12_is_44 : decode cX12_is 44 = .ok (.iload_n 3, 1) := by decide +kernel
theorem dX12_is_45 : decode cX12_is 45 = .ok (.iadd, 1) := by decide +kernel
theorem dX12_is_46 : decode cX12_is 46 = .ok (.iaload, 1) := by decide +kernel
theorem dX12_is_47 : decode cX12_is 47 = .ok (.aload_n 1, 1) := by decide +kernel
theorem dX12_is_48 : decode cX12_is 48 = .ok (.iload_n 3, 1) := by decide +kernel
theorem dX12_is_49 : decode cX12_is 49 = .ok (.invokevirtual 99, 3) := by decide +kernel
theorem dX12_is_52 : decode cX12_is 52 = .ok (.if_icmp .ne 7, 3) := by decide +kernel
theorem dX12_is_55 : decode cX12_is 55 = .ok (.iconst 1, 1) := by decide +kernel
theorem dX12_is_56 : decode cX12_is 56 = .ok (.goto 4, 3) := by decide +kernel
theorem dX12_is_59 : decode cX12_is 59 = .ok (.iconst 0, 1) := by decide +kernel
theorem dX12_is_60 : decode cX12_is 60 = .ok (.istore_n 2, 1) := by decide +kernel
theorem dX12_is_61 : decode cX12_is 61 = .ok (.iinc 3 1, 3) := by decide +kernel
theorem dX12_is_64 : decode cX12_is 64 = .ok (.goto (-40), 3) := by decide +kernel
theorem dX12_is_67 : decode cX12_is 67 = .ok (.iload_n 2, 1) := by decide +kernel
theorem dX12_is_68 : decode cX12_is 68 = .ok (.ireturn, 1) := by decide +kernel
theorem dX12_nameWord_0 : decode cX12_nameWord 0 = .ok (.aload_n 0, 1) := by decide +kernel
theorem dX12_nameWord_1 : decode cX12_nameWord 1 = .ok (.ldc 103, 2) := by decide +kernel
theorem dX12_nameWord_3 : decode cX12_nameWord 3 = .ok (.invokevirtual 105, 3) := by decide +kernel
theorem dX12_nameWord_6 : decode cX12_nameWord 6 = .ok (.ifCond .eq 6, 3) := by decide +kernel
theorem dX12_nameWord_9 : decode cX12_nameWord 9 = .ok (.bipush 41, 2) := by decide +kernel
theorem dX12_nameWord_11 : decode cX12_nameWord 11 = .ok (.ireturn, 1) := by decide +kernel
theorem dX12_nameWord_12 : decode cX12_nameWord 12 = .ok (.aload_n 0, 1) := by decide +kernel
theorem dX12_nameWord_13 : decode cX12_nameWord 13 = .ok (.ldc 109, 2) := by decide +kernel
theorem dX12_nameWord_15 : decode cX12_nameWord 15 = .ok (.invokevirtual 105, 3) := by decide +kernel
theorem dX12_nameWord_18 : decode cX12_nameWord 18 = .ok (.ifCond .eq 6, 3) := by decide +kernel
theorem dX12_nameWord_21 : decode cX12_nameWord 21 = .ok (.bipush 42, 2) := by decide +kernel
theorem dX12_nameWord_23 : decode cX12_nameWord 23 = .ok (.ireturn, 1) := by decide +kernel
theorem dX12_nameWord_24 : decode cX12_nameWord 24 = .ok (.aload_n 0, 1) := by decide +kernel
theorem dX12_nameWord_25 : decode cX12_nameWord 25 = .ok (.ldc 111, 2) := by decide +kernel
theorem dX12_nameWord_27 : decode cX12_nameWord 27 = .ok (.invokevirtual 105, 3) := by decide +kernel
theorem dX12_nameWord_30 : decode cX12_nameWord 30 = .ok (.ifCond .eq 6, 3) := by decide +kernel
theorem dX12_nameWord_33 : decode cX12_nameWord 33 = .ok (.bipush 43, 2) := by decide +kernel
theorem dX12_nameWord_35 : decode cX12_nameWord 35 = .ok (.ireturn, 1) := by decide +kernel
theorem dX12_nameWord_36 : decode cX12_nameWord 36 = .ok (.aload_n 0, 1) := by decide +kernel
theorem dX12_nameWord_37 : decode cX12_nameWord 37 = .ok (.ldc 113, 2) := by decide +kernel
theorem dX12_nameWord_39 : decode cX12_nameWord 39 = .ok (.invokevirtual 105, 3) := by decide +kernel
theorem dX12_nameWord_42 : decode cX12_nameWord 42 = .ok (.ifCond .eq 6, 3) := by decide +kernel
theorem dX12_nameWord_45 : decode cX12_nameWord 45 = .ok (.bipush 44, 2) := by decide +kernel
theorem dX12_nameWord_47 : decode cX12_nameWord 47 = .ok (.ireturn, 1) := by decide +kernel
theorem dX12_nameWord_48 : decode cX12_nameWord 48 = .ok (.aload_n 0, 1) := by decide +kernel
theorem dX12_nameWord_49 : decode cX12_nameWord 49 = .ok (.ldc 114, 2) := by decide +kernel
theorem dX12_nameWord_51 : decode cX12_nameWord 51 = .ok (.invokevirtual 105, 3) := by decide +kernel
theorem dX12_nameWord_54 : decode cX12_nameWord 54 = .ok (.ifCond .eq 6, 3) := by decide +kernel
theorem dX12_nameWord_57 : decode cX12_nameWord 57 = .ok (.bipush 45, 2) := by decide +kernel
theorem dX12_nameWord_59 : decode cX12_nameWord 59 = .ok (.ireturn, 1) := by decide +kernel
theorem dX12_nameWord_60 : decode cX12_nameWord 60 = .ok (.aload_n 0, 1) := by decide +kernel
theorem dX12_nameWord_61 : decode cX12_nameWord 61 = .ok (.ldc 116, 2) := by decide +kernel
theorem dX12_nameWord_63 : decode cX12_nameWord 63 = .ok (.invokevirtual 105, 3) := by decide +kernel
theorem dX12_nameWord_66 : decode cX12_nameWord 66 = .ok (.ifCond .eq 6, 3) := by decide +kernel
theorem dX12_nameWord_69 : decode cX12_nameWord 69 = .ok (.bipush 46, 2) := by decide +kernel
theorem dX12_nameWord_71 : decode cX12_nameWord 71 = .ok (.ireturn, 1) := by decide +kernel
theorem dX12_nameWord_72 : decode cX12_nameWord 72 = .ok (.aload_n 0, 1) := by decide +kernel
theorem dX12_nameWord_73 : decode cX12_nameWord 73 = .ok (.ldc 118, 2) := by decide +kernel
theorem dX12_nameWord_75 : decode cX12_nameWord 75 = .ok (.invokevirtual 105, 3) := by decide +kernel
theorem dX12_nameWord_78 : decode cX12_nameWord 78 = .ok (.ifCond .eq 8, 3) := by decide +kernel
theorem dX12_nameWord_81 : decode cX12_nameWord 81 = .ok (.bipush 47, 2) := by decide +kernel
theorem dX12_nameWord_83 : decode cX12_nameWord 83 = .ok (.goto 4, 3) := by decide +kernel
theorem dX12_nameWord_86 : decode cX12_nameWord 86 = .ok (.iconst 1, 1) := by decide +kernel
theorem dX12_nameWord_87 : decode cX12_nameWord 87 = .ok (.ireturn, 1) := by decide +kernel
theorem dX12_word_0 : decode cX12_word 0 = .ok (.aload_n 0, 1) := by decide +kernel
theorem dX12_word_1 : decode cX12_word 1 = .ok (.ldc 120, 2) := by decide +kernel
theorem dX12_word_3 : decode cX12_word 3 = .ok (.invokevirtual 105, 3) := by decide +kernel
theorem dX12_word_6 : decode cX12_word 6 = .ok (.ifCond .eq 5, 3) := by decide +kernel
theorem dX12_word_9 : decode cX12_word 9 = .ok (.iconst 3, 1) := by decide +kernel
theorem dX12_word_10 : decode cX12_word 10 = .ok (.ireturn, 1) := by decide +kernel
theorem dX12_word_11 : decode cX12_word 11 = .ok (.aload_n 0, 1) := by decide +kernel
theorem dX12_word_12 : decode cX12_word 12 = .ok (.ldc 122, 2) := by decide +kernel
theorem dX12_word_14 : decode cX12_word 14 = .ok (.invokevirtual 105, 3) := by decide +kernel
theorem dX12_word_17 : decode cX12_word 17 = .ok (.ifCond .eq 5, 3) := by decide +kernel
theorem dX12_word_20 : decode cX12_word 20 = .ok (.iconst 4, 1) := by decide +kernel
theorem dX12_word_21 : decode cX12_word 21 = .ok (.ireturn, 1) := by decide +kernel
theorem dX12_word_22 : decode cX12_word 22 = .ok (.aload_n 0, 1) := by decide +kernel
theorem dX12_word_23 : decode cX12_word 23 = .ok (.ldc 124, 2) := by decide +kernel
theorem dX12_word_25 : decode cX12_word 25 = .ok (.invokevirtual 105, 3) := by decide +kernel
theorem dX12_word_28 : decode cX12_word 28 = .ok (.ifCond .eq 5, 3) := by decide +kernel
theorem dX12_word_31 : decode cX12_word 31 = .ok (.iconst 5, 1) := by decide +kernel
theorem dX12_word_32 : decode cX12_word 32 = .ok (.ireturn, 1) := by decide +kernel
theorem dX12_word_33 : decode cX12_word 33 = .ok (.aload_n 0, 1) := by decide +kernel
theorem dX12_word_34 : decode cX12_word 34 = .ok (.ldc 126, 2) := by decide +kernel
theorem dX12_word_36 : decode cX12_word 36 = .ok (.invokevirtual 105, 3) := by decide +kernel
theorem dX12_word_39 : decode cX12_word 39 = .ok (.ifCond .eq 6, 3) := by decide +kernel
theorem dX12_word_42 : decode cX12_word 42 = .ok (.bipush 6, 2) := by decide +kernel
theorem dX12_word_44 : decode cX12_word 44 = .ok (.ireturn, 1) := by decide +kernel
theorem dX12_word_45 : decode cX12_word 45 = .ok (.aload_n 0, 1) := by decide +kernel
theorem dX12_word_46 : decode cX12_word 46 = .ok (.ldc 128, 2) := by decide +kernel
theorem dX12_word_48 : decode cX12_word 48 = .ok (.invokevirtual 105, 3) := by decide +kernel
theorem dX12_word_51 : decode cX12_word 51 = .ok (.ifCond .eq 6, 3) := by decide +kernel
theorem dX12_word_54 : decode cX12_word 54 = .ok (.bipush 20, 2) := by decide +kernel
theorem dX12_word_56 : decode cX12_word 56 = .ok (.ireturn, 1) := by decide +kernel
theorem dX12_word_57 : decode cX12_word 57 = .ok (.aload_n 0, 1) := by decide +kernel
theorem dX12_word_58 : decode cX12_word 58 = .ok (.ldc 130, 2) := by decide +kernel
theorem dX12_word_60 : decode cX12_word 60 = .ok (.invokevirtual 105, 3) := by decide +kernel
theorem dX12_word_63 : decode cX12_word 63 = .ok (.ifCond .eq 8, 3) := by decide +kernel
theorem dX12_word_66 : decode cX12_word 66 = .ok (.bipush 21, 2) := by decide +kernel
theorem dX12_word_68 : decode cX12_word 68 = .ok (.goto 7, 3) := by decide +kernel
theorem dX12_word_71 : decode cX12_word 71 = .ok (.aload_n 0, 1) := by decide +kernel
theorem dX12_word_72 : decode cX12_word 72 = .ok (.invokevirtual 132, 3) := by decide +kernel
theorem dX12_word_75 : decode cX12_word 75 = .ok (.ireturn, 1) := by decide +kernel
theorem dX12_next0_0 : decode cX12_next0 0 = .ok (.aload_n 0, 1) := by decide +kernel
theorem dX12_next0_1 : decode cX12_next0 1 = .ok (.aload_n 0, 1) := by decide +kernel
theorem dX12_next0_2 : decode cX12_next0 2 = .ok (.getfield 87, 3) := by decide +kernel
theorem dX12_next0_5 : decode cX12_next0 5 = .ok (.invokevirtual 135, 3) := by decide +kernel
theorem dX12_next0_8 : decode cX12_next0 8 = .ok (.bipush 32, 2) := by decide +kernel
theorem dX12_next0_10 : decode cX12_next0 10 = .ok (.if_icmp .eq 16, 3) := by decide +kernel
theorem dX12_next0_13 : decode cX12_next0 13 = .ok (.aload_n 0, 1) := by decide +kernel
theorem dX12_next0_14 : decode cX12_next0 14 = .ok (.aload_n 0, 1) := by decide +kernel
theorem dX12_next0_15 : decode cX12_next0 15 = .ok (.getfield 87, 3) := by decide +kernel
theorem dX12_next0_18 : decode cX12_next0 18 = .ok (.invokevirtual 135, 3) := by decide +kernel
theorem dX12_next0_21 : decode cX12_next0 21 = .ok (.bipush 10, 2) := by decide +kernel
theorem dX12_next0_23 : decode cX12_next0 23 = .ok (.if_icmp .ne 16, 3) := by decide +kernel
theorem dX12_next0_26 : decode cX12_next0 26 = .ok (.aload_n 0, 1) := by decide +kernel
theorem dX12_next0_27 : decode cX12_next0 27 = .ok (.dup, 1) := by decide +kernel
theorem dX12_next0_28 : decode cX12_next0 28 = .ok (.getfield 87, 3) := by decide +kernel
theorem dX12_next0_31 : decode cX12_next0 31 = .ok (.iconst 1, 1) := by decide +kernel
theorem dX12_next0_32 : decode cX12_next0 32 = .ok (.iadd, 1) := by decide +kernel
theorem dX12_next0_33 : decode cX12_next0 33 = .ok (.putfield 87, 3) := by decide +kernel
theorem dX12_next0_36 : decode cX12_next0 36 = .ok (.goto (-36), 3) := by decide +kernel
theorem dX12_next0_39 : decode cX12_next0 39 = .ok (.aload_n 0, 1) := by decide +kernel
theorem dX12_next0_40 : decode cX12_next0 40 = .ok (.aload_n 0, 1) := by decide +kernel
theorem dX12_next0_41 : decode cX12_next0 41 = .ok (.getfield 87, 3) := by decide +kernel
theorem dX12_next0_44 : decode cX12_next0 44 = .ok (.putfield 90, 3) := by decide +kernel
theorem dX12_next0_47 : decode cX12_next0 47 = .ok (.aload_n 0, 1) := by decide +kernel
theorem dX12_next0_48 : decode cX12_next0 48 = .ok (.aload_n 0, 1) := by decide +kernel
theorem dX12_next0_49 : decode cX12_next0 49 = .ok (.getfield 87, 3) := by decide +kernel
theorem dX12_next0_52 : decode cX12_next0 52 = .ok (.invokevirtual 135, 3) := by decide +kernel
theorem dX12_next0_55 : decode cX12_next0 55 = .ok (.istore_n 1, 1) := by decide +kernel
theorem dX12_next0_56 : decode cX12_next0 56 = .ok (.iload_n 1, 1) := by decide +kernel
theorem dX12_next0_57 : decode cX12_next0 57 = .ok (.iconst (-1), 1) := by decide +kernel
theorem dX12_next0_58 : decode cX12_next0 58 = .ok (.if_icmp .ne 11, 3) := by decide +kernel
theorem dX12_next0_61 : decode cX12_next0 61 = .ok (.aload_n 0, 1) := by decide +kernel
theorem dX12_next0_62 : decode cX12_next0 62 = .ok (.iconst 0, 1) := by decide +kernel
theorem dX12_next0_63 : decode cX12_next0 63 = .ok (.putfield 139, 3) := by decide +kernel
theorem dX12_next0_66 : decode cX12_next0 66 = .ok (.goto 240, 3) := by decide +kernel
theorem dX12_next0_69 : decode cX12_next0 69 = .ok (.iload_n 1, 1) := by decide +kernel
theorem dX12_next0_70 : decode cX12_next0 70 = .ok (.invokestatic 142, 3) := by decide +kernel
theorem dX12_next0_73 : decode cX12_next0 73 = .ok (.ifCond .eq 41, 3) := by decide +kernel
theorem dX12_next0_76 : decode cX12_next0 76 = .ok (.aload_n 0, 1) := by decide +kernel
theorem dX12_next0_77 : decode cX12_next0 77 = .ok (.aload_n 0, 1) := by decide +kernel
theorem dX12_next0_78 : decode cX12_next0 78 = .ok (.getfield 87, 3) := by decide +kernel
theorem dX12_next0_81 : decode cX12_next0 81 = .ok (.invokevirtual 135, 3) := by decide +kernel
theorem dX12_next0_84 : decode cX12_next0 84 = .ok (.invokestatic 142, 3) := by decide +kernel
theorem dX12_next0_87 : decode cX12_next0 87 = .ok (.ifCond .eq 16, 3) := by decide +kernel
theorem dX12_next0_90 : decode cX12_next0 90 = .ok (.aload_n 0, 1) := by decide +kernel
theorem dX12_next0_91 : decode cX12_next0 91 = .ok (.dup, 1) := by decide +kernel
theorem dX12_next0_92 : decode cX12_next0 92 = .ok (.getfield 87, 3) := by decide +kernel
theorem dX12_next0_95 : decode cX12_next0 95 = .ok (.iconst 1, 1) := by decide +kernel
theorem dX12_next0_96 : decode cX12_next0 96 = .ok (.iadd, 1) := by decide +kernel
theorem dX12_next0_97 : decode cX12_next0 97 = .ok (.putfield 87, 3) := by decide +kernel
theorem dX12_next0_100 : decode cX12_next0 100 = .ok (.goto (-24), 3) := by decide +kernel
theorem dX12_next0_103 : decode cX12_next0 103 = .ok (.aload_n 0, 1) := by decide +kernel
theorem dX12_next0_104 : decode cX12_next0 104 = .ok (.aload_n 0, 1) := by decide +kernel
theorem dX12_next0_105 : decode cX12_next0 105 = .ok (.invokevirtual 145, 3) := by decide +kernel
theorem dX12_next0_108 : decode cX12_next0 108 = .ok (.putfield 139, 3) := by decide +kernel
theorem dX12_next0_111 : decode cX12_next0 111 = .ok (.goto 195, 3) := by decide +kernel
theorem dX12_next0_114 : decode cX12_next0 114 = .ok (.iload_n 1, 1) := by decide +kernel
theorem dX12_next0_115 : decode cX12_next0 115 = .ok (.invokestatic 148, 3) := by decide +kernel
theorem dX12_next0_118 : decode cX12_next0 118 = .ok (.ifCond .eq 96, 3) := by decide +kernel
theorem dX12_next0_121 : decode cX12_next0 121 = .ok (.aload_n 0, 1) := by decide +kernel
theorem dX12_next0_122 : decode cX12_next0 122 = .ok (.iconst 0, 1) := by decide +kernel
theorem dX12_next0_123 : decode cX12_next0 123 = .ok (.putfield 151, 3) := by decide +kernel
theorem dX12_next0_126 : decode cX12_next0 126 = .ok (.aload_n 0, 1) := by decide +kernel
theorem dX12_next0_127 : decode cX12_next0 127 = .ok (.aload_n 0, 1) := by decide +kernel
theorem dX12_next0_128 : decode cX12_next0 128 = .ok (.getfield 87, 3) := by decide +kernel
theorem dX12_next0_131 : decode cX12_next0 131 = .ok (.invokevirtual 135, 3) := by decide +kernel
theorem dX12_next0_134 : decode cX12_next0 134 = .ok (.invokestatic 148, 3) := by decide +kernel
theorem dX12_next0_137 : decode cX12_next0 137 = .ok (.ifCond .eq 52, 3) := by decide +kernel
theorem dX12_next0_140 : decode cX12_next0 140 = .ok (.aload_n 0, 1) := by decide +kernel
theorem dX12_next0_141 : decode cX12_next0 141 = .ok (.getfield 87, 3) := by decide +kernel
theorem dX12_next0_144 : decode cX12_next0 144 = .ok (.aload_n 0, 1) := by decide +kernel
theorem dX12_next0_145 : decode cX12_next0 145 = .ok (.getfield 90, 3) := by decide +kernel
theorem dX12_next0_148 : decode cX12_next0 148 = .ok (.iconst 4, 1) := by decide +kernel
theorem dX12_next0_149 : decode cX12_next0 149 = .ok (.iadd, 1) := by decide +kernel
theorem dX12_next0_150 : decode cX12_next0 150 = .ok (.if_icmp .ge 26, 3) := by decide +kernel
theorem dX12_next0_153 : decode cX12_next0 153 = .ok (.aload_n 0, 1) := by decide +kernel
theorem dX12_next0_154 : decode cX12_next0 154 = .ok (.bipush 10, 2) := by decide +kernel
theorem dX12_next0_156 : decode cX12_next0 156 = .ok (.aload_n 0, 1) := by decide +kernel
theorem dX12_next0_157 : decode cX12_next0 157 = .ok (.getfield 151, 3) := by decide +kernel
theorem dX12_next0_160 : decode cX12_next0 160 = .ok (.imul, 1) := by decide +kernel
theorem dX12_next0_161 : decode cX12_next0 161 = .ok (.aload_n 0, 1) := by decide +kernel
theorem dX12_next0_162 : decode cX12_next0 162 = .ok (.aload_n 0, 1) := by decide +kernel
theorem dX12_next0_163 : decode cX12_next0 163 = .ok (.getfield 87, 3) := by decide +kernel
theorem dX12_next0_166 : decode cX12_next0 166 = .ok (.invokevirtual 135, 3) := by decide +kernel
theorem dX12_next0_169 : decode cX12_next0 169 = .ok (.iadd, 1) := by decide +kernel
theorem dX12_next0_170 : decode cX12_next0 170 = .ok (.bipush 48, 2) := by decide +kernel
theorem dX12_next0_172 : decode cX12_next0 172 = .ok (.isub, 1) := by decide +kernel
theorem dX12_next0_173 : decode cX12_next0 173 = .ok (.putfield 151, 3) := by decide +kernel
theorem dX12_next0_176 : decode cX12_next0 176 = .ok (.aload_n 0, 1) := by decide +kernel
theorem dX12_next0_177 : decode cX12_next0 177 = .ok (.dup, 1) := by decide +kernel
theorem dX12_next0_178 : decode cX12_next0 178 = .ok (.getfield 87, 3) := by decide +kernel
theorem dX12_next0_181 : decode cX12_next0 181 = .ok (.iconst 1, 1) := by decide +kernel
theorem dX12_next0_182 : decode cX12_next0 182 = .ok (.iadd, 1) := by decide +kernel
theorem dX12_next0_183 : decode cX12_next0 183 = .ok (.putfield 87, 3) := by decide +kernel
theorem dX12_next0_186 : decode cX12_next0 186 = .ok (.goto (-60), 3) := by decide +kernel
theorem dX12_next0_189 : decode cX12_next0 189 = .ok (.aload_n 0, 1) := by decide +kernel
theorem dX12_next0_190 : decode cX12_next0 190 = .ok (.aload_n 0, 1) := by decide +kernel
theorem dX12_next0_191 : decode cX12_next0 191 = .ok (.getfield 87, 3) := by decide +kernel
theorem dX12_next0_194 : decode cX12_next0 194 = .ok (.aload_n 0, 1) := by decide +kernel
theorem dX12_next0_195 : decode cX12_next0 195 = .ok (.getfield 90, 3) := by decide +kernel
theorem dX12_next0_198 : decode cX12_next0 198 = .ok (.isub, 1) := by decide +kernel
theorem dX12_next0_199 : decode cX12_next0 199 = .ok (.iconst 5, 1) := by decide +kernel
theorem dX12_next0_200 : decode cX12_next0 200 = .ok (.if_icmp .ge 7, 3) := by decide +kernel
theorem dX12_next0_203 : decode cX12_next0 203 = .ok (.iconst 2, 1) := by decide +kernel
theorem dX12_next0_204 : decode cX12_next0 204 = .ok (.goto 4, 3) := by decide +kernel
theorem dX12_next0_207 : decode cX12_next0 207 = .ok (.iconst 1, 1) := by decide +kernel
theorem dX12_next0_208 : decode cX12_next0 208 = .ok (.putfield 139, 3) := by decide +kernel
theorem dX12_next0_211 : decode cX12_next0 211 = .ok (.goto 95, 3) := by decide +kernel
theorem dX12_next0_214 : decode cX12_next0 214 = .ok (.aload_n 0, 1) := by decide +kernel
theorem dX12_next0_215 : decode cX12_next0 215 = .ok (.dup, 1) := by decide +kernel
theorem dX12_next0_216 : decode cX12_next0 216 = .ok (.getfield 87, 3) := by decide +kernel
theorem dX12_next0_219 : decode cX12_next0 219 = .ok (.iconst 1, 1) := by decide +kernel
theorem dX12_next0_220 : decode cX12_next0 220 = .ok (.iadd, 1) := by decide +kernel
theorem dX12_next0_221 : decode cX12_next0 221 = .ok (.putfield 87, 3) := by decide +kernel
theorem dX12_next0_224 : decode cX12_next0 224 = .ok (.iload_n 1, 1) := by decide +kernel
theorem dX12_next0_225 : decode cX12_next0 225 = .ok (.bipush 59, 2) := by decide +kernel
theorem dX12_next0_227 : decode cX12_next0 227 = .ok (.if_icmp .eq 57, 3) := by decide +kernel
theorem dX12_next0_230 : decode cX12_next0 230 = .ok (.iload_n 1, 1) := by decide +kernel
theorem dX12_next0_231 : decode cX12_next0 231 = .ok (.bipush 43, 2) := by decide +kernel
theorem dX12_next0_233 : decode cX12_next0 233 = .ok (.if_icmp .eq 51, 3) := by decide +kernel
theorem dX12_next0_236 : decode cX12_next0 236 = .ok (.iload_n 1, 1) := by decide +kernel
theorem dX12_next0_237 : decode cX12_next0 237 = .ok (.bipush 45, 2) := by decide +kernel
theorem dX12_next0_239 : decode cX12_next0 239 = .ok (.if_icmp .eq 45, 3) := by decide +kernel
theorem dX12_next0_242 : decode cX12_next0 242 = .ok (.iload_n 1, 1) := by decide +kernel
theorem dX12_next0_243 : decode cX12_next0 243 = .ok (.bipush 42, 2) := by decide +kernel
theorem dX12_next0_245 : decode cX12_next0 245 = .ok (.if_icmp .eq 39, 3) := by decide +kernel
theorem dX12_next0_248 : decode cX12_next0 248 = .ok (.iload_n 1, 1) := by decide +kernel
theorem dX12_next0_249 : decode cX12_next0 249 = .ok (.bipush 47, 2) := by decide +kernel
theorem dX12_next0_251 : decode cX12_next0 251 = .ok (.if_icmp .eq 33, 3) := by decide +kernel
theorem dX12_next0_254 : decode cX12_next0 254 = .ok (.iload_n 1, 1) := by decide +kernel
theorem dX12_next0_255 : decode cX12_next0 255 = .ok (.bipush 40, 2) := by decide +kernel
theorem dX12_next0_257 : decode cX12_next0 257 = .ok (.if_icmp .eq 27, 3) := by decide +kernel
theorem dX12_next0_260 : decode cX12_next0 260 = .ok (.iload_n 1, 1) := by decide +kernel
theorem dX12_next0_261 : decode cX12_next0 261 = .ok (.bipush 41, 2) := by decide +kernel
theorem dX12_next0_263 : decode cX12_next0 263 = .ok (.if_icmp .eq 21, 3) := by decide +kernel
theorem dX12_next0_266 : decode cX12_next0 266 = .ok (.iload_n 1, 1) := by decide +kernel
theorem dX12_next0_267 : decode cX12_next0 267 = .ok (.bipush 60, 2) := by decide +kernel
theorem dX12_next0_269 : decode cX12_next0 269 = .ok (.if_icmp .eq 15, 3) := by decide +kernel
theorem dX12_next0_272 : decode cX12_next0 272 = .ok (.iload_n 1, 1) := by decide +kernel
theorem dX12_next0_273 : decode cX12_next0 273 = .ok (.bipush 61, 2) := by decide +kernel
theorem dX12_next0_275 : decode cX12_next0 275 = .ok (.if_icmp .eq 9, 3) := by decide +kernel
theorem dX12_next0_278 : decode cX12_next0 278 = .ok (.iload_n 1, 1) := by decide +kernel
theorem dX12_next0_279 : decode cX12_next0 279 = .ok (.bipush 62, 2) := by decide +kernel
theorem dX12_next0_281 : decode cX12_next0 281 = .ok (.if_icmp .ne 7, 3) := by decide +kernel
theorem dX12_next0_284 : decode cX12_next0 284 = .ok (.iconst 1, 1) := by decide +kernel
theorem dX12_next0_285 : decode cX12_next0 285 = .ok (.goto 4, 3) := by decide +kernel
theorem dX12_next0_288 : decode cX12_next0 288 = .ok (.iconst 0, 1) := by decide +kernel
theorem dX12_next0_289 : decode cX12_next0 289 = .ok (.istore_n 2, 1) := by decide +kernel
theorem dX12_next0_290 : decode cX12_next0 290 = .ok (.aload_n 0, 1) := by decide +kernel
theorem dX12_next0_291 : decode cX12_next0 291 = .ok (.iload_n 2, 1) := by decide +kernel
theorem dX12_next0_292 : decode cX12_next0 292 = .ok (.ifCond .eq 10, 3) := by decide +kernel
theorem dX12_next0_295 : decode cX12_next0 295 = .ok (.bipush 100, 2) := by decide +kernel
theorem dX12_next0_297 : decode cX12_next0 297 = .ok (.iload_n 1, 1) := by decide +kernel
theorem dX12_next0_298 : decode cX12_next0 298 = .ok (.iadd, 1) := by decide +kernel
theorem dX12_next0_299 : decode cX12_next0 299 = .ok (.goto 4, 3) := by decide +kernel
theorem dX12_next0_302 : decode cX12_next0 302 = .ok (.iconst 1, 1) := by decide +kernel
theorem dX12_next0_303 : decode cX12_next0 303 = .ok (.putfield 139, 3) := by decide +kernel
theorem dX12_next0_306 : decode cX12_next0 306 = .ok (.return_, 1) := by decide +kernel
theorem dX12_bad_0 : decode cX12_bad 0 = .ok (.aload_n 0, 1) := by decide +kernel
theorem dX12_bad_1 : decode cX12_bad 1 = .ok (.iload_n 1, 1) := by decide +kernel
theorem dX12_bad_2 : decode cX12_bad 2 = .ok (.putfield 154, 3) := by decide +kernel
theorem dX12_bad_5 : decode cX12_bad 5 = .ok (.aload_n 0, 1) := by decide +kernel
theorem dX12_bad_6 : decode cX12_bad 6 = .ok (.aload_n 0, 1) := by decide +kernel
theorem dX12_bad_7 : decode cX12_bad 7 = .ok (.getfield 90, 3) := by decide +kernel
theorem dX12_bad_10 : decode cX12_bad 10 = .ok (.putfield 157, 3) := by decide +kernel
theorem dX12_bad_13 : decode cX12_bad 13 = .ok (.iconst 0, 1) := by decide +kernel
theorem dX12_bad_14 : decode cX12_bad 14 = .ok (.ireturn, 1) := by decide +kernel
theorem dX12_need_0 : decode cX12_need 0 = .ok (.aload_n 0, 1) := by decide +kernel
theorem dX12_need_1 : decode cX12_need 1 = .ok (.getfield 139, 3) := by decide +kernel
theorem dX12_need_4 : decode cX12_need 4 = .ok (.iload_n 1, 1) := by decide +kernel
theorem dX12_need_5 : decode cX12_need 5 = .ok (.if_icmp .eq 9, 3) := by decide +kernel
theorem dX12_need_8 : decode cX12_need 8 = .ok (.aload_n 0, 1) := by decide +kernel
theorem dX12_need_9 : decode cX12_need 9 = .ok (.iconst 1, 1) := by decide +kernel
theorem dX12_need_10 : decode cX12_need 10 = .ok (.invokevirtual 160, 3) := by decide +kernel
theorem dX12_need_13 : decode cX12_need 13 = .ok (.ireturn, 1) := by decide +kernel
theorem dX12_need_14 : decode cX12_need 14 = .ok (.aload_n 0, 1) := by decide +kernel
theorem dX12_need_15 : decode cX12_need 15 = .ok (.invokevirtual 163, 3) := by decide +kernel
theorem dX12_need_18 : decode cX12_need 18 = .ok (.iconst 1, 1) := by decide +kernel
theorem dX12_need_19 : decode cX12_need 19 = .ok (.ireturn, 1) := by decide +kernel
theorem dX12_lay_0 : decode cX12_lay 0 = .ok (.aload_n 0, 1) := by decide +kernel
theorem dX12_lay_1 : decode cX12_lay 1 = .ok (.getfield 22, 3) := by decide +kernel
theorem dX12_lay_4 : decode cX12_lay 4 = .ok (.iconst 2, 1) := by decide +kernel
theorem dX12_lay_5 : decode cX12_lay 5 = .ok (.aload_n 0, 1) := by decide +kernel
theorem dX12_lay_6 : decode cX12_lay 6 = .ok (.getfield 166, 3) := by decide +kernel
theorem dX12_lay_9 : decode cX12_lay 9 = .ok (.imul, 1) := by decide +kernel
theorem dX12_lay_10 : decode cX12_lay 10 = .ok (.iload_n 1, 1) := by decide +kernel
theorem dX12_lay_11 : decode cX12_lay 11 = .ok (.iastore, 1) := by decide +kernel
theorem dX12_lay_12 : decode cX12_lay 12 = .ok (.aload_n 0, 1) := by decide +kernel
theorem dX12_lay_13 : decode cX12_lay 13 = .ok (.getfield 22, 3) := by decide +kernel
theorem dX12_lay_16 : decode cX12_lay 16 = .ok (.iconst 2, 1) := by decide +kernel
theorem dX12_lay_17 : decode cX12_lay 17 = .ok (.aload_n 0, 1) := by decide +kernel
theorem dX12_lay_18 : decode cX12_lay 18 = .ok (.getfield 166, 3) := by decide +kernel
theorem dX12_lay_21 : decode cX12_lay 21 = .ok (.imul, 1) := by decide +kernel
theorem dX12_lay_22 : decode cX12_lay 22 = .ok (.iconst 1, 1) := by decide +kernel
theorem dX12_lay_23 : decode cX12_lay 23 = .ok (.iadd, 1) := by decide +kernel
theorem dX12_lay_24 : decode cX12_lay 24 = .ok (.iload_n 2, 1) := by decide +kernel
theorem dX12_lay_25 : decode cX12_lay 25 = .ok (.iastore, 1) := by decide +kernel
theorem dX12_lay_26 : decode cX12_lay 26 = .ok (.aload_n 0, 1) := by decide +kernel
theorem dX12_lay_27 : decode cX12_lay 27 = .ok (.dup, 1) := by decide +kernel
theorem dX12_lay_28 : decode cX12_lay 28 = .ok (.getfield 166, 3) := by decide +kernel
theorem dX12_lay_31 : decode cX12_lay 31 = .ok (.iconst 1, 1) := by decide +kernel
theorem dX12_lay_32 : decode cX12_lay 32 = .ok (.iadd, 1) := by decide +kernel
theorem dX12_lay_33 : decode cX12_lay 33 = .ok (.putfield 166, 3) := by decide +kernel
theorem dX12_lay_36 : decode cX12_lay 36 = .ok (.return_, 1) := by decide +kernel
theorem dX12_opens_0 : decode cX12_opens 0 = .ok (.aload_n 0, 1) := by decide +kernel
theorem dX12_opens_1 : decode cX12_opens 1 = .ok (.getfield 169, 3) := by decide +kernel
theorem dX12_opens_4 : decode cX12_opens 4 = .ok (.bipush 8, 2) := by decide +kernel
theorem dX12_opens_6 : decode cX12_opens 6 = .ok (.if_icmp .ne 9, 3) := by decide +kernel
theorem dX12_opens_9 : decode cX12_opens 9 = .ok (.aload_n 0, 1) := by decide +kernel
theorem dX12_opens_10 : decode cX12_opens 10 = .ok (.iconst 3, 1) := by decide +kernel
theorem dX12_opens_11 : decode cX12_opens 11 = .ok (.invokevirtual 160, 3) := by decide +kernel
theorem dX12_opens_14 : decode cX12_opens 14 = .ok (.ireturn, 1) := by decide +kernel
theorem dX12_opens_15 : decode cX12_opens 15 = .ok (.aload_n 0, 1) := by decide +kernel
theorem dX12_opens_16 : decode cX12_opens 16 = .ok (.dup, 1) := by decide +kernel
theorem dX12_opens_17 : decode cX12_opens 17 = .ok (.getfield 169, 3) := by decide +kernel
theorem dX12_opens_20 : decode cX12_opens 20 = .ok (.iconst 1, 1) := by decide +kernel
theorem dX12_opens_21 : decode cX12_opens 21 = .ok (.iadd, 1) := by decide +kernel
theorem dX12_opens_22 : decode cX12_opens 22 = .ok (.putfield 169, 3) := by decide +kernel
theorem dX12_opens_25 : decode cX12_opens 25 = .ok (.aload_n 0, 1) := by decide +kernel
theorem dX12_opens_26 : decode cX12_opens 26 = .ok (.invokevirtual 163, 3) := by decide +kernel
theorem dX12_opens_29 : decode cX12_opens 29 = .ok (.iconst 1, 1) := by decide +kernel
theorem dX12_opens_30 : decode cX12_opens 30 = .ok (.ireturn, 1) := by decide +kernel
theorem dX12_sumUp_0 : decode cX12_sumUp 0 = .ok (.aload_n 0, 1) := by decide +kernel
theorem dX12_sumUp_1 : decode cX12_sumUp 1 = .ok (.invokevirtual 172, 3) := by decide +kernel
theorem dX12_sumUp_4 : decode cX12_sumUp 4 = .ok (.ifCond .ne 5, 3) := by decide +kernel
theorem dX12_sumUp_7 : decode cX12_sumUp 7 = .ok (.iconst 0, 1) := by decide +kernel
theorem dX12_sumUp_8 : decode cX12_sumUp 8 = .ok (.ireturn, 1) := by decide +kernel
theorem dX12_sumUp_9 : decode cX12_sumUp 9 = .ok (.aload_n 0, 1) := by decide +kernel
theorem dX12_sumUp_10 : decode cX12_sumUp 10 = .ok (.getfield 139, 3) := by decide +kernel
theorem dX12_sumUp_13 : decode cX12_sumUp 13 = .ok (.sipush 143, 3) := by decide +kernel
theorem dX12_sumUp_16 : decode cX12_sumUp 16 = .ok (.if_icmp .eq 13, 3) := by decide +kernel
theorem dX12_sumUp_19 : decode cX12_sumUp 19 = .ok (.aload_n 0, 1) := by decide +kernel
theorem dX12_sumUp_20 : decode cX12_sumUp 20 = .ok (.getfield 139, 3) := by decide +kernel
theorem dX12_sumUp_23 : decode cX12_sumUp 23 = .ok (.sipush 145, 3) := by decide +kernel
theorem dX12_sumUp_26 : decode cX12_sumUp 26 = .ok (.if_icmp .ne 43, 3) := by decide +kernel
theorem dX12_sumUp_29 : decode cX12_sumUp 29 = .ok (.aload_n 0, 1) := by decide +kernel
theorem dX12_sumUp_30 : decode cX12_sumUp 30 = .ok (.getfield 139, 3) := by decide +kernel
theorem dX12_sumUp_33 : decode cX12_sumUp 33 = .ok (.sipush 143, 3) := by decide +kernel
theorem dX12_sumUp_36 : decode cX12_sumUp 36 = .ok (.if_icmp .ne 8, 3) := by decide +kernel
theorem dX12_sumUp_39 : decode cX12_sumUp 39 = .ok (.bipush 13, 2) := by decide +kernel
theorem dX12_sumUp_41 : decode cX12_sumUp 41 = .ok (.goto 5, 3) := by decide +kernel
theorem dX12_sumUp_44 : decode cX12_sumUp 44 = .ok (.bipush 14, 2) := by decide +kernel
theorem dX12_sumUp_46 : decode cX12_sumUp 46 = .ok (.istore_n 1, 1) := by decide +kernel
theorem dX12_sumUp_47 : decode cX12_sumUp 47 = .ok (.aload_n 0, 1) := by decide +kernel
theorem dX12_sumUp_48 : decode cX12_sumUp 48 = .ok (.invokevirtual 163, 3) := by decide +kernel
theorem dX12_sumUp_51 : decode cX12_sumUp 51 = .ok (.aload_n 0, 1) := by decide +kernel
theorem dX12_sumUp_52 : decode cX12_sumUp 52 = .ok (.invokevirtual 172, 3) := by decide +kernel
theorem dX12_sumUp_55 : decode cX12_sumUp 55 = .ok (.ifCond .ne 5, 3) := by decide +kernel
theorem dX12_sumUp_58 : decode cX12_sumUp 58 = .ok (.iconst 0, 1) := by decide +kernel
theorem dX12_sumUp_59 : decode cX12_sumUp 59 = .ok (.ireturn, 1) := by decide +kernel
theorem dX12_sumUp_60 : decode cX12_sumUp 60 = .ok (.aload_n 0, 1) := by decide +kernel
theorem dX12_sumUp_61 : decode cX12_sumUp 61 = .ok (.iload_n 1, 1) := by decide +kernel
theorem dX12_sumUp_62 : decode cX12_sumUp 62 = .ok (.iconst 0, 1) := by decide +kernel
theorem dX12_sumUp_63 : decode cX12_sumUp 63 = .ok (.invokevirtual 176, 3) := by decide +kernel
theorem dX12_sumUp_66 : decode cX12_sumUp 66 = .ok (.goto (-57), 3) := by decide +kernel
theorem dX12_sumUp_69 : decode cX12_sumUp 69 = .ok (.iconst 1, 1) := by decide +kernel
theorem dX12_sumUp_70 : decode cX12_sumUp 70 = .ok (.ireturn, 1) := by decide +kernel
theorem dX12_product_0 : decode cX12_product 0 = .ok (.aload_n 0, 1) := by decide +kernel
theorem dX12_product_1 : decode cX12_product 1 = .ok (.invokevirtual 180, 3) := by decide +kernel
theorem dX12_product_4 : decode cX12_product 4 = .ok (.ifCond .ne 5, 3) := by decide +kernel
theorem dX12_product_7 : decode cX12_product 7 = .ok (.iconst 0, 1) := by decide +kernel
theorem dX12_product_8 : decode cX12_product 8 = .ok (.ireturn, 1) := by decide +kernel
theorem dX12_product_9 : decode cX12_product 9 = .ok (.aload_n 0, 1) := by decide +kernel
theorem dX12_product_10 : decode cX12_product 10 = .ok (.getfield 139, 3) := by decide +kernel
theorem dX12_product_13 : decode cX12_product 13 = .ok (.sipush 142, 3) := by decide +kernel
theorem dX12_product_16 : decode cX12_product 16 = .ok (.if_icmp .eq 13, 3) := by decide +kernel
theorem dX12_product_19 : decode cX12_product 19 = .ok (.aload_n 0, 1) := by decide +kernel
theorem dX12_product_20 : decode cX12_product 20 = .ok (.getfield 139, 3) := by decide +kernel
theorem dX12_product_23 : decode cX12_product 23 = .ok (.sipush 147, 3) := by decide +kernel
theorem dX12_product_26 : decode cX12_product 26 = .ok (.if_icmp .ne 89, 3) := by decide +kernel
theorem dX12_product_29 : decode cX12_product 29 = .ok (.aload_n 0, 1) := by decide +kernel
theorem dX12_product_30 : decode cX12_product 30 = .ok (.getfield 139, 3) := by decide +kernel
theorem dX12_product_33 : decode cX12_product 33 = .ok (.sipush 147, 3) := by decide +kernel
theorem dX12_product_36 : decode cX12_product 36 = .ok (.if_icmp .ne 7, 3) := by decide +kernel
theorem dX12_product_39 : decode cX12_product 39 = .ok (.iconst 1, 1) := by decide +kernel
theorem dX12_product_40 : decode cX12_product 40 = .ok (.goto 4, 3) := by decide +kernel
theorem dX12_product_43 : decode cX12_product 43 = .ok (.iconst 0, 1) := by decide +kernel
theorem dX12_product_44 : decode cX12_product 44 = .ok (.istore_n 1, 1) := by decide +kernel
theorem dX12_product_45 : decode cX12_product 45 = .ok (.aload_n 0, 1) := by decide +kernel
theorem dX12_product_46 : decode cX12_product 46 = .ok (.invokevirtual 163, 3) := by decide +kernel
theorem dX12_product_49 : decode cX12_product 49 = .ok (.iload_n 1, 1) := by decide +kernel
theorem dX12_product_50 : decode cX12_product 50 = .ok (.ifCond .eq 46, 3) := by decide +kernel
theorem dX12_product_53 : decode cX12_product 53 = .ok (.aload_n 0, 1) := by decide +kernel
theorem dX12_product_54 : decode cX12_product 54 = .ok (.getfield 151, 3) := by decide +kernel
theorem dX12_product_57 : decode cX12_product 57 = .ok (.istore_n 2, 1) := by decide +kernel
theorem dX12_product_58 : decode cX12_product 58 = .ok (.aload_n 0, 1) := by decide +kernel
theorem dX12_product_59 : decode cX12_product 59 = .ok (.getfield 139, 3) := by decide +kernel
theorem dX12_product_62 : decode cX12_product 62 = .ok (.iconst 2, 1) := by decide +kernel
theorem dX12_product_63 : decode cX12_product 63 = .ok (.if_icmp .eq 9, 3) := by decide +kernel
theorem dX12_product_66 : decode cX12_product 66 = .ok (.aload_n 0, 1) := by decide +kernel
theorem dX12_product_67 : decode cX12_product 67 = .ok (.iconst 1, 1) := by decide +kernel
theorem dX12_product_68 : decode cX12_product 68 = .ok (.invokevirtual 160, 3) := by decide +kernel
theorem dX12_product_71 : decode cX12_product 71 = .ok (.ireturn, 1) := by decide +kernel
theorem dX12_product_72 : decode cX12_product 72 = .ok (.iload_n 2, 1) := by decide +kernel
theorem dX12_product_73 : decode cX12_product 73 = .ok (.ifCond .ne 9, 3) := by decide +kernel
theorem dX12_product_76 : decode cX12_product 76 = .ok (.aload_n 0, 1) := by decide +kernel
theorem dX12_product_77 : decode cX12_product 77 = .ok (.iconst 2, 1) := by decide +kernel
theorem dX12_product_78 : decode cX12_product 78 = .ok (.invokevirtual 160, 3) := by decide +kernel
theorem dX12_product_81 : decode cX12_product 81 = .ok (.ireturn, 1) := by decide +kernel
theorem dX12_product_82 : decode cX12_product 82 = .ok (.aload_n 0, 1) := by decide +kernel
theorem dX12_product_83 : decode cX12_product 83 = .ok (.invokevirtual 163, 3) := by decide +kernel
theorem dX12_product_86 : decode cX12_product 86 = .ok (.aload_n 0, 1) := by decide +kernel
theorem dX12_product_87 : decode cX12_product 87 = .ok (.bipush 16, 2) := by decide +kernel
theorem dX12_product_89 : decode cX12_product 89 = .ok (.iload_n 2, 1) := by decide +kernel
theorem dX12_product_90 : decode cX12_product 90 = .ok (.invokevirtual 176, 3) := by decide +kernel
theorem dX12_product_93 : decode cX12_product 93 = .ok (.goto 19, 3) := by decide +kernel
theorem dX12_product_96 : decode cX12_product 96 = .ok (.aload_n 0, 1) := by decide +kernel
theorem dX12_product_97 : decode cX12_product 97 = .ok (.invokevirtual 180, 3) := by decide +kernel
theorem dX12_product_100 : decode cX12_product 100 = .ok (.ifCond .ne 5, 3) := by decide +kernel
theorem dX12_product_103 : decode cX12_product 103 = .ok (.iconst 0, 1) := by decide +kernel
theorem dX12_product_104 : decode cX12_product 104 = .ok (.ireturn, 1) := by decide +kernel
theorem dX12_product_105 : decode cX12_product 105 = .ok (.aload_n 0, 1) := by decide +kernel
theorem dX12_product_106 : decode cX12_product 106 = .ok (.bipush 15, 2) := by decide +kernel
theorem dX12_product_108 : decode cX12_product 108 = .ok (.iconst 0, 1) := by decide +kernel
theorem dX12_product_109 : decode cX12_product 109 = .ok (.invokevirtual 176, 3) := by decide +kernel
theorem dX12_product_112 : decode cX12_product 112 = .ok (.goto (-103), 3) := by decide +kernel
theorem dX12_product_115 : decode cX12_product 115 = .ok (.iconst 1, 1) := by decide +kernel
theorem dX12_product_116 : decode cX12_product 116 = .ok (.ireturn, 1) := by decide +kernel
theorem dX12_unit_0 : decode cX12_unit 0 = .ok (.aload_n 0, 1) := by decide +kernel
theorem dX12_unit_1 : decode cX12_unit 1 = .ok (.getfield 139, 3) := by decide +kernel
theorem dX12_unit_4 : decode cX12_unit 4 = .ok (.bipush 41, 2) := by decide +kernel
theorem dX12_unit_6 : decode cX12_unit 6 = .ok (.bipush 47, 2) := by decide +kernel
theorem dX12_unit_8 : decode cX12_unit 8 = .ok (.invokestatic 50, 3) := by decide +kernel
theorem dX12_unit_11 : decode cX12_unit 11 = .ok (.istore_n 1, 1) := by decide +kernel
theorem dX12_unit_12 : decode cX12_unit 12 = .ok (.aload_n 0, 1) := by decide +kernel
theorem dX12_unit_13 : decode cX12_unit 13 = .ok (.getfield 139, 3) := by decide +kernel
theorem dX12_unit_16 : decode cX12_unit 16 = .ok (.iconst 2, 1) := by decide +kernel
theorem dX12_unit_17 : decode cX12_unit 17 = .ok (.if_icmp .eq 13, 3) := by decide +kernel
theorem dX12_unit_20 : decode cX12_unit 20 = .ok (.iload_n 1, 1) := by decide +kernel
theorem dX12_unit_21 : decode cX12_unit 21 = .ok (.ifCond .ne 9, 3) := by decide +kernel
theorem dX12_unit_24 : decode cX12_unit 24 = .ok (.aload_n 0, 1) := by decide +kernel
theorem dX12_unit_25 : decode cX12_unit 25 = .ok (.iconst 1, 1) := by decide +kernel
theorem dX12_unit_26 : decode cX12_unit 26 = .ok (.invokevirtual 160, 3) := by decide +kernel
theorem dX12_unit_29 : decode cX12_unit 29 = .ok (.ireturn, 1) := by decide +kernel
theorem dX12_unit_30 : decode cX12_unit 30 = .ok (.aload_n 0, 1) := by decide +kernel
theorem dX12_unit_31 : decode cX12_unit 31 = .ok (.iload_n 1, 1) := by decide +kernel
theorem dX12_unit_32 : decode cX12_unit 32 = .ok (.ifCond .eq 13, 3) := by decide +kernel
theorem dX12_unit_35 : decode cX12_unit 35 = .ok (.aload_n 0, 1) := by decide +kernel
theorem dX12_unit_36 : decode cX12_unit 36 = .ok (.getfield 139, 3) := by decide +kernel
theorem dX12_unit_39 : decode cX12_unit 39 = .ok (.bipush 40, 2) := by decide +kernel
theorem dX12_unit_41 : decode cX12_unit 41 = .ok (.isub, 1) := by decide +kernel
theorem dX12_unit_42 : decode cX12_unit 42 = .ok (.goto 4, 3) := by decide +kernel
theorem dX12_unit_45 : decode cX12_unit 45 = .ok (.iconst 0, 1) := by decide +kernel
theorem dX12_unit_46 : decode cX12_unit 46 = .ok (.aload_n 0, 1) := by decide +kernel
theorem dX12_unit_47 : decode cX12_unit 47 = .ok (.getfield 151, 3) := by decide +kernel
theorem dX12_unit_50 : decode cX12_unit 50 = .ok (.invokevirtual 176, 3) := by decide +kernel
theorem dX12_unit_53 : decode cX12_unit 53 = .ok (.aload_n 0, 1) := by decide +kernel
theorem dX12_unit_54 : decode cX12_unit 54 = .ok (.invokevirtual 163, 3) := by decide +kernel
theorem dX12_unit_57 : decode cX12_unit 57 = .ok (.iconst 1, 1) := by decide +kernel
theorem dX12_unit_58 : decode cX12_unit 58 = .ok (.ireturn, 1) := by decide +kernel
theorem dX12_any_0 : decode cX12_any 0 = .ok (.aload_n 0, 1) := by decide +kernel
theorem dX12_any_1 : decode cX12_any 1 = .ok (.invokevirtual 183, 3) := by decide +kernel
theorem dX12_any_4 : decode cX12_any 4 = .ok (.ifCond .ne 5, 3) := by decide +kernel
theorem dX12_any_7 : decode cX12_any 7 = .ok (.iconst 0, 1) := by decide +kernel
theorem dX12_any_8 : decode cX12_any 8 = .ok (.ireturn, 1) := by decide +kernel
theorem dX12_any_9 : decode cX12_any 9 = .ok (.aload_n 0, 1) := by decide +kernel
theorem dX12_any_10 : decode cX12_any 10 = .ok (.getfield 139, 3) := by decide +kernel
theorem dX12_any_13 : decode cX12_any 13 = .ok (.iconst 4, 1) := by decide +kernel
theorem dX12_any_14 : decode cX12_any 14 = .ok (.if_icmp .ne 26, 3) := by decide +kernel
theorem dX12_any_17 : decode cX12_any 17 = .ok (.aload_n 0, 1) := by decide +kernel
theorem dX12_any_18 : decode cX12_any 18 = .ok (.invokevirtual 163, 3) := by decide +kernel
theorem dX12_any_21 : decode cX12_any 21 = .ok (.aload_n 0, 1) := by decide +kernel
theorem dX12_any_22 : decode cX12_any 22 = .ok (.invokevirtual 183, 3) := by decide +kernel
theorem dX12_any_25 : decode cX12_any 25 = .ok (.ifCond .ne 5, 3) := by decide +kernel
theorem dX12_any_28 : decode cX12_any 28 = .ok (.iconst 0, 1) := by decide +kernel
theorem dX12_any_29 : decode cX12_any 29 = .ok (.ireturn, 1) := by decide +kernel
theorem dX12_any_30 : decode cX12_any 30 = .ok (.aload_n 0, 1) := by decide +kernel
theorem dX12_any_31 : decode cX12_any 31 = .ok (.bipush 22, 2) := by decide +kernel
theorem dX12_any_33 : decode cX12_any 33 = .ok (.iconst 0, 1) := by decide +kernel
theorem dX12_any_34 : decode cX12_any 34 = .ok (.invokevirtual 176, 3) := by decide +kernel
theorem dX12_any_37 : decode cX12_any 37 = .ok (.goto (-28), 3) := by decide +kernel
theorem dX12_any_40 : decode cX12_any 40 = .ok (.iconst 1, 1) := by decide +kernel
theorem dX12_any_41 : decode cX12_any 41 = .ok (.ireturn, 1) := by decide +kernel
theorem dX12_every_0 : decode cX12_every 0 = .ok (.aload_n 0, 1) := by decide +kernel
theorem dX12_every_1 : decode cX12_every 1 = .ok (.invokevirtual 186, 3) := by decide +kernel
theorem dX12_every_4 : decode cX12_every 4 = .ok (.ifCond .ne 5, 3) := by decide +kernel
theorem dX12_every_7 : decode cX12_every 7 = .ok (.iconst 0, 1) := by decide +kernel
theorem dX12_every_8 : decode cX12_every 8 = .ok (.ireturn, 1) := by decide +kernel
theorem dX12_every_9 : decode cX12_every 9 = .ok (.aload_n 0, 1) := by decide +kernel
theorem dX12_every_10 : decode cX12_every 10 = .ok (.getfield 139, 3) := by decide +kernel
theorem dX12_every_13 : decode cX12_every 13 = .ok (.iconst 5, 1) := by decide +kernel
theorem dX12_every_14 : decode cX12_every 14 = .ok (.if_icmp .ne 26, 3) := by decide +kernel
theorem dX12_every_17 : decode cX12_every 17 = .ok (.aload_n 0, 1) := by decide +kernel
theorem dX12_every_18 : decode cX12_every 18 = .ok (.invokevirtual 163, 3) := by decide +kernel
theorem dX12_every_21 : decode cX12_every 21 = .ok (.aload_n 0, 1) := by decide +kernel
theorem dX12_every_22 : decode cX12_every 22 = .ok (.invokevirtual 186, 3) := by decide +kernel
theorem dX12_every_25 : decode cX12_every 25 = .ok (.ifCond .ne 5, 3) := by decide +kernel
theorem dX12_every_28 : decode cX12_every 28 = .ok (.iconst 0, 1) := by decide +kernel
theorem dX12_every_29 : decode cX12_every 29 = .ok (.ireturn, 1) := by decide +kernel
theorem dX12_every_30 : decode cX12_every 30 = .ok (.aload_n 0, 1) := by decide +kernel
theorem dX12_every_31 : decode cX12_every 31 = .ok (.bipush 21, 2) := by decide +kernel
theorem dX12_every_33 : decode cX12_every 33 = .ok (.iconst 0, 1) := by decide +kernel
theorem dX12_every_34 : decode cX12_every 34 = .ok (.invokevirtual 176, 3) := by decide +kernel
theorem dX12_every_37 : decode cX12_every 37 = .ok (.goto (-28), 3) := by decide +kernel
theorem dX12_every_40 : decode cX12_every 40 = .ok (.iconst 1, 1) := by decide +kernel
theorem dX12_every_41 : decode cX12_every 41 = .ok (.ireturn, 1) := by decide +kernel
theorem dX12_oneTest_0 : decode cX12_oneTest 0 = .ok (.aload_n 0, 1) := by decide +kernel
theorem dX12_oneTest_1 : decode cX12_oneTest 1 = .ok (.getfield 139, 3) := by decide +kernel
theorem dX12_oneTest_4 : decode cX12_oneTest 4 = .ok (.bipush 6, 2) := by decide +kernel
theorem dX12_oneTest_6 : decode cX12_oneTest 6 = .ok (.if_icmp .ne 38, 3) := by decide +kernel
theorem dX12_oneTest_9 : decode cX12_oneTest 9 = .ok (.aload_n 0, 1) := by decide +kernel
theorem dX12_oneTest_10 : decode cX12_oneTest 10 = .ok (.invokevirtual 189, 3) := by decide +kernel
theorem dX12_oneTest_13 : decode cX12_oneTest 13 = .ok (.ifCond .eq 10, 3) := by decide +kernel
theorem dX12_oneTest_16 : decode cX12_oneTest 16 = .ok (.aload_n 0, 1) := by decide +kernel
theorem dX12_oneTest_17 : decode cX12_oneTest 17 = .ok (.invokevirtual 186, 3) := by decide +kernel
theorem dX12_oneTest_20 : decode cX12_oneTest 20 = .ok (.ifCond .ne 5, 3) := by decide +kernel
theorem dX12_oneTest_23 : decode cX12_oneTest 23 = .ok (.iconst 0, 1) := by decide +kernel
theorem dX12_oneTest_24 : decode cX12_oneTest 24 = .ok (.ireturn, 1) := by decide +kernel
theorem dX12_oneTest_25 : decode cX12_oneTest 25 = .ok (.aload_n 0, 1) := by decide +kernel
theorem dX12_oneTest_26 : decode cX12_oneTest 26 = .ok (.dup, 1) := by decide +kernel
theorem dX12_oneTest_27 : decode cX12_oneTest 27 = .ok (.getfield 169, 3) := by decide +kernel
theorem dX12_oneTest_30 : decode cX12_oneTest 30 = .ok (.iconst 1, 1) := by decide +kernel
theorem dX12_oneTest_31 : decode cX12_oneTest 31 = .ok (.isub, 1) := by decide +kernel
theorem dX12_oneTest_32 : decode cX12_oneTest 32 = .ok (.putfield 169, 3) := by decide +kernel
theorem dX12_oneTest_35 : decode cX12_oneTest 35 = .ok (.aload_n 0, 1) := by decide +kernel
theorem dX12_oneTest_36 : decode cX12_oneTest 36 = .ok (.bipush 20, 2) := by decide +kernel
theorem dX12_oneTest_38 : decode cX12_oneTest 38 = .ok (.iconst 0, 1) := by decide +kernel
theorem dX12_oneTest_39 : decode cX12_oneTest 39 = .ok (.invokevirtual 176, 3) := by decide +kernel
theorem dX12_oneTest_42 : decode cX12_oneTest 42 = .ok (.iconst 1, 1) := by decide +kernel
theorem dX12_oneTest_43 : decode cX12_oneTest 43 = .ok (.ireturn, 1) := by decide +kernel
theorem dX12_oneTest_44 : decode cX12_oneTest 44 = .ok (.aload_n 0, 1) := by decide +kernel
theorem dX12_oneTest_45 : decode cX12_oneTest 45 = .ok (.getfield 139, 3) := by decide +kernel
theorem dX12_oneTest_48 : decode cX12_oneTest 48 = .ok (.sipush 140, 3) := by decide +kernel
theorem dX12_oneTest_51 : decode cX12_oneTest 51 = .ok (.if_icmp .ne 41, 3) := by decide +kernel
theorem dX12_oneTest_54 : decode cX12_oneTest 54 = .ok (.aload_n 0, 1) := by decide +kernel
theorem dX12_oneTest_55 : decode cX12_oneTest 55 = .ok (.invokevirtual 189, 3) := by decide +kernel
theorem dX12_oneTest_58 : decode cX12_oneTest 58 = .ok (.ifCond .eq 20, 3) := by decide +kernel
theorem dX12_oneTest_61 : decode cX12_oneTest 61 = .ok (.aload_n 0, 1) := by decide +kernel
theorem dX12_oneTest_62 : decode cX12_oneTest 62 = .ok (.invokevirtual 192, 3) := by decide +kernel
theorem dX12_oneTest_65 : decode cX12_oneTest 65 = .ok (.ifCond .eq 13, 3) := by decide +kernel
theorem dX12_oneTest_68 : decode cX12_oneTest 68 = .ok (.aload_n 0, 1) := by decide +kernel
theorem dX12_oneTest_69 : decode cX12_oneTest 69 = .ok (.sipush 141, 3) := by decide +kernel
theorem dX12_oneTest_72 : decode cX12_oneTest 72 = .ok (.invokevirtual 195, 3) := by decide +kernel
theorem dX12_oneTest_75 : decode cX12_oneTest 75 = .ok (.ifCond .ne 5, 3) := by decide +kernel
theorem dX12_oneTest_78 : decode cX12_oneTest 78 = .ok (.iconst 0, 1) := by decide +kernel
theorem dX12_oneTest_79 : decode cX12_oneTest 79 = .ok (.ireturn, 1) := by decide +kernel
theorem dX12_oneTest_80 : decode cX12_oneTest 80 = .ok (.aload_n 0, 1) := by decide +kernel
theorem dX12_oneTest_81 : decode cX12_oneTest 81 = .ok (.dup, 1) := by decide +kernel
theorem dX12_oneTest_82 : decode cX12_oneTest 82 = .ok (.getfield 169, 3) := by decide +kernel
theorem dX12_oneTest_85 : decode cX12_oneTest 85 = .ok (.iconst 1, 1) := by decide +kernel
theorem dX12_oneTest_86 : decode cX12_oneTest 86 = .ok (.isub, 1) := by decide +kernel
theorem dX12_oneTest_87 : decode cX12_oneTest 87 = .ok (.putfield 169, 3) := by decide +kernel
theorem dX12_oneTest_90 : decode cX12_oneTest 90 = .ok (.iconst 1, 1) := by decide +kernel
theorem dX12_oneTest_91 : decode cX12_oneTest 91 = .ok (.ireturn, 1) := by decide +kernel
theorem dX12_oneTest_92 : decode cX12_oneTest 92 = .ok (.aload_n 0, 1) := by decide +kernel
theorem dX12_oneTest_93 : decode cX12_oneTest 93 = .ok (.invokevirtual 198, 3) := by decide +kernel
theorem dX12_oneTest_96 : decode cX12_oneTest 96 = .ok (.ifCond .ne 5, 3) := by decide +kernel
theorem dX12_oneTest_99 : decode cX12_oneTest 99 = .ok (.iconst 0, 1) := by decide +kernel
theorem dX12_oneTest_100 : decode cX12_oneTest 100 = .ok (.ireturn, 1) := by decide +kernel
theorem dX12_oneTest_101 : decode cX12_oneTest 101 = .ok (.aload_n 0, 1) := by decide +kernel
theorem dX12_oneTest_102 : decode cX12_oneTest 102 = .ok (.getfield 139, 3) := by decide +kernel
theorem dX12_oneTest_105 : decode cX12_oneTest 105 = .ok (.sipush 160, 3) := by decide +kernel
theorem dX12_oneTest_108 : decode cX12_oneTest 108 = .ok (.if_icmp .ne 8, 3) := by decide +kernel
theorem dX12_oneTest_111 : decode cX12_oneTest 111 = .ok (.bipush 17, 2) := by decide +kernel
theorem dX12_oneTest_113 : decode cX12_oneTest 113 = .ok (.goto 34, 3) := by decide +kernel
theorem dX12_oneTest_116 : decode cX12_oneTest 116 = .ok (.aload_n 0, 1) := by decide +kernel
theorem dX12_oneTest_117 : decode cX12_oneTest 117 = .ok (.getfield 139, 3) := by decide +kernel
theorem dX12_oneTest_120 : decode cX12_oneTest 120 = .ok (.sipush 161, 3) := by decide +kernel
theorem dX12_oneTest_123 : decode cX12_oneTest 123 = .ok (.if_icmp .ne 8, 3) := by decide +kernel
theorem dX12_oneTest_126 : decode cX12_oneTest 126 = .ok (.bipush 18, 2) := by decide +kernel
theorem dX12_oneTest_128 : decode cX12_oneTest 128 = .ok (.goto 19, 3) := by decide +kernel
theorem dX12_oneTest_131 : decode cX12_oneTest 131 = .ok (.aload_n 0, 1) := by decide +kernel
theorem dX12_oneTest_132 : decode cX12_oneTest 132 = .ok (.getfield 139, 3) := by decide +kernel
theorem dX12_oneTest_135 : decode cX12_oneTest 135 = .ok (.sipush 162, 3) := by decide +kernel
theorem dX12_oneTest_138 : decode cX12_oneTest 138 = .ok (.if_icmp .ne 8, 3) := by decide +kernel
theorem dX12_oneTest_141 : decode cX12_oneTest 141 = .ok (.bipush 19, 2) := by decide +kernel
theorem dX12_oneTest_143 : decode cX12_oneTest 143 = .ok (.goto 4, 3) := by decide +kernel
theorem dX12_oneTest_146 : decode cX12_oneTest 146 = .ok (.iconst (-1), 1) := by decide +kernel
theorem dX12_oneTest_147 : decode cX12_oneTest 147 = .ok (.istore_n 1, 1) := by decide +kernel
theorem dX12_oneTest_148 : decode cX12_oneTest 148 = .ok (.iload_n 1, 1) := by decide +kernel
theorem dX12_oneTest_149 : decode cX12_oneTest 149 = .ok (.iconst (-1), 1) := by decide +kernel
theorem dX12_oneTest_150 : decode cX12_oneTest 150 = .ok (.if_icmp .ne 9, 3) := by decide +kernel
theorem dX12_oneTest_153 : decode cX12_oneTest 153 = .ok (.aload_n 0, 1) := by decide +kernel
theorem dX12_oneTest_154 : decode cX12_oneTest 154 = .ok (.iconst 1, 1) := by decide +kernel
theorem dX12_oneTest_155 : decode cX12_oneTest 155 = .ok (.invokevirtual 160, 3) := by decide +kernel
theorem dX12_oneTest_158 : decode cX12_oneTest 158 = .ok (.ireturn, 1) := by decide +kernel
theorem dX12_oneTest_159 : decode cX12_oneTest 159 = .ok (.aload_n 0, 1) := by decide +kernel
theorem dX12_oneTest_160 : decode cX12_oneTest 160 = .ok (.invokevirtual 163, 3) := by decide +kernel
theorem dX12_oneTest_163 : decode cX12_oneTest 163 = .ok (.aload_n 0, 1) := by decide +kernel
theorem dX12_oneTest_164 : decode cX12_oneTest 164 = .ok (.invokevirtual 198, 3) := by decide +kernel
theorem dX12_oneTest_167 : decode cX12_oneTest 167 = .ok (.ifCond .ne 5, 3) := by decide +kernel
theorem dX12_oneTest_170 : decode cX12_oneTest 170 = .ok (.iconst 0, 1) := by decide +kernel
theorem dX12_oneTest_171 : decode cX12_oneTest 171 = .ok (.ireturn, 1) := by decide +kernel
theorem dX12_oneTest_172 : decode cX12_oneTest 172 = .ok (.aload_n 0, 1) := by decide +kernel
theorem dX12_oneTest_173 : decode cX12_oneTest 173 = .ok (.iload_n 1, 1) := by decide +kernel
theorem dX12_oneTest_174 : decode cX12_oneTest 174 = .ok (.iconst 0, 1) := by decide +kernel
theorem dX12_oneTest_175 : decode cX12_oneTest 175 = .ok (.invokevirtual 176, 3) := by decide +kernel
theorem dX12_oneTest_178 : decode cX12_oneTest 178 = .ok (.iconst 1, 1) := by decide +kernel
theorem dX12_oneTest_179 : decode cX12_oneTest 179 = .ok (.ireturn, 1) := by decide +kernel
theorem dX12_aLine_0 : decode cX12_aLine 0 = .ok (.aload_n 0, 1) := by decide +kernel
theorem dX12_aLine_1 : decode cX12_aLine 1 = .ok (.getfield 139, 3) := by decide +kernel
theorem dX12_aLine_4 : decode cX12_aLine 4 = .ok (.bipush 20, 2) := by decide +kernel
theorem dX12_aLine_6 : decode cX12_aLine 6 = .ok (.bipush 21, 2) := by decide +kernel
theorem dX12_aLine_8 : decode cX12_aLine 8 = .ok (.invokestatic 50, 3) := by decide +kernel
theorem dX12_aLine_11 : decode cX12_aLine 11 = .ok (.ifCond .ne 9, 3) := by decide +kernel
theorem dX12_aLine_14 : decode cX12_aLine 14 = .ok (.aload_n 0, 1) := by decide +kernel
theorem dX12_aLine_15 : decode cX12_aLine 15 = .ok (.iconst 1, 1) := by decide +kernel
theorem dX12_aLine_16 : decode cX12_aLine 16 = .ok (.invokevirtual 160, 3) := by decide +kernel
theorem dX12_aLine_19 : decode cX12_aLine 19 = .ok (.ireturn, 1) := by decide +kernel
theorem dX12_aLine_20 : decode cX12_aLine 20 = .ok (.aload_n 0, 1) := by decide +kernel
theorem dX12_aLine_21 : decode cX12_aLine 21 = .ok (.getfield 201, 3) := by decide +kernel
theorem dX12_aLine_24 : decode cX12_aLine 24 = .ok (.bipush 16, 2) := by decide +kernel
theorem dX12_aLine_26 : decode cX12_aLine 26 = .ok (.if_icmp .ne 9, 3) := by decide +kernel
theorem dX12_aLine_29 : decode cX12_aLine 29 = .ok (.aload_n 0, 1) := by decide +kernel
theorem dX12_aLine_30 : decode cX12_aLine 30 = .ok (.iconst 3, 1) := by decide +kernel
theorem dX12_aLine_31 : decode cX12_aLine 31 = .ok (.invokevirtual 160, 3) := by decide +kernel
theorem dX12_aLine_34 : decode cX12_aLine 34 = .ok (.ireturn, 1) := by decide +kernel
theorem dX12_aLine_35 : decode cX12_aLine 35 = .ok (.aload_n 0, 1) := by decide +kernel
theorem dX12_aLine_36 : decode cX12_aLine 36 = .ok (.getfield 19, 3) := by decide +kernel
theorem dX12_aLine_39 : decode cX12_aLine 39 = .ok (.iconst 3, 1) := by decide +kernel
theorem dX12_aLine_40 : decode cX12_aLine 40 = .ok (.aload_n 0, 1) := by decide +kernel
theorem dX12_aLine_41 : decode cX12_aLine 41 = .ok (.getfield 201, 3) := by decide +kernel
theorem dX12_aLine_44 : decode cX12_aLine 44 = .ok (.imul, 1) := by decide +kernel
theorem dX12_aLine_45 : decode cX12_aLine 45 = .ok (.aload_n 0, 1) := by decide +kernel
theorem dX12_aLine_46 : decode cX12_aLine 46 = .ok (.getfield 139, 3) := by decide +kernel
theorem dX12_aLine_49 : decode cX12_aLine 49 = .ok (.bipush 20, 2) := by decide +kernel
theorem dX12_aLine_51 : decode cX12_aLine 51 = .ok (.isub, 1) := by decide +kernel
theorem dX12_aLine_52 : decode cX12_aLine 52 = .ok (.iastore, 1) := by decide +kernel
theorem dX12_aLine_53 : decode cX12_aLine 53 = .ok (.aload_n 0, 1) := by decide +kernel
theorem dX12_aLine_54 : decode cX12_aLine 54 = .ok (.iconst 0, 1) := by decide +kernel
theorem dX12_aLine_55 : decode cX12_aLine 55 = .ok (.putfield 169, 3) := by decide +kernel
theorem dX12_aLine_58 : decode cX12_aLine 58 = .ok (.aload_n 0, 1) := by decide +kernel
theorem dX12_aLine_59 : decode cX12_aLine 59 = .ok (.invokevirtual 163, 3) := by decide +kernel
theorem dX12_aLine_62 : decode cX12_aLine 62 = .ok (.aload_n 0, 1) := by decide +kernel
theorem dX12_aLine_63 : decode cX12_aLine 63 = .ok (.getfield 19, 3) := by decide +kernel
theorem dX12_aLine_66 : decode cX12_aLine 66 = .ok (.iconst 3, 1) := by decide +kernel
theorem dX12_aLine_67 : decode cX12_aLine 67 = .ok (.aload_n 0, 1) := by decide +kernel
theorem dX12_aLine_68 : decode cX12_aLine 68 = .ok (.getfield 201, 3) := by decide +kernel
theorem dX12_aLine_71 : decode cX12_aLine 71 = .ok (.imul, 1) := by decide +kernel
theorem dX12_aLine_72 : decode cX12_aLine 72 = .ok (.iconst 1, 1) := by decide +kernel
theorem dX12_aLine_73 : decode cX12_aLine 73 = .ok (.iadd, 1) := by decide +kernel
theorem dX12_aLine_74 : decode cX12_aLine 74 = .ok (.aload_n 0, 1) := by decide +kernel
theorem dX12_aLine_75 : decode cX12_aLine 75 = .ok (.getfield 166, 3) := by decide +kernel
theorem dX12_aLine_78 : decode cX12_aLine 78 = .ok (.iastore, 1) := by decide +kernel
theorem dX12_aLine_79 : decode cX12_aLine 79 = .ok (.aload_n 0, 1) := by decide +kernel
theorem dX12_aLine_80 : decode cX12_aLine 80 = .ok (.getfield 139, 3) := by decide +kernel
theorem dX12_aLine_83 : decode cX12_aLine 83 = .ok (.iconst 3, 1) := by decide +kernel
theorem dX12_aLine_84 : decode cX12_aLine 84 = .ok (.if_icmp .ne 16, 3) := by decide +kernel
theorem dX12_aLine_87 : decode cX12_aLine 87 = .ok (.aload_n 0, 1) := by decide +kernel
theorem dX12_aLine_88 : decode cX12_aLine 88 = .ok (.invokevirtual 163, 3) := by decide +kernel
theorem dX12_aLine_91 : decode cX12_aLine 91 = .ok (.aload_n 0, 1) := by decide +kernel
theorem dX12_aLine_92 : decode cX12_aLine 92 = .ok (.invokevirtual 192, 3) := by decide +kernel
theorem dX12_aLine_95 : decode cX12_aLine 95 = .ok (.ifCond .ne 5, 3) := by decide +kernel
theorem dX12_aLine_98 : decode cX12_aLine 98 = .ok (.iconst 0, 1) := by decide +kernel
theorem dX12_aLine_99 : decode cX12_aLine 99 = .ok (.ireturn, 1) := by decide +kernel
theorem dX12_aLine_100 : decode cX12_aLine 100 = .ok (.aload_n 0, 1) := by decide +kernel
theorem dX12_aLine_101 : decode cX12_aLine 101 = .ok (.getfield 19, 3) := by decide +kernel
theorem dX12_aLine_104 : decode cX12_aLine 104 = .ok (.iconst 3, 1) := by decide +kernel
theorem dX12_aLine_105 : decode cX12_aLine 105 = .ok (.aload_n 0, 1) := by decide +kernel
theorem dX12_aLine_106 : decode cX12_aLine 106 = .ok (.getfield 201, 3) := by decide +kernel
theorem dX12_aLine_109 : decode cX12_aLine 109 = .ok (.imul, 1) := by decide +kernel
theorem dX12_aLine_110 : decode cX12_aLine 110 = .ok (.iconst 2, 1) := by decide +kernel
theorem dX12_aLine_111 : decode cX12_aLine 111 = .ok (.iadd, 1) := by decide +kernel
theorem dX12_aLine_112 : decode cX12_aLine 112 = .ok (.aload_n 0, 1) := by decide +kernel
theorem dX12_aLine_113 : decode cX12_aLine 113 = .ok (.getfield 166, 3) := by decide +kernel
theorem dX12_aLine_116 : decode cX12_aLine 116 = .ok (.iastore, 1) := by decide +kernel
theorem dX12_aLine_117 : decode cX12_aLine 117 = .ok (.aload_n 0, 1) := by decide +kernel
theorem dX12_aLine_118 : decode cX12_aLine 118 = .ok (.sipush 159, 3) := by decide +kernel
theorem dX12_aLine_121 : decode cX12_aLine 121 = .ok (.invokevirtual 195, 3) := by decide +kernel
theorem dX12_aLine_124 : decode cX12_aLine 124 = .ok (.ireturn, 1) := by decide +kernel
theorem dX12_text_0 : decode cX12_text 0 = .ok (.aload_n 0, 1) := by decide +kernel
theorem dX12_text_1 : decode cX12_text 1 = .ok (.iconst 0, 1) := by decide +kernel
theorem dX12_text_2 : decode cX12_text 2 = .ok (.putfield 154, 3) := by decide +kernel
theorem dX12_text_5 : decode cX12_text 5 = .ok (.aload_n 0, 1) := by decide +kernel
theorem dX12_text_6 : decode cX12_text 6 = .ok (.iconst 0, 1) := by decide +kernel
theorem dX12_text_7 : decode cX12_text 7 = .ok (.putfield 87, 3) := by decide +kernel
theorem dX12_text_10 : decode cX12_text 10 = .ok (.aload_n 0, 1) := by decide +kernel
theorem dX12_text_11 : decode cX12_text 11 = .ok (.iconst 0, 1) := by decide +kernel
theorem dX12_text_12 : decode cX12_text 12 = .ok (.putfield 201, 3) := by decide +kernel
theorem dX12_text_15 : decode cX12_text 15 = .ok (.aload_n 0, 1) := by decide +kernel
theorem dX12_text_16 : decode cX12_text 16 = .ok (.iconst 0, 1) := by decide +kernel
theorem dX12_text_17 : decode cX12_text 17 = .ok (.putfield 166, 3) := by decide +kernel
theorem dX12_text_20 : decode cX12_text 20 = .ok (.aload_n 0, 1) := by decide +kernel
theorem dX12_text_21 : decode cX12_text 21 = .ok (.invokevirtual 163, 3) := by decide +kernel
theorem dX12_text_24 : decode cX12_text 24 = .ok (.iconst 1, 1) := by decide +kernel
theorem dX12_text_25 : decode cX12_text 25 = .ok (.istore_n 1, 1) := by decide +kernel
theorem dX12_text_26 : decode cX12_text 26 = .ok (.iload_n 1, 1) := by decide +kernel
theorem dX12_text_27 : decode cX12_text 27 = .ok (.ifCond .eq 36, 3) := by decide +kernel
theorem dX12_text_30 : decode cX12_text 30 = .ok (.aload_n 0, 1) := by decide +kernel
theorem dX12_text_31 : decode cX12_text 31 = .ok (.getfield 139, 3) := by decide +kernel
theorem dX12_text_34 : decode cX12_text 34 = .ok (.ifCond .eq 29, 3) := by decide +kernel
theorem dX12_text_37 : decode cX12_text 37 = .ok (.aload_n 0, 1) := by decide +kernel
theorem dX12_text_38 : decode cX12_text 38 = .ok (.invokevirtual 204, 3) := by decide +kernel
theorem dX12_text_41 : decode cX12_text 41 = .ok (.istore_n 1, 1) := by decide +kernel
theorem dX12_text_42 : decode cX12_text 42 = .ok (.aload_n 0, 1) := by decide +kernel
theorem dX12_text_43 : decode cX12_text 43 = .ok (.dup, 1) := by decide +kernel
theorem dX12_text_44 : decode cX12_text 44 = .ok (.getfield 201, 3) := by decide +kernel
theorem dX12_text_47 : decode cX12_text 47 = .ok (.iload_n 1, 1) := by decide +kernel
theorem dX12_text_48 : decode cX12_text 48 = .ok (.ifCond .eq 7, 3) := by decide +kernel
theorem dX12_text_51 : decode cX12_text 51 = .ok (.iconst 1, 1) := by decide +kernel
theorem dX12_text_52 : decode cX12_text 52 = .ok (.goto 4, 3) := by decide +kernel
theorem dX12_text_55 : decode cX12_text 55 = .ok (.iconst 0, 1) := by decide +kernel
theorem dX12_text_56 : decode cX12_text 56 = .ok (.iadd, 1) := by decide +kernel
theorem dX12_text_57 : decode cX12_text 57 = .ok (.putfield 201, 3) := by decide +kernel
theorem dX12_text_60 : decode cX12_text 60 = .ok (.goto (-34), 3) := by decide +kernel
theorem dX12_text_63 : decode cX12_text 63 = .ok (.aload_n 0, 1) := by decide +kernel
theorem dX12_text_64 : decode cX12_text 64 = .ok (.iconst 0, 1) := by decide +kernel
theorem dX12_text_65 : decode cX12_text 65 = .ok (.putfield 84, 3) := by decide +kernel
theorem dX12_text_68 : decode cX12_text 68 = .ok (.aload_n 0, 1) := by decide +kernel
theorem dX12_text_69 : decode cX12_text 69 = .ok (.aload_n 0, 1) := by decide +kernel
theorem dX12_text_70 : decode cX12_text 70 = .ok (.getfield 154, 3) := by decide +kernel
theorem dX12_text_73 : decode cX12_text 73 = .ok (.putfield 207, 3) := by decide +kernel
theorem dX12_text_76 : decode cX12_text 76 = .ok (.aload_n 0, 1) := by decide +kernel
theorem dX12_text_77 : decode cX12_text 77 = .ok (.iload_n 1, 1) := by decide +kernel
theorem dX12_text_78 : decode cX12_text 78 = .ok (.ifCond .eq 7, 3) := by decide +kernel
theorem dX12_text_81 : decode cX12_text 81 = .ok (.iconst (-1), 1) := by decide +kernel
theorem dX12_text_82 : decode cX12_text 82 = .ok (.goto 7, 3) := by decide +kernel
theorem dX12_text_85 : decode cX12_text 85 = .ok (.aload_n 0, 1) := by decide +kernel
theorem dX12_text_86 : decode cX12_text 86 = .ok (.getfield 157, 3) := by decide +kernel
theorem dX12_text_89 : decode cX12_text 89 = .ok (.putfield 34, 3) := by decide +kernel
theorem dX12_text_92 : decode cX12_text 92 = .ok (.iload_n 1, 1) := by decide +kernel
theorem dX12_text_93 : decode cX12_text 93 = .ok (.ifCond .ne 5, 3) := by decide +kernel
theorem dX12_text_96 : decode cX12_text 96 = .ok (.iconst (-1), 1) := by decide +kernel
theorem dX12_text_97 : decode cX12_text 97 = .ok (.ireturn, 1) := by decide +kernel
theorem dX12_text_98 : decode cX12_text 98 = .ok (.aload_n 0, 1) := by decide +kernel
theorem dX12_text_99 : decode cX12_text 99 = .ok (.getfield 7, 3) := by decide +kernel
theorem dX12_text_102 : decode cX12_text 102 = .ok (.sipush 1600, 3) := by decide +kernel
theorem dX12_text_105 : decode cX12_text 105 = .ok (.aload_n 0, 1) := by decide +kernel
theorem dX12_text_106 : decode cX12_text 106 = .ok (.getfield 201, 3) := by decide +kernel
theorem dX12_text_109 : decode cX12_text 109 = .ok (.iastore, 1) := by decide +kernel
theorem dX12_text_110 : decode cX12_text 110 = .ok (.iconst 0, 1) := by decide +kernel
theorem dX12_text_111 : decode cX12_text 111 = .ok (.istore_n 2, 1) := by decide +kernel
theorem dX12_text_112 : decode cX12_text 112 = .ok (.iload_n 2, 1) := by decide +kernel
theorem dX12_text_113 : decode cX12_text 113 = .ok (.aload_n 0, 1) := by decide +kernel
theorem dX12_text_114 : decode cX12_text 114 = .ok (.getfield 201, 3) := by decide +kernel
theorem dX12_text_117 : decode cX12_text 117 = .ok (.if_icmp .ge 67, 3) := by decide +kernel
theorem dX12_text_120 : decode cX12_text 120 = .ok (.aload_n 0, 1) := by decide +kernel
theorem dX12_text_121 : decode cX12_text 121 = .ok (.getfield 7, 3) := by decide +kernel
theorem dX12_text_124 : decode cX12_text 124 = .ok (.sipush 1605, 3) := by decide +kernel
theorem dX12_text_127 : decode cX12_text 127 = .ok (.iload_n 2, 1) := by decide +kernel
theorem dX12_text_128 : decode cX12_text 128 = .ok (.iadd, 1) := by decide +kernel
theorem dX12_text_129 : decode cX12_text 129 = .ok (.aload_n 0, 1) := by decide +kernel
theorem dX12_text_130 : decode cX12_text 130 = .ok (.getfield 19, 3) := by decide +kernel
theorem dX12_text_133 : decode cX12_text 133 = .ok (.iconst 3, 1) := by decide +kernel
theorem dX12_text_134 : decode cX12_text 134 = .ok (.iload_n 2, 1) := by decide +kernel
theorem dX12_text_135 : decode cX12_text 135 = .ok (.imul, 1) := by decide +kernel
theorem dX12_text_136 : decode cX12_text 136 = .ok (.iaload, 1) := by decide +kernel
theorem dX12_text_137 : decode cX12_text 137 = .ok (.iastore, 1) := by decide +kernel
theorem dX12_text_138 : decode cX12_text 138 = .ok (.aload_n 0, 1) := by decide +kernel
theorem dX12_text_139 : decode cX12_text 139 = .ok (.getfield 7, 3) := by decide +kernel
theorem dX12_text_142 : decode cX12_text 142 = .ok (.sipush 1625, 3) := by decide +kernel
theorem dX12_text_145 : decode cX12_text 145 = .ok (.iload_n 2, 1) := by decide +kernel
theorem dX12_text_146 : decode cX12_text 146 = .ok (.iadd, 1) := by decide +kernel
theorem dX12_text_147 : decode cX12_text 147 = .ok (.aload_n 0, 1) := by decide +kernel
theorem dX12_text_148 : decode cX12_text 148 = .ok (.getfield 19, 3) := by decide +kernel
theorem dX12_text_151 : decode cX12_text 151 = .ok (.iconst 3, 1) := by decide +kernel
theorem dX12_text_152 : decode cX12_text 152 = .ok (.iload_n 2, 1) := by decide +kernel
theorem dX12_text_153 : decode cX12_text 153 = .ok (.imul, 1) := by decide +kernel
theorem dX12_text_154 : decode cX12_text 154 = .ok (.iconst 1, 1) := by decide +kernel
theorem dX12_text_155 : decode cX12_text 155 = .ok (.iadd, 1) := by decide +kernel
theorem dX12_text_156 : decode cX12_text 156 = .ok (.iaload, 1) := by decide +kernel
theorem dX12_text_157 : decode cX12_text 157 = .ok (.iastore, 1) := by decide +kernel
theorem dX12_text_158 : decode cX12_text 158 = .ok (.aload_n 0, 1) := by decide +kernel
theorem dX12_text_159 : decode cX12_text 159 = .ok (.getfield 7, 3) := by decide +kernel
theorem dX12_text_162 : decode cX12_text 162 = .ok (.sipush 1645, 3) := by decide +kernel
theorem dX12_text_165 : decode cX12_text 165 = .ok (.iload_n 2, 1) := by decide +kernel
theorem dX12_text_166 : decode cX12_text 166 = .ok (.iadd, 1) := by decide +kernel
theorem dX12_text_167 : decode cX12_text 167 = .ok (.aload_n 0, 1) := by decide +kernel
theorem dX12_text_168 : decode cX12_text 168 = .ok (.getfield 19, 3) := by decide +kernel
theorem dX12_text_171 : decode cX12_text 171 = .ok (.iconst 3, 1) := by decide +kernel
theorem dX12_text_172 : decode cX12_text 172 = .ok (.iload_n 2, 1) := by decide +kernel
theorem dX12_text_173 : decode cX12_text 173 = .ok (.imul, 1) := by decide +kernel
theorem dX12_text_174 : decode cX12_text 174 = .ok (.iconst 2, 1) := by decide +kernel
theorem dX12_text_175 : decode cX12_text 175 = .ok (.iadd, 1) := by decide +kernel
theorem dX12_text_176 : decode cX12_text 176 = .ok (.iaload, 1) := by decide +kernel
theorem dX12_text_177 : decode cX12_text 177 = .ok (.iastore, 1) := by decide +kernel
theorem dX12_text_178 : decode cX12_text 178 = .ok (.iinc 2 1, 3) := by decide +kernel
theorem dX12_text_181 : decode cX12_text 181 = .ok (.goto (-69), 3) := by decide +kernel
theorem dX12_text_184 : decode cX12_text 184 = .ok (.iconst 0, 1) := by decide +kernel
theorem dX12_text_185 : decode cX12_text 185 = .ok (.istore_n 2, 1) := by decide +kernel
theorem dX12_text_186 : decode cX12_text 186 = .ok (.iload_n 2, 1) := by decide +kernel
theorem dX12_text_187 : decode cX12_text 187 = .ok (.iconst 2, 1) := by decide +kernel
theorem dX12_text_188 : decode cX12_text 188 = .ok (.aload_n 0, 1) := by decide +kernel
theorem dX12_text_189 : decode cX12_text 189 = .ok (.getfield 166, 3) := by decide +kernel
theorem dX12_text_192 : decode cX12_text 192 = .ok (.imul, 1) := by decide +kernel
theorem dX12_text_193 : decode cX12_text 193 = .ok (.if_icmp .ge 25, 3) := by decide +kernel
theorem dX12_text_196 : decode cX12_text 196 = .ok (.aload_n 0, 1) := by decide +kernel
theorem dX12_text_197 : decode cX12_text 197 = .ok (.getfield 7, 3) := by decide +kernel
theorem dX12_text_200 : decode cX12_text 200 = .ok (.sipush 1665, 3) := by decide +kernel
theorem dX12_text_203 : decode cX12_text 203 = .ok (.iload_n 2, 1) := by decide +kernel
theorem dX12_text_204 : decode cX12_text 204 = .ok (.iadd, 1) := by decide +kernel
theorem dX12_text_205 : decode cX12_text 205 = .ok (.aload_n 0, 1) := by decide +kernel
theorem dX12_text_206 : decode cX12_text 206 = .ok (.getfield 22, 3) := by decide +kernel
theorem dX12_text_209 : decode cX12_text 209 = .ok (.iload_n 2, 1) := by decide +kernel
theorem dX12_text_210 : decode cX12_text 210 = .ok (.iaload, 1) := by decide +kernel
theorem dX12_text_211 : decode cX12_text 211 = .ok (.iastore, 1) := by decide +kernel
theorem dX12_text_212 : decode cX12_text 212 = .ok (.iinc 2 1, 3) := by decide +kernel
theorem dX12_text_215 : decode cX12_text 215 = .ok (.goto (-29), 3) := by decide +kernel
theorem dX12_text_218 : decode cX12_text 218 = .ok (.aload_n 0, 1) := by decide +kernel
theorem dX12_text_219 : decode cX12_text 219 = .ok (.getfield 201, 3) := by decide +kernel
theorem dX12_text_222 : decode cX12_text 222 = .ok (.ireturn, 1) := by decide +kernel
theorem dX12_fault_0 : decode cX12_fault 0 = .ok (.iload_n 1, 1) := by decide +kernel
theorem dX12_fault_1 : decode cX12_fault 1 = .ok (.ifCond .ne 10, 3) := by decide +kernel
theorem dX12_fault_4 : decode cX12_fault 4 = .ok (.aload_n 0, 1) := by decide +kernel
theorem dX12_fault_5 : decode cX12_fault 5 = .ok (.getfield 207, 3) := by decide +kernel
theorem dX12_fault_8 : decode cX12_fault 8 = .ok (.goto 16, 3) := by decide +kernel
theorem dX12_fault_11 : decode cX12_fault 11 = .ok (.iload_n 1, 1) := by decide +kernel
theorem dX12_fault_12 : decode cX12_fault 12 = .ok (.iconst 1, 1) := by decide +kernel
theorem dX12_fault_13 : decode cX12_fault 13 = .ok (.if_icmp .ne 10, 3) := by decide +kernel
theorem dX12_fault_16 : decode cX12_fault 16 = .ok (.aload_n 0, 1) := by decide +kernel
theorem dX12_fault_17 : decode cX12_fault 17 = .ok (.getfield 34, 3) := by decide +kernel
theorem dX12_fault_20 : decode cX12_fault 20 = .ok (.goto 4, 3) := by decide +kernel
theorem dX12_fault_23 : decode cX12_fault 23 = .ok (.iconst (-1), 1) := by decide +kernel
theorem dX12_fault_24 : decode cX12_fault 24 = .ok (.ireturn, 1) := by decide +kernel
theorem dX12_both_0 : decode cX12_both 0 = .ok (.iload_n 0, 1) := by decide +kernel
theorem dX12_both_1 : decode cX12_both 1 = .ok (.tableswitch 100 13 21 #[51, 55, 59, 100, 63, 74, 85, 100, 96], 51) := by decide +kernel
theorem dX12_both_52 : decode cX12_both 52 = .ok (.iload_n 1, 1) := by decide +kernel
theorem dX12_both_53 : decode cX12_both 53 = .ok (.iload_n 2, 1) := by decide +kernel
theorem dX12_both_54 : decode cX12_both 54 = .ok (.iadd, 1) := by decide +kernel
theorem dX12_both_55 : decode cX12_both 55 = .ok (.ireturn, 1) := by decide +kernel
theorem dX12_both_56 : decode cX12_both 56 = .ok (.iload_n 1, 1) := by decide +kernel
theorem dX12_both_57 : decode cX12_both 57 = .ok (.iload_n 2, 1) := by decide +kernel
theorem dX12_both_58 : decode cX12_both 58 = .ok (.isub, 1) := by decide +kernel
theorem dX12_both_59 : decode cX12_both 59 = .ok (.ireturn, 1) := by decide +kernel
theorem dX12_both_60 : decode cX12_both 60 = .ok (.iload_n 1, 1) := by decide +kernel
theorem dX12_both_61 : decode cX12_both 61 = .ok (.iload_n 2, 1) := by decide +kernel
theorem dX12_both_62 : decode cX12_both 62 = .ok (.imul, 1) := by decide +kernel
theorem dX12_both_63 : decode cX12_both 63 = .ok (.ireturn, 1) := by decide +kernel
theorem dX12_both_64 : decode cX12_both 64 = .ok (.iload_n 1, 1) := by decide +kernel
theorem dX12_both_65 : decode cX12_both 65 = .ok (.iload_n 2, 1) := by decide +kernel
theorem dX12_both_66 : decode cX12_both 66 = .ok (.if_icmp .ge 7, 3) := by decide +kernel
theorem dX12_both_69 : decode cX12_both 69 = .ok (.iconst 1, 1) := by decide +kernel
theorem dX12_both_70 : decode cX12_both 70 = .ok (.goto 4, 3) := by decide +kernel
theorem dX12_both_73 : decode cX12_both 73 = .ok (.iconst 0, 1) := by decide +kernel
theorem dX12_both_74 : decode cX12_both 74 = .ok (.ireturn, 1) := by decide +kernel
theorem dX12_both_75 : decode cX12_both 75 = .ok (.iload_n 1, 1) := by decide +kernel
theorem dX12_both_76 : decode cX12_both 76 = .ok (.iload_n 2, 1) := by decide +kernel
theorem dX12_both_77 : decode cX12_both 77 = .ok (.if_icmp .ne 7, 3) := by decide +kernel
theorem dX12_both_80 : decode cX12_both 80 = .ok (.iconst 1, 1) := by decide +kernel
theorem dX12_both_81 : decode cX12_both 81 = .ok (.goto 4, 3) := by decide +kernel
theorem dX12_both_84 : decode cX12_both 84 = .ok (.iconst 0, 1) := by decide +kernel
theorem dX12_both_85 : decode cX12_both 85 = .ok (.ireturn, 1) := by decide +kernel
theorem dX12_both_86 : decode cX12_both 86 = .ok (.iload_n 1, 1) := by decide +kernel
theorem dX12_both_87 : decode cX12_both 87 = .ok (.iload_n 2, 1) := by decide +kernel
theorem dX12_both_88 : decode cX12_both 88 = .ok (.if_icmp .le 7, 3) := by decide +kernel
theorem dX12_both_91 : decode cX12_both 91 = .ok (.iconst 1, 1) := by decide +kernel
theorem dX12_both_92 : decode cX12_both 92 = .ok (.goto 4, 3) := by decide +kernel
theorem dX12_both_95 : decode cX12_both 95 = .ok (.iconst 0, 1) := by decide +kernel
theorem dX12_both_96 : decode cX12_both 96 = .ok (.ireturn, 1) := by decide +kernel
theorem dX12_both_97 : decode cX12_both 97 = .ok (.iload_n 1, 1) := by decide +kernel
theorem dX12_both_98 : decode cX12_both 98 = .ok (.iload_n 2, 1) := by decide +kernel
theorem dX12_both_99 : decode cX12_both 99 = .ok (.iand, 1) := by decide +kernel
theorem dX12_both_100 : decode cX12_both 100 = .ok (.ireturn, 1) := by decide +kernel
theorem dX12_both_101 : decode cX12_both 101 = .ok (.iload_n 1, 1) := by decide +kernel
theorem dX12_both_102 : decode cX12_both 102 = .ok (.iload_n 2, 1) := by decide +kernel
theorem dX12_both_103 : decode cX12_both 103 = .ok (.ior, 1) := by decide +kernel
theorem dX12_both_104 : decode cX12_both 104 = .ok (.ireturn, 1) := by decide +kernel
theorem dX12_comesTo_0 : decode cX12_comesTo 0 = .ok (.iconst 0, 1) := by decide +kernel
theorem dX12_comesTo_1 : decode cX12_comesTo 1 = .ok (.istore_n 3, 1) := by decide +kernel
theorem dX12_comesTo_2 : decode cX12_comesTo 2 = .ok (.iload_n 1, 1) := by decide +kernel
theorem dX12_comesTo_3 : decode cX12_comesTo 3 = .ok (.istore 4, 2) := by decide +kernel
theorem dX12_comesTo_5 : decode cX12_comesTo 5 = .ok (.iload 4, 2) := by decide +kernel
theorem dX12_comesTo_7 : decode cX12_comesTo 7 = .ok (.iload_n 2, 1) := by decide +kernel
theorem dX12_comesTo_8 : decode cX12_comesTo 8 = .ok (.if_icmp .ge 158, 3) := by decide +kernel
theorem dX12_comesTo_11 : decode cX12_comesTo 11 = .ok (.aload_n 0, 1) := by decide +kernel
theorem dX12_comesTo_12 : decode cX12_comesTo 12 = .ok (.getfield 7, 3) := by decide +kernel
theorem dX12_comesTo_15 : decode cX12_comesTo 15 = .ok (.sipush 1665, 3) := by decide +kernel
theorem dX12_comesTo_18 : decode cX12_comesTo 18 = .ok (.iconst 2, 1) := by decide +kernel
theorem dX12_comesTo_19 : decode cX12_comesTo 19 = .ok (.iload 4, 2) := by decide +kernel
theorem dX12_comesTo_21 : decode cX12_comesTo 21 = .ok (.imul, 1) := by decide +kernel
theorem dX12_comesTo_22 : decode cX12_comesTo 22 = .ok (.iadd, 1) := by decide +kernel
theorem dX12_comesTo_23 : decode cX12_comesTo 23 = .ok (.iaload, 1) := by decide +kernel
theorem dX12_comesTo_24 : decode cX12_comesTo 24 = .ok (.istore 5, 2) := by decide +kernel
theorem dX12_comesTo_26 : decode cX12_comesTo 26 = .ok (.aload_n 0, 1) := by decide +kernel
theorem dX12_comesTo_27 : decode cX12_comesTo 27 = .ok (.getfield 7, 3) := by decide +kernel
theorem dX12_comesTo_30 : decode cX12_comesTo 30 = .ok (.sipush 1665, 3) := by decide +kernel
theorem dX12_comesTo_33 : decode cX12_comesTo 33 = .ok (.iconst 2, 1) := by decide +kernel
theorem dX12_comesTo_34 : decode cX12_comesTo 34 = .ok (.iload 4, 2) := by decide +kernel
theorem dX12_comesTo_36 : decode cX12_comesTo 36 = .ok (.imul, 1) := by decide +kernel
theorem dX12_comesTo_37 : decode cX12_comesTo 37 = .ok (.iadd, 1) := by decide +kernel
theorem dX12_comesTo_38 : decode cX12_comesTo 38 = .ok (.iconst 1, 1) := by decide +kernel
theorem dX12_comesTo_39 : decode cX12_comesTo 39 = .ok (.iadd, 1) := by decide +kernel
theorem dX12_comesTo_40 : decode cX12_comesTo 40 = .ok (.iaload, 1) := by decide +kernel
theorem dX12_comesTo_41 : decode cX12_comesTo 41 = .ok (.istore 6, 2) := by decide +kernel
theorem dX12_comesTo_43 : decode cX12_comesTo 43 = .ok (.iload 5, 2) := by decide +kernel
theorem dX12_comesTo_45 : decode cX12_comesTo 45 = .ok (.bipush 13, 2) := by decide +kernel
theorem dX12_comesTo_47 : decode cX12_comesTo 47 = .ok (.if_icmp .ge 32, 3) := by decide +kernel
theorem dX12_comesTo_50 : decode cX12_comesTo 50 = .ok (.aload_n 0, 1) := by decide +kernel
theorem dX12_comesTo_51 : decode cX12_comesTo 51 = .ok (.getfield 28, 3) := by decide +kernel
theorem dX12_comesTo_54 : decode cX12_comesTo 54 = .ok (.iload_n 3, 1) := by decide +kernel
theorem dX12_comesTo_55 : decode cX12_comesTo 55 = .ok (.iload 5, 2) := by decide +kernel
theorem dX12_comesTo_57 : decode cX12_comesTo 57 = .ok (.ifCond .ne 8, 3) := by decide +kernel
theorem dX12_comesTo_60 : decode cX12_comesTo 60 = .ok (.iload 6, 2) := by decide +kernel
theorem dX12_comesTo_62 : decode cX12_comesTo 62 = .ok (.goto 10, 3) := by decide +kernel
theorem dX12_comesTo_65 : decode cX12_comesTo 65 = .ok (.aload_n 0, 1) := by decide +kernel
theorem dX12_comesTo_66 : decode cX12_comesTo 66 = .ok (.getfield 31, 3) := by decide +kernel
theorem dX12_comesTo_69 : decode cX12_comesTo 69 = .ok (.iload 5, 2) := by decide +kernel
theorem dX12_comesTo_71 : decode cX12_comesTo 71 = .ok (.iaload, 1) := by decide +kernel
theorem dX12_comesTo_72 : decode cX12_comesTo 72 = .ok (.iastore, 1) := by decide +kernel
theorem dX12_comesTo_73 : decode cX12_comesTo 73 = .ok (.iinc 3 1, 3) := by decide +kernel
theorem dX12_comesTo_76 : decode cX12_comesTo 76 = .ok (.goto 84, 3) := by decide +kernel
theorem dX12_comesTo_79 : decode cX12_comesTo 79 = .ok (.iload 5, 2) := by decide +kernel
theorem dX12_comesTo_81 : decode cX12_comesTo 81 = .ok (.bipush 16, 2) := by decide +kernel
theorem dX12_comesTo_83 : decode cX12_comesTo 83 = .ok (.if_icmp .ne 19, 3) := by decide +kernel
theorem dX12_comesTo_86 : decode cX12_comesTo 86 = .ok (.aload_n 0, 1) := by decide +kernel
theorem dX12_comesTo_87 : decode cX12_comesTo 87 = .ok (.getfield 28, 3) := by decide +kernel
theorem dX12_comesTo_90 : decode cX12_comesTo 90 = .ok (.iload_n 3, 1) := by decide +kernel
theorem dX12_comesTo_91 : decode cX12_comesTo 91 = .ok (.iconst 1, 1) := by decide +kernel
theorem dX12_comesTo_92 : decode cX12_comesTo 92 = .ok (.isub, 1) := by decide +kernel
theorem dX12_comesTo_93 : decode cX12_comesTo 93 = .ok (.dup2, 1) := by decide +kernel
theorem dX12_comesTo_94 : decode cX12_comesTo 94 = .ok (.iaload, 1) := by decide +kernel
theorem dX12_comesTo_95 : decode cX12_comesTo 95 = .ok (.iload 6, 2) := by decide +kernel
theorem dX12_comesTo_97 : decode cX12_comesTo 97 = .ok (.idiv, 1) := by decide +kernel
theorem dX12_comesTo_98 : decode cX12_comesTo 98 = .ok (.iastore, 1) := by decide +kernel
theorem dX12_comesTo_99 : decode cX12_comesTo 99 = .ok (.goto 61, 3) := by decide +kernel
theorem dX12_comesTo_102 : decode cX12_comesTo 102 = .ok (.iload 5, 2) := by decide +kernel
theorem dX12_comesTo_104 : decode cX12_comesTo 104 = .ok (.bipush 20, 2) := by decide +kernel
theorem dX12_comesTo_106 : decode cX12_comesTo 106 = .ok (.if_icmp .ne 24, 3) := by decide +kernel
theorem dX12_comesTo_109 : decode cX12_comesTo 109 = .ok (.aload_n 0, 1) := by decide +kernel
theorem dX12_comesTo_110 : decode cX12_comesTo 110 = .ok (.getfield 28, 3) := by decide +kernel
theorem dX12_comesTo_113 : decode cX12_comesTo 113 = .ok (.iload_n 3, 1) := by decide +kernel
theorem dX12_comesTo_114 : decode cX12_comesTo 114 = .ok (.iconst 1, 1) := by decide +kernel
theorem dX12_comesTo_115 : decode cX12_comesTo 115 = .ok (.isub, 1) := by decide +kernel
theorem dX12_comesTo_116 : decode cX12_comesTo 116 = .ok (.iconst 1, 1) := by decide +kernel
theorem dX12_comesTo_117 : decode cX12_comesTo 117 = .ok (.aload_n 0, 1) := by decide +kernel
theorem dX12_comesTo_118 : decode cX12_comesTo 118 = .ok (.getfield 28, 3) := by decide +kernel
theorem dX12_comesTo_121 : decode cX12_comesTo 121 = .ok (.iload_n 3, 1) := by decide +kernel
theorem dX12_comesTo_122 : decode cX12_comesTo 122 = .ok (.iconst 1, 1) := by decide +kernel
theorem dX12_comesTo_123 : decode cX12_comesTo 123 = .ok (.isub, 1) := by decide +kernel
theorem dX12_comesTo_124 : decode cX12_comesTo 124 = .ok (.iaload, 1) := by decide +kernel
theorem dX12_comesTo_125 : decode cX12_comesTo 125 = .ok (.isub, 1) := by decide +kernel
theorem dX12_comesTo_126 : decode cX12_comesTo 126 = .ok (.iastore, 1) := by decide +kernel
theorem dX12_comesTo_127 : decode cX12_comesTo 127 = .ok (.goto 33, 3) := by decide +kernel
theorem dX12_comesTo_130 : decode cX12_comesTo 130 = .ok (.iinc 3 (-1), 3) := by decide +kernel
theorem dX12_comesTo_133 : decode cX12_comesTo 133 = .ok (.aload_n 0, 1) := by decide +kernel
theorem dX12_comesTo_134 : decode cX12_comesTo 134 = .ok (.getfield 28, 3) := by decide +kernel
theorem dX12_comesTo_137 : decode cX12_comesTo 137 = .ok (.iload_n 3, 1) := by decide +kernel
theorem dX12_comesTo_138 : decode cX12_comesTo 138 = .ok (.iconst 1, 1) := by decide +kernel
theorem dX12_comesTo_139 : decode cX12_comesTo 139 = .ok (.isub, 1) := by decide +kernel
theorem dX12_comesTo_140 : decode cX12_comesTo 140 = .ok (.iload 5, 2) := by decide +kernel
theorem dX12_comesTo_142 : decode cX12_comesTo 142 = .ok (.aload_n 0, 1) := by decide +kernel
theorem dX12_comesTo_143 : decode cX12_comesTo 143 = .ok (.getfield 28, 3) := by decide +kernel
theorem dX12_comesTo_146 : decode cX12_comesTo 146 = .ok (.iload_n 3, 1) := by decide +kernel
theorem dX12_comesTo_147 : decode cX12_comesTo 147 = .ok (.iconst 1, 1) := by decide +kernel
theorem dX12_comesTo_148 : decode cX12_comesTo 148 = .ok (.isub, 1) := by decide +kernel
theorem dX12_comesTo_149 : decode cX12_comesTo 149 = .ok (.iaload, 1) := by decide +kernel
theorem dX12_comesTo_150 : decode cX12_comesTo 150 = .ok (.aload_n 0, 1) := by decide +kernel
theorem dX12_comesTo_151 : decode cX12_comesTo 151 = .ok (.getfield 28, 3) := by decide +kernel
theorem dX12_comesTo_154 : decode cX12_comesTo 154 = .ok (.iload_n 3, 1) := by decide +kernel
theorem dX12_comesTo_155 : decode cX12_comesTo 155 = .ok (.iaload, 1) := by decide +kernel
theorem dX12_comesTo_156 : decode cX12_comesTo 156 = .ok (.invokestatic 210, 3) := by decide +kernel
theorem dX12_comesTo_159 : decode cX12_comesTo 159 = .ok (.iastore, 1) := by decide +kernel
theorem dX12_comesTo_160 : decode cX12_comesTo 160 = .ok (.iinc 4 1, 3) := by decide +kernel
theorem dX12_comesTo_163 : decode cX12_comesTo 163 = .ok (.goto (-158), 3) := by decide +kernel
theorem dX12_comesTo_166 : decode cX12_comesTo 166 = .ok (.aload_n 0, 1) := by decide +kernel
theorem dX12_comesTo_167 : decode cX12_comesTo 167 = .ok (.getfield 28, 3) := by decide +kernel
theorem dX12_comesTo_170 : decode cX12_comesTo 170 = .ok (.iconst 0, 1) := by decide +kernel
theorem dX12_comesTo_171 : decode cX12_comesTo 171 = .ok (.iaload, 1) := by decide +kernel
theorem dX12_comesTo_172 : decode cX12_comesTo 172 = .ok (.ireturn, 1) := by decide +kernel
theorem dX12_comes_0 : decode cX12_comes 0 = .ok (.aload_n 0, 1) := by decide +kernel
theorem dX12_comes_1 : decode cX12_comes 1 = .ok (.iload_n 1, 1) := by decide +kernel
theorem dX12_comes_2 : decode cX12_comes 2 = .ok (.iconst 5, 1) := by decide +kernel
theorem dX12_comes_3 : decode cX12_comes 3 = .ok (.iload_n 2, 1) := by decide +kernel
theorem dX12_comes_4 : decode cX12_comes 4 = .ok (.invokevirtual 54, 3) := by decide +kernel
theorem dX12_comes_7 : decode cX12_comes 7 = .ok (.aload_n 0, 1) := by decide +kernel
theorem dX12_comes_8 : decode cX12_comes 8 = .ok (.iload_n 1, 1) := by decide +kernel
theorem dX12_comes_9 : decode cX12_comes 9 = .ok (.bipush 6, 2) := by decide +kernel
theorem dX12_comes_11 : decode cX12_comes 11 = .ok (.iload_n 3, 1) := by decide +kernel
theorem dX12_comes_12 : decode cX12_comes 12 = .ok (.invokevirtual 54, 3) := by decide +kernel
theorem dX12_comes_15 : decode cX12_comes 15 = .ok (.aload_n 0, 1) := by decide +kernel
theorem dX12_comes_16 : decode cX12_comes 16 = .ok (.iload_n 1, 1) := by decide +kernel
theorem dX12_comes_17 : decode cX12_comes 17 = .ok (.bipush 9, 2) := by decide +kernel
theorem dX12_comes_19 : decode cX12_comes 19 = .ok (.aload_n 0, 1) := by decide +kernel
theorem dX12_comes_20 : decode cX12_comes 20 = .ok (.getfield 7, 3) := by decide +kernel
theorem dX12_comes_23 : decode cX12_comes 23 = .ok (.bipush 10, 2) := by decide +kernel
theorem dX12_comes_25 : decode cX12_comes 25 = .ok (.iaload, 1) := by decide +kernel
theorem dX12_comes_26 : decode cX12_comes 26 = .ok (.invokevirtual 54, 3) := by decide +kernel
theorem dX12_comes_29 : decode cX12_comes 29 = .ok (.aload_n 0, 1) := by decide +kernel
theorem dX12_comes_30 : decode cX12_comes 30 = .ok (.getfield 7, 3) := by decide +kernel
theorem dX12_comes_33 : decode cX12_comes 33 = .ok (.bipush 10, 2) := by decide +kernel
theorem dX12_comes_35 : decode cX12_comes 35 = .ok (.dup2, 1) := by decide +kernel
theorem dX12_comes_36 : decode cX12_comes 36 = .ok (.iaload, 1) := by decide +kernel
theorem dX12_comes_37 : decode cX12_comes 37 = .ok (.iconst 1, 1) := by decide +kernel
theorem dX12_comes_38 : decode cX12_comes 38 = .ok (.iadd, 1) := by decide +kernel
theorem dX12_comes_39 : decode cX12_comes 39 = .ok (.iastore, 1) := by decide +kernel
theorem dX12_comes_40 : decode cX12_comes 40 = .ok (.iload_n 1, 1) := by decide +kernel
theorem dX12_comes_41 : decode cX12_comes 41 = .ok (.aload_n 0, 1) := by decide +kernel
theorem dX12_comes_42 : decode cX12_comes 42 = .ok (.getfield 38, 3) := by decide +kernel
theorem dX12_comes_45 : decode cX12_comes 45 = .ok (.if_icmp .ne 24, 3) := by decide +kernel
theorem dX12_comes_48 : decode cX12_comes 48 = .ok (.iload_n 2, 1) := by decide +kernel
theorem dX12_comes_49 : decode cX12_comes 49 = .ok (.aload_n 0, 1) := by decide +kernel
theorem dX12_comes_50 : decode cX12_comes 50 = .ok (.getfield 214, 3) := by decide +kernel
theorem dX12_comes_53 : decode cX12_comes 53 = .ok (.if_icmp .ne 16, 3) := by decide +kernel
theorem dX12_comes_56 : decode cX12_comes 56 = .ok (.aload_n 0, 1) := by decide +kernel
theorem dX12_comes_57 : decode cX12_comes 57 = .ok (.getfield 217, 3) := by decide +kernel
theorem dX12_comes_60 : decode cX12_comes 60 = .ok (.iconst (-1), 1) := by decide +kernel
theorem dX12_comes_61 : decode cX12_comes 61 = .ok (.if_icmp .ne 8, 3) := by decide +kernel
theorem dX12_comes_64 : decode cX12_comes 64 = .ok (.aload_n 0, 1) := by decide +kernel
theorem dX12_comes_65 : decode cX12_comes 65 = .ok (.iload_n 3, 1) := by decide +kernel
theorem dX12_comes_66 : decode cX12_comes 66 = .ok (.putfield 217, 3) := by decide +kernel
theorem dX12_comes_69 : decode cX12_comes 69 = .ok (.return_, 1) := by decide +kernel
theorem dX12_isThere_0 : decode cX12_isThere 0 = .ok (.aload_n 0, 1) := by decide +kernel
theorem dX12_isThere_1 : decode cX12_isThere 1 = .ok (.iload_n 1, 1) := by decide +kernel
theorem dX12_isThere_2 : decode cX12_isThere 2 = .ok (.iconst 5, 1) := by decide +kernel
theorem dX12_isThere_3 : decode cX12_isThere 3 = .ok (.invokevirtual 220, 3) := by decide +kernel
theorem dX12_isThere_6 : decode cX12_isThere 6 = .ok (.iload_n 2, 1) := by decide +kernel
theorem dX12_isThere_7 : decode cX12_isThere 7 = .ok (.if_icmp .ne 17, 3) := by decide +kernel
theorem dX12_isThere_10 : decode cX12_isThere 10 = .ok (.aload_n 0, 1) := by decide +kernel
theorem dX12_isThere_11 : decode cX12_isThere 11 = .ok (.iload_n 1, 1) := by decide +kernel
theorem dX12_isThere_12 : decode cX12_isThere 12 = .ok (.bipush 8, 2) := by decide +kernel
theorem dX12_isThere_14 : decode cX12_isThere 14 = .ok (.invokevirtual 220, 3) := by decide +kernel
theorem dX12_isThere_17 : decode cX12_isThere 17 = .ok (.ifCond .ne 7, 3) := by decide +kernel
theorem dX12_isThere_20 : decode cX12_isThere 20 = .ok (.iconst 1, 1) := by decide +kernel
theorem dX12_isThere_21 : decode cX12_isThere 21 = .ok (.goto 4, 3) := by decide +kernel
theorem dX12_isThere_24 : decode cX12_isThere 24 = .ok (.iconst 0, 1) := by decide +kernel
theorem dX12_isThere_25 : decode cX12_isThere 25 = .ok (.ireturn, 1) := by decide +kernel
theorem dX12_laysHeap_0 : decode cX12_laysHeap 0 = .ok (.aload_n 0, 1) := by decide +kernel
theorem dX12_laysHeap_1 : decode cX12_laysHeap 1 = .ok (.iconst 0, 1) := by decide +kernel
theorem dX12_laysHeap_2 : decode cX12_laysHeap 2 = .ok (.putfield 223, 3) := by decide +kernel
theorem dX12_laysHeap_5 : decode cX12_laysHeap 5 = .ok (.iconst 0, 1) := by decide +kernel
theorem dX12_laysHeap_6 : decode cX12_laysHeap 6 = .ok (.istore_n 2, 1) := by decide +kernel
theorem dX12_laysHeap_7 : decode cX12_laysHeap 7 = .ok (.iload_n 2, 1) := by decide +kernel
theorem dX12_laysHeap_8 : decode cX12_laysHeap 8 = .ok (.aload_n 0, 1) := by decide +kernel
theorem dX12_laysHeap_9 : decode cX12_laysHeap 9 = .ok (.getfield 7, 3) := by decide +kernel
theorem dX12_laysHeap_12 : decode cX12_laysHeap 12 = .ok (.iconst 2, 1) := by decide +kernel
theorem dX12_laysHeap_13 : decode cX12_laysHeap 13 = .ok (.iaload, 1) := by decide +kernel
theorem dX12_laysHeap_14 : decode cX12_laysHeap 14 = .ok (.if_icmp .ge 91, 3) := by decide +kernel
theorem dX12_laysHeap_17 : decode cX12_laysHeap 17 = .ok (.aload_n 0, 1) := by decide +kernel
theorem dX12_laysHeap_18 : decode cX12_laysHeap 18 = .ok (.iload_n 2, 1) := by decide +kernel
theorem dX12_laysHeap_19 : decode cX12_laysHeap 19 = .ok (.iload_n 1, 1) := by decide +kernel
theorem dX12_laysHeap_20 : decode cX12_laysHeap 20 = .ok (.invokevirtual 226, 3) := by decide +kernel
theorem dX12_laysHeap_23 : decode cX12_laysHeap 23 = .ok (.ifCond .ne 6, 3) := by decide +kernel
theorem dX12_laysHeap_26 : decode cX12_laysHeap 26 = .ok (.goto 73, 3) := by decide +kernel
theorem dX12_laysHeap_29 : decode cX12_laysHeap 29 = .ok (.aload_n 0, 1) := by decide +kernel
theorem dX12_laysHeap_30 : decode cX12_laysHeap 30 = .ok (.getfield 223, 3) := by decide +kernel
theorem dX12_laysHeap_33 : decode cX12_laysHeap 33 = .ok (.istore_n 3, 1) := by decide +kernel
theorem dX12_laysHeap_34 : decode cX12_laysHeap 34 = .ok (.iload_n 3, 1) := by decide +kernel
theorem dX12_laysHeap_35 : decode cX12_laysHeap 35 = .ok (.ifCond .le 47, 3) := by decide +kernel
theorem dX12_laysHeap_38 : decode cX12_laysHeap 38 = .ok (.aload_n 0, 1) := by decide +kernel
theorem dX12_laysHeap_39 : decode cX12_laysHeap 39 = .ok (.aload_n 0, 1) := by decide +kernel
theorem dX12_laysHeap_40 : decode cX12_laysHeap 40 = .ok (.getfield 41, 3) := by decide +kernel
theorem dX12_laysHeap_43 : decode cX12_laysHeap 43 = .ok (.iload_n 3, 1) := by decide +kernel
theorem dX12_laysHeap_44 : decode cX12_laysHeap 44 = .ok (.iconst 1, 1) := by decide +kernel
theorem dX12_laysHeap_45 : decode cX12_laysHeap 45 = .ok (.isub, 1) := by decide +kernel
theorem dX12_laysHeap_46 : decode cX12_laysHeap 46 = .ok (.iaload, 1) := by decide +kernel
theorem dX12_laysHeap_47 : decode cX12_laysHeap 47 = .ok (.bipush 9, 2) := by decide +kernel
theorem dX12_laysHeap_49 : decode cX12_laysHeap 49 = .ok (.invokevirtual 220, 3) := by decide +kernel
theorem dX12_laysHeap_52 : decode cX12_laysHeap 52 = .ok (.aload_n 0, 1) := by decide +kernel
theorem dX12_laysHeap_53 : decode cX12_laysHeap 53 = .ok (.iload_n 2, 1) := by decide +kernel
theorem dX12_laysHeap_54 : decode cX12_laysHeap 54 = .ok (.bipush 9, 2) := by decide +kernel
theorem dX12_laysHeap_56 : decode cX12_laysHeap 56 = .ok (.invokevirtual 220, 3) := by decide +kernel
theorem dX12_laysHeap_59 : decode cX12_laysHeap 59 = .ok (.if_icmp .le 23, 3) := by decide +kernel
theorem dX12_laysHeap_62 : decode cX12_laysHeap 62 = .ok (.aload_n 0, 1) := by decide +kernel
theorem dX12_laysHeap_63 : decode cX12_laysHeap 63 = .ok (.getfield 41, 3) := by decide +kernel
theorem dX12_laysHeap_66 : decode cX12_laysHeap 66 = .ok (.iload_n 3, 1) := by decide +kernel
theorem dX12_laysHeap_67 : decode cX12_laysHeap 67 = .ok (.aload_n 0, 1) := by decide +kernel
theorem dX12_laysHeap_68 : decode cX12_laysHeap 68 = .ok (.getfield 41, 3) := by decide +kernel
theorem dX12_laysHeap_71 : decode cX12_laysHeap 71 = .ok (.iload_n 3, 1) := by decide +kernel
theorem dX12_laysHeap_72 : decode cX12_laysHeap 72 = .ok (.iconst 1, 1) := by decide +kernel
theorem dX12_laysHeap_73 : decode cX12_laysHeap 73 = .ok (.isub, 1) := by decide +kernel
theorem dX12_laysHeap_74 : decode cX12_laysHeap 74 = .ok (.iaload, 1) := by decide +kernel
theorem dX12_laysHeap_75 : decode cX12_laysHeap 75 = .ok (.iastore, 1) := by decide +kernel
theorem dX12_laysHeap_76 : decode cX12_laysHeap 76 = .ok (.iinc 3 (-1), 3) := by decide +kernel
theorem dX12_laysHeap_79 : decode cX12_laysHeap 79 = .ok (.goto (-45), 3) := by decide +kernel
theorem dX12_laysHeap_82 : decode cX12_laysHeap 82 = .ok (.aload_n 0, 1) := by decide +kernel
theorem dX12_laysHeap_83 : decode cX12_laysHeap 83 = .ok (.getfield 41, 3) := by decide +kernel
theorem dX12_laysHeap_86 : decode cX12_laysHeap 86 = .ok (.iload_n 3, 1) := by decide +kernel
theorem dX12_laysHeap_87 : decode cX12_laysHeap 87 = .ok (.iload_n 2, 1) := by decide +kernel
theorem dX12_laysHeap_88 : decode cX12_laysHeap 88 = .ok (.iastore, 1) := by decide +kernel
theorem dX12_laysHeap_89 : decode cX12_laysHeap 89 = .ok (.aload_n 0, 1) := by decide +kernel
theorem dX12_laysHeap_90 : decode cX12_laysHeap 90 = .ok (.dup, 1) := by decide +kernel
theorem dX12_laysHeap_91 : decode cX12_laysHeap 91 = .ok (.getfield 223, 3) := by decide +kernel
theorem dX12_laysHeap_94 : decode cX12_laysHeap 94 = .ok (.iconst 1, 1) := by decide +kernel
theorem dX12_laysHeap_95 : decode cX12_laysHeap 95 = .ok (.iadd, 1) := by decide +kernel
theorem dX12_laysHeap_96 : decode cX12_laysHeap 96 = .ok (.putfield 223, 3) := by decide +kernel
theorem dX12_laysHeap_99 : decode cX12_laysHeap 99 = .ok (.iinc 2 1, 3) := by decide +kernel
theorem dX12_laysHeap_102 : decode cX12_laysHeap 102 = .ok (.goto (-95), 3) := by decide +kernel
theorem dX12_laysHeap_105 : decode cX12_laysHeap 105 = .ok (.return_, 1) := by decide +kernel
theorem dX12_isTaken_0 : decode cX12_isTaken 0 = .ok (.aload_n 0, 1) := by decide +kernel
theorem dX12_isTaken_1 : decode cX12_isTaken 1 = .ok (.getfield 31, 3) := by decide +kernel
theorem dX12_isTaken_4 : decode cX12_isTaken 4 = .ok (.iconst 1, 1) := by decide +kernel
theorem dX12_isTaken_5 : decode cX12_isTaken 5 = .ok (.aload_n 0, 1) := by decide +kernel
theorem dX12_isTaken_6 : decode cX12_isTaken 6 = .ok (.iload_n 1, 1) := by decide +kernel
theorem dX12_isTaken_7 : decode cX12_isTaken 7 = .ok (.iconst 0, 1) := by decide +kernel
theorem dX12_isTaken_8 : decode cX12_isTaken 8 = .ok (.invokevirtual 220, 3) := by decide +kernel
theorem dX12_isTaken_11 : decode cX12_isTaken 11 = .ok (.iastore, 1) := by decide +kernel
theorem dX12_isTaken_12 : decode cX12_isTaken 12 = .ok (.aload_n 0, 1) := by decide +kernel
theorem dX12_isTaken_13 : decode cX12_isTaken 13 = .ok (.getfield 31, 3) := by decide +kernel
theorem dX12_isTaken_16 : decode cX12_isTaken 16 = .ok (.iconst 2, 1) := by decide +kernel
theorem dX12_isTaken_17 : decode cX12_isTaken 17 = .ok (.iload_n 2, 1) := by decide +kernel
theorem dX12_isTaken_18 : decode cX12_isTaken 18 = .ok (.iastore, 1) := by decide +kernel
theorem dX12_isTaken_19 : decode cX12_isTaken 19 = .ok (.aload_n 0, 1) := by decide +kernel
theorem dX12_isTaken_20 : decode cX12_isTaken 20 = .ok (.getfield 31, 3) := by decide +kernel
theorem dX12_isTaken_23 : decode cX12_isTaken 23 = .ok (.iconst 3, 1) := by decide +kernel
theorem dX12_isTaken_24 : decode cX12_isTaken 24 = .ok (.iload 4, 2) := by decide +kernel
theorem dX12_isTaken_26 : decode cX12_isTaken 26 = .ok (.aload_n 0, 1) := by decide +kernel
theorem dX12_isTaken_27 : decode cX12_isTaken 27 = .ok (.iload_n 1, 1) := by decide +kernel
theorem dX12_isTaken_28 : decode cX12_isTaken 28 = .ok (.bipush 6, 2) := by decide +kernel
theorem dX12_isTaken_30 : decode cX12_isTaken 30 = .ok (.invokevirtual 220, 3) := by decide +kernel
theorem dX12_isTaken_33 : decode cX12_isTaken 33 = .ok (.isub, 1) := by decide +kernel
theorem dX12_isTaken_34 : decode cX12_isTaken 34 = .ok (.iastore, 1) := by decide +kernel
theorem dX12_isTaken_35 : decode cX12_isTaken 35 = .ok (.aload_n 0, 1) := by decide +kernel
theorem dX12_isTaken_36 : decode cX12_isTaken 36 = .ok (.getfield 31, 3) := by decide +kernel
theorem dX12_isTaken_39 : decode cX12_isTaken 39 = .ok (.iconst 4, 1) := by decide +kernel
theorem dX12_isTaken_40 : decode cX12_isTaken 40 = .ok (.aload_n 0, 1) := by decide +kernel
theorem dX12_isTaken_41 : decode cX12_isTaken 41 = .ok (.getfield 223, 3) := by decide +kernel
theorem dX12_isTaken_44 : decode cX12_isTaken 44 = .ok (.iastore, 1) := by decide +kernel
theorem dX12_isTaken_45 : decode cX12_isTaken 45 = .ok (.aload_n 0, 1) := by decide +kernel
theorem dX12_isTaken_46 : decode cX12_isTaken 46 = .ok (.getfield 31, 3) := by decide +kernel
theorem dX12_isTaken_49 : decode cX12_isTaken 49 = .ok (.iconst 5, 1) := by decide +kernel
theorem dX12_isTaken_50 : decode cX12_isTaken 50 = .ok (.iload_n 3, 1) := by decide +kernel
theorem dX12_isTaken_51 : decode cX12_isTaken 51 = .ok (.iastore, 1) := by decide +kernel
theorem dX12_isTaken_52 : decode cX12_isTaken 52 = .ok (.aload_n 0, 1) := by decide +kernel
theorem dX12_isTaken_53 : decode cX12_isTaken 53 = .ok (.getfield 31, 3) := by decide +kernel
theorem dX12_isTaken_56 : decode cX12_isTaken 56 = .ok (.bipush 6, 2) := by decide +kernel
theorem dX12_isTaken_58 : decode cX12_isTaken 58 = .ok (.iload 4, 2) := by decide +kernel
theorem dX12_isTaken_60 : decode cX12_isTaken 60 = .ok (.iastore, 1) := by decide +kernel
theorem dX12_isTaken_61 : decode cX12_isTaken 61 = .ok (.aload_n 0, 1) := by decide +kernel
theorem dX12_isTaken_62 : decode cX12_isTaken 62 = .ok (.getfield 31, 3) := by decide +kernel
theorem dX12_isTaken_65 : decode cX12_isTaken 65 = .ok (.bipush 7, 2) := by decide +kernel
theorem dX12_isTaken_67 : decode cX12_isTaken 67 = .ok (.aload_n 0, 1) := by decide +kernel
theorem dX12_isTaken_68 : decode cX12_isTaken 68 = .ok (.iload_n 1, 1) := by decide +kernel
theorem dX12_isTaken_69 : decode cX12_isTaken 69 = .ok (.bipush 7, 2) := by decide +kernel
theorem dX12_isTaken_71 : decode cX12_isTaken 71 = .ok (.invokevirtual 220, 3) := by decide +kernel
theorem dX12_isTaken_74 : decode cX12_isTaken 74 = .ok (.iastore, 1) := by decide +kernel
theorem dX12_isTaken_75 : decode cX12_isTaken 75 = .ok (.iconst 0, 1) := by decide +kernel
theorem dX12_isTaken_76 : decode cX12_isTaken 76 = .ok (.istore 5, 2) := by decide +kernel
theorem dX12_isTaken_78 : decode cX12_isTaken 78 = .ok (.iload 5, 2) := by decide +kernel
theorem dX12_isTaken_80 : decode cX12_isTaken 80 = .ok (.aload_n 0, 1) := by decide +kernel
theorem dX12_isTaken_81 : decode cX12_isTaken 81 = .ok (.getfield 7, 3) := by decide +kernel
theorem dX12_isTaken_84 : decode cX12_isTaken 84 = .ok (.sipush 1600, 3) := by decide +kernel
theorem dX12_isTaken_87 : decode cX12_isTaken 87 = .ok (.iaload, 1) := by decide +kernel
theorem dX12_isTaken_88 : decode cX12_isTaken 88 = .ok (.if_icmp .ge 84, 3) := by decide +kernel
theorem dX12_isTaken_91 : decode cX12_isTaken 91 = .ok (.aload_n 0, 1) := by decide +kernel
theorem dX12_isTaken_92 : decode cX12_isTaken 92 = .ok (.getfield 7, 3) := by decide +kernel
theorem dX12_isTaken_95 : decode cX12_isTaken 95 = .ok (.sipush 1645, 3) := by decide +kernel
theorem dX12_isTaken_98 : decode cX12_isTaken 98 = .ok (.iload 5, 2) := by decide +kernel
theorem dX12_isTaken_100 : decode cX12_isTaken 100 = .ok (.iadd, 1) := by decide +kernel
theorem dX12_isTaken_101 : decode cX12_isTaken 101 = .ok (.iaload, 1) := by decide +kernel
theorem dX12_isTaken_102 : decode cX12_isTaken 102 = .ok (.aload_n 0, 1) := by decide +kernel
theorem dX12_isTaken_103 : decode cX12_isTaken 103 = .ok (.getfield 7, 3) := by decide +kernel
theorem dX12_isTaken_106 : decode cX12_isTaken 106 = .ok (.sipush 1625, 3) := by decide +kernel
theorem dX12_isTaken_109 : decode cX12_isTaken 109 = .ok (.iload 5, 2) := by decide +kernel
theorem dX12_isTaken_111 : decode cX12_isTaken 111 = .ok (.iadd, 1) := by decide +kernel
theorem dX12_isTaken_112 : decode cX12_isTaken 112 = .ok (.iaload, 1) := by decide +kernel
theorem dX12_isTaken_113 : decode cX12_isTaken 113 = .ok (.if_icmp .eq 33, 3) := by decide +kernel
theorem dX12_isTaken_116 : decode cX12_isTaken 116 = .ok (.aload_n 0, 1) := by decide +kernel
theorem dX12_isTaken_117 : decode cX12_isTaken 117 = .ok (.aload_n 0, 1) := by decide +kernel
theorem dX12_isTaken_118 : decode cX12_isTaken 118 = .ok (.getfield 7, 3) := by decide +kernel
theorem dX12_isTaken_121 : decode cX12_isTaken 121 = .ok (.sipush 1625, 3) := by decide +kernel
theorem dX12_isTaken_124 : decode cX12_isTaken 124 = .ok (.iload 5, 2) := by decide +kernel
theorem dX12_isTaken_126 : decode cX12_isTaken 126 = .ok (.iadd, 1) := by decide +kernel
theorem dX12_isTaken_127 : decode cX12_isTaken 127 = .ok (.iaload, 1) := by decide +kernel
theorem dX12_isTaken_128 : decode cX12_isTaken 128 = .ok (.aload_n 0, 1) := by decide +kernel
theorem dX12_isTaken_129 : decode cX12_isTaken 129 = .ok (.getfield 7, 3) := by decide +kernel
theorem dX12_isTaken_132 : decode cX12_isTaken 132 = .ok (.sipush 1645, 3) := by decide +kernel
theorem dX12_isTaken_135 : decode cX12_isTaken 135 = .ok (.iload 5, 2) := by decide +kernel
theorem dX12_isTaken_137 : decode cX12_isTaken 137 = .ok (.iadd, 1) := by decide +kernel
theorem dX12_isTaken_138 : decode cX12_isTaken 138 = .ok (.iaload, 1) := by decide +kernel
theorem dX12_isTaken_139 : decode cX12_isTaken 139 = .ok (.invokevirtual 230, 3) := by decide +kernel
theorem dX12_isTaken_142 : decode cX12_isTaken 142 = .ok (.iconst 1, 1) := by decide +kernel
theorem dX12_isTaken_143 : decode cX12_isTaken 143 = .ok (.if_icmp .ne 23, 3) := by decide +kernel
theorem dX12_isTaken_146 : decode cX12_isTaken 146 = .ok (.aload_n 0, 1) := by decide +kernel
theorem dX12_isTaken_147 : decode cX12_isTaken 147 = .ok (.getfield 7, 3) := by decide +kernel
theorem dX12_isTaken_150 : decode cX12_isTaken 150 = .ok (.sipush 1605, 3) := by decide +kernel
theorem dX12_isTaken_153 : decode cX12_isTaken 153 = .ok (.iload 5, 2) := by decide +kernel
theorem dX12_isTaken_155 : decode cX12_isTaken 155 = .ok (.iadd, 1) := by decide +kernel
theorem dX12_isTaken_156 : decode cX12_isTaken 156 = .ok (.iaload, 1) := by decide +kernel
theorem dX12_isTaken_157 : decode cX12_isTaken 157 = .ok (.ifCond .ne 7, 3) := by decide +kernel
theorem dX12_isTaken_160 : decode cX12_isTaken 160 = .ok (.iconst 1, 1) := by decide +kernel
theorem dX12_isTaken_161 : decode cX12_isTaken 161 = .ok (.goto 4, 3) := by decide +kernel
theorem dX12_isTaken_164 : decode cX12_isTaken 164 = .ok (.iconst 0, 1) := by decide +kernel
theorem dX12_isTaken_165 : decode cX12_isTaken 165 = .ok (.ireturn, 1) := by decide +kernel
theorem dX12_isTaken_166 : decode cX12_isTaken 166 = .ok (.iinc 5 1, 3) := by decide +kernel
theorem dX12_isTaken_169 : decode cX12_isTaken 169 = .ok (.goto (-91), 3) := by decide +kernel
theorem dX12_isTaken_172 : decode cX12_isTaken 172 = .ok (.iconst 1, 1) := by decide +kernel
theorem dX12_isTaken_173 : decode cX12_isTaken 173 = .ok (.ireturn, 1) := by decide +kernel
theorem dX12_takes_0 : decode cX12_takes 0 = .ok (.aload_n 0, 1) := by decide +kernel
theorem dX12_takes_1 : decode cX12_takes 1 = .ok (.iload_n 1, 1) := by decide +kernel
theorem dX12_takes_2 : decode cX12_takes 2 = .ok (.invokevirtual 233, 3) := by decide +kernel
theorem dX12_takes_5 : decode cX12_takes 5 = .ok (.aload_n 0, 1) := by decide +kernel
theorem dX12_takes_6 : decode cX12_takes 6 = .ok (.iconst 0, 1) := by decide +kernel
theorem dX12_takes_7 : decode cX12_takes 7 = .ok (.putfield 237, 3) := by decide +kernel
theorem dX12_takes_10 : decode cX12_takes 10 = .ok (.iconst 0, 1) := by decide +kernel
theorem dX12_takes_11 : decode cX12_takes 11 = .ok (.istore 5, 2) := by decide +kernel
theorem dX12_takes_13 : decode cX12_takes 13 = .ok (.iconst 0, 1) := by decide +kernel
theorem dX12_takes_14 : decode cX12_takes 14 = .ok (.istore 6, 2) := by decide +kernel
theorem dX12_takes_16 : decode cX12_takes 16 = .ok (.iload 6, 2) := by decide +kernel
theorem dX12_takes_18 : decode cX12_takes 18 = .ok (.aload_n 0, 1) := by decide +kernel
theorem dX12_takes_19 : decode cX12_takes 19 = .ok (.getfield 223, 3) := by decide +kernel
theorem dX12_takes_22 : decode cX12_takes 22 = .ok (.if_icmp .ge 101, 3) := by decide +kernel
theorem dX12_takes_25 : decode cX12_takes 25 = .ok (.aload_n 0, 1) := by decide +kernel
theorem dX12_takes_26 : decode cX12_takes 26 = .ok (.getfield 41, 3) := by decide +kernel
theorem dX12_takes_29 : decode cX12_takes 29 = .ok (.iload 6, 2) := by decide +kernel
theorem dX12_takes_31 : decode cX12_takes 31 = .ok (.iaload, 1) := by decide +kernel
theorem dX12_takes_32 : decode cX12_takes 32 = .ok (.istore 7, 2) := by decide +kernel
theorem dX12_takes_34 : decode cX12_takes 34 = .ok (.iload_n 2, 1) := by decide +kernel
theorem dX12_takes_35 : decode cX12_takes 35 = .ok (.iload_n 3, 1) := by decide +kernel
theorem dX12_takes_36 : decode cX12_takes 36 = .ok (.isub, 1) := by decide +kernel
theorem dX12_takes_37 : decode cX12_takes 37 = .ok (.iload 5, 2) := by decide +kernel
theorem dX12_takes_39 : decode cX12_takes 39 = .ok (.isub, 1) := by decide +kernel
theorem dX12_takes_40 : decode cX12_takes 40 = .ok (.istore 8, 2) := by decide +kernel
theorem dX12_takes_42 : decode cX12_takes 42 = .ok (.aload_n 0, 1) := by decide +kernel
theorem dX12_takes_43 : decode cX12_takes 43 = .ok (.iload 7, 2) := by decide +kernel
theorem dX12_takes_45 : decode cX12_takes 45 = .ok (.iconst 0, 1) := by decide +kernel
theorem dX12_takes_46 : decode cX12_takes 46 = .ok (.invokevirtual 220, 3) := by decide +kernel
theorem dX12_takes_49 : decode cX12_takes 49 = .ok (.iload 8, 2) := by decide +kernel
theorem dX12_takes_51 : decode cX12_takes 51 = .ok (.if_icmp .le 16, 3) := by decide +kernel
theorem dX12_takes_54 : decode cX12_takes 54 = .ok (.aload_n 0, 1) := by decide +kernel
theorem dX12_takes_55 : decode cX12_takes 55 = .ok (.getfield 7, 3) := by decide +kernel
theorem dX12_takes_58 : decode cX12_takes 58 = .ok (.iconst 5, 1) := by decide +kernel
theorem dX12_takes_59 : decode cX12_takes 59 = .ok (.iaload, 1) := by decide +kernel
theorem dX12_takes_60 : decode cX12_takes 60 = .ok (.iconst 1, 1) := by decide +kernel
theorem dX12_takes_61 : decode cX12_takes 61 = .ok (.if_icmp .ne 56, 3) := by decide +kernel
theorem dX12_takes_64 : decode cX12_takes 64 = .ok (.goto 59, 3) := by decide +kernel
theorem dX12_takes_67 : decode cX12_takes 67 = .ok (.aload_n 0, 1) := by decide +kernel
theorem dX12_takes_68 : decode cX12_takes 68 = .ok (.iload 7, 2) := by decide +kernel
theorem dX12_takes_70 : decode cX12_takes 70 = .ok (.iload 8, 2) := by decide +kernel
theorem dX12_takes_72 : decode cX12_takes 72 = .ok (.iload_n 3, 1) := by decide +kernel
theorem dX12_takes_73 : decode cX12_takes 73 = .ok (.iload 4, 2) := by decide +kernel
theorem dX12_takes_75 : decode cX12_takes 75 = .ok (.invokevirtual 240, 3) := by decide +kernel
theorem dX12_takes_78 : decode cX12_takes 78 = .ok (.ifCond .ne 6, 3) := by decide +kernel
theorem dX12_takes_81 : decode cX12_takes 81 = .ok (.goto 36, 3) := by decide +kernel
theorem dX12_takes_84 : decode cX12_takes 84 = .ok (.aload_n 0, 1) := by decide +kernel
theorem dX12_takes_85 : decode cX12_takes 85 = .ok (.getfield 44, 3) := by decide +kernel
theorem dX12_takes_88 : decode cX12_takes 88 = .ok (.aload_n 0, 1) := by decide +kernel
theorem dX12_takes_89 : decode cX12_takes 89 = .ok (.getfield 237, 3) := by decide +kernel
theorem dX12_takes_92 : decode cX12_takes 92 = .ok (.iload 7, 2) := by decide +kernel
theorem dX12_takes_94 : decode cX12_takes 94 = .ok (.iastore, 1) := by decide +kernel
theorem dX12_takes_95 : decode cX12_takes 95 = .ok (.aload_n 0, 1) := by decide +kernel
theorem dX12_takes_96 : decode cX12_takes 96 = .ok (.dup, 1) := by decide +kernel
theorem dX12_takes_97 : decode cX12_takes 97 = .ok (.getfield 237, 3) := by decide +kernel
theorem dX12_takes_100 : decode cX12_takes 100 = .ok (.iconst 1, 1) := by decide +kernel
theorem dX12_takes_101 : decode cX12_takes 101 = .ok (.iadd, 1) := by decide +kernel
theorem dX12_takes_102 : decode cX12_takes 102 = .ok (.putfield 237, 3) := by decide +kernel
theorem dX12_takes_105 : decode cX12_takes 105 = .ok (.iload 5, 2) := by decide +kernel
theorem dX12_takes_107 : decode cX12_takes 107 = .ok (.aload_n 0, 1) := by decide +kernel
theorem dX12_takes_108 : decode cX12_takes 108 = .ok (.iload 7, 2) := by decide +kernel
theorem dX12_takes_110 : decode cX12_takes 110 = .ok (.iconst 0, 1) := by decide +kernel
theorem dX12_takes_111 : decode cX12_takes 111 = .ok (.invokevirtual 220, 3) := by decide +kernel
theorem dX12_takes_114 : decode cX12_takes 114 = .ok (.iadd, 1) := by decide +kernel
theorem dX12_takes_115 : decode cX12_takes 115 = .ok (.istore 5, 2) := by decide +kernel
theorem dX12_takes_117 : decode cX12_takes 117 = .ok (.iinc 6 1, 3) := by decide +kernel
theorem dX12_takes_120 : decode cX12_takes 120 = .ok (.goto (-104), 3) := by decide +kernel
theorem dX12_takes_123 : decode cX12_takes 123 = .ok (.iload 5, 2) := by decide +kernel
theorem dX12_takes_125 : decode cX12_takes 125 = .ok (.ireturn, 1) := by decide +kernel
theorem dX12_writes_0 : decode cX12_writes 0 = .ok (.aload_n 0, 1) := by decide +kernel
theorem dX12_writes_1 : decode cX12_writes 1 = .ok (.getfield 244, 3) := by decide +kernel
theorem dX12_writes_4 : decode cX12_writes 4 = .ok (.ifCond .ne 21, 3) := by decide +kernel
theorem dX12_writes_7 : decode cX12_writes 7 = .ok (.iload_n 2, 1) := by decide +kernel
theorem dX12_writes_8 : decode cX12_writes 8 = .ok (.iconst (-1), 1) := by decide +kernel
theorem dX12_writes_9 : decode cX12_writes 9 = .ok (.if_icmp .eq 16, 3) := by decide +kernel
theorem dX12_writes_12 : decode cX12_writes 12 = .ok (.aload_n 0, 1) := by decide +kernel
theorem dX12_writes_13 : decode cX12_writes 13 = .ok (.getfield 7, 3) := by decide +kernel
theorem dX12_writes_16 : decode cX12_writes 16 = .ok (.bipush 6, 2) := by decide +kernel
theorem dX12_writes_18 : decode cX12_writes 18 = .ok (.iaload, 1) := by decide +kernel
theorem dX12_writes_19 : decode cX12_writes 19 = .ok (.sipush 300, 3) := by decide +kernel
theorem dX12_writes_22 : decode cX12_writes 22 = .ok (.if_icmp .ne 4, 3) := by decide +kernel
theorem dX12_writes_25 : decode cX12_writes 25 = .ok (.return_, 1) := by decide +kernel
theorem dX12_writes_26 : decode cX12_writes 26 = .ok (.sipush 600, 3) := by decide +kernel
theorem dX12_writes_29 : decode cX12_writes 29 = .ok (.iconst 3, 1) := by decide +kernel
theorem dX12_writes_30 : decode cX12_writes 30 = .ok (.aload_n 0, 1) := by decide +kernel
theorem dX12_writes_31 : decode cX12_writes 31 = .ok (.getfield 7, 3) := by decide +kernel
theorem dX12_writes_34 : decode cX12_writes 34 = .ok (.bipush 6, 2) := by decide +kernel
theorem dX12_writes_36 : decode cX12_writes 36 = .ok (.iaload, 1) := by decide +kernel
theorem dX12_writes_37 : decode cX12_writes 37 = .ok (.imul, 1) := by decide +kernel
theorem dX12_writes_38 : decode cX12_writes 38 = .ok (.iadd, 1) := by decide +kernel
theorem dX12_writes_39 : decode cX12_writes 39 = .ok (.istore 4, 2) := by decide +kernel
theorem dX12_writes_41 : decode cX12_writes 41 = .ok (.aload_n 0, 1) := by decide +kernel
theorem dX12_writes_42 : decode cX12_writes 42 = .ok (.getfield 7, 3) := by decide +kernel
theorem dX12_writes_45 : decode cX12_writes 45 = .ok (.iload 4, 2) := by decide +kernel
theorem dX12_writes_47 : decode cX12_writes 47 = .ok (.iload_n 1, 1) := by decide +kernel
theorem dX12_writes_48 : decode cX12_writes 48 = .ok (.iastore, 1) := by decide +kernel
theorem dX12_writes_49 : decode cX12_writes 49 = .ok (.aload_n 0, 1) := by decide +kernel
theorem dX12_writes_50 : decode cX12_writes 50 = .ok (.getfield 7, 3) := by decide +kernel
theorem dX12_writes_53 : decode cX12_writes 53 = .ok (.iload 4, 2) := by decide +kernel
theorem dX12_writes_55 : decode cX12_writes 55 = .ok (.iconst 1, 1) := by decide +kernel
theorem dX12_writes_56 : decode cX12_writes 56 = .ok (.iadd, 1) := by decide +kernel
theorem dX12_writes_57 : decode cX12_writes 57 = .ok (.iload_n 2, 1) := by decide +kernel
theorem dX12_writes_58 : decode cX12_writes 58 = .ok (.iastore, 1) := by decide +kernel
theorem dX12_writes_59 : decode cX12_writes 59 = .ok (.aload_n 0, 1) := by decide +kernel
theorem dX12_writes_60 : decode cX12_writes 60 = .ok (.getfield 7, 3) := by decide +kernel
theorem dX12_writes_63 : decode cX12_writes 63 = .ok (.iload 4, 2) := by decide +kernel
theorem dX12_writes_65 : decode cX12_writes 65 = .ok (.iconst 2, 1) := by decide +kernel
theorem dX12_writes_66 : decode cX12_writes 66 = .ok (.iadd, 1) := by decide +kernel
theorem dX12_writes_67 : decode cX12_writes 67 = .ok (.iload_n 3, 1) := by decide +kernel
theorem dX12_writes_68 : decode cX12_writes 68 = .ok (.iastore, 1) := by decide +kernel
theorem dX12_writes_69 : decode cX12_writes 69 = .ok (.aload_n 0, 1) := by decide +kernel
theorem dX12_writes_70 : decode cX12_writes 70 = .ok (.getfield 7, 3) := by decide +kernel
theorem dX12_writes_73 : decode cX12_writes 73 = .ok (.bipush 6, 2) := by decide +kernel
theorem dX12_writes_75 : decode cX12_writes 75 = .ok (.dup2, 1) := by decide +kernel
theorem dX12_writes_76 : decode cX12_writes 76 = .ok (.iaload, 1) := by decide +kernel
theorem dX12_writes_77 : decode cX12_writes 77 = .ok (.iconst 1, 1) := by decide +kernel
theorem dX12_writes_78 : decode cX12_writes 78 = .ok (.iadd, 1) := by decide +kernel
theorem dX12_writes_79 : decode cX12_writes 79 = .ok (.iastore, 1) := by decide +kernel
theorem dX12_writes_80 : decode cX12_writes 80 = .ok (.return_, 1) := by decide +kernel
theorem dX12_setsDown_0 : decode cX12_setsDown 0 = .ok (.iconst 0, 1) := by decide +kernel
theorem dX12_setsDown_1 : decode cX12_setsDown 1 = .ok (.istore 4, 2) := by decide +kernel
theorem dX12_setsDown_3 : decode cX12_setsDown 3 = .ok (.iload 4, 2) := by decide +kernel
theorem dX12_setsDown_5 : decode cX12_setsDown 5 = .ok (.aload_n 0, 1) := by decide +kernel
theorem dX12_setsDown_6 : decode cX12_setsDown 6 = .ok (.getfield 237, 3) := by decide +kernel
theorem dX12_setsDown_9 : decode cX12_setsDown 9 = .ok (.if_icmp .ge 52, 3) := by decide +kernel
theorem dX12_setsDown_12 : decode cX12_setsDown 12 = .ok (.aload_n 0, 1) := by decide +kernel
theorem dX12_setsDown_13 : decode cX12_setsDown 13 = .ok (.getfield 44, 3) := by decide +kernel
theorem dX12_setsDown_16 : decode cX12_setsDown 16 = .ok (.iload 4, 2) := by decide +kernel
theorem dX12_setsDown_18 : decode cX12_setsDown 18 = .ok (.iaload, 1) := by decide +kernel
theorem dX12_setsDown_19 : decode cX12_setsDown 19 = .ok (.istore 5, 2) := by decide +kernel
theorem dX12_setsDown_21 : decode cX12_setsDown 21 = .ok (.aload_n 0, 1) := by decide +kernel
theorem dX12_setsDown_22 : decode cX12_setsDown 22 = .ok (.iload 5, 2) := by decide +kernel
theorem dX12_setsDown_24 : decode cX12_setsDown 24 = .ok (.bipush 7, 2) := by decide +kernel
theorem dX12_setsDown_26 : decode cX12_setsDown 26 = .ok (.aload_n 0, 1) := by decide +kernel
theorem dX12_setsDown_27 : decode cX12_setsDown 27 = .ok (.iload 5, 2) := by decide +kernel
theorem dX12_setsDown_29 : decode cX12_setsDown 29 = .ok (.bipush 7, 2) := by decide +kernel
theorem dX12_setsDown_31 : decode cX12_setsDown 31 = .ok (.invokevirtual 220, 3) := by decide +kernel
theorem dX12_setsDown_34 : decode cX12_setsDown 34 = .ok (.iconst 1, 1) := by decide +kernel
theorem dX12_setsDown_35 : decode cX12_setsDown 35 = .ok (.iadd, 1) := by decide +kernel
theorem dX12_setsDown_36 : decode cX12_setsDown 36 = .ok (.invokevirtual 54, 3) := by decide +kernel
theorem dX12_setsDown_39 : decode cX12_setsDown 39 = .ok (.aload_n 0, 1) := by decide +kernel
theorem dX12_setsDown_40 : decode cX12_setsDown 40 = .ok (.iload 5, 2) := by decide +kernel
theorem dX12_setsDown_42 : decode cX12_setsDown 42 = .ok (.iload_n 2, 1) := by decide +kernel
theorem dX12_setsDown_43 : decode cX12_setsDown 43 = .ok (.iload_n 3, 1) := by decide +kernel
theorem dX12_setsDown_44 : decode cX12_setsDown 44 = .ok (.invokevirtual 248, 3) := by decide +kernel
theorem dX12_setsDown_47 : decode cX12_setsDown 47 = .ok (.aload_n 0, 1) := by decide +kernel
theorem dX12_setsDown_48 : decode cX12_setsDown 48 = .ok (.iload 5, 2) := by decide +kernel
theorem dX12_setsDown_50 : decode cX12_setsDown 50 = .ok (.iload_n 1, 1) := by decide +kernel
theorem dX12_setsDown_51 : decode cX12_setsDown 51 = .ok (.iload_n 3, 1) := by decide +kernel
theorem dX12_setsDown_52 : decode cX12_setsDown 52 = .ok (.invokevirtual 251, 3) := by decide +kernel
theorem dX12_setsDown_55 : decode cX12_setsDown 55 = .ok (.iinc 4 1, 3) := by decide +kernel
theorem dX12_setsDown_58 : decode cX12_setsDown 58 = .ok (.goto (-55), 3) := by decide +kernel
theorem dX12_setsDown_61 : decode cX12_setsDown 61 = .ok (.aload_n 0, 1) := by decide +kernel
theorem dX12_setsDown_62 : decode cX12_setsDown 62 = .ok (.dup, 1) := by decide +kernel
theorem dX12_setsDown_63 : decode cX12_setsDown 63 = .ok (.getfield 254, 3) := by decide +kernel
theorem dX12_setsDown_66 : decode cX12_setsDown 66 = .ok (.aload_n 0, 1) := by decide +kernel
theorem dX12_setsDown_67 : decode cX12_setsDown 67 = .ok (.getfield 237, 3) := by decide +kernel
theorem dX12_setsDown_70 : decode cX12_setsDown 70 = .ok (.iadd, 1) := by decide +kernel
theorem dX12_setsDown_71 : decode cX12_setsDown 71 = .ok (.putfield 254, 3) := by decide +kernel
theorem dX12_setsDown_74 : decode cX12_setsDown 74 = .ok (.return_, 1) := by decide +kernel
theorem dX12_crosses_0 : decode cX12_crosses 0 = .ok (.aload_n 0, 1) := by decide +kernel
theorem dX12_crosses_1 : decode cX12_crosses 1 = .ok (.iload_n 1, 1) := by decide +kernel
theorem dX12_crosses_2 : decode cX12_crosses 2 = .ok (.iconst 1, 1) := by decide +kernel
theorem dX12_crosses_3 : decode cX12_crosses 3 = .ok (.invokevirtual 80, 3) := by decide +kernel
theorem dX12_crosses_6 : decode cX12_crosses 6 = .ok (.aload_n 0, 1) := by decide +kernel
theorem dX12_crosses_7 : decode cX12_crosses 7 = .ok (.iload_n 1, 1) := by decide +kernel
theorem dX12_crosses_8 : decode cX12_crosses 8 = .ok (.iconst 2, 1) := by decide +kernel
theorem dX12_crosses_9 : decode cX12_crosses 9 = .ok (.invokevirtual 80, 3) := by decide +kernel
theorem dX12_crosses_12 : decode cX12_crosses 12 = .ok (.iadd, 1) := by decide +kernel
theorem dX12_crosses_13 : decode cX12_crosses 13 = .ok (.istore_n 3, 1) := by decide +kernel
theorem dX12_crosses_14 : decode cX12_crosses 14 = .ok (.aload_n 0, 1) := by decide +kernel
theorem dX12_crosses_15 : decode cX12_crosses 15 = .ok (.iload_n 1, 1) := by decide +kernel
theorem dX12_crosses_16 : decode cX12_crosses 16 = .ok (.iconst 1, 1) := by decide +kernel
theorem dX12_crosses_17 : decode cX12_crosses 17 = .ok (.invokevirtual 80, 3) := by decide +kernel
theorem dX12_crosses_20 : decode cX12_crosses 20 = .ok (.iconst 1, 1) := by decide +kernel
theorem dX12_crosses_21 : decode cX12_crosses 21 = .ok (.iadd, 1) := by decide +kernel
theorem dX12_crosses_22 : decode cX12_crosses 22 = .ok (.aload_n 0, 1) := by decide +kernel
theorem dX12_crosses_23 : decode cX12_crosses 23 = .ok (.iload_n 1, 1) := by decide +kernel
theorem dX12_crosses_24 : decode cX12_crosses 24 = .ok (.iconst 2, 1) := by decide +kernel
theorem dX12_crosses_25 : decode cX12_crosses 25 = .ok (.invokevirtual 80, 3) := by decide +kernel
theorem dX12_crosses_28 : decode cX12_crosses 28 = .ok (.isub, 1) := by decide +kernel
theorem dX12_crosses_29 : decode cX12_crosses 29 = .ok (.istore 4, 2) := by decide +kernel
theorem dX12_crosses_31 : decode cX12_crosses 31 = .ok (.aload_n 0, 1) := by decide +kernel
theorem dX12_crosses_32 : decode cX12_crosses 32 = .ok (.iload_n 1, 1) := by decide +kernel
theorem dX12_crosses_33 : decode cX12_crosses 33 = .ok (.bipush 8, 2) := by decide +kernel
theorem dX12_crosses_35 : decode cX12_crosses 35 = .ok (.iload_n 2, 1) := by decide +kernel
theorem dX12_crosses_36 : decode cX12_crosses 36 = .ok (.invokevirtual 74, 3) := by decide +kernel
theorem dX12_crosses_39 : decode cX12_crosses 39 = .ok (.aload_n 0, 1) := by decide +kernel
theorem dX12_crosses_40 : decode cX12_crosses 40 = .ok (.iload_n 3, 1) := by decide +kernel
theorem dX12_crosses_41 : decode cX12_crosses 41 = .ok (.aload_n 0, 1) := by decide +kernel
theorem dX12_crosses_42 : decode cX12_crosses 42 = .ok (.iload_n 1, 1) := by decide +kernel
theorem dX12_crosses_43 : decode cX12_crosses 43 = .ok (.iconst 3, 1) := by decide +kernel
theorem dX12_crosses_44 : decode cX12_crosses 44 = .ok (.invokevirtual 80, 3) := by decide +kernel
theorem dX12_crosses_47 : decode cX12_crosses 47 = .ok (.aload_n 0, 1) := by decide +kernel
theorem dX12_crosses_48 : decode cX12_crosses 48 = .ok (.iload_n 1, 1) := by decide +kernel
theorem dX12_crosses_49 : decode cX12_crosses 49 = .ok (.iconst 4, 1) := by decide +kernel
theorem dX12_crosses_50 : decode cX12_crosses 50 = .ok (.invokevirtual 80, 3) := by decide +kernel
theorem dX12_crosses_53 : decode cX12_crosses 53 = .ok (.iload_n 2, 1) := by decide +kernel
theorem dX12_crosses_54 : decode cX12_crosses 54 = .ok (.invokevirtual 257, 3) := by decide +kernel
theorem dX12_crosses_57 : decode cX12_crosses 57 = .ok (.istore 5, 2) := by decide +kernel
theorem dX12_crosses_59 : decode cX12_crosses 59 = .ok (.aload_n 0, 1) := by decide +kernel
theorem dX12_crosses_60 : decode cX12_crosses 60 = .ok (.getfield 7, 3) := by decide +kernel
theorem dX12_crosses_63 : decode cX12_crosses 63 = .ok (.iconst 4, 1) := by decide +kernel
theorem dX12_crosses_64 : decode cX12_crosses 64 = .ok (.iaload, 1) := by decide +kernel
theorem dX12_crosses_65 : decode cX12_crosses 65 = .ok (.iconst (-1), 1) := by decide +kernel
theorem dX12_crosses_66 : decode cX12_crosses 66 = .ok (.if_icmp .eq 53, 3) := by decide +kernel
theorem dX12_crosses_69 : decode cX12_crosses 69 = .ok (.aload_n 0, 1) := by decide +kernel
theorem dX12_crosses_70 : decode cX12_crosses 70 = .ok (.iload_n 1, 1) := by decide +kernel
theorem dX12_crosses_71 : decode cX12_crosses 71 = .ok (.iconst 5, 1) := by decide +kernel
theorem dX12_crosses_72 : decode cX12_crosses 72 = .ok (.invokevirtual 80, 3) := by decide +kernel
theorem dX12_crosses_75 : decode cX12_crosses 75 = .ok (.iload 5, 2) := by decide +kernel
theorem dX12_crosses_77 : decode cX12_crosses 77 = .ok (.imul, 1) := by decide +kernel
theorem dX12_crosses_78 : decode cX12_crosses 78 = .ok (.aload_n 0, 1) := by decide +kernel
theorem dX12_crosses_79 : decode cX12_crosses 79 = .ok (.getfield 7, 3) := by decide +kernel
theorem dX12_crosses_82 : decode cX12_crosses 82 = .ok (.iconst 4, 1) := by decide +kernel
theorem dX12_crosses_83 : decode cX12_crosses 83 = .ok (.iaload, 1) := by decide +kernel
theorem dX12_crosses_84 : decode cX12_crosses 84 = .ok (.if_icmp .le 35, 3) := by decide +kernel
theorem dX12_crosses_87 : decode cX12_crosses 87 = .ok (.aload_n 0, 1) := by decide +kernel
theorem dX12_crosses_88 : decode cX12_crosses 88 = .ok (.iload_n 1, 1) := by decide +kernel
theorem dX12_crosses_89 : decode cX12_crosses 89 = .ok (.bipush 10, 2) := by decide +kernel
theorem dX12_crosses_91 : decode cX12_crosses 91 = .ok (.aload_n 0, 1) := by decide +kernel
theorem dX12_crosses_92 : decode cX12_crosses 92 = .ok (.getfield 7, 3) := by decide +kernel
theorem dX12_crosses_95 : decode cX12_crosses 95 = .ok (.iconst 4, 1) := by decide +kernel
theorem dX12_crosses_96 : decode cX12_crosses 96 = .ok (.iaload, 1) := by decide +kernel
theorem dX12_crosses_97 : decode cX12_crosses 97 = .ok (.invokevirtual 74, 3) := by decide +kernel
theorem dX12_crosses_100 : decode cX12_crosses 100 = .ok (.aload_n 0, 1) := by decide +kernel
theorem dX12_crosses_101 : decode cX12_crosses 101 = .ok (.getfield 7, 3) := by decide +kernel
theorem dX12_crosses_104 : decode cX12_crosses 104 = .ok (.bipush 9, 2) := by decide +kernel
theorem dX12_crosses_106 : decode cX12_crosses 106 = .ok (.dup2, 1) := by decide +kernel
theorem dX12_crosses_107 : decode cX12_crosses 107 = .ok (.iaload, 1) := by decide +kernel
theorem dX12_crosses_108 : decode cX12_crosses 108 = .ok (.aload_n 0, 1) := by decide +kernel
theorem dX12_crosses_109 : decode cX12_crosses 109 = .ok (.getfield 7, 3) := by decide +kernel
theorem dX12_crosses_112 : decode cX12_crosses 112 = .ok (.iconst 4, 1) := by decide +kernel
theorem dX12_crosses_113 : decode cX12_crosses 113 = .ok (.iaload, 1) := by decide +kernel
theorem dX12_crosses_114 : decode cX12_crosses 114 = .ok (.iadd, 1) := by decide +kernel
theorem dX12_crosses_115 : decode cX12_crosses 115 = .ok (.iastore, 1) := by decide +kernel
theorem dX12_crosses_116 : decode cX12_crosses 116 = .ok (.goto 20, 3) := by decide +kernel
theorem dX12_crosses_119 : decode cX12_crosses 119 = .ok (.aload_n 0, 1) := by decide +kernel
theorem dX12_crosses_120 : decode cX12_crosses 120 = .ok (.iload_n 1, 1) := by decide +kernel
theorem dX12_crosses_121 : decode cX12_crosses 121 = .ok (.bipush 9, 2) := by decide +kernel
theorem dX12_crosses_123 : decode cX12_crosses 123 = .ok (.iload 5, 2) := by decide +kernel
theorem dX12_crosses_125 : decode cX12_crosses 125 = .ok (.invokevirtual 74, 3) := by decide +kernel
theorem dX12_crosses_128 : decode cX12_crosses 128 = .ok (.aload_n 0, 1) := by decide +kernel
theorem dX12_crosses_129 : decode cX12_crosses 129 = .ok (.iload_n 1, 1) := by decide +kernel
theorem dX12_crosses_130 : decode cX12_crosses 130 = .ok (.iload 4, 2) := by decide +kernel
theorem dX12_crosses_132 : decode cX12_crosses 132 = .ok (.iload_n 2, 1) := by decide +kernel
theorem dX12_crosses_133 : decode cX12_crosses 133 = .ok (.invokevirtual 261, 3) := by decide +kernel
theorem dX12_crosses_136 : decode cX12_crosses 136 = .ok (.iconst 0, 1) := by decide +kernel
theorem dX12_crosses_137 : decode cX12_crosses 137 = .ok (.istore 6, 2) := by decide +kernel
theorem dX12_crosses_139 : decode cX12_crosses 139 = .ok (.iload 6, 2) := by decide +kernel
theorem dX12_crosses_141 : decode cX12_crosses 141 = .ok (.aload_n 0, 1) := by decide +kernel
theorem dX12_crosses_142 : decode cX12_crosses 142 = .ok (.getfield 7, 3) := by decide +kernel
theorem dX12_crosses_145 : decode cX12_crosses 145 = .ok (.iconst 3, 1) := by decide +kernel
theorem dX12_crosses_146 : decode cX12_crosses 146 = .ok (.iaload, 1) := by decide +kernel
theorem dX12_crosses_147 : decode cX12_crosses 147 = .ok (.if_icmp .ge 49, 3) := by decide +kernel
theorem dX12_crosses_150 : decode cX12_crosses 150 = .ok (.aload_n 0, 1) := by decide +kernel
theorem dX12_crosses_151 : decode cX12_crosses 151 = .ok (.iload 6, 2) := by decide +kernel
theorem dX12_crosses_153 : decode cX12_crosses 153 = .ok (.bipush 6, 2) := by decide +kernel
theorem dX12_crosses_155 : decode cX12_crosses 155 = .ok (.invokevirtual 80, 3) := by decide +kernel
theorem dX12_crosses_158 : decode cX12_crosses 158 = .ok (.iconst 2, 1) := by decide +kernel
theorem dX12_crosses_159 : decode cX12_crosses 159 = .ok (.if_icmp .ne 31, 3) := by decide +kernel
theorem dX12_crosses_162 : decode cX12_crosses 162 = .ok (.aload_n 0, 1) := by decide +kernel
theorem dX12_crosses_163 : decode cX12_crosses 163 = .ok (.iload 6, 2) := by decide +kernel
theorem dX12_crosses_165 : decode cX12_crosses 165 = .ok (.bipush 7, 2) := by decide +kernel
theorem dX12_crosses_167 : decode cX12_crosses 167 = .ok (.invokevirtual 80, 3) := by decide +kernel
theorem dX12_crosses_170 : decode cX12_crosses 170 = .ok (.iload_n 1, 1) := by decide +kernel
theorem dX12_crosses_171 : decode cX12_crosses 171 = .ok (.if_icmp .ne 19, 3) := by decide +kernel
theorem dX12_crosses_174 : decode cX12_crosses 174 = .ok (.aload_n 0, 1) := by decide +kernel
theorem dX12_crosses_175 : decode cX12_crosses 175 = .ok (.iload 6, 2) := by decide +kernel
theorem dX12_crosses_177 : decode cX12_crosses 177 = .ok (.invokevirtual 264, 3) := by decide +kernel
theorem dX12_crosses_180 : decode cX12_crosses 180 = .ok (.ifCond .eq 10, 3) := by decide +kernel
theorem dX12_crosses_183 : decode cX12_crosses 183 = .ok (.aload_n 0, 1) := by decide +kernel
theorem dX12_crosses_184 : decode cX12_crosses 184 = .ok (.iload 6, 2) := by decide +kernel
theorem dX12_crosses_186 : decode cX12_crosses 186 = .ok (.iload_n 2, 1) := by decide +kernel
theorem dX12_crosses_187 : decode cX12_crosses 187 = .ok (.invokevirtual 267, 3) := by decide +kernel
theorem dX12_crosses_190 : decode cX12_crosses 190 = .ok (.iinc 6 1, 3) := by decide +kernel
theorem dX12_crosses_193 : decode cX12_crosses 193 = .ok (.goto (-54), 3) := by decide +kernel
theorem dX12_crosses_196 : decode cX12_crosses 196 = .ok (.return_, 1) := by decide +kernel
theorem dX12_mayCross_0 : decode cX12_mayCross 0 = .ok (.aload_n 0, 1) := by decide +kernel
theorem dX12_mayCross_1 : decode cX12_mayCross 1 = .ok (.iload_n 1, 1) := by decide +kernel
theorem dX12_mayCross_2 : decode cX12_mayCross 2 = .ok (.bipush 8, 2) := by decide +kernel
theorem dX12_mayCross_4 : decode cX12_mayCross 4 = .ok (.invokevirtual 80, 3) := by decide +kernel
theorem dX12_mayCross_7 : decode cX12_mayCross 7 = .ok (.iconst (-1), 1) := by decide +kernel
theorem dX12_mayCross_8 : decode cX12_mayCross 8 = .ok (.if_icmp .ne 18, 3) := by decide +kernel
theorem dX12_mayCross_11 : decode cX12_mayCross 11 = .ok (.aload_n 0, 1) := by decide +kernel
theorem dX12_mayCross_12 : decode cX12_mayCross 12 = .ok (.getfield 270, 3) := by decide +kernel
theorem dX12_mayCross_15 : decode cX12_mayCross 15 = .ok (.iload_n 1, 1) := by decide +kernel
theorem dX12_mayCross_16 : decode cX12_mayCross 16 = .ok (.ishr, 1) := by decide +kernel
theorem dX12_mayCross_17 : decode cX12_mayCross 17 = .ok (.iconst 1, 1) := by decide +kernel
theorem dX12_mayCross_18 : decode cX12_mayCross 18 = .ok (.iand, 1) := by decide +kernel
theorem dX12_mayCross_19 : decode cX12_mayCross 19 = .ok (.ifCond .ne 7, 3) := by decide +kernel
theorem dX12_mayCross_22 : decode cX12_mayCross 22 = .ok (.iconst 1, 1) := by decide +kernel
theorem dX12_mayCross_23 : decode cX12_mayCross 23 = .ok (.goto 4, 3) := by decide +kernel
theorem dX12_mayCross_26 : decode cX12_mayCross 26 = .ok (.iconst 0, 1) := by decide +kernel
theorem dX12_mayCross_27 : decode cX12_mayCross 27 = .ok (.ireturn, 1) := by decide +kernel
theorem dX12_isBare_0 : decode cX12_isBare 0 = .ok (.iconst 0, 1) := by decide +kernel
theorem dX12_isBare_1 : decode cX12_isBare 1 = .ok (.istore_n 2, 1) := by decide +kernel
theorem dX12_isBare_2 : decode cX12_isBare 2 = .ok (.iload_n 2, 1) := by decide +kernel
theorem dX12_isBare_3 : decode cX12_isBare 3 = .ok (.aload_n 0, 1) := by decide +kernel
theorem dX12_isBare_4 : decode cX12_isBare 4 = .ok (.getfield 7, 3) := by decide +kernel
theorem dX12_isBare_7 : decode cX12_isBare 7 = .ok (.iconst 2, 1) := by decide +kernel
theorem dX12_isBare_8 : decode cX12_isBare 8 = .ok (.iaload, 1) := by decide +kernel
theorem dX12_isBare_9 : decode cX12_isBare 9 = .ok (.if_icmp .ge 20, 3) := by decide +kernel
theorem dX12_isBare_12 : decode cX12_isBare 12 = .ok (.aload_n 0, 1) := by decide +kernel
theorem dX12_isBare_13 : decode cX12_isBare 13 = .ok (.iload_n 2, 1) := by decide +kernel
theorem dX12_isBare_14 : decode cX12_isBare 14 = .ok (.iload_n 1, 1) := by decide +kernel
theorem dX12_isBare_15 : decode cX12_isBare 15 = .ok (.invokevirtual 226, 3) := by decide +kernel
theorem dX12_isBare_18 : decode cX12_isBare 18 = .ok (.ifCond .eq 5, 3) := by decide +kernel
theorem dX12_isBare_21 : decode cX12_isBare 21 = .ok (.iconst 0, 1) := by decide +kernel
theorem dX12_isBare_22 : decode cX12_isBare 22 = .ok (.ireturn, 1) := by decide +kernel
theorem dX12_isBare_23 : decode cX12_isBare 23 = .ok (.iinc 2 1, 3) := by decide +kernel
theorem dX12_isBare_26 : decode cX12_isBare 26 = .ok (.goto (-24), 3) := by decide +kernel
theorem dX12_isBare_29 : decode cX12_isBare 29 = .ok (.iconst 1, 1) := by decide +kernel
theorem dX12_isBare_30 : decode cX12_isBare 30 = .ok (.ireturn, 1) := by decide +kernel
theorem dX12_goesNow_0 : decode cX12_goesNow 0 = .ok (.aload_n 0, 1) := by decide +kernel
theorem dX12_goesNow_1 : decode cX12_goesNow 1 = .ok (.iload_n 1, 1) := by decide +kernel
theorem dX12_goesNow_2 : decode cX12_goesNow 2 = .ok (.invokevirtual 264, 3) := by decide +kernel
theorem dX12_goesNow_5 : decode cX12_goesNow 5 = .ok (.ifCond .eq 13, 3) := by decide +kernel
theorem dX12_goesNow_8 : decode cX12_goesNow 8 = .ok (.iload_n 2, 1) := by decide +kernel
theorem dX12_goesNow_9 : decode cX12_goesNow 9 = .ok (.aload_n 0, 1) := by decide +kernel
theorem dX12_goesNow_10 : decode cX12_goesNow 10 = .ok (.iload_n 1, 1) := by decide +kernel
theorem dX12_goesNow_11 : decode cX12_goesNow 11 = .ok (.iconst 0, 1) := by decide +kernel
theorem dX12_goesNow_12 : decode cX12_goesNow 12 = .ok (.invokevirtual 80, 3) := by decide +kernel
theorem dX12_goesNow_15 : decode cX12_goesNow 15 = .ok (.if_icmp .ge 5, 3) := by decide +kernel
theorem dX12_goesNow_18 : decode cX12_goesNow 18 = .ok (.iconst 0, 1) := by decide +kernel
theorem dX12_goesNow_19 : decode cX12_goesNow 19 = .ok (.ireturn, 1) := by decide +kernel
theorem dX12_goesNow_20 : decode cX12_goesNow 20 = .ok (.aload_n 0, 1) := by decide +kernel
theorem dX12_goesNow_21 : decode cX12_goesNow 21 = .ok (.iload_n 1, 1) := by decide +kernel
theorem dX12_goesNow_22 : decode cX12_goesNow 22 = .ok (.bipush 6, 2) := by decide +kernel
theorem dX12_goesNow_24 : decode cX12_goesNow 24 = .ok (.invokevirtual 80, 3) := by decide +kernel
theorem dX12_goesNow_27 : decode cX12_goesNow 27 = .ok (.ifCond .ne 19, 3) := by decide +kernel
theorem dX12_goesNow_30 : decode cX12_goesNow 30 = .ok (.iload_n 2, 1) := by decide +kernel
theorem dX12_goesNow_31 : decode cX12_goesNow 31 = .ok (.aload_n 0, 1) := by decide +kernel
theorem dX12_goesNow_32 : decode cX12_goesNow 32 = .ok (.iload_n 1, 1) := by decide +kernel
theorem dX12_goesNow_33 : decode cX12_goesNow 33 = .ok (.iconst 0, 1) := by decide +kernel
theorem dX12_goesNow_34 : decode cX12_goesNow 34 = .ok (.invokevirtual 80, 3) := by decide +kernel
theorem dX12_goesNow_37 : decode cX12_goesNow 37 = .ok (.if_icmp .ne 7, 3) := by decide +kernel
theorem dX12_goesNow_40 : decode cX12_goesNow 40 = .ok (.iconst 1, 1) := by decide +kernel
theorem dX12_goesNow_41 : decode cX12_goesNow 41 = .ok (.goto 4, 3) := by decide +kernel
theorem dX12_goesNow_44 : decode cX12_goesNow 44 = .ok (.iconst 0, 1) := by decide +kernel
theorem dX12_goesNow_45 : decode cX12_goesNow 45 = .ok (.ireturn, 1) := by decide +kernel
theorem dX12_goesNow_46 : decode cX12_goesNow 46 = .ok (.aload_n 0, 1) := by decide +kernel
theorem dX12_goesNow_47 : decode cX12_goesNow 47 = .ok (.iload_n 1, 1) := by decide +kernel
theorem dX12_goesNow_48 : decode cX12_goesNow 48 = .ok (.bipush 6, 2) := by decide +kernel
theorem dX12_goesNow_50 : decode cX12_goesNow 50 = .ok (.invokevirtual 80, 3) := by decide +kernel
theorem dX12_goesNow_53 : decode cX12_goesNow 53 = .ok (.iconst 1, 1) := by decide +kernel
theorem dX12_goesNow_54 : decode cX12_goesNow 54 = .ok (.if_icmp .ne 45, 3) := by decide +kernel
theorem dX12_goesNow_57 : decode cX12_goesNow 57 = .ok (.iload_n 2, 1) := by decide +kernel
theorem dX12_goesNow_58 : decode cX12_goesNow 58 = .ok (.aload_n 0, 1) := by decide +kernel
theorem dX12_goesNow_59 : decode cX12_goesNow 59 = .ok (.iload_n 1, 1) := by decide +kernel
theorem dX12_goesNow_60 : decode cX12_goesNow 60 = .ok (.iconst 0, 1) := by decide +kernel
theorem dX12_goesNow_61 : decode cX12_goesNow 61 = .ok (.invokevirtual 80, 3) := by decide +kernel
theorem dX12_goesNow_64 : decode cX12_goesNow 64 = .ok (.aload_n 0, 1) := by decide +kernel
theorem dX12_goesNow_65 : decode cX12_goesNow 65 = .ok (.iload_n 1, 1) := by decide +kernel
theorem dX12_goesNow_66 : decode cX12_goesNow 66 = .ok (.bipush 7, 2) := by decide +kernel
theorem dX12_goesNow_68 : decode cX12_goesNow 68 = .ok (.invokevirtual 80, 3) := by decide +kernel
theorem dX12_goesNow_71 : decode cX12_goesNow 71 = .ok (.iadd, 1) := by decide +kernel
theorem dX12_goesNow_72 : decode cX12_goesNow 72 = .ok (.if_icmp .ge 23, 3) := by decide +kernel
theorem dX12_goesNow_75 : decode cX12_goesNow 75 = .ok (.aload_n 0, 1) := by decide +kernel
theorem dX12_goesNow_76 : decode cX12_goesNow 76 = .ok (.aload_n 0, 1) := by decide +kernel
theorem dX12_goesNow_77 : decode cX12_goesNow 77 = .ok (.iload_n 1, 1) := by decide +kernel
theorem dX12_goesNow_78 : decode cX12_goesNow 78 = .ok (.iconst 1, 1) := by decide +kernel
theorem dX12_goesNow_79 : decode cX12_goesNow 79 = .ok (.invokevirtual 80, 3) := by decide +kernel
theorem dX12_goesNow_82 : decode cX12_goesNow 82 = .ok (.aload_n 0, 1) := by decide +kernel
theorem dX12_goesNow_83 : decode cX12_goesNow 83 = .ok (.iload_n 1, 1) := by decide +kernel
theorem dX12_goesNow_84 : decode cX12_goesNow 84 = .ok (.iconst 2, 1) := by decide +kernel
theorem dX12_goesNow_85 : decode cX12_goesNow 85 = .ok (.invokevirtual 80, 3) := by decide +kernel
theorem dX12_goesNow_88 : decode cX12_goesNow 88 = .ok (.iadd, 1) := by decide +kernel
theorem dX12_goesNow_89 : decode cX12_goesNow 89 = .ok (.invokevirtual 273, 3) := by decide +kernel
theorem dX12_goesNow_92 : decode cX12_goesNow 92 = .ok (.ifCond .eq 7, 3) := by decide +kernel
theorem dX12_goesNow_95 : decode cX12_goesNow 95 = .ok (.iconst 1, 1) := by decide +kernel
theorem dX12_goesNow_96 : decode cX12_goesNow 96 = .ok (.goto 4, 3) := by decide +kernel
theorem dX12_goesNow_99 : decode cX12_goesNow 99 = .ok (.iconst 0, 1) := by decide +kernel
theorem dX12_goesNow_100 : decode cX12_goesNow 100 = .ok (.ireturn, 1) := by decide +kernel
theorem dX12_anHour_0 : decode cX12_anHour 0 = .ok (.aload_n 0, 1) := by decide +kernel
theorem dX12_anHour_1 : decode cX12_anHour 1 = .ok (.getfield 7, 3) := by decide +kernel
theorem dX12_anHour_4 : decode cX12_anHour 4 = .ok (.iconst 1, 1) := by decide +kernel
theorem dX12_anHour_5 : decode cX12_anHour 5 = .ok (.iaload, 1) := by decide +kernel
theorem dX12_anHour_6 : decode cX12_anHour 6 = .ok (.istore_n 1, 1) := by decide +kernel
theorem dX12_anHour_7 : decode cX12_anHour 7 = .ok (.iconst 0, 1) := by decide +kernel
theorem dX12_anHour_8 : decode cX12_anHour 8 = .ok (.istore_n 2, 1) := by decide +kernel
theorem dX12_anHour_9 : decode cX12_anHour 9 = .ok (.iload_n 2, 1) := by decide +kernel
theorem dX12_anHour_10 : decode cX12_anHour 10 = .ok (.aload_n 0, 1) := by decide +kernel
theorem dX12_anHour_11 : decode cX12_anHour 11 = .ok (.getfield 7, 3) := by decide +kernel
theorem dX12_anHour_14 : decode cX12_anHour 14 = .ok (.iconst 2, 1) := by decide +kernel
theorem dX12_anHour_15 : decode cX12_anHour 15 = .ok (.iaload, 1) := by decide +kernel
theorem dX12_anHour_16 : decode cX12_anHour 16 = .ok (.if_icmp .ge 41, 3) := by decide +kernel
theorem dX12_anHour_19 : decode cX12_anHour 19 = .ok (.aload_n 0, 1) := by decide +kernel
theorem dX12_anHour_20 : decode cX12_anHour 20 = .ok (.iload_n 2, 1) := by decide +kernel
theorem dX12_anHour_21 : decode cX12_anHour 21 = .ok (.iconst 2, 1) := by decide +kernel
theorem dX12_anHour_22 : decode cX12_anHour 22 = .ok (.invokevirtual 220, 3) := by decide +kernel
theorem dX12_anHour_25 : decode cX12_anHour 25 = .ok (.iload_n 1, 1) := by decide +kernel
theorem dX12_anHour_26 : decode cX12_anHour 26 = .ok (.if_icmp .ne 25, 3) := by decide +kernel
theorem dX12_anHour_29 : decode cX12_anHour 29 = .ok (.aload_n 0, 1) := by decide +kernel
theorem dX12_anHour_30 : decode cX12_anHour 30 = .ok (.iload_n 2, 1) := by decide +kernel
theorem dX12_anHour_31 : decode cX12_anHour 31 = .ok (.iconst 5, 1) := by decide +kernel
theorem dX12_anHour_32 : decode cX12_anHour 32 = .ok (.invokevirtual 220, 3) := by decide +kernel
theorem dX12_anHour_35 : decode cX12_anHour 35 = .ok (.iconst (-1), 1) := by decide +kernel
theorem dX12_anHour_36 : decode cX12_anHour 36 = .ok (.if_icmp .ne 15, 3) := by decide +kernel
theorem dX12_anHour_39 : decode cX12_anHour 39 = .ok (.aload_n 0, 1) := by decide +kernel
theorem dX12_anHour_40 : decode cX12_anHour 40 = .ok (.iload_n 2, 1) := by decide +kernel
theorem dX12_anHour_41 : decode cX12_anHour 41 = .ok (.aload_n 0, 1) := by decide +kernel
theorem dX12_anHour_42 : decode cX12_anHour 42 = .ok (.iload_n 2, 1) := by decide +kernel
theorem dX12_anHour_43 : decode cX12_anHour 43 = .ok (.iconst 1, 1) := by decide +kernel
theorem dX12_anHour_44 : decode cX12_anHour 44 = .ok (.invokevirtual 220, 3) := by decide +kernel
theorem dX12_anHour_47 : decode cX12_anHour 47 = .ok (.iload_n 1, 1) := by decide +kernel
theorem dX12_anHour_48 : decode cX12_anHour 48 = .ok (.invokevirtual 248, 3) := by decide +kernel
theorem dX12_anHour_51 : decode cX12_anHour 51 = .ok (.iinc 2 1, 3) := by decide +kernel
theorem dX12_anHour_54 : decode cX12_anHour 54 = .ok (.goto (-45), 3) := by decide +kernel
theorem dX12_anHour_57 : decode cX12_anHour 57 = .ok (.iconst 0, 1) := by decide +kernel
theorem dX12_anHour_58 : decode cX12_anHour 58 = .ok (.istore_n 2, 1) := by decide +kernel
theorem dX12_anHour_59 : decode cX12_anHour 59 = .ok (.iload_n 2, 1) := by decide +kernel
theorem dX12_anHour_60 : decode cX12_anHour 60 = .ok (.aload_n 0, 1) := by decide +kernel
theorem dX12_anHour_61 : decode cX12_anHour 61 = .ok (.getfield 7, 3) := by decide +kernel
theorem dX12_anHour_64 : decode cX12_anHour 64 = .ok (.iconst 2, 1) := by decide +kernel
theorem dX12_anHour_65 : decode cX12_anHour 65 = .ok (.iaload, 1) := by decide +kernel
theorem dX12_anHour_66 : decode cX12_anHour 66 = .ok (.if_icmp .ge 51, 3) := by decide +kernel
theorem dX12_anHour_69 : decode cX12_anHour 69 = .ok (.aload_n 0, 1) := by decide +kernel
theorem dX12_anHour_70 : decode cX12_anHour 70 = .ok (.iload_n 2, 1) := by decide +kernel
theorem dX12_anHour_71 : decode cX12_anHour 71 = .ok (.iconst 4, 1) := by decide +kernel
theorem dX12_anHour_72 : decode cX12_anHour 72 = .ok (.invokevirtual 220, 3) := by decide +kernel
theorem dX12_anHour_75 : decode cX12_anHour 75 = .ok (.iload_n 1, 1) := by decide +kernel
theorem dX12_anHour_76 : decode cX12_anHour 76 = .ok (.if_icmp .ne 35, 3) := by decide +kernel
theorem dX12_anHour_79 : decode cX12_anHour 79 = .ok (.aload_n 0, 1) := by decide +kernel
theorem dX12_anHour_80 : decode cX12_anHour 80 = .ok (.iload_n 2, 1) := by decide +kernel
theorem dX12_anHour_81 : decode cX12_anHour 81 = .ok (.iconst 3, 1) := by decide +kernel
theorem dX12_anHour_82 : decode cX12_anHour 82 = .ok (.invokevirtual 220, 3) := by decide +kernel
theorem dX12_anHour_85 : decode cX12_anHour 85 = .ok (.iconst (-1), 1) := by decide +kernel
theorem dX12_anHour_86 : decode cX12_anHour 86 = .ok (.if_icmp .eq 25, 3) := by decide +kernel
theorem dX12_anHour_89 : decode cX12_anHour 89 = .ok (.aload_n 0, 1) := by decide +kernel
theorem dX12_anHour_90 : decode cX12_anHour 90 = .ok (.iload_n 2, 1) := by decide +kernel
theorem dX12_anHour_91 : decode cX12_anHour 91 = .ok (.aload_n 0, 1) := by decide +kernel
theorem dX12_anHour_92 : decode cX12_anHour 92 = .ok (.iload_n 2, 1) := by decide +kernel
theorem dX12_anHour_93 : decode cX12_anHour 93 = .ok (.iconst 3, 1) := by decide +kernel
theorem dX12_anHour_94 : decode cX12_anHour 94 = .ok (.invokevirtual 220, 3) := by decide +kernel
theorem dX12_anHour_97 : decode cX12_anHour 97 = .ok (.invokevirtual 226, 3) := by decide +kernel
theorem dX12_anHour_100 : decode cX12_anHour 100 = .ok (.ifCond .eq 11, 3) := by decide +kernel
theorem dX12_anHour_103 : decode cX12_anHour 103 = .ok (.aload_n 0, 1) := by decide +kernel
theorem dX12_anHour_104 : decode cX12_anHour 104 = .ok (.iload_n 2, 1) := by decide +kernel
theorem dX12_anHour_105 : decode cX12_anHour 105 = .ok (.bipush 8, 2) := by decide +kernel
theorem dX12_anHour_107 : decode cX12_anHour 107 = .ok (.iconst 1, 1) := by decide +kernel
theorem dX12_anHour_108 : decode cX12_anHour 108 = .ok (.invokevirtual 54, 3) := by decide +kernel
theorem dX12_anHour_111 : decode cX12_anHour 111 = .ok (.iinc 2 1, 3) := by decide +kernel
theorem dX12_anHour_114 : decode cX12_anHour 114 = .ok (.goto (-55), 3) := by decide +kernel
theorem dX12_anHour_117 : decode cX12_anHour 117 = .ok (.iconst 0, 1) := by decide +kernel
theorem dX12_anHour_118 : decode cX12_anHour 118 = .ok (.istore_n 2, 1) := by decide +kernel
theorem dX12_anHour_119 : decode cX12_anHour 119 = .ok (.iload_n 2, 1) := by decide +kernel
theorem dX12_anHour_120 : decode cX12_anHour 120 = .ok (.aload_n 0, 1) := by decide +kernel
theorem dX12_anHour_121 : decode cX12_anHour 121 = .ok (.getfield 7, 3) := by decide +kernel
theorem dX12_anHour_124 : decode cX12_anHour 124 = .ok (.iconst 3, 1) := by decide +kernel
theorem dX12_anHour_125 : decode cX12_anHour 125 = .ok (.iaload, 1) := by decide +kernel
theorem dX12_anHour_126 : decode cX12_anHour 126 = .ok (.if_icmp .ge 24, 3) := by decide +kernel
theorem dX12_anHour_129 : decode cX12_anHour 129 = .ok (.aload_n 0, 1) := by decide +kernel
theorem dX12_anHour_130 : decode cX12_anHour 130 = .ok (.iload_n 2, 1) := by decide +kernel
theorem dX12_anHour_131 : decode cX12_anHour 131 = .ok (.iload_n 1, 1) := by decide +kernel
theorem dX12_anHour_132 : decode cX12_anHour 132 = .ok (.invokevirtual 276, 3) := by decide +kernel
theorem dX12_anHour_135 : decode cX12_anHour 135 = .ok (.ifCond .eq 9, 3) := by decide +kernel
theorem dX12_anHour_138 : decode cX12_anHour 138 = .ok (.aload_n 0, 1) := by decide +kernel
theorem dX12_anHour_139 : decode cX12_anHour 139 = .ok (.iload_n 2, 1) := by decide +kernel
theorem dX12_anHour_140 : decode cX12_anHour 140 = .ok (.iload_n 1, 1) := by decide +kernel
theorem dX12_anHour_141 : decode cX12_anHour 141 = .ok (.invokevirtual 267, 3) := by decide +kernel
theorem dX12_anHour_144 : decode cX12_anHour 144 = .ok (.iinc 2 1, 3) := by decide +kernel
theorem dX12_anHour_147 : decode cX12_anHour 147 = .ok (.goto (-28), 3) := by decide +kernel
theorem dX12_anHour_150 : decode cX12_anHour 150 = .ok (.iconst 0, 1) := by decide +kernel
theorem dX12_anHour_151 : decode cX12_anHour 151 = .ok (.istore_n 2, 1) := by decide +kernel
theorem dX12_anHour_152 : decode cX12_anHour 152 = .ok (.iload_n 2, 1) := by decide +kernel
theorem dX12_anHour_153 : decode cX12_anHour 153 = .ok (.aload_n 0, 1) := by decide +kernel
theorem dX12_anHour_154 : decode cX12_anHour 154 = .ok (.getfield 7, 3) := by decide +kernel
theorem dX12_anHour_157 : decode cX12_anHour 157 = .ok (.bipush 7, 2) := by decide +kernel
theorem dX12_anHour_159 : decode cX12_anHour 159 = .ok (.iaload, 1) := by decide +kernel
theorem dX12_anHour_160 : decode cX12_anHour 160 = .ok (.if_icmp .ge 98, 3) := by decide +kernel
theorem dX12_anHour_163 : decode cX12_anHour 163 = .ok (.sipush 1500, 3) := by decide +kernel
theorem dX12_anHour_166 : decode cX12_anHour 166 = .ok (.iconst 5, 1) := by decide +kernel
theorem dX12_anHour_167 : decode cX12_anHour 167 = .ok (.iload_n 2, 1) := by decide +kernel
theorem dX12_anHour_168 : decode cX12_anHour 168 = .ok (.imul, 1) := by decide +kernel
theorem dX12_anHour_169 : decode cX12_anHour 169 = .ok (.iadd, 1) := by decide +kernel
theorem dX12_anHour_170 : decode cX12_anHour 170 = .ok (.istore_n 3, 1) := by decide +kernel
theorem dX12_anHour_171 : decode cX12_anHour 171 = .ok (.aload_n 0, 1) := by decide +kernel
theorem dX12_anHour_172 : decode cX12_anHour 172 = .ok (.getfield 279, 3) := by decide +kernel
theorem dX12_anHour_175 : decode cX12_anHour 175 = .ok (.iload_n 2, 1) := by decide +kernel
theorem dX12_anHour_176 : decode cX12_anHour 176 = .ok (.ishr, 1) := by decide +kernel
theorem dX12_anHour_177 : decode cX12_anHour 177 = .ok (.iconst 1, 1) := by decide +kernel
theorem dX12_anHour_178 : decode cX12_anHour 178 = .ok (.iand, 1) := by decide +kernel
theorem dX12_anHour_179 : decode cX12_anHour 179 = .ok (.ifCond .eq 73, 3) := by decide +kernel
theorem dX12_anHour_182 : decode cX12_anHour 182 = .ok (.aload_n 0, 1) := by decide +kernel
theorem dX12_anHour_183 : decode cX12_anHour 183 = .ok (.getfield 7, 3) := by decide +kernel
theorem dX12_anHour_186 : decode cX12_anHour 186 = .ok (.iload_n 3, 1) := by decide +kernel
theorem dX12_anHour_187 : decode cX12_anHour 187 = .ok (.iaload, 1) := by decide +kernel
theorem dX12_anHour_188 : decode cX12_anHour 188 = .ok (.iload_n 1, 1) := by decide +kernel
theorem dX12_anHour_189 : decode cX12_anHour 189 = .ok (.if_icmp .eq 6, 3) := by decide +kernel
theorem dX12_anHour_192 : decode cX12_anHour 192 = .ok (.goto 60, 3) := by decide +kernel
theorem dX12_anHour_195 : decode cX12_anHour 195 = .ok (.aload_n 0, 1) := by decide +kernel
theorem dX12_anHour_196 : decode cX12_anHour 196 = .ok (.aload_n 0, 1) := by decide +kernel
theorem dX12_anHour_197 : decode cX12_anHour 197 = .ok (.getfield 7, 3) := by decide +kernel
theorem dX12_anHour_200 : decode cX12_anHour 200 = .ok (.iload_n 3, 1) := by decide +kernel
theorem dX12_anHour_201 : decode cX12_anHour 201 = .ok (.iconst 1, 1) := by decide +kernel
theorem dX12_anHour_202 : decode cX12_anHour 202 = .ok (.iadd, 1) := by decide +kernel
theorem dX12_anHour_203 : decode cX12_anHour 203 = .ok (.iaload, 1) := by decide +kernel
theorem dX12_anHour_204 : decode cX12_anHour 204 = .ok (.aload_n 0, 1) := by decide +kernel
theorem dX12_anHour_205 : decode cX12_anHour 205 = .ok (.getfield 7, 3) := by decide +kernel
theorem dX12_anHour_208 : decode cX12_anHour 208 = .ok (.iload_n 3, 1) := by decide +kernel
theorem dX12_anHour_209 : decode cX12_anHour 209 = .ok (.iconst 2, 1) := by decide +kernel
theorem dX12_anHour_210 : decode cX12_anHour 210 = .ok (.iadd, 1) := by decide +kernel
theorem dX12_anHour_211 : decode cX12_anHour 211 = .ok (.iaload, 1) := by decide +kernel
theorem dX12_anHour_212 : decode cX12_anHour 212 = .ok (.iadd, 1) := by decide +kernel
theorem dX12_anHour_213 : decode cX12_anHour 213 = .ok (.aload_n 0, 1) := by decide +kernel
theorem dX12_anHour_214 : decode cX12_anHour 214 = .ok (.getfield 7, 3) := by decide +kernel
theorem dX12_anHour_217 : decode cX12_anHour 217 = .ok (.iload_n 3, 1) := by decide +kernel
theorem dX12_anHour_218 : decode cX12_anHour 218 = .ok (.iconst 3, 1) := by decide +kernel
theorem dX12_anHour_219 : decode cX12_anHour 219 = .ok (.iadd, 1) := by decide +kernel
theorem dX12_anHour_220 : decode cX12_anHour 220 = .ok (.iaload, 1) := by decide +kernel
theorem dX12_anHour_221 : decode cX12_anHour 221 = .ok (.iconst 0, 1) := by decide +kernel
theorem dX12_anHour_222 : decode cX12_anHour 222 = .ok (.iload_n 1, 1) := by decide +kernel
theorem dX12_anHour_223 : decode cX12_anHour 223 = .ok (.invokevirtual 257, 3) := by decide +kernel
theorem dX12_anHour_226 : decode cX12_anHour 226 = .ok (.pop, 1) := by decide +kernel
theorem dX12_anHour_227 : decode cX12_anHour 227 = .ok (.aload_n 0, 1) := by decide +kernel
theorem dX12_anHour_228 : decode cX12_anHour 228 = .ok (.iconst (-1), 1) := by decide +kernel
theorem dX12_anHour_229 : decode cX12_anHour 229 = .ok (.aload_n 0, 1) := by decide +kernel
theorem dX12_anHour_230 : decode cX12_anHour 230 = .ok (.getfield 7, 3) := by decide +kernel
theorem dX12_anHour_233 : decode cX12_anHour 233 = .ok (.iload_n 3, 1) := by decide +kernel
theorem dX12_anHour_234 : decode cX12_anHour 234 = .ok (.iconst 1, 1) := by decide +kernel
theorem dX12_anHour_235 : decode cX12_anHour 235 = .ok (.iadd, 1) := by decide +kernel
theorem dX12_anHour_236 : decode cX12_anHour 236 = .ok (.iaload, 1) := by decide +kernel
theorem dX12_anHour_237 : decode cX12_anHour 237 = .ok (.iconst 1, 1) := by decide +kernel
theorem dX12_anHour_238 : decode cX12_anHour 238 = .ok (.iadd, 1) := by decide +kernel
theorem dX12_anHour_239 : decode cX12_anHour 239 = .ok (.aload_n 0, 1) := by decide +kernel
theorem dX12_anHour_240 : decode cX12_anHour 240 = .ok (.getfield 7, 3) := by decide +kernel
theorem dX12_anHour_243 : decode cX12_anHour 243 = .ok (.iload_n 3, 1) := by decide +kernel
theorem dX12_anHour_244 : decode cX12_anHour 244 = .ok (.iconst 2, 1) := by decide +kernel
theorem dX12_anHour_245 : decode cX12_anHour 245 = .ok (.iadd, 1) := by decide +kernel
theorem dX12_anHour_246 : decode cX12_anHour 246 = .ok (.iaload, 1) := by decide +kernel
theorem dX12_anHour_247 : decode cX12_anHour 247 = .ok (.isub, 1) := by decide +kernel
theorem dX12_anHour_248 : decode cX12_anHour 248 = .ok (.iload_n 1, 1) := by decide +kernel
theorem dX12_anHour_249 : decode cX12_anHour 249 = .ok (.invokevirtual 261, 3) := by decide +kernel
theorem dX12_anHour_252 : decode cX12_anHour 252 = .ok (.iinc 2 1, 3) := by decide +kernel
theorem dX12_anHour_255 : decode cX12_anHour 255 = .ok (.goto (-103), 3) := by decide +kernel
theorem dX12_anHour_258 : decode cX12_anHour 258 = .ok (.aload_n 0, 1) := by decide +kernel
theorem dX12_anHour_259 : decode cX12_anHour 259 = .ok (.getfield 7, 3) := by decide +kernel
theorem dX12_anHour_262 : decode cX12_anHour 262 = .ok (.iconst 1, 1) := by decide +kernel
theorem dX12_anHour_263 : decode cX12_anHour 263 = .ok (.dup2, 1) := by decide +kernel
theorem dX12_anHour_264 : decode cX12_anHour 264 = .ok (.iaload, 1) := by decide +kernel
theorem dX12_anHour_265 : decode cX12_anHour 265 = .ok (.iconst 1, 1) := by decide +kernel
theorem dX12_anHour_266 : decode cX12_anHour 266 = .ok (.iadd, 1) := by decide +kernel
theorem dX12_anHour_267 : decode cX12_anHour 267 = .ok (.iastore, 1) := by decide +kernel
theorem dX12_anHour_268 : decode cX12_anHour 268 = .ok (.return_, 1) := by decide +kernel
theorem dX12_hours_0 : decode cX12_hours 0 = .ok (.iload_n 1, 1) := by decide +kernel
theorem dX12_hours_1 : decode cX12_hours 1 = .ok (.iconst 1, 1) := by decide +kernel
theorem dX12_hours_2 : decode cX12_hours 2 = .ok (.if_icmp .lt 17, 3) := by decide +kernel
theorem dX12_hours_5 : decode cX12_hours 5 = .ok (.iload_n 1, 1) := by decide +kernel
theorem dX12_hours_6 : decode cX12_hours 6 = .ok (.sipush 168, 3) := by decide +kernel
theorem dX12_hours_9 : decode cX12_hours 9 = .ok (.aload_n 0, 1) := by decide +kernel
theorem dX12_hours_10 : decode cX12_hours 10 = .ok (.getfield 7, 3) := by decide +kernel
theorem dX12_hours_13 : decode cX12_hours 13 = .ok (.iconst 1, 1) := by decide +kernel
theorem dX12_hours_14 : decode cX12_hours 14 = .ok (.iaload, 1) := by decide +kernel
theorem dX12_hours_15 : decode cX12_hours 15 = .ok (.isub, 1) := by decide +kernel
theorem dX12_hours_16 : decode cX12_hours 16 = .ok (.if_icmp .le 5, 3) := by decide +kernel
theorem dX12_hours_19 : decode cX12_hours 19 = .ok (.iconst (-1), 1) := by decide +kernel
theorem dX12_hours_20 : decode cX12_hours 20 = .ok (.ireturn, 1) := by decide +kernel
theorem dX12_hours_21 : decode cX12_hours 21 = .ok (.aload_n 0, 1) := by decide +kernel
theorem dX12_hours_22 : decode cX12_hours 22 = .ok (.iconst 0, 1) := by decide +kernel
theorem dX12_hours_23 : decode cX12_hours 23 = .ok (.putfield 254, 3) := by decide +kernel
theorem dX12_hours_26 : decode cX12_hours 26 = .ok (.iconst 0, 1) := by decide +kernel
theorem dX12_hours_27 : decode cX12_hours 27 = .ok (.istore_n 2, 1) := by decide +kernel
theorem dX12_hours_28 : decode cX12_hours 28 = .ok (.iload_n 2, 1) := by decide +kernel
theorem dX12_hours_29 : decode cX12_hours 29 = .ok (.iload_n 1, 1) := by decide +kernel
theorem dX12_hours_30 : decode cX12_hours 30 = .ok (.if_icmp .ge 13, 3) := by decide +kernel
theorem dX12_hours_33 : decode cX12_hours 33 = .ok (.aload_n 0, 1) := by decide +kernel
theorem dX12_hours_34 : decode cX12_hours 34 = .ok (.invokevirtual 282, 3) := by decide +kernel
theorem dX12_hours_37 : decode cX12_hours 37 = .ok (.iinc 2 1, 3) := by decide +kernel
theorem dX12_hours_40 : decode cX12_hours 40 = .ok (.goto (-12), 3) := by decide +kernel
theorem dX12_hours_43 : decode cX12_hours 43 = .ok (.aload_n 0, 1) := by decide +kernel
theorem dX12_hours_44 : decode cX12_hours 44 = .ok (.getfield 254, 3) := by decide +kernel
theorem dX12_hours_47 : decode cX12_hours 47 = .ok (.ireturn, 1) := by decide +kernel
theorem dX12_of_0 : decode cX12_of 0 = .ok (.aload_n 0, 1) := by decide +kernel
theorem dX12_of_1 : decode cX12_of 1 = .ok (.iload_n 1, 1) := by decide +kernel
theorem dX12_of_2 : decode cX12_of 2 = .ok (.invokevirtual 68, 3) := by decide +kernel
theorem dX12_of_5 : decode cX12_of 5 = .ok (.ifCond .ne 6, 3) := by decide +kernel
theorem dX12_of_8 : decode cX12_of 8 = .ok (.bipush (-2), 2) := by decide +kernel
theorem dX12_of_10 : decode cX12_of 10 = .ok (.ireturn, 1) := by decide +kernel
theorem dX12_of_11 : decode cX12_of 11 = .ok (.iload_n 2, 1) := by decide +kernel
theorem dX12_of_12 : decode cX12_of 12 = .ok (.tableswitch 85 0 5 #[40, 47, 54, 62, 70, 77], 40) := by decide +kernel
theorem dX12_of_52 : decode cX12_of 52 = .ok (.aload_n 0, 1) := by decide +kernel
theorem dX12_of_53 : decode cX12_of 53 = .ok (.iload_n 1, 1) := by decide +kernel
theorem dX12_of_54 : decode cX12_of 54 = .ok (.iconst 0, 1) := by decide +kernel
theorem dX12_of_55 : decode cX12_of 55 = .ok (.invokevirtual 220, 3) := by decide +kernel
theorem dX12_of_58 : decode cX12_of 58 = .ok (.ireturn, 1) := by decide +kernel
theorem dX12_of_59 : decode cX12_of 59 = .ok (.aload_n 0, 1) := by decide +kernel
theorem dX12_of_60 : decode cX12_of 60 = .ok (.iload_n 1, 1) := by decide +kernel
theorem dX12_of_61 : decode cX12_of 61 = .ok (.iconst 5, 1) := by decide +kernel
theorem dX12_of_62 : decode cX12_of 62 = .ok (.invokevirtual 220, 3) := by decide +kernel
theorem dX12_of_65 : decode cX12_of 65 = .ok (.ireturn, 1) := by decide +kernel
theorem dX12_of_66 : decode cX12_of 66 = .ok (.aload_n 0, 1) := by decide +kernel
theorem dX12_of_67 : decode cX12_of 67 = .ok (.iload_n 1, 1) := by decide +kernel
theorem dX12_of_68 : decode cX12_of 68 = .ok (.bipush 6, 2) := by decide +kernel
theorem dX12_of_70 : decode cX12_of 70 = .ok (.invokevirtual 220, 3) := by decide +kernel
theorem dX12_of_73 : decode cX12_of 73 = .ok (.ireturn, 1) := by decide +kernel
theorem dX12_of_74 : decode cX12_of 74 = .ok (.aload_n 0, 1) := by decide +kernel
theorem dX12_of_75 : decode cX12_of 75 = .ok (.iload_n 1, 1) := by decide +kernel
theorem dX12_of_76 : decode cX12_of 76 = .ok (.bipush 7, 2) := by decide +kernel
theorem dX12_of_78 : decode cX12_of 78 = .ok (.invokevirtual 220, 3) := by decide +kernel
theorem dX12_of_81 : decode cX12_of 81 = .ok (.ireturn, 1) := by decide +kernel
theorem dX12_of_82 : decode cX12_of 82 = .ok (.aload_n 0, 1) := by decide +kernel
theorem dX12_of_83 : decode cX12_of 83 = .ok (.iload_n 1, 1) := by decide +kernel
theorem dX12_of_84 : decode cX12_of 84 = .ok (.iconst 2, 1) := by decide +kernel
theorem dX12_of_85 : decode cX12_of 85 = .ok (.invokevirtual 220, 3) := by decide +kernel
theorem dX12_of_88 : decode cX12_of 88 = .ok (.ireturn, 1) := by decide +kernel
theorem dX12_of_89 : decode cX12_of 89 = .ok (.aload_n 0, 1) := by decide +kernel
theorem dX12_of_90 : decode cX12_of 90 = .ok (.iload_n 1, 1) := by decide +kernel
theorem dX12_of_91 : decode cX12_of 91 = .ok (.bipush 8, 2) := by decide +kernel
theorem dX12_of_93 : decode cX12_of 93 = .ok (.invokevirtual 220, 3) := by decide +kernel
theorem dX12_of_96 : decode cX12_of 96 = .ok (.ireturn, 1) := by decide +kernel
theorem dX12_of_97 : decode cX12_of 97 = .ok (.bipush (-2), 2) := by decide +kernel
theorem dX12_of_99 : decode cX12_of 99 = .ok (.ireturn, 1) := by decide +kernel
theorem dX12_who_0 : decode cX12_who 0 = .ok (.aload_n 0, 1) := by decide +kernel
theorem dX12_who_1 : decode cX12_who 1 = .ok (.iload_n 1, 1) := by decide +kernel
theorem dX12_who_2 : decode cX12_who 2 = .ok (.invokevirtual 77, 3) := by decide +kernel
theorem dX12_who_5 : decode cX12_who 5 = .ok (.ifCond .eq 22, 3) := by decide +kernel
theorem dX12_who_8 : decode cX12_who 8 = .ok (.iload_n 2, 1) := by decide +kernel
theorem dX12_who_9 : decode cX12_who 9 = .ok (.iconst 0, 1) := by decide +kernel
theorem dX12_who_10 : decode cX12_who 10 = .ok (.bipush 11, 2) := by decide +kernel
theorem dX12_who_12 : decode cX12_who 12 = .ok (.invokestatic 50, 3) := by decide +kernel
theorem dX12_who_15 : decode cX12_who 15 = .ok (.ifCond .eq 12, 3) := by decide +kernel
theorem dX12_who_18 : decode cX12_who 18 = .ok (.aload_n 0, 1) := by decide +kernel
theorem dX12_who_19 : decode cX12_who 19 = .ok (.iload_n 1, 1) := by decide +kernel
theorem dX12_who_20 : decode cX12_who 20 = .ok (.iload_n 2, 1) := by decide +kernel
theorem dX12_who_21 : decode cX12_who 21 = .ok (.invokevirtual 80, 3) := by decide +kernel
theorem dX12_who_24 : decode cX12_who 24 = .ok (.goto 5, 3) := by decide +kernel
theorem dX12_who_27 : decode cX12_who 27 = .ok (.bipush (-2), 2) := by decide +kernel
theorem dX12_who_29 : decode cX12_who 29 = .ok (.ireturn, 1) := by decide +kernel
theorem dX12_waits_0 : decode cX12_waits 0 = .ok (.aload_n 0, 1) := by decide +kernel
theorem dX12_waits_1 : decode cX12_waits 1 = .ok (.iload_n 1, 1) := by decide +kernel
theorem dX12_waits_2 : decode cX12_waits 2 = .ok (.invokevirtual 58, 3) := by decide +kernel
theorem dX12_waits_5 : decode cX12_waits 5 = .ok (.ifCond .ne 5, 3) := by decide +kernel
theorem dX12_waits_8 : decode cX12_waits 8 = .ok (.iconst (-1), 1) := by decide +kernel
theorem dX12_waits_9 : decode cX12_waits 9 = .ok (.ireturn, 1) := by decide +kernel
theorem dX12_waits_10 : decode cX12_waits 10 = .ok (.aload_n 0, 1) := by decide +kernel
theorem dX12_waits_11 : decode cX12_waits 11 = .ok (.iload_n 1, 1) := by decide +kernel
theorem dX12_waits_12 : decode cX12_waits 12 = .ok (.invokevirtual 233, 3) := by decide +kernel
theorem dX12_waits_15 : decode cX12_waits 15 = .ok (.iload_n 2, 1) := by decide +kernel
theorem dX12_waits_16 : decode cX12_waits 16 = .ok (.iconst 0, 1) := by decide +kernel
theorem dX12_waits_17 : decode cX12_waits 17 = .ok (.aload_n 0, 1) := by decide +kernel
theorem dX12_waits_18 : decode cX12_waits 18 = .ok (.getfield 223, 3) := by decide +kernel
theorem dX12_waits_21 : decode cX12_waits 21 = .ok (.iconst 1, 1) := by decide +kernel
theorem dX12_waits_22 : decode cX12_waits 22 = .ok (.isub, 1) := by decide +kernel
theorem dX12_waits_23 : decode cX12_waits 23 = .ok (.invokestatic 50, 3) := by decide +kernel
theorem dX12_waits_26 : decode cX12_waits 26 = .ok (.ifCond .eq 12, 3) := by decide +kernel
theorem dX12_waits_29 : decode cX12_waits 29 = .ok (.aload_n 0, 1) := by decide +kernel
theorem dX12_waits_30 : decode cX12_waits 30 = .ok (.getfield 41, 3) := by decide +kernel
theorem dX12_waits_33 : decode cX12_waits 33 = .ok (.iload_n 2, 1) := by decide +kernel
theorem dX12_waits_34 : decode cX12_waits 34 = .ok (.iaload, 1) := by decide +kernel
theorem dX12_waits_35 : decode cX12_waits 35 = .ok (.goto 4, 3) := by decide +kernel
theorem dX12_waits_38 : decode cX12_waits 38 = .ok (.iconst (-1), 1) := by decide +kernel
theorem dX12_waits_39 : decode cX12_waits 39 = .ok (.ireturn, 1) := by decide +kernel
theorem dX12_book_0 : decode cX12_book 0 = .ok (.iload_n 1, 1) := by decide +kernel
theorem dX12_book_1 : decode cX12_book 1 = .ok (.iconst 0, 1) := by decide +kernel
theorem dX12_book_2 : decode cX12_book 2 = .ok (.aload_n 0, 1) := by decide +kernel
theorem dX12_book_3 : decode cX12_book 3 = .ok (.getfield 7, 3) := by decide +kernel
theorem dX12_book_6 : decode cX12_book 6 = .ok (.bipush 6, 2) := by decide +kernel
theorem dX12_book_8 : decode cX12_book 8 = .ok (.iaload, 1) := by decide +kernel
theorem dX12_book_9 : decode cX12_book 9 = .ok (.iconst 1, 1) := by decide +kernel
theorem dX12_book_10 : decode cX12_book 10 = .ok (.isub, 1) := by decide +kernel
theorem dX12_book_11 : decode cX12_book 11 = .ok (.invokestatic 50, 3) := by decide +kernel
theorem dX12_book_14 : decode cX12_book 14 = .ok (.ifCond .eq 29, 3) := by decide +kernel
theorem dX12_book_17 : decode cX12_book 17 = .ok (.iload_n 2, 1) := by decide +kernel
theorem dX12_book_18 : decode cX12_book 18 = .ok (.iconst 0, 1) := by decide +kernel
theorem dX12_book_19 : decode cX12_book 19 = .ok (.iconst 2, 1) := by decide +kernel
theorem dX12_book_20 : decode cX12_book 20 = .ok (.invokestatic 50, 3) := by decide +kernel
theorem dX12_book_23 : decode cX12_book 23 = .ok (.ifCond .eq 20, 3) := by decide +kernel
theorem dX12_book_26 : decode cX12_book 26 = .ok (.aload_n 0, 1) := by decide +kernel
theorem dX12_book_27 : decode cX12_book 27 = .ok (.getfield 7, 3) := by decide +kernel
theorem dX12_book_30 : decode cX12_book 30 = .ok (.sipush 600, 3) := by decide +kernel
theorem dX12_book_33 : decode cX12_book 33 = .ok (.iconst 3, 1) := by decide +kernel
theorem dX12_book_34 : decode cX12_book 34 = .ok (.iload_n 1, 1) := by decide +kernel
theorem dX12_book_35 : decode cX12_book 35 = .ok (.imul, 1) := by decide +kernel
theorem dX12_book_36 : decode cX12_book 36 = .ok (.iadd, 1) := by decide +kernel
theorem dX12_book_37 : decode cX12_book 37 = .ok (.iload_n 2, 1) := by decide +kernel
theorem dX12_book_38 : decode cX12_book 38 = .ok (.iadd, 1) := by decide +kernel
theorem dX12_book_39 : decode cX12_book 39 = .ok (.iaload, 1) := by decide +kernel
theorem dX12_book_40 : decode cX12_book 40 = .ok (.goto 4, 3) := by decide +kernel
theorem dX12_book_43 : decode cX12_book 43 = .ok (.iconst (-1), 1) := by decide +kernel
theorem dX12_book_44 : decode cX12_book 44 = .ok (.ireturn, 1) := by decide +kernel
theorem dX12_begins_0 : decode cX12_begins 0 = .ok (.iconst 0, 1) := by decide +kernel
theorem dX12_begins_1 : decode cX12_begins 1 = .ok (.istore_n 1, 1) := by decide +kernel
theorem dX12_begins_2 : decode cX12_begins 2 = .ok (.iload_n 1, 1) := by decide +kernel
theorem dX12_begins_3 : decode cX12_begins 3 = .ok (.sipush 600, 3) := by decide +kernel
theorem dX12_begins_6 : decode cX12_begins 6 = .ok (.if_icmp .ge 21, 3) := by decide +kernel
theorem dX12_begins_9 : decode cX12_begins 9 = .ok (.aload_n 0, 1) := by decide +kernel
theorem dX12_begins_10 : decode cX12_begins 10 = .ok (.getfield 16, 3) := by decide +kernel
theorem dX12_begins_13 : decode cX12_begins 13 = .ok (.iload_n 1, 1) := by decide +kernel
theorem dX12_begins_14 : decode cX12_begins 14 = .ok (.aload_n 0, 1) := by decide +kernel
theorem dX12_begins_15 : decode cX12_begins 15 = .ok (.getfield 7, 3) := by decide +kernel
theorem dX12_begins_18 : decode cX12_begins 18 = .ok (.iload_n 1, 1) := by decide +kernel
theorem dX12_begins_19 : decode cX12_begins 19 = .ok (.iaload, 1) := by decide +kernel
theorem dX12_begins_20 : decode cX12_begins 20 = .ok (.iastore, 1) := by decide +kernel
theorem dX12_begins_21 : decode cX12_begins 21 = .ok (.iinc 1 1, 3) := by decide +kernel
theorem dX12_begins_24 : decode cX12_begins 24 = .ok (.goto (-22), 3) := by decide +kernel
theorem dX12_begins_27 : decode cX12_begins 27 = .ok (.aload_n 0, 1) := by decide +kernel
theorem dX12_begins_28 : decode cX12_begins 28 = .ok (.iconst 1, 1) := by decide +kernel
theorem dX12_begins_29 : decode cX12_begins 29 = .ok (.putfield 244, 3) := by decide +kernel
theorem dX12_begins_32 : decode cX12_begins 32 = .ok (.return_, 1) := by decide +kernel
theorem dX12_comesBack_0 : decode cX12_comesBack 0 = .ok (.iconst 0, 1) := by decide +kernel
theorem dX12_comesBack_1 : decode cX12_comesBack 1 = .ok (.istore_n 1, 1) := by decide +kernel
theorem dX12_comesBack_2 : decode cX12_comesBack 2 = .ok (.iload_n 1, 1) := by decide +kernel
theorem dX12_comesBack_3 : decode cX12_comesBack 3 = .ok (.sipush 600, 3) := by decide +kernel
theorem dX12_comesBack_6 : decode cX12_comesBack 6 = .ok (.if_icmp .ge 21, 3) := by decide +kernel
theorem dX12_comesBack_9 : decode cX12_comesBack 9 = .ok (.aload_n 0, 1) := by decide +kernel
theorem dX12_comesBack_10 : decode cX12_comesBack 10 = .ok (.getfield 7, 3) := by decide +kernel
theorem dX12_comesBack_13 : decode cX12_comesBack 13 = .ok (.iload_n 1, 1) := by decide +kernel
theorem dX12_comesBack_14 : decode cX12_comesBack 14 = .ok (.aload_n 0, 1) := by decide +kernel
theorem dX12_comesBack_15 : decode cX12_comesBack 15 = .ok (.getfield 16, 3) := by decide +kernel
theorem dX12_comesBack_18 : decode cX12_comesBack 18 = .ok (.iload_n 1, 1) := by decide +kernel
theorem dX12_comesBack_19 : decode cX12_comesBack 19 = .ok (.iaload, 1) := by decide +kernel
theorem dX12_comesBack_20 : decode cX12_comesBack 20 = .ok (.iastore, 1) := by decide +kernel
theorem dX12_comesBack_21 : decode cX12_comesBack 21 = .ok (.iinc 1 1, 3) := by decide +kernel
theorem dX12_comesBack_24 : decode cX12_comesBack 24 = .ok (.goto (-22), 3) := by decide +kernel
theorem dX12_comesBack_27 : decode cX12_comesBack 27 = .ok (.aload_n 0, 1) := by decide +kernel
theorem dX12_comesBack_28 : decode cX12_comesBack 28 = .ok (.iconst 0, 1) := by decide +kernel
theorem dX12_comesBack_29 : decode cX12_comesBack 29 = .ok (.putfield 244, 3) := by decide +kernel
theorem dX12_comesBack_32 : decode cX12_comesBack 32 = .ok (.aload_n 0, 1) := by decide +kernel
theorem dX12_comesBack_33 : decode cX12_comesBack 33 = .ok (.iconst (-1), 1) := by decide +kernel
theorem dX12_comesBack_34 : decode cX12_comesBack 34 = .ok (.putfield 38, 3) := by decide +kernel
theorem dX12_comesBack_37 : decode cX12_comesBack 37 = .ok (.aload_n 0, 1) := by decide +kernel
theorem dX12_comesBack_38 : decode cX12_comesBack 38 = .ok (.iconst 0, 1) := by decide +kernel
theorem dX12_comesBack_39 : decode cX12_comesBack 39 = .ok (.putfield 270, 3) := by decide +kernel
theorem dX12_comesBack_42 : decode cX12_comesBack 42 = .ok (.aload_n 0, 1) := by decide +kernel
theorem dX12_comesBack_43 : decode cX12_comesBack 43 = .ok (.iconst 0, 1) := by decide +kernel
theorem dX12_comesBack_44 : decode cX12_comesBack 44 = .ok (.putfield 279, 3) := by decide +kernel
theorem dX12_comesBack_47 : decode cX12_comesBack 47 = .ok (.return_, 1) := by decide +kernel
theorem dX12_watches_0 : decode cX12_watches 0 = .ok (.aload_n 0, 1) := by decide +kernel
theorem dX12_watches_1 : decode cX12_watches 1 = .ok (.iload_n 1, 1) := by decide +kernel
theorem dX12_watches_2 : decode cX12_watches 2 = .ok (.putfield 38, 3) := by decide +kernel
theorem dX12_watches_5 : decode cX12_watches 5 = .ok (.aload_n 0, 1) := by decide +kernel
theorem dX12_watches_6 : decode cX12_watches 6 = .ok (.iload_n 2, 1) := by decide +kernel
theorem dX12_watches_7 : decode cX12_watches 7 = .ok (.putfield 214, 3) := by decide +kernel
theorem dX12_watches_10 : decode cX12_watches 10 = .ok (.aload_n 0, 1) := by decide +kernel
theorem dX12_watches_11 : decode cX12_watches 11 = .ok (.iconst (-1), 1) := by decide +kernel
theorem dX12_watches_12 : decode cX12_watches 12 = .ok (.putfield 217, 3) := by decide +kernel
theorem dX12_watches_15 : decode cX12_watches 15 = .ok (.return_, 1) := by decide +kernel
theorem dX12_over_0 : decode cX12_over 0 = .ok (.aload_n 0, 1) := by decide +kernel
theorem dX12_over_1 : decode cX12_over 1 = .ok (.iload_n 1, 1) := by decide +kernel
theorem dX12_over_2 : decode cX12_over 2 = .ok (.invokevirtual 68, 3) := by decide +kernel
theorem dX12_over_5 : decode cX12_over 5 = .ok (.ifCond .eq 11, 3) := by decide +kernel
theorem dX12_over_8 : decode cX12_over 8 = .ok (.aload_n 0, 1) := by decide +kernel
theorem dX12_over_9 : decode cX12_over 9 = .ok (.iload_n 2, 1) := by decide +kernel
theorem dX12_over_10 : decode cX12_over 10 = .ok (.invokevirtual 58, 3) := by decide +kernel
theorem dX12_over_13 : decode cX12_over 13 = .ok (.ifCond .ne 5, 3) := by decide +kernel
theorem dX12_over_16 : decode cX12_over 16 = .ok (.iconst (-1), 1) := by decide +kernel
theorem dX12_over_17 : decode cX12_over 17 = .ok (.ireturn, 1) := by decide +kernel
theorem dX12_over_18 : decode cX12_over 18 = .ok (.aload_n 0, 1) := by decide +kernel
theorem dX12_over_19 : decode cX12_over 19 = .ok (.iload_n 1, 1) := by decide +kernel
theorem dX12_over_20 : decode cX12_over 20 = .ok (.iload_n 2, 1) := by decide +kernel
theorem dX12_over_21 : decode cX12_over 21 = .ok (.invokevirtual 226, 3) := by decide +kernel
theorem dX12_over_24 : decode cX12_over 24 = .ok (.ifCond .eq 10, 3) := by decide +kernel
theorem dX12_over_27 : decode cX12_over 27 = .ok (.aload_n 0, 1) := by decide +kernel
theorem dX12_over_28 : decode cX12_over 28 = .ok (.getfield 7, 3) := by decide +kernel
theorem dX12_over_31 : decode cX12_over 31 = .ok (.iconst 1, 1) := by decide +kernel
theorem dX12_over_32 : decode cX12_over 32 = .ok (.iaload, 1) := by decide +kernel
theorem dX12_over_33 : decode cX12_over 33 = .ok (.ireturn, 1) := by decide +kernel
theorem dX12_over_34 : decode cX12_over 34 = .ok (.aload_n 0, 1) := by decide +kernel
theorem dX12_over_35 : decode cX12_over 35 = .ok (.invokevirtual 285, 3) := by decide +kernel
theorem dX12_over_38 : decode cX12_over 38 = .ok (.aload_n 0, 1) := by decide +kernel
theorem dX12_over_39 : decode cX12_over 39 = .ok (.iload_n 1, 1) := by decide +kernel
theorem dX12_over_40 : decode cX12_over 40 = .ok (.iload_n 2, 1) := by decide +kernel
theorem dX12_over_41 : decode cX12_over 41 = .ok (.invokevirtual 288, 3) := by decide +kernel
theorem dX12_over_44 : decode cX12_over 44 = .ok (.aload_n 0, 1) := by decide +kernel
theorem dX12_over_45 : decode cX12_over 45 = .ok (.getfield 7, 3) := by decide +kernel
theorem dX12_over_48 : decode cX12_over 48 = .ok (.iconst 1, 1) := by decide +kernel
theorem dX12_over_49 : decode cX12_over 49 = .ok (.iaload, 1) := by decide +kernel
theorem dX12_over_50 : decode cX12_over 50 = .ok (.sipush 167, 3) := by decide +kernel
theorem dX12_over_53 : decode cX12_over 53 = .ok (.if_icmp .gt 18, 3) := by decide +kernel
theorem dX12_over_56 : decode cX12_over 56 = .ok (.aload_n 0, 1) := by decide +kernel
theorem dX12_over_57 : decode cX12_over 57 = .ok (.getfield 217, 3) := by decide +kernel
theorem dX12_over_60 : decode cX12_over 60 = .ok (.iconst (-1), 1) := by decide +kernel
theorem dX12_over_61 : decode cX12_over 61 = .ok (.if_icmp .ne 10, 3) := by decide +kernel
theorem dX12_over_64 : decode cX12_over 64 = .ok (.aload_n 0, 1) := by decide +kernel
theorem dX12_over_65 : decode cX12_over 65 = .ok (.invokevirtual 282, 3) := by decide +kernel
theorem dX12_over_68 : decode cX12_over 68 = .ok (.goto (-24), 3) := by decide +kernel
theorem dX12_over_71 : decode cX12_over 71 = .ok (.aload_n 0, 1) := by decide +kernel
theorem dX12_over_72 : decode cX12_over 72 = .ok (.getfield 217, 3) := by decide +kernel
theorem dX12_over_75 : decode cX12_over 75 = .ok (.istore_n 3, 1) := by decide +kernel
theorem dX12_over_76 : decode cX12_over 76 = .ok (.aload_n 0, 1) := by decide +kernel
theorem dX12_over_77 : decode cX12_over 77 = .ok (.invokevirtual 291, 3) := by decide +kernel
theorem dX12_over_80 : decode cX12_over 80 = .ok (.iload_n 3, 1) := by decide +kernel
theorem dX12_over_81 : decode cX12_over 81 = .ok (.ireturn, 1) := by decide +kernel
theorem dX12_back_0 : decode cX12_back 0 = .ok (.aload_n 0, 1) := by decide +kernel
theorem dX12_back_1 : decode cX12_back 1 = .ok (.iload_n 1, 1) := by decide +kernel
theorem dX12_back_2 : decode cX12_back 2 = .ok (.invokevirtual 68, 3) := by decide +kernel
theorem dX12_back_5 : decode cX12_back 5 = .ok (.ifCond .ne 5, 3) := by decide +kernel
theorem dX12_back_8 : decode cX12_back 8 = .ok (.iconst (-1), 1) := by decide +kernel
theorem dX12_back_9 : decode cX12_back 9 = .ok (.ireturn, 1) := by decide +kernel
theorem dX12_back_10 : decode cX12_back 10 = .ok (.aload_n 0, 1) := by decide +kernel
theorem dX12_back_11 : decode cX12_back 11 = .ok (.invokevirtual 285, 3) := by decide +kernel
theorem dX12_back_14 : decode cX12_back 14 = .ok (.aload_n 0, 1) := by decide +kernel
theorem dX12_back_15 : decode cX12_back 15 = .ok (.getfield 7, 3) := by decide +kernel
theorem dX12_back_18 : decode cX12_back 18 = .ok (.iconst 1, 1) := by decide +kernel
theorem dX12_back_19 : decode cX12_back 19 = .ok (.iaload, 1) := by decide +kernel
theorem dX12_back_20 : decode cX12_back 20 = .ok (.sipush 167, 3) := by decide +kernel
