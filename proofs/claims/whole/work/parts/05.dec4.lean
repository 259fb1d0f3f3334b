theorem dX12_back_23 : decode cX12_back 23 = .ok (.if_icmp .gt 10, 3) := by decide +kernel
theorem dX12_back_26 : decode cX12_back 26 = .ok (.aload_n 0, 1) := by decide +kernel
theorem dX12_back_27 : decode cX12_back 27 = .ok (.invokevirtual 282, 3) := by decide +kernel
theorem dX12_back_30 : decode cX12_back 30 = .ok (.goto (-16), 3) := by decide +kernel
theorem dX12_back_33 : decode cX12_back 33 = .ok (.aload_n 0, 1) := by decide +kernel
theorem dX12_back_34 : decode cX12_back 34 = .ok (.iload_n 1, 1) := by decide +kernel
theorem dX12_back_35 : decode cX12_back 35 = .ok (.bipush 7, 2) := by decide +kernel
theorem dX12_back_37 : decode cX12_back 37 = .ok (.invokevirtual 220, 3) := by decide +kernel
theorem dX12_back_40 : decode cX12_back 40 = .ok (.istore_n 2, 1) := by decide +kernel
theorem dX12_back_41 : decode cX12_back 41 = .ok (.aload_n 0, 1) := by decide +kernel
theorem dX12_back_42 : decode cX12_back 42 = .ok (.invokevirtual 291, 3) := by decide +kernel
theorem dX12_back_45 : decode cX12_back 45 = .ok (.iload_n 2, 1) := by decide +kernel
theorem dX12_back_46 : decode cX12_back 46 = .ok (.ireturn, 1) := by decide +kernel
theorem dX12_gathers_0 : decode cX12_gathers 0 = .ok (.aload_n 0, 1) := by decide +kernel
theorem dX12_gathers_1 : decode cX12_gathers 1 = .ok (.iload_n 1, 1) := by decide +kernel
theorem dX12_gathers_2 : decode cX12_gathers 2 = .ok (.invokevirtual 58, 3) := by decide +kernel
theorem dX12_gathers_5 : decode cX12_gathers 5 = .ok (.ifCond .eq 20, 3) := by decide +kernel
theorem dX12_gathers_8 : decode cX12_gathers 8 = .ok (.aload_n 0, 1) := by decide +kernel
theorem dX12_gathers_9 : decode cX12_gathers 9 = .ok (.iload_n 2, 1) := by decide +kernel
theorem dX12_gathers_10 : decode cX12_gathers 10 = .ok (.invokevirtual 62, 3) := by decide +kernel
theorem dX12_gathers_13 : decode cX12_gathers 13 = .ok (.ifCond .eq 12, 3) := by decide +kernel
theorem dX12_gathers_16 : decode cX12_gathers 16 = .ok (.iload_n 3, 1) := by decide +kernel
theorem dX12_gathers_17 : decode cX12_gathers 17 = .ok (.iconst 0, 1) := by decide +kernel
theorem dX12_gathers_18 : decode cX12_gathers 18 = .ok (.iconst 1, 1) := by decide +kernel
theorem dX12_gathers_19 : decode cX12_gathers 19 = .ok (.invokestatic 50, 3) := by decide +kernel
theorem dX12_gathers_22 : decode cX12_gathers 22 = .ok (.ifCond .ne 5, 3) := by decide +kernel
theorem dX12_gathers_25 : decode cX12_gathers 25 = .ok (.iconst (-1), 1) := by decide +kernel
theorem dX12_gathers_26 : decode cX12_gathers 26 = .ok (.ireturn, 1) := by decide +kernel
theorem dX12_gathers_27 : decode cX12_gathers 27 = .ok (.aload_n 0, 1) := by decide +kernel
theorem dX12_gathers_28 : decode cX12_gathers 28 = .ok (.invokevirtual 285, 3) := by decide +kernel
theorem dX12_gathers_31 : decode cX12_gathers 31 = .ok (.aload_n 0, 1) := by decide +kernel
theorem dX12_gathers_32 : decode cX12_gathers 32 = .ok (.getfield 7, 3) := by decide +kernel
theorem dX12_gathers_35 : decode cX12_gathers 35 = .ok (.iconst 1, 1) := by decide +kernel
theorem dX12_gathers_36 : decode cX12_gathers 36 = .ok (.iaload, 1) := by decide +kernel
theorem dX12_gathers_37 : decode cX12_gathers 37 = .ok (.iload_n 2, 1) := by decide +kernel
theorem dX12_gathers_38 : decode cX12_gathers 38 = .ok (.if_icmp .gt 10, 3) := by decide +kernel
theorem dX12_gathers_41 : decode cX12_gathers 41 = .ok (.aload_n 0, 1) := by decide +kernel
theorem dX12_gathers_42 : decode cX12_gathers 42 = .ok (.invokevirtual 282, 3) := by decide +kernel
theorem dX12_gathers_45 : decode cX12_gathers 45 = .ok (.goto (-14), 3) := by decide +kernel
theorem dX12_gathers_48 : decode cX12_gathers 48 = .ok (.iconst 0, 1) := by decide +kernel
theorem dX12_gathers_49 : decode cX12_gathers 49 = .ok (.istore 4, 2) := by decide +kernel
theorem dX12_gathers_51 : decode cX12_gathers 51 = .ok (.iconst 0, 1) := by decide +kernel
theorem dX12_gathers_52 : decode cX12_gathers 52 = .ok (.istore 5, 2) := by decide +kernel
theorem dX12_gathers_54 : decode cX12_gathers 54 = .ok (.iload 5, 2) := by decide +kernel
theorem dX12_gathers_56 : decode cX12_gathers 56 = .ok (.aload_n 0, 1) := by decide +kernel
theorem dX12_gathers_57 : decode cX12_gathers 57 = .ok (.getfield 7, 3) := by decide +kernel
theorem dX12_gathers_60 : decode cX12_gathers 60 = .ok (.iconst 2, 1) := by decide +kernel
theorem dX12_gathers_61 : decode cX12_gathers 61 = .ok (.iaload, 1) := by decide +kernel
theorem dX12_gathers_62 : decode cX12_gathers 62 = .ok (.if_icmp .ge 39, 3) := by decide +kernel
theorem dX12_gathers_65 : decode cX12_gathers 65 = .ok (.aload_n 0, 1) := by decide +kernel
theorem dX12_gathers_66 : decode cX12_gathers 66 = .ok (.iload 5, 2) := by decide +kernel
theorem dX12_gathers_68 : decode cX12_gathers 68 = .ok (.iload_n 1, 1) := by decide +kernel
theorem dX12_gathers_69 : decode cX12_gathers 69 = .ok (.invokevirtual 226, 3) := by decide +kernel
theorem dX12_gathers_72 : decode cX12_gathers 72 = .ok (.ifCond .eq 23, 3) := by decide +kernel
theorem dX12_gathers_75 : decode cX12_gathers 75 = .ok (.iload 4, 2) := by decide +kernel
theorem dX12_gathers_77 : decode cX12_gathers 77 = .ok (.iload_n 3, 1) := by decide +kernel
theorem dX12_gathers_78 : decode cX12_gathers 78 = .ok (.ifCond .ne 7, 3) := by decide +kernel
theorem dX12_gathers_81 : decode cX12_gathers 81 = .ok (.iconst 1, 1) := by decide +kernel
theorem dX12_gathers_82 : decode cX12_gathers 82 = .ok (.goto 10, 3) := by decide +kernel
theorem dX12_gathers_85 : decode cX12_gathers 85 = .ok (.aload_n 0, 1) := by decide +kernel
theorem dX12_gathers_86 : decode cX12_gathers 86 = .ok (.iload 5, 2) := by decide +kernel
theorem dX12_gathers_88 : decode cX12_gathers 88 = .ok (.iconst 0, 1) := by decide +kernel
theorem dX12_gathers_89 : decode cX12_gathers 89 = .ok (.invokevirtual 220, 3) := by decide +kernel
theorem dX12_gathers_92 : decode cX12_gathers 92 = .ok (.iadd, 1) := by decide +kernel
theorem dX12_gathers_93 : decode cX12_gathers 93 = .ok (.istore 4, 2) := by decide +kernel
theorem dX12_gathers_95 : decode cX12_gathers 95 = .ok (.iinc 5 1, 3) := by decide +kernel
theorem dX12_gathers_98 : decode cX12_gathers 98 = .ok (.goto (-44), 3) := by decide +kernel
theorem dX12_gathers_101 : decode cX12_gathers 101 = .ok (.aload_n 0, 1) := by decide +kernel
theorem dX12_gathers_102 : decode cX12_gathers 102 = .ok (.invokevirtual 291, 3) := by decide +kernel
theorem dX12_gathers_105 : decode cX12_gathers 105 = .ok (.iload 4, 2) := by decide +kernel
theorem dX12_gathers_107 : decode cX12_gathers 107 = .ok (.ireturn, 1) := by decide +kernel
theorem dX12_areHours_0 : decode cX12_areHours 0 = .ok (.iload_n 1, 1) := by decide +kernel
theorem dX12_areHours_1 : decode cX12_areHours 1 = .ok (.aload_n 0, 1) := by decide +kernel
theorem dX12_areHours_2 : decode cX12_areHours 2 = .ok (.getfield 7, 3) := by decide +kernel
theorem dX12_areHours_5 : decode cX12_areHours 5 = .ok (.iconst 1, 1) := by decide +kernel
theorem dX12_areHours_6 : decode cX12_areHours 6 = .ok (.iaload, 1) := by decide +kernel
theorem dX12_areHours_7 : decode cX12_areHours 7 = .ok (.iload_n 2, 1) := by decide +kernel
theorem dX12_areHours_8 : decode cX12_areHours 8 = .ok (.invokestatic 50, 3) := by decide +kernel
theorem dX12_areHours_11 : decode cX12_areHours 11 = .ok (.ifCond .eq 14, 3) := by decide +kernel
theorem dX12_areHours_14 : decode cX12_areHours 14 = .ok (.iload_n 2, 1) := by decide +kernel
theorem dX12_areHours_15 : decode cX12_areHours 15 = .ok (.sipush 167, 3) := by decide +kernel
theorem dX12_areHours_18 : decode cX12_areHours 18 = .ok (.if_icmp .gt 7, 3) := by decide +kernel
theorem dX12_areHours_21 : decode cX12_areHours 21 = .ok (.iconst 1, 1) := by decide +kernel
theorem dX12_areHours_22 : decode cX12_areHours 22 = .ok (.goto 4, 3) := by decide +kernel
theorem dX12_areHours_25 : decode cX12_areHours 25 = .ok (.iconst 0, 1) := by decide +kernel
theorem dX12_areHours_26 : decode cX12_areHours 26 = .ok (.ireturn, 1) := by decide +kernel
theorem dX12_best_0 : decode cX12_best 0 = .ok (.aload_n 0, 1) := by decide +kernel
theorem dX12_best_1 : decode cX12_best 1 = .ok (.iload_n 1, 1) := by decide +kernel
theorem dX12_best_2 : decode cX12_best 2 = .ok (.iload_n 2, 1) := by decide +kernel
theorem dX12_best_3 : decode cX12_best 3 = .ok (.iload_n 3, 1) := by decide +kernel
theorem dX12_best_4 : decode cX12_best 4 = .ok (.invokevirtual 71, 3) := by decide +kernel
theorem dX12_best_7 : decode cX12_best 7 = .ok (.ifCond .eq 24, 3) := by decide +kernel
theorem dX12_best_10 : decode cX12_best 10 = .ok (.aload_n 0, 1) := by decide +kernel
theorem dX12_best_11 : decode cX12_best 11 = .ok (.iload 4, 2) := by decide +kernel
theorem dX12_best_13 : decode cX12_best 13 = .ok (.iload 5, 2) := by decide +kernel
theorem dX12_best_15 : decode cX12_best 15 = .ok (.invokevirtual 294, 3) := by decide +kernel
theorem dX12_best_18 : decode cX12_best 18 = .ok (.ifCond .eq 13, 3) := by decide +kernel
theorem dX12_best_21 : decode cX12_best 21 = .ok (.iload 6, 2) := by decide +kernel
theorem dX12_best_23 : decode cX12_best 23 = .ok (.iconst 0, 1) := by decide +kernel
theorem dX12_best_24 : decode cX12_best 24 = .ok (.iconst 1, 1) := by decide +kernel
theorem dX12_best_25 : decode cX12_best 25 = .ok (.invokestatic 50, 3) := by decide +kernel
theorem dX12_best_28 : decode cX12_best 28 = .ok (.ifCond .ne 5, 3) := by decide +kernel
theorem dX12_best_31 : decode cX12_best 31 = .ok (.iconst (-1), 1) := by decide +kernel
theorem dX12_best_32 : decode cX12_best 32 = .ok (.ireturn, 1) := by decide +kernel
theorem dX12_best_33 : decode cX12_best 33 = .ok (.iconst (-1), 1) := by decide +kernel
theorem dX12_best_34 : decode cX12_best 34 = .ok (.istore 7, 2) := by decide +kernel
theorem dX12_best_36 : decode cX12_best 36 = .ok (.iconst 0, 1) := by decide +kernel
theorem dX12_best_37 : decode cX12_best 37 = .ok (.istore 8, 2) := by decide +kernel
theorem dX12_best_39 : decode cX12_best 39 = .ok (.aload_n 0, 1) := by decide +kernel
theorem dX12_best_40 : decode cX12_best 40 = .ok (.invokevirtual 285, 3) := by decide +kernel
theorem dX12_best_43 : decode cX12_best 43 = .ok (.aload_n 0, 1) := by decide +kernel
theorem dX12_best_44 : decode cX12_best 44 = .ok (.getfield 7, 3) := by decide +kernel
theorem dX12_best_47 : decode cX12_best 47 = .ok (.iconst 1, 1) := by decide +kernel
theorem dX12_best_48 : decode cX12_best 48 = .ok (.iaload, 1) := by decide +kernel
theorem dX12_best_49 : decode cX12_best 49 = .ok (.iload 5, 2) := by decide +kernel
theorem dX12_best_51 : decode cX12_best 51 = .ok (.if_icmp .gt 67, 3) := by decide +kernel
theorem dX12_best_54 : decode cX12_best 54 = .ok (.aload_n 0, 1) := by decide +kernel
theorem dX12_best_55 : decode cX12_best 55 = .ok (.invokevirtual 282, 3) := by decide +kernel
theorem dX12_best_58 : decode cX12_best 58 = .ok (.aload_n 0, 1) := by decide +kernel
theorem dX12_best_59 : decode cX12_best 59 = .ok (.getfield 7, 3) := by decide +kernel
theorem dX12_best_62 : decode cX12_best 62 = .ok (.iconst 1, 1) := by decide +kernel
theorem dX12_best_63 : decode cX12_best 63 = .ok (.iaload, 1) := by decide +kernel
theorem dX12_best_64 : decode cX12_best 64 = .ok (.iconst 1, 1) := by decide +kernel
theorem dX12_best_65 : decode cX12_best 65 = .ok (.isub, 1) := by decide +kernel
theorem dX12_best_66 : decode cX12_best 66 = .ok (.istore 9, 2) := by decide +kernel
theorem dX12_best_68 : decode cX12_best 68 = .ok (.iload 9, 2) := by decide +kernel
theorem dX12_best_70 : decode cX12_best 70 = .ok (.iload 4, 2) := by decide +kernel
theorem dX12_best_72 : decode cX12_best 72 = .ok (.if_icmp .ge 6, 3) := by decide +kernel
theorem dX12_best_75 : decode cX12_best 75 = .ok (.goto (-32), 3) := by decide +kernel
theorem dX12_best_78 : decode cX12_best 78 = .ok (.aload_n 0, 1) := by decide +kernel
theorem dX12_best_79 : decode cX12_best 79 = .ok (.iload_n 1, 1) := by decide +kernel
theorem dX12_best_80 : decode cX12_best 80 = .ok (.iload_n 2, 1) := by decide +kernel
theorem dX12_best_81 : decode cX12_best 81 = .ok (.iadd, 1) := by decide +kernel
theorem dX12_best_82 : decode cX12_best 82 = .ok (.iload_n 3, 1) := by decide +kernel
theorem dX12_best_83 : decode cX12_best 83 = .ok (.iconst 0, 1) := by decide +kernel
theorem dX12_best_84 : decode cX12_best 84 = .ok (.iload 9, 2) := by decide +kernel
theorem dX12_best_86 : decode cX12_best 86 = .ok (.invokevirtual 257, 3) := by decide +kernel
theorem dX12_best_89 : decode cX12_best 89 = .ok (.istore 10, 2) := by decide +kernel
theorem dX12_best_91 : decode cX12_best 91 = .ok (.iload 7, 2) := by decide +kernel
theorem dX12_best_93 : decode cX12_best 93 = .ok (.iconst (-1), 1) := by decide +kernel
theorem dX12_best_94 : decode cX12_best 94 = .ok (.if_icmp .eq 13, 3) := by decide +kernel
theorem dX12_best_97 : decode cX12_best 97 = .ok (.iload 10, 2) := by decide +kernel
theorem dX12_best_99 : decode cX12_best 99 = .ok (.iload 8, 2) := by decide +kernel
theorem dX12_best_101 : decode cX12_best 101 = .ok (.if_icmp .lt 6, 3) := by decide +kernel
theorem dX12_best_104 : decode cX12_best 104 = .ok (.goto (-61), 3) := by decide +kernel
theorem dX12_best_107 : decode cX12_best 107 = .ok (.iload 9, 2) := by decide +kernel
theorem dX12_best_109 : decode cX12_best 109 = .ok (.istore 7, 2) := by decide +kernel
theorem dX12_best_111 : decode cX12_best 111 = .ok (.iload 10, 2) := by decide +kernel
theorem dX12_best_113 : decode cX12_best 113 = .ok (.istore 8, 2) := by decide +kernel
theorem dX12_best_115 : decode cX12_best 115 = .ok (.goto (-72), 3) := by decide +kernel
theorem dX12_best_118 : decode cX12_best 118 = .ok (.aload_n 0, 1) := by decide +kernel
theorem dX12_best_119 : decode cX12_best 119 = .ok (.invokevirtual 291, 3) := by decide +kernel
theorem dX12_best_122 : decode cX12_best 122 = .ok (.iload 6, 2) := by decide +kernel
theorem dX12_best_124 : decode cX12_best 124 = .ok (.ifCond .ne 8, 3) := by decide +kernel
theorem dX12_best_127 : decode cX12_best 127 = .ok (.iload 7, 2) := by decide +kernel
theorem dX12_best_129 : decode cX12_best 129 = .ok (.goto 5, 3) := by decide +kernel
theorem dX12_best_132 : decode cX12_best 132 = .ok (.iload 8, 2) := by decide +kernel
theorem dX12_best_134 : decode cX12_best 134 = .ok (.ireturn, 1) := by decide +kernel
theorem dX12_send_0 : decode cX12_send 0 = .ok (.iload_n 1, 1) := by decide +kernel
theorem dX12_send_1 : decode cX12_send 1 = .ok (.iconst 1, 1) := by decide +kernel
theorem dX12_send_2 : decode cX12_send 2 = .ok (.bipush 99, 2) := by decide +kernel
theorem dX12_send_4 : decode cX12_send 4 = .ok (.invokestatic 50, 3) := by decide +kernel
theorem dX12_send_7 : decode cX12_send 7 = .ok (.ifCond .eq 56, 3) := by decide +kernel
theorem dX12_send_10 : decode cX12_send 10 = .ok (.aload_n 0, 1) := by decide +kernel
theorem dX12_send_11 : decode cX12_send 11 = .ok (.iload_n 2, 1) := by decide +kernel
theorem dX12_send_12 : decode cX12_send 12 = .ok (.invokevirtual 58, 3) := by decide +kernel
theorem dX12_send_15 : decode cX12_send 15 = .ok (.ifCond .eq 48, 3) := by decide +kernel
theorem dX12_send_18 : decode cX12_send 18 = .ok (.aload_n 0, 1) := by decide +kernel
theorem dX12_send_19 : decode cX12_send 19 = .ok (.iload_n 3, 1) := by decide +kernel
theorem dX12_send_20 : decode cX12_send 20 = .ok (.invokevirtual 58, 3) := by decide +kernel
theorem dX12_send_23 : decode cX12_send 23 = .ok (.ifCond .eq 40, 3) := by decide +kernel
theorem dX12_send_26 : decode cX12_send 26 = .ok (.iload_n 2, 1) := by decide +kernel
theorem dX12_send_27 : decode cX12_send 27 = .ok (.iload_n 3, 1) := by decide +kernel
theorem dX12_send_28 : decode cX12_send 28 = .ok (.if_icmp .eq 35, 3) := by decide +kernel
theorem dX12_send_31 : decode cX12_send 31 = .ok (.aload_n 0, 1) := by decide +kernel
theorem dX12_send_32 : decode cX12_send 32 = .ok (.getfield 7, 3) := by decide +kernel
theorem dX12_send_35 : decode cX12_send 35 = .ok (.iconst 2, 1) := by decide +kernel
theorem dX12_send_36 : decode cX12_send 36 = .ok (.iaload, 1) := by decide +kernel
theorem dX12_send_37 : decode cX12_send 37 = .ok (.bipush 30, 2) := by decide +kernel
theorem dX12_send_39 : decode cX12_send 39 = .ok (.if_icmp .eq 24, 3) := by decide +kernel
theorem dX12_send_42 : decode cX12_send 42 = .ok (.aload_n 0, 1) := by decide +kernel
theorem dX12_send_43 : decode cX12_send 43 = .ok (.iload 4, 2) := by decide +kernel
theorem dX12_send_45 : decode cX12_send 45 = .ok (.iload 5, 2) := by decide +kernel
theorem dX12_send_47 : decode cX12_send 47 = .ok (.invokevirtual 294, 3) := by decide +kernel
theorem dX12_send_50 : decode cX12_send 50 = .ok (.ifCond .eq 13, 3) := by decide +kernel
theorem dX12_send_53 : decode cX12_send 53 = .ok (.iload 6, 2) := by decide +kernel
theorem dX12_send_55 : decode cX12_send 55 = .ok (.iconst 0, 1) := by decide +kernel
theorem dX12_send_56 : decode cX12_send 56 = .ok (.iconst 1, 1) := by decide +kernel
theorem dX12_send_57 : decode cX12_send 57 = .ok (.invokestatic 50, 3) := by decide +kernel
theorem dX12_send_60 : decode cX12_send 60 = .ok (.ifCond .ne 5, 3) := by decide +kernel
theorem dX12_send_63 : decode cX12_send 63 = .ok (.iconst (-1), 1) := by decide +kernel
theorem dX12_send_64 : decode cX12_send 64 = .ok (.ireturn, 1) := by decide +kernel
theorem dX12_send_65 : decode cX12_send 65 = .ok (.iconst (-1), 1) := by decide +kernel
theorem dX12_send_66 : decode cX12_send 66 = .ok (.istore 7, 2) := by decide +kernel
theorem dX12_send_68 : decode cX12_send 68 = .ok (.iconst (-1), 1) := by decide +kernel
theorem dX12_send_69 : decode cX12_send 69 = .ok (.istore 8, 2) := by decide +kernel
theorem dX12_send_71 : decode cX12_send 71 = .ok (.iload 4, 2) := by decide +kernel
theorem dX12_send_73 : decode cX12_send 73 = .ok (.istore 9, 2) := by decide +kernel
theorem dX12_send_75 : decode cX12_send 75 = .ok (.iload 9, 2) := by decide +kernel
theorem dX12_send_77 : decode cX12_send 77 = .ok (.iload 5, 2) := by decide +kernel
theorem dX12_send_79 : decode cX12_send 79 = .ok (.if_icmp .gt 99, 3) := by decide +kernel
theorem dX12_send_82 : decode cX12_send 82 = .ok (.aload_n 0, 1) := by decide +kernel
theorem dX12_send_83 : decode cX12_send 83 = .ok (.invokevirtual 285, 3) := by decide +kernel
theorem dX12_send_86 : decode cX12_send 86 = .ok (.aload_n 0, 1) := by decide +kernel
theorem dX12_send_87 : decode cX12_send 87 = .ok (.aload_n 0, 1) := by decide +kernel
theorem dX12_send_88 : decode cX12_send 88 = .ok (.getfield 7, 3) := by decide +kernel
theorem dX12_send_91 : decode cX12_send 91 = .ok (.iconst 2, 1) := by decide +kernel
theorem dX12_send_92 : decode cX12_send 92 = .ok (.iaload, 1) := by decide +kernel
theorem dX12_send_93 : decode cX12_send 93 = .ok (.iload_n 3, 1) := by decide +kernel
theorem dX12_send_94 : decode cX12_send 94 = .ok (.invokevirtual 288, 3) := by decide +kernel
theorem dX12_send_97 : decode cX12_send 97 = .ok (.aload_n 0, 1) := by decide +kernel
theorem dX12_send_98 : decode cX12_send 98 = .ok (.iload_n 1, 1) := by decide +kernel
theorem dX12_send_99 : decode cX12_send 99 = .ok (.iload_n 2, 1) := by decide +kernel
theorem dX12_send_100 : decode cX12_send 100 = .ok (.iload 9, 2) := by decide +kernel
theorem dX12_send_102 : decode cX12_send 102 = .ok (.invokevirtual 65, 3) := by decide +kernel
theorem dX12_send_105 : decode cX12_send 105 = .ok (.aload_n 0, 1) := by decide +kernel
theorem dX12_send_106 : decode cX12_send 106 = .ok (.getfield 7, 3) := by decide +kernel
theorem dX12_send_109 : decode cX12_send 109 = .ok (.iconst 1, 1) := by decide +kernel
theorem dX12_send_110 : decode cX12_send 110 = .ok (.iaload, 1) := by decide +kernel
theorem dX12_send_111 : decode cX12_send 111 = .ok (.sipush 167, 3) := by decide +kernel
theorem dX12_send_114 : decode cX12_send 114 = .ok (.if_icmp .gt 18, 3) := by decide +kernel
theorem dX12_send_117 : decode cX12_send 117 = .ok (.aload_n 0, 1) := by decide +kernel
theorem dX12_send_118 : decode cX12_send 118 = .ok (.getfield 217, 3) := by decide +kernel
theorem dX12_send_121 : decode cX12_send 121 = .ok (.iconst (-1), 1) := by decide +kernel
theorem dX12_send_122 : decode cX12_send 122 = .ok (.if_icmp .ne 10, 3) := by decide +kernel
theorem dX12_send_125 : decode cX12_send 125 = .ok (.aload_n 0, 1) := by decide +kernel
theorem dX12_send_126 : decode cX12_send 126 = .ok (.invokevirtual 282, 3) := by decide +kernel
theorem dX12_send_129 : decode cX12_send 129 = .ok (.goto (-24), 3) := by decide +kernel
theorem dX12_send_132 : decode cX12_send 132 = .ok (.aload_n 0, 1) := by decide +kernel
theorem dX12_send_133 : decode cX12_send 133 = .ok (.getfield 217, 3) := by decide +kernel
theorem dX12_send_136 : decode cX12_send 136 = .ok (.istore 10, 2) := by decide +kernel
theorem dX12_send_138 : decode cX12_send 138 = .ok (.aload_n 0, 1) := by decide +kernel
theorem dX12_send_139 : decode cX12_send 139 = .ok (.invokevirtual 291, 3) := by decide +kernel
theorem dX12_send_142 : decode cX12_send 142 = .ok (.iload 10, 2) := by decide +kernel
theorem dX12_send_144 : decode cX12_send 144 = .ok (.iconst (-1), 1) := by decide +kernel
theorem dX12_send_145 : decode cX12_send 145 = .ok (.if_icmp .eq 27, 3) := by decide +kernel
theorem dX12_send_148 : decode cX12_send 148 = .ok (.iload 8, 2) := by decide +kernel
theorem dX12_send_150 : decode cX12_send 150 = .ok (.iconst (-1), 1) := by decide +kernel
theorem dX12_send_151 : decode cX12_send 151 = .ok (.if_icmp .eq 13, 3) := by decide +kernel
theorem dX12_send_154 : decode cX12_send 154 = .ok (.iload 10, 2) := by decide +kernel
theorem dX12_send_156 : decode cX12_send 156 = .ok (.iload 8, 2) := by decide +kernel
theorem dX12_send_158 : decode cX12_send 158 = .ok (.if_icmp .le 6, 3) := by decide +kernel
theorem dX12_send_161 : decode cX12_send 161 = .ok (.goto 11, 3) := by decide +kernel
theorem dX12_send_164 : decode cX12_send 164 = .ok (.iload 9, 2) := by decide +kernel
theorem dX12_send_166 : decode cX12_send 166 = .ok (.istore 7, 2) := by decide +kernel
theorem dX12_send_168 : decode cX12_send 168 = .ok (.iload 10, 2) := by decide +kernel
theorem dX12_send_170 : decode cX12_send 170 = .ok (.istore 8, 2) := by decide +kernel
theorem dX12_send_172 : decode cX12_send 172 = .ok (.iinc 9 1, 3) := by decide +kernel
theorem dX12_send_175 : decode cX12_send 175 = .ok (.goto (-100), 3) := by decide +kernel
theorem dX12_send_178 : decode cX12_send 178 = .ok (.iload 6, 2) := by decide +kernel
theorem dX12_send_180 : decode cX12_send 180 = .ok (.ifCond .ne 8, 3) := by decide +kernel
theorem dX12_send_183 : decode cX12_send 183 = .ok (.iload 7, 2) := by decide +kernel
theorem dX12_send_185 : decode cX12_send 185 = .ok (.goto 5, 3) := by decide +kernel
theorem dX12_send_188 : decode cX12_send 188 = .ok (.iload 8, 2) := by decide +kernel
theorem dX12_send_190 : decode cX12_send 190 = .ok (.ireturn, 1) := by decide +kernel
theorem dX12_offer_0 : decode cX12_offer 0 = .ok (.aload_n 0, 1) := by decide +kernel
theorem dX12_offer_1 : decode cX12_offer 1 = .ok (.iload_n 1, 1) := by decide +kernel
theorem dX12_offer_2 : decode cX12_offer 2 = .ok (.invokevirtual 62, 3) := by decide +kernel
theorem dX12_offer_5 : decode cX12_offer 5 = .ok (.ifCond .eq 38, 3) := by decide +kernel
theorem dX12_offer_8 : decode cX12_offer 8 = .ok (.aload_n 0, 1) := by decide +kernel
theorem dX12_offer_9 : decode cX12_offer 9 = .ok (.iload_n 2, 1) := by decide +kernel
theorem dX12_offer_10 : decode cX12_offer 10 = .ok (.iload_n 3, 1) := by decide +kernel
theorem dX12_offer_11 : decode cX12_offer 11 = .ok (.iload 4, 2) := by decide +kernel
theorem dX12_offer_13 : decode cX12_offer 13 = .ok (.invokevirtual 71, 3) := by decide +kernel
theorem dX12_offer_16 : decode cX12_offer 16 = .ok (.ifCond .eq 27, 3) := by decide +kernel
theorem dX12_offer_19 : decode cX12_offer 19 = .ok (.iload 5, 2) := by decide +kernel
theorem dX12_offer_21 : decode cX12_offer 21 = .ok (.iconst 0, 1) := by decide +kernel
theorem dX12_offer_22 : decode cX12_offer 22 = .ok (.sipush 999, 3) := by decide +kernel
theorem dX12_offer_25 : decode cX12_offer 25 = .ok (.invokestatic 50, 3) := by decide +kernel
theorem dX12_offer_28 : decode cX12_offer 28 = .ok (.ifCond .eq 15, 3) := by decide +kernel
theorem dX12_offer_31 : decode cX12_offer 31 = .ok (.aload_n 0, 1) := by decide +kernel
theorem dX12_offer_32 : decode cX12_offer 32 = .ok (.getfield 7, 3) := by decide +kernel
theorem dX12_offer_35 : decode cX12_offer 35 = .ok (.bipush 7, 2) := by decide +kernel
theorem dX12_offer_37 : decode cX12_offer 37 = .ok (.iaload, 1) := by decide +kernel
theorem dX12_offer_38 : decode cX12_offer 38 = .ok (.bipush 8, 2) := by decide +kernel
theorem dX12_offer_40 : decode cX12_offer 40 = .ok (.if_icmp .ne 5, 3) := by decide +kernel
theorem dX12_offer_43 : decode cX12_offer 43 = .ok (.iconst (-1), 1) := by decide +kernel
theorem dX12_offer_44 : decode cX12_offer 44 = .ok (.ireturn, 1) := by decide +kernel
theorem dX12_offer_45 : decode cX12_offer 45 = .ok (.sipush 1500, 3) := by decide +kernel
theorem dX12_offer_48 : decode cX12_offer 48 = .ok (.iconst 5, 1) := by decide +kernel
theorem dX12_offer_49 : decode cX12_offer 49 = .ok (.aload_n 0, 1) := by decide +kernel
theorem dX12_offer_50 : decode cX12_offer 50 = .ok (.getfield 7, 3) := by decide +kernel
theorem dX12_offer_53 : decode cX12_offer 53 = .ok (.bipush 7, 2) := by decide +kernel
theorem dX12_offer_55 : decode cX12_offer 55 = .ok (.iaload, 1) := by decide +kernel
theorem dX12_offer_56 : decode cX12_offer 56 = .ok (.imul, 1) := by decide +kernel
theorem dX12_offer_57 : decode cX12_offer 57 = .ok (.iadd, 1) := by decide +kernel
theorem dX12_offer_58 : decode cX12_offer 58 = .ok (.istore 6, 2) := by decide +kernel
theorem dX12_offer_60 : decode cX12_offer 60 = .ok (.aload_n 0, 1) := by decide +kernel
theorem dX12_offer_61 : decode cX12_offer 61 = .ok (.getfield 7, 3) := by decide +kernel
theorem dX12_offer_64 : decode cX12_offer 64 = .ok (.iload 6, 2) := by decide +kernel
theorem dX12_offer_66 : decode cX12_offer 66 = .ok (.iload_n 1, 1) := by decide +kernel
theorem dX12_offer_67 : decode cX12_offer 67 = .ok (.iastore, 1) := by decide +kernel
theorem dX12_offer_68 : decode cX12_offer 68 = .ok (.aload_n 0, 1) := by decide +kernel
theorem dX12_offer_69 : decode cX12_offer 69 = .ok (.getfield 7, 3) := by decide +kernel
theorem dX12_offer_72 : decode cX12_offer 72 = .ok (.iload 6, 2) := by decide +kernel
theorem dX12_offer_74 : decode cX12_offer 74 = .ok (.iconst 1, 1) := by decide +kernel
theorem dX12_offer_75 : decode cX12_offer 75 = .ok (.iadd, 1) := by decide +kernel
theorem dX12_offer_76 : decode cX12_offer 76 = .ok (.iload_n 2, 1) := by decide +kernel
theorem dX12_offer_77 : decode cX12_offer 77 = .ok (.iastore, 1) := by decide +kernel
theorem dX12_offer_78 : decode cX12_offer 78 = .ok (.aload_n 0, 1) := by decide +kernel
theorem dX12_offer_79 : decode cX12_offer 79 = .ok (.getfield 7, 3) := by decide +kernel
theorem dX12_offer_82 : decode cX12_offer 82 = .ok (.iload 6, 2) := by decide +kernel
theorem dX12_offer_84 : decode cX12_offer 84 = .ok (.iconst 2, 1) := by decide +kernel
theorem dX12_offer_85 : decode cX12_offer 85 = .ok (.iadd, 1) := by decide +kernel
theorem dX12_offer_86 : decode cX12_offer 86 = .ok (.iload_n 3, 1) := by decide +kernel
theorem dX12_offer_87 : decode cX12_offer 87 = .ok (.iastore, 1) := by decide +kernel
theorem dX12_offer_88 : decode cX12_offer 88 = .ok (.aload_n 0, 1) := by decide +kernel
theorem dX12_offer_89 : decode cX12_offer 89 = .ok (.getfield 7, 3) := by decide +kernel
theorem dX12_offer_92 : decode cX12_offer 92 = .ok (.iload 6, 2) := by decide +kernel
theorem dX12_offer_94 : decode cX12_offer 94 = .ok (.iconst 3, 1) := by decide +kernel
theorem dX12_offer_95 : decode cX12_offer 95 = .ok (.iadd, 1) := by decide +kernel
theorem dX12_offer_96 : decode cX12_offer 96 = .ok (.iload 4, 2) := by decide +kernel
theorem dX12_offer_98 : decode cX12_offer 98 = .ok (.iastore, 1) := by decide +kernel
theorem dX12_offer_99 : decode cX12_offer 99 = .ok (.aload_n 0, 1) := by decide +kernel
theorem dX12_offer_100 : decode cX12_offer 100 = .ok (.getfield 7, 3) := by decide +kernel
theorem dX12_offer_103 : decode cX12_offer 103 = .ok (.iload 6, 2) := by decide +kernel
theorem dX12_offer_105 : decode cX12_offer 105 = .ok (.iconst 4, 1) := by decide +kernel
theorem dX12_offer_106 : decode cX12_offer 106 = .ok (.iadd, 1) := by decide +kernel
theorem dX12_offer_107 : decode cX12_offer 107 = .ok (.iload 5, 2) := by decide +kernel
theorem dX12_offer_109 : decode cX12_offer 109 = .ok (.iastore, 1) := by decide +kernel
theorem dX12_offer_110 : decode cX12_offer 110 = .ok (.aload_n 0, 1) := by decide +kernel
theorem dX12_offer_111 : decode cX12_offer 111 = .ok (.getfield 7, 3) := by decide +kernel
theorem dX12_offer_114 : decode cX12_offer 114 = .ok (.bipush 7, 2) := by decide +kernel
theorem dX12_offer_116 : decode cX12_offer 116 = .ok (.dup2, 1) := by decide +kernel
theorem dX12_offer_117 : decode cX12_offer 117 = .ok (.iaload, 1) := by decide +kernel
theorem dX12_offer_118 : decode cX12_offer 118 = .ok (.iconst 1, 1) := by decide +kernel
theorem dX12_offer_119 : decode cX12_offer 119 = .ok (.iadd, 1) := by decide +kernel
theorem dX12_offer_120 : decode cX12_offer 120 = .ok (.iastore, 1) := by decide +kernel
theorem dX12_offer_121 : decode cX12_offer 121 = .ok (.aload_n 0, 1) := by decide +kernel
theorem dX12_offer_122 : decode cX12_offer 122 = .ok (.getfield 7, 3) := by decide +kernel
theorem dX12_offer_125 : decode cX12_offer 125 = .ok (.bipush 7, 2) := by decide +kernel
theorem dX12_offer_127 : decode cX12_offer 127 = .ok (.iaload, 1) := by decide +kernel
theorem dX12_offer_128 : decode cX12_offer 128 = .ok (.iconst 1, 1) := by decide +kernel
theorem dX12_offer_129 : decode cX12_offer 129 = .ok (.isub, 1) := by decide +kernel
theorem dX12_offer_130 : decode cX12_offer 130 = .ok (.ireturn, 1) := by decide +kernel
theorem dX12_count_0 : decode cX12_count 0 = .ok (.iconst 0, 1) := by decide +kernel
theorem dX12_count_1 : decode cX12_count 1 = .ok (.istore_n 1, 1) := by decide +kernel
theorem dX12_count_2 : decode cX12_count 2 = .ok (.iconst 0, 1) := by decide +kernel
theorem dX12_count_3 : decode cX12_count 3 = .ok (.istore_n 2, 1) := by decide +kernel
theorem dX12_count_4 : decode cX12_count 4 = .ok (.iload_n 2, 1) := by decide +kernel
theorem dX12_count_5 : decode cX12_count 5 = .ok (.bipush 30, 2) := by decide +kernel
theorem dX12_count_7 : decode cX12_count 7 = .ok (.if_icmp .ge 17, 3) := by decide +kernel
theorem dX12_count_10 : decode cX12_count 10 = .ok (.iload_n 1, 1) := by decide +kernel
theorem dX12_count_11 : decode cX12_count 11 = .ok (.iload_n 0, 1) := by decide +kernel
theorem dX12_count_12 : decode cX12_count 12 = .ok (.iload_n 2, 1) := by decide +kernel
theorem dX12_count_13 : decode cX12_count 13 = .ok (.ishr, 1) := by decide +kernel
theorem dX12_count_14 : decode cX12_count 14 = .ok (.iconst 1, 1) := by decide +kernel
theorem dX12_count_15 : decode cX12_count 15 = .ok (.iand, 1) := by decide +kernel
theorem dX12_count_16 : decode cX12_count 16 = .ok (.iadd, 1) := by decide +kernel
theorem dX12_count_17 : decode cX12_count 17 = .ok (.istore_n 1, 1) := by decide +kernel
theorem dX12_count_18 : decode cX12_count 18 = .ok (.iinc 2 1, 3) := by decide +kernel
theorem dX12_count_21 : decode cX12_count 21 = .ok (.goto (-17), 3) := by decide +kernel
theorem dX12_count_24 : decode cX12_count 24 = .ok (.iload_n 1, 1) := by decide +kernel
theorem dX12_count_25 : decode cX12_count 25 = .ok (.ireturn, 1) := by decide +kernel
theorem dX12_priceOf_0 : decode cX12_priceOf 0 = .ok (.iconst 0, 1) := by decide +kernel
theorem dX12_priceOf_1 : decode cX12_priceOf 1 = .ok (.istore_n 2, 1) := by decide +kernel
theorem dX12_priceOf_2 : decode cX12_priceOf 2 = .ok (.iconst 0, 1) := by decide +kernel
theorem dX12_priceOf_3 : decode cX12_priceOf 3 = .ok (.istore_n 3, 1) := by decide +kernel
theorem dX12_priceOf_4 : decode cX12_priceOf 4 = .ok (.iload_n 3, 1) := by decide +kernel
theorem dX12_priceOf_5 : decode cX12_priceOf 5 = .ok (.aload_n 0, 1) := by decide +kernel
theorem dX12_priceOf_6 : decode cX12_priceOf 6 = .ok (.getfield 7, 3) := by decide +kernel
theorem dX12_priceOf_9 : decode cX12_priceOf 9 = .ok (.bipush 7, 2) := by decide +kernel
theorem dX12_priceOf_11 : decode cX12_priceOf 11 = .ok (.iaload, 1) := by decide +kernel
theorem dX12_priceOf_12 : decode cX12_priceOf 12 = .ok (.if_icmp .ge 32, 3) := by decide +kernel
theorem dX12_priceOf_15 : decode cX12_priceOf 15 = .ok (.iload_n 2, 1) := by decide +kernel
theorem dX12_priceOf_16 : decode cX12_priceOf 16 = .ok (.iload_n 1, 1) := by decide +kernel
theorem dX12_priceOf_17 : decode cX12_priceOf 17 = .ok (.iload_n 3, 1) := by decide +kernel
theorem dX12_priceOf_18 : decode cX12_priceOf 18 = .ok (.ishr, 1) := by decide +kernel
theorem dX12_priceOf_19 : decode cX12_priceOf 19 = .ok (.iconst 1, 1) := by decide +kernel
theorem dX12_priceOf_20 : decode cX12_priceOf 20 = .ok (.iand, 1) := by decide +kernel
theorem dX12_priceOf_21 : decode cX12_priceOf 21 = .ok (.aload_n 0, 1) := by decide +kernel
theorem dX12_priceOf_22 : decode cX12_priceOf 22 = .ok (.getfield 7, 3) := by decide +kernel
theorem dX12_priceOf_25 : decode cX12_priceOf 25 = .ok (.sipush 1500, 3) := by decide +kernel
theorem dX12_priceOf_28 : decode cX12_priceOf 28 = .ok (.iconst 5, 1) := by decide +kernel
theorem dX12_priceOf_29 : decode cX12_priceOf 29 = .ok (.iload_n 3, 1) := by decide +kernel
theorem dX12_priceOf_30 : decode cX12_priceOf 30 = .ok (.imul, 1) := by decide +kernel
theorem dX12_priceOf_31 : decode cX12_priceOf 31 = .ok (.iadd, 1) := by decide +kernel
theorem dX12_priceOf_32 : decode cX12_priceOf 32 = .ok (.iconst 4, 1) := by decide +kernel
theorem dX12_priceOf_33 : decode cX12_priceOf 33 = .ok (.iadd, 1) := by decide +kernel
theorem dX12_priceOf_34 : decode cX12_priceOf 34 = .ok (.iaload, 1) := by decide +kernel
theorem dX12_priceOf_35 : decode cX12_priceOf 35 = .ok (.imul, 1) := by decide +kernel
theorem dX12_priceOf_36 : decode cX12_priceOf 36 = .ok (.iadd, 1) := by decide +kernel
theorem dX12_priceOf_37 : decode cX12_priceOf 37 = .ok (.istore_n 2, 1) := by decide +kernel
theorem dX12_priceOf_38 : decode cX12_priceOf 38 = .ok (.iinc 3 1, 3) := by decide +kernel
theorem dX12_priceOf_41 : decode cX12_priceOf 41 = .ok (.goto (-37), 3) := by decide +kernel
theorem dX12_priceOf_44 : decode cX12_priceOf 44 = .ok (.iload_n 2, 1) := by decide +kernel
theorem dX12_priceOf_45 : decode cX12_priceOf 45 = .ok (.ireturn, 1) := by decide +kernel
theorem dX12_brings_0 : decode cX12_brings 0 = .ok (.aload_n 0, 1) := by decide +kernel
theorem dX12_brings_1 : decode cX12_brings 1 = .ok (.invokevirtual 285, 3) := by decide +kernel
theorem dX12_brings_4 : decode cX12_brings 4 = .ok (.aload_n 0, 1) := by decide +kernel
theorem dX12_brings_5 : decode cX12_brings 5 = .ok (.iload_n 1, 1) := by decide +kernel
theorem dX12_brings_6 : decode cX12_brings 6 = .ok (.putfield 279, 3) := by decide +kernel
theorem dX12_brings_9 : decode cX12_brings 9 = .ok (.aload_n 0, 1) := by decide +kernel
theorem dX12_brings_10 : decode cX12_brings 10 = .ok (.getfield 7, 3) := by decide +kernel
theorem dX12_brings_13 : decode cX12_brings 13 = .ok (.iconst 1, 1) := by decide +kernel
theorem dX12_brings_14 : decode cX12_brings 14 = .ok (.iaload, 1) := by decide +kernel
theorem dX12_brings_15 : decode cX12_brings 15 = .ok (.iload 4, 2) := by decide +kernel
theorem dX12_brings_17 : decode cX12_brings 17 = .ok (.if_icmp .gt 10, 3) := by decide +kernel
theorem dX12_brings_20 : decode cX12_brings 20 = .ok (.aload_n 0, 1) := by decide +kernel
theorem dX12_brings_21 : decode cX12_brings 21 = .ok (.invokevirtual 282, 3) := by decide +kernel
theorem dX12_brings_24 : decode cX12_brings 24 = .ok (.goto (-15), 3) := by decide +kernel
theorem dX12_brings_27 : decode cX12_brings 27 = .ok (.iconst 1, 1) := by decide +kernel
theorem dX12_brings_28 : decode cX12_brings 28 = .ok (.istore 5, 2) := by decide +kernel
theorem dX12_brings_30 : decode cX12_brings 30 = .ok (.iconst 0, 1) := by decide +kernel
theorem dX12_brings_31 : decode cX12_brings 31 = .ok (.istore 6, 2) := by decide +kernel
theorem dX12_brings_33 : decode cX12_brings 33 = .ok (.iload 6, 2) := by decide +kernel
theorem dX12_brings_35 : decode cX12_brings 35 = .ok (.aload_n 0, 1) := by decide +kernel
theorem dX12_brings_36 : decode cX12_brings 36 = .ok (.getfield 7, 3) := by decide +kernel
theorem dX12_brings_39 : decode cX12_brings 39 = .ok (.iconst 2, 1) := by decide +kernel
theorem dX12_brings_40 : decode cX12_brings 40 = .ok (.iaload, 1) := by decide +kernel
theorem dX12_brings_41 : decode cX12_brings 41 = .ok (.if_icmp .ge 52, 3) := by decide +kernel
theorem dX12_brings_44 : decode cX12_brings 44 = .ok (.iload 5, 2) := by decide +kernel
theorem dX12_brings_46 : decode cX12_brings 46 = .ok (.ifCond .eq 38, 3) := by decide +kernel
theorem dX12_brings_49 : decode cX12_brings 49 = .ok (.iload_n 2, 1) := by decide +kernel
theorem dX12_brings_50 : decode cX12_brings 50 = .ok (.iload 6, 2) := by decide +kernel
theorem dX12_brings_52 : decode cX12_brings 52 = .ok (.ishr, 1) := by decide +kernel
theorem dX12_brings_53 : decode cX12_brings 53 = .ok (.iconst 1, 1) := by decide +kernel
theorem dX12_brings_54 : decode cX12_brings 54 = .ok (.iand, 1) := by decide +kernel
theorem dX12_brings_55 : decode cX12_brings 55 = .ok (.ifCond .eq 25, 3) := by decide +kernel
theorem dX12_brings_58 : decode cX12_brings 58 = .ok (.aload_n 0, 1) := by decide +kernel
theorem dX12_brings_59 : decode cX12_brings 59 = .ok (.iload 6, 2) := by decide +kernel
theorem dX12_brings_61 : decode cX12_brings 61 = .ok (.iload_n 3, 1) := by decide +kernel
theorem dX12_brings_62 : decode cX12_brings 62 = .ok (.invokevirtual 226, 3) := by decide +kernel
theorem dX12_brings_65 : decode cX12_brings 65 = .ok (.ifCond .ne 15, 3) := by decide +kernel
theorem dX12_brings_68 : decode cX12_brings 68 = .ok (.aload_n 0, 1) := by decide +kernel
theorem dX12_brings_69 : decode cX12_brings 69 = .ok (.iload 6, 2) := by decide +kernel
theorem dX12_brings_71 : decode cX12_brings 71 = .ok (.bipush 8, 2) := by decide +kernel
theorem dX12_brings_73 : decode cX12_brings 73 = .ok (.invokevirtual 220, 3) := by decide +kernel
theorem dX12_brings_76 : decode cX12_brings 76 = .ok (.iconst 1, 1) := by decide +kernel
theorem dX12_brings_77 : decode cX12_brings 77 = .ok (.if_icmp .ne 7, 3) := by decide +kernel
theorem dX12_brings_80 : decode cX12_brings 80 = .ok (.iconst 1, 1) := by decide +kernel
theorem dX12_brings_81 : decode cX12_brings 81 = .ok (.goto 4, 3) := by decide +kernel
theorem dX12_brings_84 : decode cX12_brings 84 = .ok (.iconst 0, 1) := by decide +kernel
theorem dX12_brings_85 : decode cX12_brings 85 = .ok (.istore 5, 2) := by decide +kernel
theorem dX12_brings_87 : decode cX12_brings 87 = .ok (.iinc 6 1, 3) := by decide +kernel
theorem dX12_brings_90 : decode cX12_brings 90 = .ok (.goto (-57), 3) := by decide +kernel
theorem dX12_brings_93 : decode cX12_brings 93 = .ok (.aload_n 0, 1) := by decide +kernel
theorem dX12_brings_94 : decode cX12_brings 94 = .ok (.invokevirtual 291, 3) := by decide +kernel
theorem dX12_brings_97 : decode cX12_brings 97 = .ok (.iload 5, 2) := by decide +kernel
theorem dX12_brings_99 : decode cX12_brings 99 = .ok (.ireturn, 1) := by decide +kernel
theorem dX12_fewest_0 : decode cX12_fewest 0 = .ok (.iload_n 1, 1) := by decide +kernel
theorem dX12_fewest_1 : decode cX12_fewest 1 = .ok (.iconst 1, 1) := by decide +kernel
theorem dX12_fewest_2 : decode cX12_fewest 2 = .ok (.iconst 1, 1) := by decide +kernel
theorem dX12_fewest_3 : decode cX12_fewest 3 = .ok (.aload_n 0, 1) := by decide +kernel
theorem dX12_fewest_4 : decode cX12_fewest 4 = .ok (.getfield 7, 3) := by decide +kernel
theorem dX12_fewest_7 : decode cX12_fewest 7 = .ok (.iconst 2, 1) := by decide +kernel
theorem dX12_fewest_8 : decode cX12_fewest 8 = .ok (.iaload, 1) := by decide +kernel
theorem dX12_fewest_9 : decode cX12_fewest 9 = .ok (.ishl, 1) := by decide +kernel
theorem dX12_fewest_10 : decode cX12_fewest 10 = .ok (.iconst 1, 1) := by decide +kernel
theorem dX12_fewest_11 : decode cX12_fewest 11 = .ok (.isub, 1) := by decide +kernel
theorem dX12_fewest_12 : decode cX12_fewest 12 = .ok (.invokestatic 50, 3) := by decide +kernel
theorem dX12_fewest_15 : decode cX12_fewest 15 = .ok (.ifCond .eq 29, 3) := by decide +kernel
theorem dX12_fewest_18 : decode cX12_fewest 18 = .ok (.aload_n 0, 1) := by decide +kernel
theorem dX12_fewest_19 : decode cX12_fewest 19 = .ok (.iload_n 2, 1) := by decide +kernel
theorem dX12_fewest_20 : decode cX12_fewest 20 = .ok (.invokevirtual 58, 3) := by decide +kernel
theorem dX12_fewest_23 : decode cX12_fewest 23 = .ok (.ifCond .eq 21, 3) := by decide +kernel
theorem dX12_fewest_26 : decode cX12_fewest 26 = .ok (.aload_n 0, 1) := by decide +kernel
theorem dX12_fewest_27 : decode cX12_fewest 27 = .ok (.iload_n 3, 1) := by decide +kernel
theorem dX12_fewest_28 : decode cX12_fewest 28 = .ok (.invokevirtual 62, 3) := by decide +kernel
theorem dX12_fewest_31 : decode cX12_fewest 31 = .ok (.ifCond .eq 13, 3) := by decide +kernel
theorem dX12_fewest_34 : decode cX12_fewest 34 = .ok (.iload 4, 2) := by decide +kernel
theorem dX12_fewest_36 : decode cX12_fewest 36 = .ok (.iconst 0, 1) := by decide +kernel
theorem dX12_fewest_37 : decode cX12_fewest 37 = .ok (.iconst 1, 1) := by decide +kernel
theorem dX12_fewest_38 : decode cX12_fewest 38 = .ok (.invokestatic 50, 3) := by decide +kernel
theorem dX12_fewest_41 : decode cX12_fewest 41 = .ok (.ifCond .ne 5, 3) := by decide +kernel
theorem dX12_fewest_44 : decode cX12_fewest 44 = .ok (.iconst (-1), 1) := by decide +kernel
theorem dX12_fewest_45 : decode cX12_fewest 45 = .ok (.ireturn, 1) := by decide +kernel
theorem dX12_fewest_46 : decode cX12_fewest 46 = .ok (.iconst (-1), 1) := by decide +kernel
theorem dX12_fewest_47 : decode cX12_fewest 47 = .ok (.istore 5, 2) := by decide +kernel
theorem dX12_fewest_49 : decode cX12_fewest 49 = .ok (.iconst 0, 1) := by decide +kernel
theorem dX12_fewest_50 : decode cX12_fewest 50 = .ok (.istore 6, 2) := by decide +kernel
theorem dX12_fewest_52 : decode cX12_fewest 52 = .ok (.iload 6, 2) := by decide +kernel
theorem dX12_fewest_54 : decode cX12_fewest 54 = .ok (.iconst 1, 1) := by decide +kernel
theorem dX12_fewest_55 : decode cX12_fewest 55 = .ok (.aload_n 0, 1) := by decide +kernel
theorem dX12_fewest_56 : decode cX12_fewest 56 = .ok (.getfield 7, 3) := by decide +kernel
theorem dX12_fewest_59 : decode cX12_fewest 59 = .ok (.bipush 7, 2) := by decide +kernel
theorem dX12_fewest_61 : decode cX12_fewest 61 = .ok (.iaload, 1) := by decide +kernel
theorem dX12_fewest_62 : decode cX12_fewest 62 = .ok (.ishl, 1) := by decide +kernel
theorem dX12_fewest_63 : decode cX12_fewest 63 = .ok (.if_icmp .ge 73, 3) := by decide +kernel
theorem dX12_fewest_66 : decode cX12_fewest 66 = .ok (.iload 5, 2) := by decide +kernel
theorem dX12_fewest_68 : decode cX12_fewest 68 = .ok (.iconst (-1), 1) := by decide +kernel
theorem dX12_fewest_69 : decode cX12_fewest 69 = .ok (.if_icmp .ne 7, 3) := by decide +kernel
theorem dX12_fewest_72 : decode cX12_fewest 72 = .ok (.iconst (-1), 1) := by decide +kernel
theorem dX12_fewest_73 : decode cX12_fewest 73 = .ok (.goto 14, 3) := by decide +kernel
theorem dX12_fewest_76 : decode cX12_fewest 76 = .ok (.iload 6, 2) := by decide +kernel
theorem dX12_fewest_78 : decode cX12_fewest 78 = .ok (.invokestatic 297, 3) := by decide +kernel
theorem dX12_fewest_81 : decode cX12_fewest 81 = .ok (.iload 5, 2) := by decide +kernel
theorem dX12_fewest_83 : decode cX12_fewest 83 = .ok (.invokestatic 297, 3) := by decide +kernel
theorem dX12_fewest_86 : decode cX12_fewest 86 = .ok (.isub, 1) := by decide +kernel
theorem dX12_fewest_87 : decode cX12_fewest 87 = .ok (.istore 7, 2) := by decide +kernel
theorem dX12_fewest_89 : decode cX12_fewest 89 = .ok (.iload 7, 2) := by decide +kernel
theorem dX12_fewest_91 : decode cX12_fewest 91 = .ok (.ifCond .ne 18, 3) := by decide +kernel
theorem dX12_fewest_94 : decode cX12_fewest 94 = .ok (.aload_n 0, 1) := by decide +kernel
theorem dX12_fewest_95 : decode cX12_fewest 95 = .ok (.iload 6, 2) := by decide +kernel
theorem dX12_fewest_97 : decode cX12_fewest 97 = .ok (.invokevirtual 300, 3) := by decide +kernel
theorem dX12_fewest_100 : decode cX12_fewest 100 = .ok (.aload_n 0, 1) := by decide +kernel
theorem dX12_fewest_101 : decode cX12_fewest 101 = .ok (.iload 5, 2) := by decide +kernel
theorem dX12_fewest_103 : decode cX12_fewest 103 = .ok (.invokevirtual 300, 3) := by decide +kernel
theorem dX12_fewest_106 : decode cX12_fewest 106 = .ok (.isub, 1) := by decide +kernel
theorem dX12_fewest_107 : decode cX12_fewest 107 = .ok (.istore 7, 2) := by decide +kernel
theorem dX12_fewest_109 : decode cX12_fewest 109 = .ok (.iload 7, 2) := by decide +kernel
theorem dX12_fewest_111 : decode cX12_fewest 111 = .ok (.ifCond .ge 19, 3) := by decide +kernel
theorem dX12_fewest_114 : decode cX12_fewest 114 = .ok (.aload_n 0, 1) := by decide +kernel
theorem dX12_fewest_115 : decode cX12_fewest 115 = .ok (.iload 6, 2) := by decide +kernel
theorem dX12_fewest_117 : decode cX12_fewest 117 = .ok (.iload_n 1, 1) := by decide +kernel
theorem dX12_fewest_118 : decode cX12_fewest 118 = .ok (.iload_n 2, 1) := by decide +kernel
theorem dX12_fewest_119 : decode cX12_fewest 119 = .ok (.iload_n 3, 1) := by decide +kernel
theorem dX12_fewest_120 : decode cX12_fewest 120 = .ok (.invokevirtual 303, 3) := by decide +kernel
theorem dX12_fewest_123 : decode cX12_fewest 123 = .ok (.ifCond .eq 7, 3) := by decide +kernel
theorem dX12_fewest_126 : decode cX12_fewest 126 = .ok (.iload 6, 2) := by decide +kernel
theorem dX12_fewest_128 : decode cX12_fewest 128 = .ok (.istore 5, 2) := by decide +kernel
theorem dX12_fewest_130 : decode cX12_fewest 130 = .ok (.iinc 6 1, 3) := by decide +kernel
theorem dX12_fewest_133 : decode cX12_fewest 133 = .ok (.goto (-81), 3) := by decide +kernel
theorem dX12_fewest_136 : decode cX12_fewest 136 = .ok (.iload 5, 2) := by decide +kernel
theorem dX12_fewest_138 : decode cX12_fewest 138 = .ok (.iconst (-1), 1) := by decide +kernel
theorem dX12_fewest_139 : decode cX12_fewest 139 = .ok (.if_icmp .eq 8, 3) := by decide +kernel
theorem dX12_fewest_142 : decode cX12_fewest 142 = .ok (.iload 4, 2) := by decide +kernel
theorem dX12_fewest_144 : decode cX12_fewest 144 = .ok (.ifCond .ne 8, 3) := by decide +kernel
theorem dX12_fewest_147 : decode cX12_fewest 147 = .ok (.iload 5, 2) := by decide +kernel
theorem dX12_fewest_149 : decode cX12_fewest 149 = .ok (.goto 9, 3) := by decide +kernel
theorem dX12_fewest_152 : decode cX12_fewest 152 = .ok (.aload_n 0, 1) := by decide +kernel
theorem dX12_fewest_153 : decode cX12_fewest 153 = .ok (.iload 5, 2) := by decide +kernel
theorem dX12_fewest_155 : decode cX12_fewest 155 = .ok (.invokevirtual 300, 3) := by decide +kernel
theorem dX12_fewest_158 : decode cX12_fewest 158 = .ok (.ireturn, 1) := by decide +kernel
theorem dX12_right_0 : decode cX12_right 0 = .ok (.iload_n 1, 1) := by decide +kernel
theorem dX12_right_1 : decode cX12_right 1 = .ok (.iconst 1, 1) := by decide +kernel
theorem dX12_right_2 : decode cX12_right 2 = .ok (.bipush 20, 2) := by decide +kernel
theorem dX12_right_4 : decode cX12_right 4 = .ok (.invokestatic 50, 3) := by decide +kernel
theorem dX12_right_7 : decode cX12_right 7 = .ok (.ifCond .ne 5, 3) := by decide +kernel
theorem dX12_right_10 : decode cX12_right 10 = .ok (.iconst (-1), 1) := by decide +kernel
theorem dX12_right_11 : decode cX12_right 11 = .ok (.ireturn, 1) := by decide +kernel
theorem dX12_right_12 : decode cX12_right 12 = .ok (.iconst 0, 1) := by decide +kernel
theorem dX12_right_13 : decode cX12_right 13 = .ok (.istore_n 2, 1) := by decide +kernel
theorem dX12_right_14 : decode cX12_right 14 = .ok (.iload_n 2, 1) := by decide +kernel
theorem dX12_right_15 : decode cX12_right 15 = .ok (.sipush 300, 3) := by decide +kernel
theorem dX12_right_18 : decode cX12_right 18 = .ok (.if_icmp .gt 114, 3) := by decide +kernel
theorem dX12_right_21 : decode cX12_right 21 = .ok (.aload_n 0, 1) := by decide +kernel
theorem dX12_right_22 : decode cX12_right 22 = .ok (.invokevirtual 285, 3) := by decide +kernel
theorem dX12_right_25 : decode cX12_right 25 = .ok (.aload_n 0, 1) := by decide +kernel
theorem dX12_right_26 : decode cX12_right 26 = .ok (.getfield 7, 3) := by decide +kernel
theorem dX12_right_29 : decode cX12_right 29 = .ok (.iconst 1, 1) := by decide +kernel
theorem dX12_right_30 : decode cX12_right 30 = .ok (.iaload, 1) := by decide +kernel
theorem dX12_right_31 : decode cX12_right 31 = .ok (.istore_n 3, 1) := by decide +kernel
theorem dX12_right_32 : decode cX12_right 32 = .ok (.aload_n 0, 1) := by decide +kernel
theorem dX12_right_33 : decode cX12_right 33 = .ok (.getfield 7, 3) := by decide +kernel
theorem dX12_right_36 : decode cX12_right 36 = .ok (.iconst 4, 1) := by decide +kernel
theorem dX12_right_37 : decode cX12_right 37 = .ok (.iload_n 2, 1) := by decide +kernel
theorem dX12_right_38 : decode cX12_right 38 = .ok (.iastore, 1) := by decide +kernel
theorem dX12_right_39 : decode cX12_right 39 = .ok (.aload_n 0, 1) := by decide +kernel
theorem dX12_right_40 : decode cX12_right 40 = .ok (.getfield 7, 3) := by decide +kernel
theorem dX12_right_43 : decode cX12_right 43 = .ok (.iconst 1, 1) := by decide +kernel
theorem dX12_right_44 : decode cX12_right 44 = .ok (.iaload, 1) := by decide +kernel
theorem dX12_right_45 : decode cX12_right 45 = .ok (.sipush 167, 3) := by decide +kernel
theorem dX12_right_48 : decode cX12_right 48 = .ok (.if_icmp .gt 10, 3) := by decide +kernel
theorem dX12_right_51 : decode cX12_right 51 = .ok (.aload_n 0, 1) := by decide +kernel
theorem dX12_right_52 : decode cX12_right 52 = .ok (.invokevirtual 282, 3) := by decide +kernel
theorem dX12_right_55 : decode cX12_right 55 = .ok (.goto (-16), 3) := by decide +kernel
theorem dX12_right_58 : decode cX12_right 58 = .ok (.iconst 0, 1) := by decide +kernel
theorem dX12_right_59 : decode cX12_right 59 = .ok (.istore 4, 2) := by decide +kernel
theorem dX12_right_61 : decode cX12_right 61 = .ok (.iconst 0, 1) := by decide +kernel
theorem dX12_right_62 : decode cX12_right 62 = .ok (.istore 5, 2) := by decide +kernel
theorem dX12_right_64 : decode cX12_right 64 = .ok (.iload 5, 2) := by decide +kernel
theorem dX12_right_66 : decode cX12_right 66 = .ok (.aload_n 0, 1) := by decide +kernel
theorem dX12_right_67 : decode cX12_right 67 = .ok (.getfield 7, 3) := by decide +kernel
theorem dX12_right_70 : decode cX12_right 70 = .ok (.iconst 3, 1) := by decide +kernel
theorem dX12_right_71 : decode cX12_right 71 = .ok (.iaload, 1) := by decide +kernel
theorem dX12_right_72 : decode cX12_right 72 = .ok (.if_icmp .ge 42, 3) := by decide +kernel
theorem dX12_right_75 : decode cX12_right 75 = .ok (.iload 4, 2) := by decide +kernel
theorem dX12_right_77 : decode cX12_right 77 = .ok (.aload_n 0, 1) := by decide +kernel
theorem dX12_right_78 : decode cX12_right 78 = .ok (.iload 5, 2) := by decide +kernel
theorem dX12_right_80 : decode cX12_right 80 = .ok (.bipush 8, 2) := by decide +kernel
theorem dX12_right_82 : decode cX12_right 82 = .ok (.invokevirtual 80, 3) := by decide +kernel
theorem dX12_right_85 : decode cX12_right 85 = .ok (.iload_n 3, 1) := by decide +kernel
theorem dX12_right_86 : decode cX12_right 86 = .ok (.if_icmp .lt 18, 3) := by decide +kernel
theorem dX12_right_89 : decode cX12_right 89 = .ok (.aload_n 0, 1) := by decide +kernel
theorem dX12_right_90 : decode cX12_right 90 = .ok (.iload 5, 2) := by decide +kernel
theorem dX12_right_92 : decode cX12_right 92 = .ok (.bipush 9, 2) := by decide +kernel
theorem dX12_right_94 : decode cX12_right 94 = .ok (.invokevirtual 80, 3) := by decide +kernel
theorem dX12_right_97 : decode cX12_right 97 = .ok (.ifCond .le 7, 3) := by decide +kernel
theorem dX12_right_100 : decode cX12_right 100 = .ok (.iconst 1, 1) := by decide +kernel
theorem dX12_right_101 : decode cX12_right 101 = .ok (.goto 4, 3) := by decide +kernel
theorem dX12_right_104 : decode cX12_right 104 = .ok (.iconst 0, 1) := by decide +kernel
theorem dX12_right_105 : decode cX12_right 105 = .ok (.iadd, 1) := by decide +kernel
theorem dX12_right_106 : decode cX12_right 106 = .ok (.istore 4, 2) := by decide +kernel
theorem dX12_right_108 : decode cX12_right 108 = .ok (.iinc 5 1, 3) := by decide +kernel
theorem dX12_right_111 : decode cX12_right 111 = .ok (.goto (-47), 3) := by decide +kernel
theorem dX12_right_114 : decode cX12_right 114 = .ok (.aload_n 0, 1) := by decide +kernel
theorem dX12_right_115 : decode cX12_right 115 = .ok (.invokevirtual 291, 3) := by decide +kernel
theorem dX12_right_118 : decode cX12_right 118 = .ok (.iload 4, 2) := by decide +kernel
theorem dX12_right_120 : decode cX12_right 120 = .ok (.iload_n 1, 1) := by decide +kernel
theorem dX12_right_121 : decode cX12_right 121 = .ok (.if_icmp .lt 5, 3) := by decide +kernel
theorem dX12_right_124 : decode cX12_right 124 = .ok (.iload_n 2, 1) := by decide +kernel
theorem dX12_right_125 : decode cX12_right 125 = .ok (.ireturn, 1) := by decide +kernel
theorem dX12_right_126 : decode cX12_right 126 = .ok (.iinc 2 1, 3) := by decide +kernel
theorem dX12_right_129 : decode cX12_right 129 = .ok (.goto (-115), 3) := by decide +kernel
theorem dX12_right_132 : decode cX12_right 132 = .ok (.iconst (-1), 1) := by decide +kernel
theorem dX12_right_133 : decode cX12_right 133 = .ok (.ireturn, 1) := by decide +kernel
theorem dX12_list_0 : decode cX12_list 0 = .ok (.iload_n 1, 1) := by decide +kernel
theorem dX12_list_1 : decode cX12_list 1 = .ok (.iconst 0, 1) := by decide +kernel
theorem dX12_list_2 : decode cX12_list 2 = .ok (.sipush 167, 3) := by decide +kernel
theorem dX12_list_5 : decode cX12_list 5 = .ok (.invokestatic 50, 3) := by decide +kernel
theorem dX12_list_8 : decode cX12_list 8 = .ok (.ifCond .eq 41, 3) := by decide +kernel
theorem dX12_list_11 : decode cX12_list 11 = .ok (.aload_n 0, 1) := by decide +kernel
theorem dX12_list_12 : decode cX12_list 12 = .ok (.iload_n 2, 1) := by decide +kernel
theorem dX12_list_13 : decode cX12_list 13 = .ok (.invokevirtual 58, 3) := by decide +kernel
theorem dX12_list_16 : decode cX12_list 16 = .ok (.ifCond .eq 33, 3) := by decide +kernel
theorem dX12_list_19 : decode cX12_list 19 = .ok (.iload_n 3, 1) := by decide +kernel
theorem dX12_list_20 : decode cX12_list 20 = .ok (.iconst 0, 1) := by decide +kernel
theorem dX12_list_21 : decode cX12_list 21 = .ok (.iconst 1, 1) := by decide +kernel
theorem dX12_list_22 : decode cX12_list 22 = .ok (.aload_n 0, 1) := by decide +kernel
theorem dX12_list_23 : decode cX12_list 23 = .ok (.getfield 7, 3) := by decide +kernel
theorem dX12_list_26 : decode cX12_list 26 = .ok (.iconst 2, 1) := by decide +kernel
theorem dX12_list_27 : decode cX12_list 27 = .ok (.iaload, 1) := by decide +kernel
theorem dX12_list_28 : decode cX12_list 28 = .ok (.ishl, 1) := by decide +kernel
theorem dX12_list_29 : decode cX12_list 29 = .ok (.iconst 1, 1) := by decide +kernel
theorem dX12_list_30 : decode cX12_list 30 = .ok (.isub, 1) := by decide +kernel
theorem dX12_list_31 : decode cX12_list 31 = .ok (.invokestatic 50, 3) := by decide +kernel
theorem dX12_list_34 : decode cX12_list 34 = .ok (.ifCond .eq 15, 3) := by decide +kernel
theorem dX12_list_37 : decode cX12_list 37 = .ok (.aload_n 0, 1) := by decide +kernel
theorem dX12_list_38 : decode cX12_list 38 = .ok (.getfield 7, 3) := by decide +kernel
theorem dX12_list_41 : decode cX12_list 41 = .ok (.bipush 8, 2) := by decide +kernel
theorem dX12_list_43 : decode cX12_list 43 = .ok (.iaload, 1) := by decide +kernel
theorem dX12_list_44 : decode cX12_list 44 = .ok (.bipush 20, 2) := by decide +kernel
theorem dX12_list_46 : decode cX12_list 46 = .ok (.if_icmp .ne 5, 3) := by decide +kernel
theorem dX12_list_49 : decode cX12_list 49 = .ok (.iconst 0, 1) := by decide +kernel
theorem dX12_list_50 : decode cX12_list 50 = .ok (.ireturn, 1) := by decide +kernel
theorem dX12_list_51 : decode cX12_list 51 = .ok (.sipush 1540, 3) := by decide +kernel
theorem dX12_list_54 : decode cX12_list 54 = .ok (.iconst 3, 1) := by decide +kernel
theorem dX12_list_55 : decode cX12_list 55 = .ok (.aload_n 0, 1) := by decide +kernel
theorem dX12_list_56 : decode cX12_list 56 = .ok (.getfield 7, 3) := by decide +kernel
theorem dX12_list_59 : decode cX12_list 59 = .ok (.bipush 8, 2) := by decide +kernel
theorem dX12_list_61 : decode cX12_list 61 = .ok (.iaload, 1) := by decide +kernel
theorem dX12_list_62 : decode cX12_list 62 = .ok (.imul, 1) := by decide +kernel
theorem dX12_list_63 : decode cX12_list 63 = .ok (.iadd, 1) := by decide +kernel
theorem dX12_list_64 : decode cX12_list 64 = .ok (.istore 4, 2) := by decide +kernel
theorem dX12_list_66 : decode cX12_list 66 = .ok (.aload_n 0, 1) := by decide +kernel
theorem dX12_list_67 : decode cX12_list 67 = .ok (.getfield 7, 3) := by decide +kernel
theorem dX12_list_70 : decode cX12_list 70 = .ok (.iload 4, 2) := by decide +kernel
theorem dX12_list_72 : decode cX12_list 72 = .ok (.iload_n 1, 1) := by decide +kernel
theorem dX12_list_73 : decode cX12_list 73 = .ok (.iastore, 1) := by decide +kernel
theorem dX12_list_74 : decode cX12_list 74 = .ok (.aload_n 0, 1) := by decide +kernel
theorem dX12_list_75 : decode cX12_list 75 = .ok (.getfield 7, 3) := by decide +kernel
theorem dX12_list_78 : decode cX12_list 78 = .ok (.iload 4, 2) := by decide +kernel
theorem dX12_list_80 : decode cX12_list 80 = .ok (.iconst 1, 1) := by decide +kernel
theorem dX12_list_81 : decode cX12_list 81 = .ok (.iadd, 1) := by decide +kernel
theorem dX12_list_82 : decode cX12_list 82 = .ok (.iload_n 2, 1) := by decide +kernel
theorem dX12_list_83 : decode cX12_list 83 = .ok (.iastore, 1) := by decide +kernel
theorem dX12_list_84 : decode cX12_list 84 = .ok (.aload_n 0, 1) := by decide +kernel
theorem dX12_list_85 : decode cX12_list 85 = .ok (.getfield 7, 3) := by decide +kernel
theorem dX12_list_88 : decode cX12_list 88 = .ok (.iload 4, 2) := by decide +kernel
theorem dX12_list_90 : decode cX12_list 90 = .ok (.iconst 2, 1) := by decide +kernel
theorem dX12_list_91 : decode cX12_list 91 = .ok (.iadd, 1) := by decide +kernel
theorem dX12_list_92 : decode cX12_list 92 = .ok (.iload_n 3, 1) := by decide +kernel
theorem dX12_list_93 : decode cX12_list 93 = .ok (.iastore, 1) := by decide +kernel
theorem dX12_list_94 : decode cX12_list 94 = .ok (.aload_n 0, 1) := by decide +kernel
theorem dX12_list_95 : decode cX12_list 95 = .ok (.getfield 7, 3) := by decide +kernel
theorem dX12_list_98 : decode cX12_list 98 = .ok (.bipush 8, 2) := by decide +kernel
theorem dX12_list_100 : decode cX12_list 100 = .ok (.dup2, 1) := by decide +kernel
theorem dX12_list_101 : decode cX12_list 101 = .ok (.iaload, 1) := by decide +kernel
theorem dX12_list_102 : decode cX12_list 102 = .ok (.iconst 1, 1) := by decide +kernel
theorem dX12_list_103 : decode cX12_list 103 = .ok (.iadd, 1) := by decide +kernel
theorem dX12_list_104 : decode cX12_list 104 = .ok (.iastore, 1) := by decide +kernel
theorem dX12_list_105 : decode cX12_list 105 = .ok (.iconst 1, 1) := by decide +kernel
theorem dX12_list_106 : decode cX12_list 106 = .ok (.ireturn, 1) := by decide +kernel
theorem dX12_setAt_0 : decode cX12_setAt 0 = .ok (.iconst 0, 1) := by decide +kernel
theorem dX12_setAt_1 : decode cX12_setAt 1 = .ok (.istore_n 2, 1) := by decide +kernel
theorem dX12_setAt_2 : decode cX12_setAt 2 = .ok (.iconst 0, 1) := by decide +kernel
theorem dX12_setAt_3 : decode cX12_setAt 3 = .ok (.istore_n 3, 1) := by decide +kernel
theorem dX12_setAt_4 : decode cX12_setAt 4 = .ok (.iload_n 3, 1) := by decide +kernel
theorem dX12_setAt_5 : decode cX12_setAt 5 = .ok (.aload_n 0, 1) := by decide +kernel
theorem dX12_setAt_6 : decode cX12_setAt 6 = .ok (.getfield 7, 3) := by decide +kernel
theorem dX12_setAt_9 : decode cX12_setAt 9 = .ok (.iconst 2, 1) := by decide +kernel
theorem dX12_setAt_10 : decode cX12_setAt 10 = .ok (.iaload, 1) := by decide +kernel
theorem dX12_setAt_11 : decode cX12_setAt 11 = .ok (.if_icmp .ge 28, 3) := by decide +kernel
theorem dX12_setAt_14 : decode cX12_setAt 14 = .ok (.iload_n 2, 1) := by decide +kernel
theorem dX12_setAt_15 : decode cX12_setAt 15 = .ok (.aload_n 0, 1) := by decide +kernel
theorem dX12_setAt_16 : decode cX12_setAt 16 = .ok (.iload_n 3, 1) := by decide +kernel
theorem dX12_setAt_17 : decode cX12_setAt 17 = .ok (.iload_n 1, 1) := by decide +kernel
theorem dX12_setAt_18 : decode cX12_setAt 18 = .ok (.invokevirtual 226, 3) := by decide +kernel
theorem dX12_setAt_21 : decode cX12_setAt 21 = .ok (.ifCond .eq 9, 3) := by decide +kernel
theorem dX12_setAt_24 : decode cX12_setAt 24 = .ok (.iconst 1, 1) := by decide +kernel
theorem dX12_setAt_25 : decode cX12_setAt 25 = .ok (.iload_n 3, 1) := by decide +kernel
theorem dX12_setAt_26 : decode cX12_setAt 26 = .ok (.ishl, 1) := by decide +kernel
theorem dX12_setAt_27 : decode cX12_setAt 27 = .ok (.goto 4, 3) := by decide +kernel
theorem dX12_setAt_30 : decode cX12_setAt 30 = .ok (.iconst 0, 1) := by decide +kernel
theorem dX12_setAt_31 : decode cX12_setAt 31 = .ok (.ior, 1) := by decide +kernel
theorem dX12_setAt_32 : decode cX12_setAt 32 = .ok (.istore_n 2, 1) := by decide +kernel
theorem dX12_setAt_33 : decode cX12_setAt 33 = .ok (.iinc 3 1, 3) := by decide +kernel
theorem dX12_setAt_36 : decode cX12_setAt 36 = .ok (.goto (-32), 3) := by decide +kernel
theorem dX12_setAt_39 : decode cX12_setAt 39 = .ok (.iload_n 2, 1) := by decide +kernel
theorem dX12_setAt_40 : decode cX12_setAt 40 = .ok (.ireturn, 1) := by decide +kernel
theorem dX12_goWith_0 : decode cX12_goWith 0 = .ok (.aload_n 0, 1) := by decide +kernel
theorem dX12_goWith_1 : decode cX12_goWith 1 = .ok (.invokevirtual 285, 3) := by decide +kernel
theorem dX12_goWith_4 : decode cX12_goWith 4 = .ok (.aload_n 0, 1) := by decide +kernel
theorem dX12_goWith_5 : decode cX12_goWith 5 = .ok (.iload_n 1, 1) := by decide +kernel
theorem dX12_goWith_6 : decode cX12_goWith 6 = .ok (.putfield 270, 3) := by decide +kernel
theorem dX12_goWith_9 : decode cX12_goWith 9 = .ok (.aload_n 0, 1) := by decide +kernel
theorem dX12_goWith_10 : decode cX12_goWith 10 = .ok (.getfield 7, 3) := by decide +kernel
theorem dX12_goWith_13 : decode cX12_goWith 13 = .ok (.iconst 1, 1) := by decide +kernel
theorem dX12_goWith_14 : decode cX12_goWith 14 = .ok (.iconst 0, 1) := by decide +kernel
theorem dX12_goWith_15 : decode cX12_goWith 15 = .ok (.iastore, 1) := by decide +kernel
theorem dX12_goWith_16 : decode cX12_goWith 16 = .ok (.aload_n 0, 1) := by decide +kernel
theorem dX12_goWith_17 : decode cX12_goWith 17 = .ok (.getfield 7, 3) := by decide +kernel
theorem dX12_goWith_20 : decode cX12_goWith 20 = .ok (.bipush 10, 2) := by decide +kernel
theorem dX12_goWith_22 : decode cX12_goWith 22 = .ok (.iconst 0, 1) := by decide +kernel
theorem dX12_goWith_23 : decode cX12_goWith 23 = .ok (.iastore, 1) := by decide +kernel
theorem dX12_goWith_24 : decode cX12_goWith 24 = .ok (.iconst 0, 1) := by decide +kernel
theorem dX12_goWith_25 : decode cX12_goWith 25 = .ok (.istore_n 2, 1) := by decide +kernel
theorem dX12_goWith_26 : decode cX12_goWith 26 = .ok (.iload_n 2, 1) := by decide +kernel
theorem dX12_goWith_27 : decode cX12_goWith 27 = .ok (.aload_n 0, 1) := by decide +kernel
theorem dX12_goWith_28 : decode cX12_goWith 28 = .ok (.getfield 7, 3) := by decide +kernel
theorem dX12_goWith_31 : decode cX12_goWith 31 = .ok (.iconst 2, 1) := by decide +kernel
theorem dX12_goWith_32 : decode cX12_goWith 32 = .ok (.iaload, 1) := by decide +kernel
theorem dX12_goWith_33 : decode cX12_goWith 33 = .ok (.if_icmp .ge 40, 3) := by decide +kernel
theorem dX12_goWith_36 : decode cX12_goWith 36 = .ok (.aload_n 0, 1) := by decide +kernel
theorem dX12_goWith_37 : decode cX12_goWith 37 = .ok (.iload_n 2, 1) := by decide +kernel
theorem dX12_goWith_38 : decode cX12_goWith 38 = .ok (.iconst 5, 1) := by decide +kernel
theorem dX12_goWith_39 : decode cX12_goWith 39 = .ok (.iconst (-1), 1) := by decide +kernel
theorem dX12_goWith_40 : decode cX12_goWith 40 = .ok (.invokevirtual 54, 3) := by decide +kernel
theorem dX12_goWith_43 : decode cX12_goWith 43 = .ok (.aload_n 0, 1) := by decide +kernel
theorem dX12_goWith_44 : decode cX12_goWith 44 = .ok (.iload_n 2, 1) := by decide +kernel
theorem dX12_goWith_45 : decode cX12_goWith 45 = .ok (.bipush 6, 2) := by decide +kernel
theorem dX12_goWith_47 : decode cX12_goWith 47 = .ok (.iconst (-1), 1) := by decide +kernel
theorem dX12_goWith_48 : decode cX12_goWith 48 = .ok (.invokevirtual 54, 3) := by decide +kernel
theorem dX12_goWith_51 : decode cX12_goWith 51 = .ok (.aload_n 0, 1) := by decide +kernel
theorem dX12_goWith_52 : decode cX12_goWith 52 = .ok (.iload_n 2, 1) := by decide +kernel
theorem dX12_goWith_53 : decode cX12_goWith 53 = .ok (.bipush 7, 2) := by decide +kernel
theorem dX12_goWith_55 : decode cX12_goWith 55 = .ok (.iconst 0, 1) := by decide +kernel
theorem dX12_goWith_56 : decode cX12_goWith 56 = .ok (.invokevirtual 54, 3) := by decide +kernel
theorem dX12_goWith_59 : decode cX12_goWith 59 = .ok (.aload_n 0, 1) := by decide +kernel
theorem dX12_goWith_60 : decode cX12_goWith 60 = .ok (.iload_n 2, 1) := by decide +kernel
theorem dX12_goWith_61 : decode cX12_goWith 61 = .ok (.bipush 8, 2) := by decide +kernel
theorem dX12_goWith_63 : decode cX12_goWith 63 = .ok (.iconst 0, 1) := by decide +kernel
theorem dX12_goWith_64 : decode cX12_goWith 64 = .ok (.invokevirtual 54, 3) := by decide +kernel
theorem dX12_goWith_67 : decode cX12_goWith 67 = .ok (.iinc 2 1, 3) := by decide +kernel
theorem dX12_goWith_70 : decode cX12_goWith 70 = .ok (.goto (-44), 3) := by decide +kernel
theorem dX12_goWith_73 : decode cX12_goWith 73 = .ok (.iconst 0, 1) := by decide +kernel
theorem dX12_goWith_74 : decode cX12_goWith 74 = .ok (.istore_n 2, 1) := by decide +kernel
theorem dX12_goWith_75 : decode cX12_goWith 75 = .ok (.iload_n 2, 1) := by decide +kernel
theorem dX12_goWith_76 : decode cX12_goWith 76 = .ok (.aload_n 0, 1) := by decide +kernel
theorem dX12_goWith_77 : decode cX12_goWith 77 = .ok (.getfield 7, 3) := by decide +kernel
theorem dX12_goWith_80 : decode cX12_goWith 80 = .ok (.iconst 3, 1) := by decide +kernel
theorem dX12_goWith_81 : decode cX12_goWith 81 = .ok (.iaload, 1) := by decide +kernel
theorem dX12_goWith_82 : decode cX12_goWith 82 = .ok (.if_icmp .ge 17, 3) := by decide +kernel
theorem dX12_goWith_85 : decode cX12_goWith 85 = .ok (.aload_n 0, 1) := by decide +kernel
theorem dX12_goWith_86 : decode cX12_goWith 86 = .ok (.iload_n 2, 1) := by decide +kernel
theorem dX12_goWith_87 : decode cX12_goWith 87 = .ok (.bipush 8, 2) := by decide +kernel
theorem dX12_goWith_89 : decode cX12_goWith 89 = .ok (.iconst (-1), 1) := by decide +kernel
theorem dX12_goWith_90 : decode cX12_goWith 90 = .ok (.invokevirtual 74, 3) := by decide +kernel
theorem dX12_goWith_93 : decode cX12_goWith 93 = .ok (.iinc 2 1, 3) := by decide +kernel
theorem dX12_goWith_96 : decode cX12_goWith 96 = .ok (.goto (-21), 3) := by decide +kernel
theorem dX12_goWith_99 : decode cX12_goWith 99 = .ok (.iconst 1, 1) := by decide +kernel
theorem dX12_goWith_100 : decode cX12_goWith 100 = .ok (.istore_n 2, 1) := by decide +kernel
theorem dX12_goWith_101 : decode cX12_goWith 101 = .ok (.iload_n 2, 1) := by decide +kernel
theorem dX12_goWith_102 : decode cX12_goWith 102 = .ok (.ifCond .eq 109, 3) := by decide +kernel
theorem dX12_goWith_105 : decode cX12_goWith 105 = .ok (.aload_n 0, 1) := by decide +kernel
theorem dX12_goWith_106 : decode cX12_goWith 106 = .ok (.getfield 7, 3) := by decide +kernel
theorem dX12_goWith_109 : decode cX12_goWith 109 = .ok (.iconst 1, 1) := by decide +kernel
theorem dX12_goWith_110 : decode cX12_goWith 110 = .ok (.iaload, 1) := by decide +kernel
theorem dX12_goWith_111 : decode cX12_goWith 111 = .ok (.sipush 167, 3) := by decide +kernel
theorem dX12_goWith_114 : decode cX12_goWith 114 = .ok (.if_icmp .gt 97, 3) := by decide +kernel
theorem dX12_goWith_117 : decode cX12_goWith 117 = .ok (.aload_n 0, 1) := by decide +kernel
theorem dX12_goWith_118 : decode cX12_goWith 118 = .ok (.invokevirtual 282, 3) := by decide +kernel
theorem dX12_goWith_121 : decode cX12_goWith 121 = .ok (.iconst 0, 1) := by decide +kernel
theorem dX12_goWith_122 : decode cX12_goWith 122 = .ok (.istore_n 3, 1) := by decide +kernel
theorem dX12_goWith_123 : decode cX12_goWith 123 = .ok (.iload_n 3, 1) := by decide +kernel
theorem dX12_goWith_124 : decode cX12_goWith 124 = .ok (.aload_n 0, 1) := by decide +kernel
theorem dX12_goWith_125 : decode cX12_goWith 125 = .ok (.getfield 7, 3) := by decide +kernel
theorem dX12_goWith_128 : decode cX12_goWith 128 = .ok (.bipush 8, 2) := by decide +kernel
theorem dX12_goWith_130 : decode cX12_goWith 130 = .ok (.iaload, 1) := by decide +kernel
theorem dX12_goWith_131 : decode cX12_goWith 131 = .ok (.if_icmp .ge 77, 3) := by decide +kernel
theorem dX12_goWith_134 : decode cX12_goWith 134 = .ok (.iload_n 2, 1) := by decide +kernel
theorem dX12_goWith_135 : decode cX12_goWith 135 = .ok (.ifCond .eq 73, 3) := by decide +kernel
theorem dX12_goWith_138 : decode cX12_goWith 138 = .ok (.aload_n 0, 1) := by decide +kernel
theorem dX12_goWith_139 : decode cX12_goWith 139 = .ok (.getfield 7, 3) := by decide +kernel
theorem dX12_goWith_142 : decode cX12_goWith 142 = .ok (.sipush 1540, 3) := by decide +kernel
theorem dX12_goWith_145 : decode cX12_goWith 145 = .ok (.iconst 3, 1) := by decide +kernel
theorem dX12_goWith_146 : decode cX12_goWith 146 = .ok (.iload_n 3, 1) := by decide +kernel
theorem dX12_goWith_147 : decode cX12_goWith 147 = .ok (.imul, 1) := by decide +kernel
theorem dX12_goWith_148 : decode cX12_goWith 148 = .ok (.iadd, 1) := by decide +kernel
theorem dX12_goWith_149 : decode cX12_goWith 149 = .ok (.iaload, 1) := by decide +kernel
theorem dX12_goWith_150 : decode cX12_goWith 150 = .ok (.aload_n 0, 1) := by decide +kernel
theorem dX12_goWith_151 : decode cX12_goWith 151 = .ok (.getfield 7, 3) := by decide +kernel
theorem dX12_goWith_154 : decode cX12_goWith 154 = .ok (.iconst 1, 1) := by decide +kernel
theorem dX12_goWith_155 : decode cX12_goWith 155 = .ok (.iaload, 1) := by decide +kernel
theorem dX12_goWith_156 : decode cX12_goWith 156 = .ok (.iconst 1, 1) := by decide +kernel
theorem dX12_goWith_157 : decode cX12_goWith 157 = .ok (.isub, 1) := by decide +kernel
theorem dX12_goWith_158 : decode cX12_goWith 158 = .ok (.if_icmp .ne 38, 3) := by decide +kernel
theorem dX12_goWith_161 : decode cX12_goWith 161 = .ok (.aload_n 0, 1) := by decide +kernel
theorem dX12_goWith_162 : decode cX12_goWith 162 = .ok (.aload_n 0, 1) := by decide +kernel
theorem dX12_goWith_163 : decode cX12_goWith 163 = .ok (.getfield 7, 3) := by decide +kernel
theorem dX12_goWith_166 : decode cX12_goWith 166 = .ok (.sipush 1540, 3) := by decide +kernel
theorem dX12_goWith_169 : decode cX12_goWith 169 = .ok (.iconst 3, 1) := by decide +kernel
theorem dX12_goWith_170 : decode cX12_goWith 170 = .ok (.iload_n 3, 1) := by decide +kernel
theorem dX12_goWith_171 : decode cX12_goWith 171 = .ok (.imul, 1) := by decide +kernel
theorem dX12_goWith_172 : decode cX12_goWith 172 = .ok (.iadd, 1) := by decide +kernel
theorem dX12_goWith_173 : decode cX12_goWith 173 = .ok (.iconst 1, 1) := by decide +kernel
theorem dX12_goWith_174 : decode cX12_goWith 174 = .ok (.iadd, 1) := by decide +kernel
theorem dX12_goWith_175 : decode cX12_goWith 175 = .ok (.iaload, 1) := by decide +kernel
theorem dX12_goWith_176 : decode cX12_goWith 176 = .ok (.invokevirtual 306, 3) := by decide +kernel
theorem dX12_goWith_179 : decode cX12_goWith 179 = .ok (.aload_n 0, 1) := by decide +kernel
theorem dX12_goWith_180 : decode cX12_goWith 180 = .ok (.getfield 7, 3) := by decide +kernel
theorem dX12_goWith_183 : decode cX12_goWith 183 = .ok (.sipush 1540, 3) := by decide +kernel
theorem dX12_goWith_186 : decode cX12_goWith 186 = .ok (.iconst 3, 1) := by decide +kernel
theorem dX12_goWith_187 : decode cX12_goWith 187 = .ok (.iload_n 3, 1) := by decide +kernel
theorem dX12_goWith_188 : decode cX12_goWith 188 = .ok (.imul, 1) := by decide +kernel
theorem dX12_goWith_189 : decode cX12_goWith 189 = .ok (.iadd, 1) := by decide +kernel
theorem dX12_goWith_190 : decode cX12_goWith 190 = .ok (.iconst 2, 1) := by decide +kernel
theorem dX12_goWith_191 : decode cX12_goWith 191 = .ok (.iadd, 1) := by decide +kernel
theorem dX12_goWith_192 : decode cX12_goWith 192 = .ok (.iaload, 1) := by decide +kernel
theorem dX12_goWith_193 : decode cX12_goWith 193 = .ok (.if_icmp .ne 7, 3) := by decide +kernel
theorem dX12_goWith_196 : decode cX12_goWith 196 = .ok (.iconst 1, 1) := by decide +kernel
theorem dX12_goWith_197 : decode cX12_goWith 197 = .ok (.goto 4, 3) := by decide +kernel
theorem dX12_goWith_200 : decode cX12_goWith 200 = .ok (.iconst 0, 1) := by decide +kernel
theorem dX12_goWith_201 : decode cX12_goWith 201 = .ok (.istore_n 2, 1) := by decide +kernel
theorem dX12_goWith_202 : decode cX12_goWith 202 = .ok (.iinc 3 1, 3) := by decide +kernel
theorem dX12_goWith_205 : decode cX12_goWith 205 = .ok (.goto (-82), 3) := by decide +kernel
theorem dX12_goWith_208 : decode cX12_goWith 208 = .ok (.goto (-107), 3) := by decide +kernel
theorem dX12_goWith_211 : decode cX12_goWith 211 = .ok (.aload_n 0, 1) := by decide +kernel
theorem dX12_goWith_212 : decode cX12_goWith 212 = .ok (.invokevirtual 291, 3) := by decide +kernel
theorem dX12_goWith_215 : decode cX12_goWith 215 = .ok (.iload_n 2, 1) := by decide +kernel
theorem dX12_goWith_216 : decode cX12_goWith 216 = .ok (.ireturn, 1) := by decide +kernel
theorem dX12_night_0 : decode cX12_night 0 = .ok (.iconst 0, 1) := by decide +kernel
theorem dX12_night_1 : decode cX12_night 1 = .ok (.istore_n 2, 1) := by decide +kernel
theorem dX12_night_2 : decode cX12_night 2 = .ok (.iconst 0, 1) := by decide +kernel
theorem dX12_night_3 : decode cX12_night 3 = .ok (.istore_n 3, 1) := by decide +kernel
theorem dX12_night_4 : decode cX12_night 4 = .ok (.iconst 0, 1) := by decide +kernel
theorem dX12_night_5 : decode cX12_night 5 = .ok (.istore 4, 2) := by decide +kernel
theorem dX12_night_7 : decode cX12_night 7 = .ok (.iload 4, 2) := by decide +kernel
theorem dX12_night_9 : decode cX12_night 9 = .ok (.aload_n 0, 1) := by decide +kernel
theorem dX12_night_10 : decode cX12_night 10 = .ok (.getfield 7, 3) := by decide +kernel
theorem dX12_night_13 : decode cX12_night 13 = .ok (.iconst 3, 1) := by decide +kernel
theorem dX12_night_14 : decode cX12_night 14 = .ok (.iaload, 1) := by decide +kernel
theorem dX12_night_15 : decode cX12_night 15 = .ok (.if_icmp .ge 49, 3) := by decide +kernel
theorem dX12_night_18 : decode cX12_night 18 = .ok (.aload_n 0, 1) := by decide +kernel
theorem dX12_night_19 : decode cX12_night 19 = .ok (.iload 4, 2) := by decide +kernel
theorem dX12_night_21 : decode cX12_night 21 = .ok (.bipush 11, 2) := by decide +kernel
theorem dX12_night_23 : decode cX12_night 23 = .ok (.invokevirtual 80, 3) := by decide +kernel
theorem dX12_night_26 : decode cX12_night 26 = .ok (.ifCond .ne 6, 3) := by decide +kernel
theorem dX12_night_29 : decode cX12_night 29 = .ok (.goto 29, 3) := by decide +kernel
theorem dX12_night_32 : decode cX12_night 32 = .ok (.iload_n 2, 1) := by decide +kernel
theorem dX12_night_33 : decode cX12_night 33 = .ok (.bipush 8, 2) := by decide +kernel
theorem dX12_night_35 : decode cX12_night 35 = .ok (.if_icmp .ne 5, 3) := by decide +kernel
theorem dX12_night_38 : decode cX12_night 38 = .ok (.iconst (-1), 1) := by decide +kernel
theorem dX12_night_39 : decode cX12_night 39 = .ok (.ireturn, 1) := by decide +kernel
theorem dX12_night_40 : decode cX12_night 40 = .ok (.aload_n 0, 1) := by decide +kernel
theorem dX12_night_41 : decode cX12_night 41 = .ok (.getfield 47, 3) := by decide +kernel
theorem dX12_night_44 : decode cX12_night 44 = .ok (.iload_n 2, 1) := by decide +kernel
theorem dX12_night_45 : decode cX12_night 45 = .ok (.iload 4, 2) := by decide +kernel
theorem dX12_night_47 : decode cX12_night 47 = .ok (.iastore, 1) := by decide +kernel
theorem dX12_night_48 : decode cX12_night 48 = .ok (.iload_n 3, 1) := by decide +kernel
theorem dX12_night_49 : decode cX12_night 49 = .ok (.iconst 1, 1) := by decide +kernel
theorem dX12_night_50 : decode cX12_night 50 = .ok (.iload 4, 2) := by decide +kernel
theorem dX12_night_52 : decode cX12_night 52 = .ok (.ishl, 1) := by decide +kernel
theorem dX12_night_53 : decode cX12_night 53 = .ok (.ior, 1) := by decide +kernel
theorem dX12_night_54 : decode cX12_night 54 = .ok (.istore_n 3, 1) := by decide +kernel
theorem dX12_night_55 : decode cX12_night 55 = .ok (.iinc 2 1, 3) := by decide +kernel
theorem dX12_night_58 : decode cX12_night 58 = .ok (.iinc 4 1, 3) := by decide +kernel
theorem dX12_night_61 : decode cX12_night 61 = .ok (.goto (-54), 3) := by decide +kernel
theorem dX12_night_64 : decode cX12_night 64 = .ok (.iload_n 1, 1) := by decide +kernel
theorem dX12_night_65 : decode cX12_night 65 = .ok (.iconst 0, 1) := by decide +kernel
theorem dX12_night_66 : decode cX12_night 66 = .ok (.iconst 2, 1) := by decide +kernel
theorem dX12_night_67 : decode cX12_night 67 = .ok (.invokestatic 50, 3) := by decide +kernel
theorem dX12_night_70 : decode cX12_night 70 = .ok (.ifCond .ne 5, 3) := by decide +kernel
theorem dX12_night_73 : decode cX12_night 73 = .ok (.iconst (-1), 1) := by decide +kernel
theorem dX12_night_74 : decode cX12_night 74 = .ok (.ireturn, 1) := by decide +kernel
theorem dX12_night_75 : decode cX12_night 75 = .ok (.iconst 0, 1) := by decide +kernel
theorem dX12_night_76 : decode cX12_night 76 = .ok (.istore 4, 2) := by decide +kernel
theorem dX12_night_78 : decode cX12_night 78 = .ok (.iconst 0, 1) := by decide +kernel
theorem dX12_night_79 : decode cX12_night 79 = .ok (.istore 5, 2) := by decide +kernel
theorem dX12_night_81 : decode cX12_night 81 = .ok (.iconst (-1), 1) := by decide +kernel
theorem dX12_night_82 : decode cX12_night 82 = .ok (.istore 6, 2) := by decide +kernel
theorem dX12_night_84 : decode cX12_night 84 = .ok (.iconst 0, 1) := by decide +kernel
theorem dX12_night_85 : decode cX12_night 85 = .ok (.istore 7, 2) := by decide +kernel
theorem dX12_night_87 : decode cX12_night 87 = .ok (.iload 7, 2) := by decide +kernel
theorem dX12_night_89 : decode cX12_night 89 = .ok (.iconst 1, 1) := by decide +kernel
theorem dX12_night_90 : decode cX12_night 90 = .ok (.iload_n 2, 1) := by decide +kernel
theorem dX12_night_91 : decode cX12_night 91 = .ok (.ishl, 1) := by decide +kernel
theorem dX12_night_92 : decode cX12_night 92 = .ok (.if_icmp .ge 106, 3) := by decide +kernel
theorem dX12_night_95 : decode cX12_night 95 = .ok (.iconst 0, 1) := by decide +kernel
theorem dX12_night_96 : decode cX12_night 96 = .ok (.istore 8, 2) := by decide +kernel
theorem dX12_night_98 : decode cX12_night 98 = .ok (.iconst 0, 1) := by decide +kernel
theorem dX12_night_99 : decode cX12_night 99 = .ok (.istore 9, 2) := by decide +kernel
theorem dX12_night_101 : decode cX12_night 101 = .ok (.iload 9, 2) := by decide +kernel
theorem dX12_night_103 : decode cX12_night 103 = .ok (.iload_n 2, 1) := by decide +kernel
theorem dX12_night_104 : decode cX12_night 104 = .ok (.if_icmp .ge 38, 3) := by decide +kernel
theorem dX12_night_107 : decode cX12_night 107 = .ok (.iload 8, 2) := by decide +kernel
theorem dX12_night_109 : decode cX12_night 109 = .ok (.iload 7, 2) := by decide +kernel
theorem dX12_night_111 : decode cX12_night 111 = .ok (.iload 9, 2) := by decide +kernel
theorem dX12_night_113 : decode cX12_night 113 = .ok (.ishr, 1) := by decide +kernel
theorem dX12_night_114 : decode cX12_night 114 = .ok (.iconst 1, 1) := by decide +kernel
theorem dX12_night_115 : decode cX12_night 115 = .ok (.iand, 1) := by decide +kernel
theorem dX12_night_116 : decode cX12_night 116 = .ok (.iconst 1, 1) := by decide +kernel
theorem dX12_night_117 : decode cX12_night 117 = .ok (.if_icmp .ne 15, 3) := by decide +kernel
theorem dX12_night_120 : decode cX12_night 120 = .ok (.iconst 1, 1) := by decide +kernel
theorem dX12_night_121 : decode cX12_night 121 = .ok (.aload_n 0, 1) := by decide +kernel
theorem dX12_night_122 : decode cX12_night 122 = .ok (.getfield 47, 3) := by decide +kernel
theorem dX12_night_125 : decode cX12_night 125 = .ok (.iload 9, 2) := by decide +kernel
theorem dX12_night_127 : decode cX12_night 127 = .ok (.iaload, 1) := by decide +kernel
theorem dX12_night_128 : decode cX12_night 128 = .ok (.ishl, 1) := by decide +kernel
theorem dX12_night_129 : decode cX12_night 129 = .ok (.goto 4, 3) := by decide +kernel
theorem dX12_night_132 : decode cX12_night 132 = .ok (.iconst 0, 1) := by decide +kernel
theorem dX12_night_133 : decode cX12_night 133 = .ok (.ior, 1) := by decide +kernel
theorem dX12_night_134 : decode cX12_night 134 = .ok (.istore 8, 2) := by decide +kernel
theorem dX12_night_136 : decode cX12_night 136 = .ok (.iinc 9 1, 3) := by decide +kernel
theorem dX12_night_139 : decode cX12_night 139 = .ok (.goto (-38), 3) := by decide +kernel
theorem dX12_night_142 : decode cX12_night 142 = .ok (.aload_n 0, 1) := by decide +kernel
theorem dX12_night_143 : decode cX12_night 143 = .ok (.iload_n 3, 1) := by decide +kernel
theorem dX12_night_144 : decode cX12_night 144 = .ok (.iload 8, 2) := by decide +kernel
theorem dX12_night_146 : decode cX12_night 146 = .ok (.iconst (-1), 1) := by decide +kernel
theorem dX12_night_147 : decode cX12_night 147 = .ok (.ixor, 1) := by decide +kernel
theorem dX12_night_148 : decode cX12_night 148 = .ok (.iand, 1) := by decide +kernel
theorem dX12_night_149 : decode cX12_night 149 = .ok (.invokevirtual 309, 3) := by decide +kernel
theorem dX12_night_152 : decode cX12_night 152 = .ok (.ifCond .ne 6, 3) := by decide +kernel
theorem dX12_night_155 : decode cX12_night 155 = .ok (.goto 37, 3) := by decide +kernel
theorem dX12_night_158 : decode cX12_night 158 = .ok (.iload 4, 2) := by decide +kernel
theorem dX12_night_160 : decode cX12_night 160 = .ok (.ifCond .ne 8, 3) := by decide +kernel
theorem dX12_night_163 : decode cX12_night 163 = .ok (.iload 8, 2) := by decide +kernel
theorem dX12_night_165 : decode cX12_night 165 = .ok (.goto 8, 3) := by decide +kernel
theorem dX12_night_168 : decode cX12_night 168 = .ok (.iload 5, 2) := by decide +kernel
theorem dX12_night_170 : decode cX12_night 170 = .ok (.iload 8, 2) := by decide +kernel
theorem dX12_night_172 : decode cX12_night 172 = .ok (.iand, 1) := by decide +kernel
theorem dX12_night_173 : decode cX12_night 173 = .ok (.istore 5, 2) := by decide +kernel
theorem dX12_night_175 : decode cX12_night 175 = .ok (.iload 4, 2) := by decide +kernel
theorem dX12_night_177 : decode cX12_night 177 = .ok (.ifCond .ne 8, 3) := by decide +kernel
theorem dX12_night_180 : decode cX12_night 180 = .ok (.iload 8, 2) := by decide +kernel
theorem dX12_night_182 : decode cX12_night 182 = .ok (.goto 5, 3) := by decide +kernel
theorem dX12_night_185 : decode cX12_night 185 = .ok (.iload 6, 2) := by decide +kernel
theorem dX12_night_187 : decode cX12_night 187 = .ok (.istore 6, 2) := by decide +kernel
theorem dX12_night_189 : decode cX12_night 189 = .ok (.iinc 4 1, 3) := by decide +kernel
theorem dX12_night_192 : decode cX12_night 192 = .ok (.iinc 7 1, 3) := by decide +kernel
theorem dX12_night_195 : decode cX12_night 195 = .ok (.goto (-108), 3) := by decide +kernel
theorem dX12_night_198 : decode cX12_night 198 = .ok (.iload_n 1, 1) := by decide +kernel
theorem dX12_night_199 : decode cX12_night 199 = .ok (.ifCond .ne 8, 3) := by decide +kernel
theorem dX12_night_202 : decode cX12_night 202 = .ok (.iload 4, 2) := by decide +kernel
theorem dX12_night_204 : decode cX12_night 204 = .ok (.goto 15, 3) := by decide +kernel
theorem dX12_night_207 : decode cX12_night 207 = .ok (.iload_n 1, 1) := by decide +kernel
theorem dX12_night_208 : decode cX12_night 208 = .ok (.iconst 1, 1) := by decide +kernel
theorem dX12_night_209 : decode cX12_night 209 = .ok (.if_icmp .ne 8, 3) := by decide +kernel
theorem dX12_night_212 : decode cX12_night 212 = .ok (.iload 5, 2) := by decide +kernel
theorem dX12_night_214 : decode cX12_night 214 = .ok (.goto 5, 3) := by decide +kernel
theorem dX12_night_217 : decode cX12_night 217 = .ok (.iload 6, 2) := by decide +kernel
theorem dX12_night_219 : decode cX12_night 219 = .ok (.ireturn, 1) := by decide +kernel
theorem dX12_chance_0 : decode cX12_chance 0 = .ok (.iload_n 1, 1) := by decide +kernel
theorem dX12_chance_1 : decode cX12_chance 1 = .ok (.iconst 0, 1) := by decide +kernel
theorem dX12_chance_2 : decode cX12_chance 2 = .ok (.bipush 10, 2) := by decide +kernel
theorem dX12_chance_4 : decode cX12_chance 4 = .ok (.invokestatic 50, 3) := by decide +kernel
theorem dX12_chance_7 : decode cX12_chance 7 = .ok (.ifCond .eq 33, 3) := by decide +kernel
theorem dX12_chance_10 : decode cX12_chance 10 = .ok (.iload_n 2, 1) := by decide +kernel
theorem dX12_chance_11 : decode cX12_chance 11 = .ok (.iconst 0, 1) := by decide +kernel
theorem dX12_chance_12 : decode cX12_chance 12 = .ok (.bipush 10, 2) := by decide +kernel
theorem dX12_chance_14 : decode cX12_chance 14 = .ok (.invokestatic 50, 3) := by decide +kernel
theorem dX12_chance_17 : decode cX12_chance 17 = .ok (.ifCond .eq 23, 3) := by decide +kernel
theorem dX12_chance_20 : decode cX12_chance 20 = .ok (.iload_n 3, 1) := by decide +kernel
theorem dX12_chance_21 : decode cX12_chance 21 = .ok (.iconst 1, 1) := by decide +kernel
theorem dX12_chance_22 : decode cX12_chance 22 = .ok (.bipush 8, 2) := by decide +kernel
theorem dX12_chance_24 : decode cX12_chance 24 = .ok (.invokestatic 50, 3) := by decide +kernel
theorem dX12_chance_27 : decode cX12_chance 27 = .ok (.ifCond .eq 13, 3) := by decide +kernel
theorem dX12_chance_30 : decode cX12_chance 30 = .ok (.iload 4, 2) := by decide +kernel
theorem dX12_chance_32 : decode cX12_chance 32 = .ok (.iconst 0, 1) := by decide +kernel
theorem dX12_chance_33 : decode cX12_chance 33 = .ok (.iconst 1, 1) := by decide +kernel
theorem dX12_chance_34 : decode cX12_chance 34 = .ok (.invokestatic 50, 3) := by decide +kernel
theorem dX12_chance_37 : decode cX12_chance 37 = .ok (.ifCond .ne 7, 3) := by decide +kernel
theorem dX12_chance_40 : decode cX12_chance 40 = .ok (.ldc2_w 312, 3) := by decide +kernel
theorem dX12_chance_43 : decode cX12_chance 43 = .ok (.lreturn, 1) := by decide +kernel
theorem dX12_chance_44 : decode cX12_chance 44 = .ok (.lconst 0, 1) := by decide +kernel
theorem dX12_chance_45 : decode cX12_chance 45 = .ok (.lstore 5, 2) := by decide +kernel
theorem dX12_chance_47 : decode cX12_chance 47 = .ok (.lconst 1, 1) := by decide +kernel
theorem dX12_chance_48 : decode cX12_chance 48 = .ok (.lstore 7, 2) := by decide +kernel
theorem dX12_chance_50 : decode cX12_chance 50 = .ok (.lconst 0, 1) := by decide +kernel
theorem dX12_chance_51 : decode cX12_chance 51 = .ok (.lstore 9, 2) := by decide +kernel
theorem dX12_chance_53 : decode cX12_chance 53 = .ok (.iconst 0, 1) := by decide +kernel
theorem dX12_chance_54 : decode cX12_chance 54 = .ok (.istore 11, 2) := by decide +kernel
theorem dX12_chance_56 : decode cX12_chance 56 = .ok (.iconst 1, 1) := by decide +kernel
theorem dX12_chance_57 : decode cX12_chance 57 = .ok (.istore 12, 2) := by decide +kernel
theorem dX12_chance_59 : decode cX12_chance 59 = .ok (.iload 12, 2) := by decide +kernel
theorem dX12_chance_61 : decode cX12_chance 61 = .ok (.iload_n 3, 1) := by decide +kernel
theorem dX12_chance_62 : decode cX12_chance 62 = .ok (.if_icmp .gt 73, 3) := by decide +kernel
theorem dX12_chance_65 : decode cX12_chance 65 = .ok (.ldc2_w 314, 3) := by decide +kernel
theorem dX12_chance_68 : decode cX12_chance 68 = .ok (.lload 5, 2) := by decide +kernel
theorem dX12_chance_70 : decode cX12_chance 70 = .ok (.lmul, 1) := by decide +kernel
theorem dX12_chance_71 : decode cX12_chance 71 = .ok (.lload 7, 2) := by decide +kernel
theorem dX12_chance_73 : decode cX12_chance 73 = .ok (.lload 5, 2) := by decide +kernel
theorem dX12_chance_75 : decode cX12_chance 75 = .ok (.lsub, 1) := by decide +kernel
theorem dX12_chance_76 : decode cX12_chance 76 = .ok (.iload_n 1, 1) := by decide +kernel
theorem dX12_chance_77 : decode cX12_chance 77 = .ok (.i2l, 1) := by decide +kernel
theorem dX12_chance_78 : decode cX12_chance 78 = .ok (.lmul, 1) := by decide +kernel
theorem dX12_chance_79 : decode cX12_chance 79 = .ok (.ladd, 1) := by decide +kernel
theorem dX12_chance_80 : decode cX12_chance 80 = .ok (.ldc2_w 314, 3) := by decide +kernel
theorem dX12_chance_83 : decode cX12_chance 83 = .ok (.iload_n 2, 1) := by decide +kernel
theorem dX12_chance_84 : decode cX12_chance 84 = .ok (.i2l, 1) := by decide +kernel
theorem dX12_chance_85 : decode cX12_chance 85 = .ok (.lsub, 1) := by decide +kernel
theorem dX12_chance_86 : decode cX12_chance 86 = .ok (.lmul, 1) := by decide +kernel
theorem dX12_chance_87 : decode cX12_chance 87 = .ok (.lstore 5, 2) := by decide +kernel
theorem dX12_chance_89 : decode cX12_chance 89 = .ok (.lload 7, 2) := by decide +kernel
theorem dX12_chance_91 : decode cX12_chance 91 = .ok (.ldc2_w 316, 3) := by decide +kernel
theorem dX12_chance_94 : decode cX12_chance 94 = .ok (.lmul, 1) := by decide +kernel
theorem dX12_chance_95 : decode cX12_chance 95 = .ok (.lstore 7, 2) := by decide +kernel
theorem dX12_chance_97 : decode cX12_chance 97 = .ok (.lload 9, 2) := by decide +kernel
theorem dX12_chance_99 : decode cX12_chance 99 = .ok (.ldc2_w 316, 3) := by decide +kernel
theorem dX12_chance_102 : decode cX12_chance 102 = .ok (.lmul, 1) := by decide +kernel
theorem dX12_chance_103 : decode cX12_chance 103 = .ok (.lstore 9, 2) := by decide +kernel
theorem dX12_chance_105 : decode cX12_chance 105 = .ok (.iload 11, 2) := by decide +kernel
theorem dX12_chance_107 : decode cX12_chance 107 = .ok (.ifCond .le 14, 3) := by decide +kernel
theorem dX12_chance_110 : decode cX12_chance 110 = .ok (.lload 5, 2) := by decide +kernel
theorem dX12_chance_112 : decode cX12_chance 112 = .ok (.lload 9, 2) := by decide +kernel
theorem dX12_chance_114 : decode cX12_chance 114 = .ok (.lcmp, 1) := by decide +kernel
theorem dX12_chance_115 : decode cX12_chance 115 = .ok (.ifCond .gt 6, 3) := by decide +kernel
theorem dX12_chance_118 : decode cX12_chance 118 = .ok (.goto 11, 3) := by decide +kernel
theorem dX12_chance_121 : decode cX12_chance 121 = .ok (.lload 5, 2) := by decide +kernel
theorem dX12_chance_123 : decode cX12_chance 123 = .ok (.lstore 9, 2) := by decide +kernel
theorem dX12_chance_125 : decode cX12_chance 125 = .ok (.iload 12, 2) := by decide +kernel
theorem dX12_chance_127 : decode cX12_chance 127 = .ok (.istore 11, 2) := by decide +kernel
theorem dX12_chance_129 : decode cX12_chance 129 = .ok (.iinc 12 1, 3) := by decide +kernel
theorem dX12_chance_132 : decode cX12_chance 132 = .ok (.goto (-73), 3) := by decide +kernel
theorem dX12_chance_135 : decode cX12_chance 135 = .ok (.iload 4, 2) := by decide +kernel
theorem dX12_chance_137 : decode cX12_chance 137 = .ok (.ifCond .ne 8, 3) := by decide +kernel
theorem dX12_chance_140 : decode cX12_chance 140 = .ok (.lload 5, 2) := by decide +kernel
theorem dX12_chance_142 : decode cX12_chance 142 = .ok (.goto 6, 3) := by decide +kernel
theorem dX12_chance_145 : decode cX12_chance 145 = .ok (.iload 11, 2) := by decide +kernel
theorem dX12_chance_147 : decode cX12_chance 147 = .ok (.i2l, 1) := by decide +kernel
theorem dX12_chance_148 : decode cX12_chance 148 = .ok (.lreturn, 1) := by decide +kernel
theorem dX12_image_0 : decode cX12_image 0 = .ok (.iload_n 1, 1) := by decide +kernel
theorem dX12_image_1 : decode cX12_image 1 = .ok (.ifCond .ne 12, 3) := by decide +kernel
theorem dX12_image_4 : decode cX12_image 4 = .ok (.aload_n 0, 1) := by decide +kernel
theorem dX12_image_5 : decode cX12_image 5 = .ok (.getfield 318, 3) := by decide +kernel
theorem dX12_image_8 : decode cX12_image 8 = .ok (.ifCond .ne 5, 3) := by decide +kernel
theorem dX12_image_11 : decode cX12_image 11 = .ok (.iconst 0, 1) := by decide +kernel
theorem dX12_image_12 : decode cX12_image 12 = .ok (.ireturn, 1) := by decide +kernel
theorem dX12_image_13 : decode cX12_image 13 = .ok (.iconst 0, 1) := by decide +kernel
theorem dX12_image_14 : decode cX12_image 14 = .ok (.istore_n 2, 1) := by decide +kernel
theorem dX12_image_15 : decode cX12_image 15 = .ok (.iload_n 2, 1) := by decide +kernel
theorem dX12_image_16 : decode cX12_image 16 = .ok (.sipush 2490, 3) := by decide +kernel
theorem dX12_image_19 : decode cX12_image 19 = .ok (.if_icmp .ge 40, 3) := by decide +kernel
theorem dX12_image_22 : decode cX12_image 22 = .ok (.iload_n 1, 1) := by decide +kernel
theorem dX12_image_23 : decode cX12_image 23 = .ok (.ifCond .eq 18, 3) := by decide +kernel
theorem dX12_image_26 : decode cX12_image 26 = .ok (.aload_n 0, 1) := by decide +kernel
theorem dX12_image_27 : decode cX12_image 27 = .ok (.getfield 13, 3) := by decide +kernel
theorem dX12_image_30 : decode cX12_image 30 = .ok (.iload_n 2, 1) := by decide +kernel
theorem dX12_image_31 : decode cX12_image 31 = .ok (.aload_n 0, 1) := by decide +kernel
theorem dX12_image_32 : decode cX12_image 32 = .ok (.getfield 7, 3) := by decide +kernel
theorem dX12_image_35 : decode cX12_image 35 = .ok (.iload_n 2, 1) := by decide +kernel
theorem dX12_image_36 : decode cX12_image 36 = .ok (.iaload, 1) := by decide +kernel
theorem dX12_image_37 : decode cX12_image 37 = .ok (.iastore, 1) := by decide +kernel
theorem dX12_image_38 : decode cX12_image 38 = .ok (.goto 15, 3) := by decide +kernel
theorem dX12_image_41 : decode cX12_image 41 = .ok (.aload_n 0, 1) := by decide +kernel
theorem dX12_image_42 : decode cX12_image 42 = .ok (.getfield 7, 3) := by decide +kernel
theorem dX12_image_45 : decode cX12_image 45 = .ok (.iload_n 2, 1) := by decide +kernel
theorem dX12_image_46 : decode cX12_image 46 = .ok (.aload_n 0, 1) := by decide +kernel
theorem dX12_image_47 : decode cX12_image 47 = .ok (.getfield 13, 3) := by decide +kernel
theorem dX12_image_50 : decode cX12_image 50 = .ok (.iload_n 2, 1) := by decide +kernel
theorem dX12_image_51 : decode cX12_image 51 = .ok (.iaload, 1) := by decide +kernel
theorem dX12_image_52 : decode cX12_image 52 = .ok (.iastore, 1) := by decide +kernel
theorem dX12_image_53 : decode cX12_image 53 = .ok (.iinc 2 1, 3) := by decide +kernel
theorem dX12_image_56 : decode cX12_image 56 = .ok (.goto (-41), 3) := by decide +kernel
theorem dX12_image_59 : decode cX12_image 59 = .ok (.aload_n 0, 1) := by decide +kernel
theorem dX12_image_60 : decode cX12_image 60 = .ok (.iconst 1, 1) := by decide +kernel
theorem dX12_image_61 : decode cX12_image 61 = .ok (.putfield 318, 3) := by decide +kernel
theorem dX12_image_64 : decode cX12_image 64 = .ok (.iconst 1, 1) := by decide +kernel
theorem dX12_image_65 : decode cX12_image 65 = .ok (.ireturn, 1) := by decide +kernel
theorem dX12_look_0 : decode cX12_look 0 = .ok (.iload_n 1, 1) := by decide +kernel
theorem dX12_look_1 : decode cX12_look 1 = .ok (.tableswitch 142 0 10 #[59, 66, 73, 80, 87, 95, 102, 109, 118, 126, 134], 59) := by decide +kernel
theorem dX12_look_60 : decode cX12_look 60 = .ok (.aload_n 0, 1) := by decide +kernel
theorem dX12_look_61 : decode cX12_look 61 = .ok (.getfield 7, 3) := by decide +kernel
theorem dX12_look_64 : decode cX12_look 64 = .ok (.iconst 0, 1) := by decide +kernel
theorem dX12_look_65 : decode cX12_look 65 = .ok (.iaload, 1) := by decide +kernel
theorem dX12_look_66 : decode cX12_look 66 = .ok (.ireturn, 1) := by decide +kernel
theorem dX12_look_67 : decode cX12_look 67 = .ok (.aload_n 0, 1) := by decide +kernel
theorem dX12_look_68 : decode cX12_look 68 = .ok (.getfield 7, 3) := by decide +kernel
theorem dX12_look_71 : decode cX12_look 71 = .ok (.iconst 1, 1) := by decide +kernel
theorem dX12_look_72 : decode cX12_look 72 = .ok (.iaload, 1) := by decide +kernel
theorem dX12_look_73 : decode cX12_look 73 = .ok (.ireturn, 1) := by decide +kernel
theorem dX12_look_74 : decode cX12_look 74 = .ok (.aload_n 0, 1) := by decide +kernel
theorem dX12_look_75 : decode cX12_look 75 = .ok (.getfield 7, 3) := by decide +kernel
theorem dX12_look_78 : decode cX12_look 78 = .ok (.iconst 2, 1) := by decide +kernel
theorem dX12_look_79 : decode cX12_look 79 = .ok (.iaload, 1) := by decide +kernel
theorem dX12_look_80 : decode cX12_look 80 = .ok (.ireturn, 1) := by decide +kernel
theorem dX12_look_81 : decode cX12_look 81 = .ok (.aload_n 0, 1) := by decide +kernel
theorem dX12_look_82 : decode cX12_look 82 = .ok (.getfield 7, 3) := by decide +kernel
theorem dX12_look_85 : decode cX12_look 85 = .ok (.iconst 3, 1) := by decide +kernel
theorem dX12_look_86 : decode cX12_look 86 = .ok (.iaload, 1) := by decide +kernel
theorem dX12_look_87 : decode cX12_look 87 = .ok (.ireturn, 1) := by decide +kernel
theorem dX12_look_88 : decode cX12_look 88 = .ok (.aload_n 0, 1) := by decide +kernel
theorem dX12_look_89 : decode cX12_look 89 = .ok (.getfield 7, 3) := by decide +kernel
theorem dX12_look_92 : decode cX12_look 92 = .ok (.bipush 6, 2) := by decide +kernel
theorem dX12_look_94 : decode cX12_look 94 = .ok (.iaload, 1) := by decide +kernel
theorem dX12_look_95 : decode cX12_look 95 = .ok (.ireturn, 1) := by decide +kernel
theorem dX12_look_96 : decode cX12_look 96 = .ok (.aload_n 0, 1) := by decide +kernel
theorem dX12_look_97 : decode cX12_look 97 = .ok (.getfield 7, 3) := by decide +kernel
theorem dX12_look_100 : decode cX12_look 100 = .ok (.iconst 4, 1) := by decide +kernel
theorem dX12_look_101 : decode cX12_look 101 = .ok (.iaload, 1) := by decide +kernel
theorem dX12_look_102 : decode cX12_look 102 = .ok (.ireturn, 1) := by decide +kernel
theorem dX12_look_103 : decode cX12_look 103 = .ok (.aload_n 0, 1) := by decide +kernel
theorem dX12_look_104 : decode cX12_look 104 = .ok (.getfield 7, 3) := by decide +kernel
theorem dX12_look_107 : decode cX12_look 107 = .ok (.iconst 5, 1) := by decide +kernel
theorem dX12_look_108 : decode cX12_look 108 = .ok (.iaload, 1) := by decide +kernel
theorem dX12_look_109 : decode cX12_look 109 = .ok (.ireturn, 1) := by decide +kernel
theorem dX12_look_110 : decode cX12_look 110 = .ok (.aload_n 0, 1) := by decide +kernel
theorem dX12_look_111 : decode cX12_look 111 = .ok (.getfield 7, 3) := by decide +kernel
theorem dX12_look_114 : decode cX12_look 114 = .ok (.sipush 1600, 3) := by decide +kernel
theorem dX12_look_117 : decode cX12_look 117 = .ok (.iaload, 1) := by decide +kernel
theorem dX12_look_118 : decode cX12_look 118 = .ok (.ireturn, 1) := by decide +kernel
theorem dX12_look_119 : decode cX12_look 119 = .ok (.aload_n 0, 1) := by decide +kernel
theorem dX12_look_120 : decode cX12_look 120 = .ok (.getfield 7, 3) := by decide +kernel
theorem dX12_look_123 : decode cX12_look 123 = .ok (.bipush 7, 2) := by decide +kernel
theorem dX12_look_125 : decode cX12_look 125 = .ok (.iaload, 1) := by decide +kernel
theorem dX12_look_126 : decode cX12_look 126 = .ok (.ireturn, 1) := by decide +kernel
theorem dX12_look_127 : decode cX12_look 127 = .ok (.aload_n 0, 1) := by decide +kernel
theorem dX12_look_128 : decode cX12_look 128 = .ok (.getfield 7, 3) := by decide +kernel
theorem dX12_look_131 : decode cX12_look 131 = .ok (.bipush 8, 2) := by decide +kernel
theorem dX12_look_133 : decode cX12_look 133 = .ok (.iaload, 1) := by decide +kernel
theorem dX12_look_134 : decode cX12_look 134 = .ok (.ireturn, 1) := by decide +kernel
theorem dX12_look_135 : decode cX12_look 135 = .ok (.aload_n 0, 1) := by decide +kernel
theorem dX12_look_136 : decode cX12_look 136 = .ok (.getfield 7, 3) := by decide +kernel
theorem dX12_look_139 : decode cX12_look 139 = .ok (.bipush 9, 2) := by decide +kernel
theorem dX12_look_141 : decode cX12_look 141 = .ok (.iaload, 1) := by decide +kernel
theorem dX12_look_142 : decode cX12_look 142 = .ok (.ireturn, 1) := by decide +kernel
theorem dX12_look_143 : decode cX12_look 143 = .ok (.bipush (-2), 2) := by decide +kernel
theorem dX12_look_145 : decode cX12_look 145 = .ok (.ireturn, 1) := by decide +kernel
theorem dJ6_bitCount_0f7a4_0 : decode cJ6_bitCount_0f7a4 0 = .ok (.iload_n 0, 1) := by decide +kernel
theorem dJ6_bitCount_0f7a4_1 : decode cJ6_bitCount_0f7a4 1 = .ok (.iload_n 0, 1) := by decide +kernel
theorem dJ6_bitCount_0f7a4_2 : decode cJ6_bitCount_0f7a4 2 = .ok (.iconst 1, 1) := by decide +kernel
theorem dJ6_bitCount_0f7a4_3 : decode cJ6_bitCount_0f7a4 3 = .ok (.iushr, 1) := by decide +kernel
theorem dJ6_bitCount_0f7a4_4 : decode cJ6_bitCount_0f7a4 4 = .ok (.ldc_w 265, 3) := by decide +kernel
theorem dJ6_bitCount_0f7a4_7 : decode cJ6_bitCount_0f7a4 7 = .ok (.iand, 1) := by decide +kernel
theorem dJ6_bitCount_0f7a4_8 : decode cJ6_bitCount_0f7a4 8 = .ok (.isub, 1) := by decide +kernel
theorem dJ6_bitCount_0f7a4_9 : decode cJ6_bitCount_0f7a4 9 = .ok (.istore_n 0, 1) := by decide +kernel
theorem dJ6_bitCount_0f7a4_10 : decode cJ6_bitCount_0f7a4 10 = .ok (.iload_n 0, 1) := by decide +kernel
theorem dJ6_bitCount_0f7a4_11 : decode cJ6_bitCount_0f7a4 11 = .ok (.ldc_w 266, 3) := by decide +kernel
theorem dJ6_bitCount_0f7a4_14 : decode cJ6_bitCount_0f7a4 14 = .ok (.iand, 1) := by decide +kernel
theorem dJ6_bitCount_0f7a4_15 : decode cJ6_bitCount_0f7a4 15 = .ok (.iload_n 0, 1) := by decide +kernel
theorem dJ6_bitCount_0f7a4_16 : decode cJ6_bitCount_0f7a4 16 = .ok (.iconst 2, 1) := by decide +kernel
theorem dJ6_bitCount_0f7a4_17 : decode cJ6_bitCount_0f7a4 17 = .ok (.iushr, 1) := by decide +kernel
theorem dJ6_bitCount_0f7a4_18 : decode cJ6_bitCount_0f7a4 18 = .ok (.ldc_w 266, 3) := by decide +kernel
theorem dJ6_bitCount_0f7a4_21 : decode cJ6_bitCount_0f7a4 21 = .ok (.iand, 1) := by decide +kernel
theorem dJ6_bitCount_0f7a4_22 : decode cJ6_bitCount_0f7a4 22 = .ok (.iadd, 1) := by decide +kernel
theorem dJ6_bitCount_0f7a4_23 : decode cJ6_bitCount_0f7a4 23 = .ok (.istore_n 0, 1) := by decide +kernel
theorem dJ6_bitCount_0f7a4_24 : decode cJ6_bitCount_0f7a4 24 = .ok (.iload_n 0, 1) := by decide +kernel
theorem dJ6_bitCount_0f7a4_25 : decode cJ6_bitCount_0f7a4 25 = .ok (.iload_n 0, 1) := by decide +kernel
theorem dJ6_bitCount_0f7a4_26 : decode cJ6_bitCount_0f7a4 26 = .ok (.iconst 4, 1) := by decide +kernel
theorem dJ6_bitCount_0f7a4_27 : decode cJ6_bitCount_0f7a4 27 = .ok (.iushr, 1) := by decide +kernel
theorem dJ6_bitCount_0f7a4_28 : decode cJ6_bitCount_0f7a4 28 = .ok (.iadd, 1) := by decide +kernel
theorem dJ6_bitCount_0f7a4_29 : decode cJ6_bitCount_0f7a4 29 = .ok (.ldc_w 267, 3) := by decide +kernel
theorem dJ6_bitCount_0f7a4_32 : decode cJ6_bitCount_0f7a4 32 = .ok (.iand, 1) := by decide +kernel
theorem dJ6_bitCount_0f7a4_33 : decode cJ6_bitCount_0f7a4 33 = .ok (.istore_n 0, 1) := by decide +kernel
theorem dJ6_bitCount_0f7a4_34 : decode cJ6_bitCount_0f7a4 34 = .ok (.iload_n 0, 1) := by decide +kernel
theorem dJ6_bitCount_0f7a4_35 : decode cJ6_bitCount_0f7a4 35 = .ok (.iload_n 0, 1) := by decide +kernel
theorem dJ6_bitCount_0f7a4_36 : decode cJ6_bitCount_0f7a4 36 = .ok (.bipush 8, 2) := by decide +kernel
theorem dJ6_bitCount_0f7a4_38 : decode cJ6_bitCount_0f7a4 38 = .ok (.iushr, 1) := by decide +kernel
theorem dJ6_bitCount_0f7a4_39 : decode cJ6_bitCount_0f7a4 39 = .ok (.iadd, 1) := by decide +kernel
theorem dJ6_bitCount_0f7a4_40 : decode cJ6_bitCount_0f7a4 40 = .ok (.istore_n 0, 1) := by decide +kernel
theorem dJ6_bitCount_0f7a4_41 : decode cJ6_bitCount_0f7a4 41 = .ok (.iload_n 0, 1) := by decide +kernel
theorem dJ6_bitCount_0f7a4_42 : decode cJ6_bitCount_0f7a4 42 = .ok (.iload_n 0, 1) := by decide +kernel
theorem dJ6_bitCount_0f7a4_43 : decode cJ6_bitCount_0f7a4 43 = .ok (.bipush 16, 2) := by decide +kernel
theorem dJ6_bitCount_0f7a4_45 : decode cJ6_bitCount_0f7a4 45 = .ok (.iushr, 1) := by decide +kernel
theorem dJ6_bitCount_0f7a4_46 : decode cJ6_bitCount_0f7a4 46 = .ok (.iadd, 1) := by decide +kernel
theorem dJ6_bitCount_0f7a4_47 : decode cJ6_bitCount_0f7a4 47 = .ok (.istore_n 0, 1) := by decide +kernel
theorem dJ6_bitCount_0f7a4_48 : decode cJ6_bitCount_0f7a4 48 = .ok (.iload_n 0, 1) := by decide +kernel
theorem dJ6_bitCount_0f7a4_49 : decode cJ6_bitCount_0f7a4 49 = .ok (.bipush 63, 2) := by decide +kernel
theorem dJ6_bitCount_0f7a4_51 : decode cJ6_bitCount_0f7a4 51 = .ok (.iand, 1) := by decide +kernel
theorem dJ6_bitCount_0f7a4_52 : decode cJ6_bitCount_0f7a4 52 = .ok (.ireturn, 1) := by decide +kernel
theorem dJ9_max_7cf53_0 : decode cJ9_max_7cf53 0 = .ok (.iload_n 0, 1) := by decide +kernel
theorem dJ9_max_7cf53_1 : decode cJ9_max_7cf53 1 = .ok (.iload_n 1, 1) := by decide +kernel
theorem dJ9_max_7cf53_2 : decode cJ9_max_7cf53 2 = .ok (.if_icmp .lt 7, 3) := by decide +kernel
theorem dJ9_max_7cf53_5 : decode cJ9_max_7cf53 5 = .ok (.iload_n 0, 1) := by decide +kernel
theorem dJ9_max_7cf53_6 : decode cJ9_max_7cf53 6 = .ok (.goto 4, 3) := by decide +kernel
theorem dJ9_max_7cf53_9 : decode cJ9_max_7cf53 9 = .ok (.iload_n 1, 1) := by decide +kernel
theorem dJ9_max_7cf53_10 : decode cJ9_max_7cf53 10 = .ok (.ireturn, 1) := by decide +kernel
theorem dJ9_min_7cf53_0 : decode cJ9_min_7cf53 0 = .ok (.iload_n 0, 1) := by decide +kernel
theorem dJ9_min_7cf53_1 : decode cJ9_min_7cf53 1 = .ok (.iload_n 1, 1) := by decide +kernel
theorem dJ9_min_7cf53_2 : decode cJ9_min_7cf53 2 = .ok (.if_icmp .gt 7, 3) := by decide +kernel
theorem dJ9_min_7cf53_5 : decode cJ9_min_7cf53 5 = .ok (.iload_n 0, 1) := by decide +kernel
theorem dJ9_min_7cf53_6 : decode cJ9_min_7cf53 6 = .ok (.goto 4, 3) := by decide +kernel
theorem dJ9_min_7cf53_9 : decode cJ9_min_7cf53 9 = .ok (.iload_n 1, 1) := by decide +kernel
theorem dJ9_min_7cf53_10 : decode cJ9_min_7cf53 10 = .ok (.ireturn, 1) := by decide +kernel
theorem dJ0_length_8abf5_0 : decode cJ0_length_8abf5 0 = .ok (.aload_n 0, 1) := by decide +kernel
theorem dJ0_length_8abf5_1 : decode cJ0_length_8abf5 1 = .ok (.getfield 9, 3) := by decide +kernel
theorem dJ0_length_8abf5_4 : decode cJ0_length_8abf5 4 = .ok (.arraylength, 1) := by decide +kernel
theorem dJ0_length_8abf5_5 : decode cJ0_length_8abf5 5 = .ok (.aload_n 0, 1) := by decide +kernel
theorem dJ0_length_8abf5_6 : decode cJ0_length_8abf5 6 = .ok (.invokevirtual 335, 3) := by decide +kernel
theorem dJ0_length_8abf5_9 : decode cJ0_length_8abf5 9 = .ok (.ishr, 1) := by decide +kernel
theorem dJ0_length_8abf5_10 : decode cJ0_length_8abf5 10 = .ok (.ireturn, 1) := by decide +kernel
theorem dJ0_charAt_5068e_0 : decode cJ0_charAt_5068e 0 = .ok (.aload_n 0, 1) := by decide +kernel
theorem dJ0_charAt_5068e_1 : decode cJ0_charAt_5068e 1 = .ok (.invokevirtual 492, 3) := by decide +kernel
theorem dJ0_charAt_5068e_4 : decode cJ0_charAt_5068e 4 = .ok (.ifCond .eq 12, 3) := by decide +kernel
theorem dJ0_charAt_5068e_7 : decode cJ0_charAt_5068e 7 = .ok (.aload_n 0, 1) := by decide +kernel
theorem dJ0_charAt_5068e_8 : decode cJ0_charAt_5068e 8 = .ok (.getfield 9, 3) := by decide +kernel
theorem dJ0_charAt_5068e_11 : decode cJ0_charAt_5068e 11 = .ok (.iload_n 1, 1) := by decide +kernel
theorem dJ0_charAt_5068e_12 : decode cJ0_charAt_5068e 12 = .ok (.invokestatic 495, 3) := by decide +kernel
theorem dJ0_charAt_5068e_15 : decode cJ0_charAt_5068e 15 = .ok (.ireturn, 1) := by decide +kernel
theorem dJ0_charAt_5068e_16 : decode cJ0_charAt_5068e 16 = .ok (.aload_n 0, 1) := by decide +kernel
theorem dJ0_charAt_5068e_17 : decode cJ0_charAt_5068e 17 = .ok (.getfield 9, 3) := by decide +kernel
theorem dJ0_charAt_5068e_20 : decode cJ0_charAt_5068e 20 = .ok (.iload_n 1, 1) := by decide +kernel
theorem dJ0_charAt_5068e_21 : decode cJ0_charAt_5068e 21 = .ok (.invokestatic 498, 3) := by decide +kernel
theorem dJ0_charAt_5068e_24 : decode cJ0_charAt_5068e 24 = .ok (.ireturn, 1) := by decide +kernel
theorem dJ0_coder_7d493_0 : decode cJ0_coder_7d493 0 = .ok (.getstatic 38, 3) := by decide +kernel
theorem dJ0_coder_7d493_3 : decode cJ0_coder_7d493 3 = .ok (.ifCond .eq 10, 3) := by decide +kernel
theorem dJ0_coder_7d493_6 : decode cJ0_coder_7d493 6 = .ok (.aload_n 0, 1) := by decide +kernel
theorem dJ0_coder_7d493_7 : decode cJ0_coder_7d493 7 = .ok (.getfield 15, 3) := by decide +kernel
theorem dJ0_coder_7d493_10 : decode cJ0_coder_7d493 10 = .ok (.goto 4, 3) := by decide +kernel
theorem dJ0_coder_7d493_13 : decode cJ0_coder_7d493 13 = .ok (.iconst 1, 1) := by decide +kernel
theorem dJ0_coder_7d493_14 : decode cJ0_coder_7d493 14 = .ok (.ireturn, 1) := by decide +kernel
theorem dJ0_isLatin1_aae02_0 : decode cJ0_isLatin1_aae02 0 = .ok (.getstatic 38, 3) := by decide +kernel
theorem dJ0_isLatin1_aae02_3 : decode cJ0_isLatin1_aae02 3 = .ok (.ifCond .eq 14, 3) := by decide +kernel
theorem dJ0_isLatin1_aae02_6 : decode cJ0_isLatin1_aae02 6 = .ok (.aload_n 0, 1) := by decide +kernel
theorem dJ0_isLatin1_aae02_7 : decode cJ0_isLatin1_aae02 7 = .ok (.getfield 15, 3) := by decide +kernel
theorem dJ0_isLatin1_aae02_10 : decode cJ0_isLatin1_aae02 10 = .ok (.ifCond .ne 7, 3) := by decide +kernel
theorem dJ0_isLatin1_aae02_13 : decode cJ0_isLatin1_aae02 13 = .ok (.iconst 1, 1) := by decide +kernel
theorem dJ0_isLatin1_aae02_14 : decode cJ0_isLatin1_aae02 14 = .ok (.goto 4, 3) := by decide +kernel
theorem dJ0_isLatin1_aae02_17 : decode cJ0_isLatin1_aae02 17 = .ok (.iconst 0, 1) := by decide +kernel
theorem dJ0_isLatin1_aae02_18 : decode cJ0_isLatin1_aae02 18 = .ok (.ireturn, 1) := by decide +kernel
theorem dJ0_checkIndex_df160_0 : decode cJ0_checkIndex_df160 0 = .ok (.iload_n 0, 1) := by decide +kernel
theorem dJ0_checkIndex_df160_1 : decode cJ0_checkIndex_df160 1 = .ok (.iload_n 1, 1) := by decide +kernel
theorem dJ0_checkIndex_df160_2 : decode cJ0_checkIndex_df160 2 = .ok (.getstatic 1053, 3) := by decide +kernel
theorem dJ0_checkIndex_df160_5 : decode cJ0_checkIndex_df160 5 = .ok (.invokestatic 1059, 3) := by decide +kernel
theorem dJ0_checkIndex_df160_8 : decode cJ0_checkIndex_df160 8 = .ok (.pop, 1) := by decide +kernel
theorem dJ0_checkIndex_df160_9 : decode cJ0_checkIndex_df160 9 = .ok (.return_, 1) := by decide +kernel
theorem dJ1_charAt_3b067_0 : decode cJ1_charAt_3b067 0 = .ok (.iload_n 1, 1) := by decide +kernel
theorem dJ1_charAt_3b067_1 : decode cJ1_charAt_3b067 1 = .ok (.aload_n 0, 1) := by decide +kernel
theorem dJ1_charAt_3b067_2 : decode cJ1_charAt_3b067 2 = .ok (.arraylength, 1) := by decide +kernel
theorem dJ1_charAt_3b067_3 : decode cJ1_charAt_3b067 3 = .ok (.invokestatic 9, 3) := by decide +kernel
theorem dJ1_charAt_3b067_6 : decode cJ1_charAt_3b067 6 = .ok (.aload_n 0, 1) := by decide +kernel
theorem dJ1_charAt_3b067_7 : decode cJ1_charAt_3b067 7 = .ok (.iload_n 1, 1) := by decide +kernel
theorem dJ1_charAt_3b067_8 : decode cJ1_charAt_3b067 8 = .ok (.baload, 1) := by decide +kernel
theorem dJ1_charAt_3b067_9 : decode cJ1_charAt_3b067 9 = .ok (.sipush 255, 3) := by decide +kernel
theorem dJ1_charAt_3b067_12 : decode cJ1_charAt_3b067 12 = .ok (.iand, 1) := by decide +kernel
theorem dJ1_charAt_3b067_13 : decode cJ1_charAt_3b067 13 = .ok (.i2c, 1) := by decide +kernel
theorem dJ1_charAt_3b067_14 : decode cJ1_charAt_3b067 14 = .ok (.ireturn, 1) := by decide +kernel
theorem dJ2_getChar_3b067_0 : decode cJ2_getChar_3b067 0 = .ok (.getstatic 44, 3) := by decide +kernel
theorem dJ2_getChar_3b067_3 : decode cJ2_getChar_3b067 3 = .ok (.ifCond .ne 25, 3) := by decide +kernel
theorem dJ2_getChar_3b067_6 : decode cJ2_getChar_3b067 6 = .ok (.iload_n 1, 1) := by decide +kernel
theorem dJ2_getChar_3b067_7 : decode cJ2_getChar_3b067 7 = .ok (.ifCond .lt 11, 3) := by decide +kernel
theorem dJ2_getChar_3b067_10 : decode cJ2_getChar_3b067 10 = .ok (.iload_n 1, 1) := by decide +kernel
theorem dJ2_getChar_3b067_11 : decode cJ2_getChar_3b067 11 = .ok (.aload_n 0, 1) := by decide +kernel
theorem dJ2_getChar_3b067_12 : decode cJ2_getChar_3b067 12 = .ok (.invokestatic 48, 3) := by decide +kernel
theorem dJ2_getChar_3b067_15 : decode cJ2_getChar_3b067 15 = .ok (.if_icmp .lt 13, 3) := by decide +kernel
theorem dJ2_getChar_3b067_18 : decode cJ2_getChar_3b067 18 = .ok (.new 52, 3) := by decide +kernel
theorem dJ2_getChar_3b067_21 : decode cJ2_getChar_3b067 21 = .ok (.dup, 1) := by decide +kernel
theorem dJ2_getChar_3b067_22 : decode cJ2_getChar_3b067 22 = .ok (.ldc 54, 2) := by decide +kernel
theorem dJ2_getChar_3b067_24 : decode cJ2_getChar_3b067 24 = .ok (.invokespecial 56, 3) := by decide +kernel
theorem dJ2_getChar_3b067_27 : decode cJ2_getChar_3b067 27 = .ok (.athrow, 1) := by decide +kernel
theorem dJ2_getChar_3b067_28 : decode cJ2_getChar_3b067 28 = .ok (.iload_n 1, 1) := by decide +kernel
theorem dJ2_getChar_3b067_29 : decode cJ2_getChar_3b067 29 = .ok (.iconst 1, 1) := by decide +kernel
theorem dJ2_getChar_3b067_30 : decode cJ2_getChar_3b067 30 = .ok (.ishl, 1) := by decide +kernel
theorem dJ2_getChar_3b067_31 : decode cJ2_getChar_3b067 31 = .ok (.istore_n 1, 1) := by decide +kernel
theorem dJ2_getChar_3b067_32 : decode cJ2_getChar_3b067 32 = .ok (.aload_n 0, 1) := by decide +kernel
theorem dJ2_getChar_3b067_33 : decode cJ2_getChar_3b067 33 = .ok (.iload_n 1, 1) := by decide +kernel
theorem dJ2_getChar_3b067_34 : decode cJ2_getChar_3b067 34 = .ok (.iinc 1 1, 3) := by decide +kernel
theorem dJ2_getChar_3b067_37 : decode cJ2_getChar_3b067 37 = .ok (.baload, 1) := by decide +kernel
theorem dJ2_getChar_3b067_38 : decode cJ2_getChar_3b067 38 = .ok (.sipush 255, 3) := by decide +kernel
theorem dJ2_getChar_3b067_41 : decode cJ2_getChar_3b067 41 = .ok (.iand, 1) := by decide +kernel
theorem dJ2_getChar_3b067_42 : decode cJ2_getChar_3b067 42 = .ok (.getstatic 59, 3) := by decide +kernel
theorem dJ2_getChar_3b067_45 : decode cJ2_getChar_3b067 45 = .ok (.ishl, 1) := by decide +kernel
theorem dJ2_getChar_3b067_46 : decode cJ2_getChar_3b067 46 = .ok (.aload_n 0, 1) := by decide +kernel
theorem dJ2_getChar_3b067_47 : decode cJ2_getChar_3b067 47 = .ok (.iload_n 1, 1) := by decide +kernel
theorem dJ2_getChar_3b067_48 : decode cJ2_getChar_3b067 48 = .ok (.baload, 1) := by decide +kernel
theorem dJ2_getChar_3b067_49 : decode cJ2_getChar_3b067 49 = .ok (.sipush 255, 3) := by decide +kernel
theorem dJ2_getChar_3b067_52 : decode cJ2_getChar_3b067 52 = .ok (.iand, 1) := by decide +kernel
theorem dJ2_getChar_3b067_53 : decode cJ2_getChar_3b067 53 = .ok (.getstatic 63, 3) := by decide +kernel
theorem dJ2_getChar_3b067_56 : decode cJ2_getChar_3b067 56 = .ok (.ishl, 1) := by decide +kernel
theorem dJ2_getChar_3b067_57 : decode cJ2_getChar_3b067 57 = .ok (.ior, 1) := by decide +kernel
theorem dJ2_getChar_3b067_58 : decode cJ2_getChar_3b067 58 = .ok (.i2c, 1) := by decide +kernel
theorem dJ2_getChar_3b067_59 : decode cJ2_getChar_3b067 59 = .ok (.ireturn, 1) := by decide +kernel
theorem dJ2_length_9d52b_0 : decode cJ2_length_9d52b 0 = .ok (.aload_n 0, 1) := by decide +kernel
theorem dJ2_length_9d52b_1 : decode cJ2_length_9d52b 1 = .ok (.arraylength, 1) := by decide +kernel
theorem dJ2_length_9d52b_2 : decode cJ2_length_9d52b 2 = .ok (.iconst 1, 1) := by decide +kernel
theorem dJ2_length_9d52b_3 : decode cJ2_length_9d52b 3 = .ok (.ishr, 1) := by decide +kernel
theorem dJ2_length_9d52b_4 : decode cJ2_length_9d52b 4 = .ok (.ireturn, 1) := by decide +kernel
theorem dJ2_charAt_3b067_0 : decode cJ2_charAt_3b067 0 = .ok (.iload_n 1, 1) := by decide +kernel
theorem dJ2_charAt_3b067_1 : decode cJ2_charAt_3b067 1 = .ok (.aload_n 0, 1) := by decide +kernel
theorem dJ2_charAt_3b067_2 : decode cJ2_charAt_3b067 2 = .ok (.invokestatic 67, 3) := by decide +kernel
theorem dJ2_charAt_3b067_5 : decode cJ2_charAt_3b067 5 = .ok (.aload_n 0, 1) := by decide +kernel
theorem dJ2_charAt_3b067_6 : decode cJ2_charAt_3b067 6 = .ok (.iload_n 1, 1) := by decide +kernel
theorem dJ2_charAt_3b067_7 : decode cJ2_charAt_3b067 7 = .ok (.invokestatic 71, 3) := by decide +kernel
theorem dJ2_charAt_3b067_10 : decode cJ2_charAt_3b067 10 = .ok (.ireturn, 1) := by decide +kernel
theorem dJ2_checkIndex_2214a_0 : decode cJ2_checkIndex_2214a 0 = .ok (.iload_n 0, 1) := by decide +kernel
theorem dJ2_checkIndex_2214a_1 : decode cJ2_checkIndex_2214a 1 = .ok (.aload_n 1, 1) := by decide +kernel
theorem dJ2_checkIndex_2214a_2 : decode cJ2_checkIndex_2214a 2 = .ok (.invokestatic 48, 3) := by decide +kernel
theorem dJ2_checkIndex_2214a_5 : decode cJ2_checkIndex_2214a 5 = .ok (.invokestatic 414, 3) := by decide +kernel
theorem dJ2_checkIndex_2214a_8 : decode cJ2_checkIndex_2214a 8 = .ok (.return_, 1) := by decide +kernel
theorem dJ7_fill_53178_0 : decode cJ7_fill_53178 0 = .ok (.iconst 0, 1) := by decide +kernel
theorem dJ7_fill_53178_1 : decode cJ7_fill_53178 1 = .ok (.istore_n 2, 1) := by decide +kernel
theorem dJ7_fill_53178_2 : decode cJ7_fill_53178 2 = .ok (.aload_n 0, 1) := by decide +kernel
theorem dJ7_fill_53178_3 : decode cJ7_fill_53178 3 = .ok (.arraylength, 1) := by decide +kernel
theorem dJ7_fill_53178_4 : decode cJ7_fill_53178 4 = .ok (.istore_n 3, 1) := by decide +kernel
theorem dJ7_fill_53178_5 : decode cJ7_fill_53178 5 = .ok (.iload_n 2, 1) := by decide +kernel
theorem dJ7_fill_53178_6 : decode cJ7_fill_53178 6 = .ok (.iload_n 3, 1) := by decide +kernel
theorem dJ7_fill_53178_7 : decode cJ7_fill_53178 7 = .ok (.if_icmp .ge 13, 3) := by decide +kernel
theorem dJ7_fill_53178_10 : decode cJ7_fill_53178 10 = .ok (.aload_n 0, 1) := by decide +kernel
theorem dJ7_fill_53178_11 : decode cJ7_fill_53178 11 = .ok (.iload_n 2, 1) := by decide +kernel
theorem dJ7_fill_53178_12 : decode cJ7_fill_53178 12 = .ok (.iload_n 1, 1) := by decide +kernel
theorem dJ7_fill_53178_13 : decode cJ7_fill_53178 13 = .ok (.iastore, 1) := by decide +kernel
theorem dJ7_fill_53178_14 : decode cJ7_fill_53178 14 = .ok (.iinc 2 1, 3) := by decide +kernel
theorem dJ7_fill_53178_17 : decode cJ7_fill_53178 17 = .ok (.goto (-12), 3) := by decide +kernel
theorem dJ7_fill_53178_20 : decode cJ7_fill_53178 20 = .ok (.return_, 1) := by decide +kernel
theorem dJ3_checkIndex_8e157_0 : decode cJ3_checkIndex_8e157 0 = .ok (.iload_n 0, 1) := by decide +kernel
theorem dJ3_checkIndex_8e157_1 : decode cJ3_checkIndex_8e157 1 = .ok (.ifCond .lt 8, 3) := by decide +kernel
theorem dJ3_checkIndex_8e157_4 : decode cJ3_checkIndex_8e157 4 = .ok (.iload_n 0, 1) := by decide +kernel
theorem dJ3_checkIndex_8e157_5 : decode cJ3_checkIndex_8e157 5 = .ok (.iload_n 1, 1) := by decide +kernel
theorem dJ3_checkIndex_8e157_6 : decode cJ3_checkIndex_8e157 6 = .ok (.if_icmp .lt 10, 3) := by decide +kernel
theorem dJ3_checkIndex_8e157_9 : decode cJ3_checkIndex_8e157 9 = .ok (.aload_n 2, 1) := by decide +kernel
theorem dJ3_checkIndex_8e157_10 : decode cJ3_checkIndex_8e157 10 = .ok (.iload_n 0, 1) := by decide +kernel
theorem dJ3_checkIndex_8e157_11 : decode cJ3_checkIndex_8e157 11 = .ok (.iload_n 1, 1) := by decide +kernel
theorem dJ3_checkIndex_8e157_12 : decode cJ3_checkIndex_8e157 12 = .ok (.invokestatic 95, 3) := by decide +kernel
theorem dJ3_checkIndex_8e157_15 : decode cJ3_checkIndex_8e157 15 = .ok (.athrow, 1) := by decide +kernel
theorem dJ3_checkIndex_8e157_16 : decode cJ3_checkIndex_8e157 16 = .ok (.iload_n 0, 1) := by decide +kernel
theorem dJ3_checkIndex_8e157_17 : decode cJ3_checkIndex_8e157 17 = .ok (.ireturn, 1) := by decide +kernel
theorem dL_law_0 : decode cL_law 0 = .ok (.new 7, 3) := by decide +kernel
theorem dL_law_3 : decode cL_law 3 = .ok (.dup, 1) := by decide +kernel
theorem dL_law_4 : decode cL_law 4 = .ok (.invokespecial 9, 3) := by decide +kernel
theorem dL_law_7 : decode cL_law 7 = .ok (.astore_n 1, 1) := by decide +kernel
theorem dL_law_8 : decode cL_law 8 = .ok (.new 10, 3) := by decide +kernel
theorem dL_law_11 : decode cL_law 11 = .ok (.dup, 1) := by decide +kernel
theorem dL_law_12 : decode cL_law 12 = .ok (.invokespecial 12, 3) := by decide +kernel
theorem dL_law_15 : decode cL_law 15 = .ok (.astore_n 2, 1) := by decide +kernel
theorem dL_law_16 : decode cL_law 16 = .ok (.iconst 0, 1) := by decide +kernel
theorem dL_law_17 : decode cL_law 17 = .ok (.istore_n 3, 1) := by decide +kernel
theorem dL_law_18 : decode cL_law 18 = .ok (.iload_n 3, 1) := by decide +kernel
theorem dL_law_19 : decode cL_law 19 = .ok (.aload_n 0, 1) := by decide +kernel
theorem dL_law_20 : decode cL_law 20 = .ok (.arraylength, 1) := by decide +kernel
theorem dL_law_21 : decode cL_law 21 = .ok (.bipush 7, 2) := by decide +kernel
theorem dL_law_23 : decode cL_law 23 = .ok (.isub, 1) := by decide +kernel
theorem dL_law_24 : decode cL_law 24 = .ok (.if_icmp .gt 1259, 3) := by decide +kernel
theorem dL_law_27 : decode cL_law 27 = .ok (.aload_n 0, 1) := by decide +kernel
theorem dL_law_28 : decode cL_law 28 = .ok (.iload_n 3, 1) := by decide +kernel
theorem dL_law_29 : decode cL_law 29 = .ok (.iaload, 1) := by decide +kernel
theorem dL_law_30 : decode cL_law 30 = .ok (.bipush 31, 2) := by decide +kernel
theorem dL_law_32 : decode cL_law 32 = .ok (.iand, 1) := by decide +kernel
theorem dL_law_33 : decode cL_law 33 = .ok (.tableswitch 1244 0 27 #[127, 150, 193, 236, 311, 354, 397, 460, 483, 496, 519, 542, 575, 608, 641, 674, 707, 730, 773, 848, 923, 986, 1039, 1062, 1105, 1128, 1182, 1221], 127) := by decide +kernel
theorem dL_law_160 : decode cL_law 160 = .ok (.aload_n 1, 1) := by decide +kernel
theorem dL_law_161 : decode cL_law 161 = .ok (.aload_n 0, 1) := by decide +kernel
theorem dL_law_162 : decode cL_law 162 = .ok (.iload_n 3, 1) := by decide +kernel
theorem dL_law_163 : decode cL_law 163 = .ok (.iconst 1, 1) := by decide +kernel
theorem dL_law_164 : decode cL_law 164 = .ok (.iadd, 1) := by decide +kernel
theorem dL_law_165 : decode cL_law 165 = .ok (.iaload, 1) := by decide +kernel
theorem dL_law_166 : decode cL_law 166 = .ok (.invokevirtual 13, 3) := by decide +kernel
theorem dL_law_169 : decode cL_law 169 = .ok (.aload_n 2, 1) := by decide +kernel
theorem dL_law_170 : decode cL_law 170 = .ok (.aload_n 0, 1) := by decide +kernel
theorem dL_law_171 : decode cL_law 171 = .ok (.iload_n 3, 1) := by decide +kernel
theorem dL_law_172 : decode cL_law 172 = .ok (.iconst 1, 1) := by decide +kernel
theorem dL_law_173 : decode cL_law 173 = .ok (.iadd, 1) := by decide +kernel
theorem dL_law_174 : decode cL_law 174 = .ok (.iaload, 1) := by decide +kernel
theorem dL_law_175 : decode cL_law 175 = .ok (.invokevirtual 17, 3) := by decide +kernel
theorem dL_law_178 : decode cL_law 178 = .ok (.if_icmp .eq 1099, 3) := by decide +kernel
theorem dL_law_181 : decode cL_law 181 = .ok (.iconst 0, 1) := by decide +kernel
theorem dL_law_182 : decode cL_law 182 = .ok (.ireturn, 1) := by decide +kernel
theorem dL_law_183 : decode cL_law 183 = .ok (.aload_n 1, 1) := by decide +kernel
theorem dL_law_184 : decode cL_law 184 = .ok (.aload_n 0, 1) := by decide +kernel
theorem dL_law_185 : decode cL_law 185 = .ok (.iload_n 3, 1) := by decide +kernel
theorem dL_law_186 : decode cL_law 186 = .ok (.iconst 1, 1) := by decide +kernel
theorem dL_law_187 : decode cL_law 187 = .ok (.iadd, 1) := by decide +kernel
theorem dL_law_188 : decode cL_law 188 = .ok (.iaload, 1) := by decide +kernel
theorem dL_law_189 : decode cL_law 189 = .ok (.aload_n 0, 1) := by decide +kernel
theorem dL_law_190 : decode cL_law 190 = .ok (.iload_n 3, 1) := by decide +kernel
theorem dL_law_191 : decode cL_law 191 = .ok (.iconst 2, 1) := by decide +kernel
theorem dL_law_192 : decode cL_law 192 = .ok (.iadd, 1) := by decide +kernel
theorem dL_law_193 : decode cL_law 193 = .ok (.iaload, 1) := by decide +kernel
theorem dL_law_194 : decode cL_law 194 = .ok (.aload_n 0, 1) := by decide +kernel
theorem dL_law_195 : decode cL_law 195 = .ok (.iload_n 3, 1) := by decide +kernel
theorem dL_law_196 : decode cL_law 196 = .ok (.iconst 3, 1) := by decide +kernel
theorem dL_law_197 : decode cL_law 197 = .ok (.iadd, 1) := by decide +kernel
theorem dL_law_198 : decode cL_law 198 = .ok (.iaload, 1) := by decide +kernel
theorem dL_law_199 : decode cL_law 199 = .ok (.invokevirtual 18, 3) := by decide +kernel
theorem dL_law_202 : decode cL_law 202 = .ok (.aload_n 2, 1) := by decide +kernel
theorem dL_law_203 : decode cL_law 203 = .ok (.aload_n 0, 1) := by decide +kernel
theorem dL_law_204 : decode cL_law 204 = .ok (.iload_n 3, 1) := by decide +kernel
theorem dL_law_205 : decode cL_law 205 = .ok (.iconst 1, 1) := by decide +kernel
theorem dL_law_206 : decode cL_law 206 = .ok (.iadd, 1) := by decide +kernel
theorem dL_law_207 : decode cL_law 207 = .ok (.iaload, 1) := by decide +kernel
theorem dL_law_208 : decode cL_law 208 = .ok (.aload_n 0, 1) := by decide +kernel
theorem dL_law_209 : decode cL_law 209 = .ok (.iload_n 3, 1) := by decide +kernel
theorem dL_law_210 : decode cL_law 210 = .ok (.iconst 2, 1) := by decide +kernel
theorem dL_law_211 : decode cL_law 211 = .ok (.iadd, 1) := by decide +kernel
theorem dL_law_212 : decode cL_law 212 = .ok (.iaload, 1) := by decide +kernel
theorem dL_law_213 : decode cL_law 213 = .ok (.aload_n 0, 1) := by decide +kernel
theorem dL_law_214 : decode cL_law 214 = .ok (.iload_n 3, 1) := by decide +kernel
theorem dL_law_215 : decode cL_law 215 = .ok (.iconst 3, 1) := by decide +kernel
theorem dL_law_216 : decode cL_law 216 = .ok (.iadd, 1) := by decide +kernel
theorem dL_law_217 : decode cL_law 217 = .ok (.iaload, 1) := by decide +kernel
theorem dL_law_218 : decode cL_law 218 = .ok (.invokevirtual 22, 3) := by decide +kernel
theorem dL_law_221 : decode cL_law 221 = .ok (.if_icmp .eq 1056, 3) := by decide +kernel
theorem dL_law_224 : decode cL_law 224 = .ok (.iconst 0, 1) := by decide +kernel
theorem dL_law_225 : decode cL_law 225 = .ok (.ireturn, 1) := by decide +kernel
theorem dL_law_226 : decode cL_law 226 = .ok (.aload_n 1, 1) := by decide +kernel
theorem dL_law_227 : decode cL_law 227 = .ok (.aload_n 0, 1) := by decide +kernel
theorem dL_law_228 : decode cL_law 228 = .ok (.iload_n 3, 1) := by decide +kernel
theorem dL_law_229 : decode cL_law 229 = .ok (.iconst 1, 1) := by decide +kernel
theorem dL_law_230 : decode cL_law 230 = .ok (.iadd, 1) := by decide +kernel
theorem dL_law_231 : decode cL_law 231 = .ok (.iaload, 1) := by decide +kernel
theorem dL_law_232 : decode cL_law 232 = .ok (.aload_n 0, 1) := by decide +kernel
theorem dL_law_233 : decode cL_law 233 = .ok (.iload_n 3, 1) := by decide +kernel
theorem dL_law_234 : decode cL_law 234 = .ok (.iconst 2, 1) := by decide +kernel
theorem dL_law_235 : decode cL_law 235 = .ok (.iadd, 1) := by decide +kernel
theorem dL_law_236 : decode cL_law 236 = .ok (.iaload, 1) := by decide +kernel
theorem dL_law_237 : decode cL_law 237 = .ok (.aload_n 0, 1) := by decide +kernel
theorem dL_law_238 : decode cL_law 238 = .ok (.iload_n 3, 1) := by decide +kernel
theorem dL_law_239 : decode cL_law 239 = .ok (.iconst 3, 1) := by decide +kernel
theorem dL_law_240 : decode cL_law 240 = .ok (.iadd, 1) := by decide +kernel
theorem dL_law_241 : decode cL_law 241 = .ok (.iaload, 1) := by decide +kernel
theorem dL_law_242 : decode cL_law 242 = .ok (.invokevirtual 23, 3) := by decide +kernel
theorem dL_law_245 : decode cL_law 245 = .ok (.aload_n 2, 1) := by decide +kernel
theorem dL_law_246 : decode cL_law 246 = .ok (.aload_n 0, 1) := by decide +kernel
theorem dL_law_247 : decode cL_law 247 = .ok (.iload_n 3, 1) := by decide +kernel
theorem dL_law_248 : decode cL_law 248 = .ok (.iconst 1, 1) := by decide +kernel
theorem dL_law_249 : decode cL_law 249 = .ok (.iadd, 1) := by decide +kernel
theorem dL_law_250 : decode cL_law 250 = .ok (.iaload, 1) := by decide +kernel
theorem dL_law_251 : decode cL_law 251 = .ok (.aload_n 0, 1) := by decide +kernel
theorem dL_law_252 : decode cL_law 252 = .ok (.iload_n 3, 1) := by decide +kernel
theorem dL_law_253 : decode cL_law 253 = .ok (.iconst 2, 1) := by decide +kernel
theorem dL_law_254 : decode cL_law 254 = .ok (.iadd, 1) := by decide +kernel
theorem dL_law_255 : decode cL_law 255 = .ok (.iaload, 1) := by decide +kernel
theorem dL_law_256 : decode cL_law 256 = .ok (.aload_n 0, 1) := by decide +kernel
theorem dL_law_257 : decode cL_law 257 = .ok (.iload_n 3, 1) := by decide +kernel
theorem dL_law_258 : decode cL_law 258 = .ok (.iconst 3, 1) := by decide +kernel
theorem dL_law_259 : decode cL_law 259 = .ok (.iadd, 1) := by decide +kernel
theorem dL_law_260 : decode cL_law 260 = .ok (.iaload, 1) := by decide +kernel
theorem dL_law_261 : decode cL_law 261 = .ok (.invokevirtual 27, 3) := by decide +kernel
theorem dL_law_264 : decode cL_law 264 = .ok (.if_icmp .eq 1013, 3) := by decide +kernel
theorem dL_law_267 : decode cL_law 267 = .ok (.iconst 0, 1) := by decide +kernel
theorem dL_law_268 : decode cL_law 268 = .ok (.ireturn, 1) := by decide +kernel
theorem dL_law_269 : decode cL_law 269 = .ok (.aload_n 1, 1) := by decide +kernel
theorem dL_law_270 : decode cL_law 270 = .ok (.aload_n 0, 1) := by decide +kernel
theorem dL_law_271 : decode cL_law 271 = .ok (.iload_n 3, 1) := by decide +kernel
theorem dL_law_272 : decode cL_law 272 = .ok (.iconst 1, 1) := by decide +kernel
theorem dL_law_273 : decode cL_law 273 = .ok (.iadd, 1) := by decide +kernel
theorem dL_law_274 : decode cL_law 274 = .ok (.iaload, 1) := by decide +kernel
theorem dL_law_275 : decode cL_law 275 = .ok (.aload_n 0, 1) := by decide +kernel
theorem dL_law_276 : decode cL_law 276 = .ok (.iload_n 3, 1) := by decide +kernel
theorem dL_law_277 : decode cL_law 277 = .ok (.iconst 2, 1) := by decide +kernel
theorem dL_law_278 : decode cL_law 278 = .ok (.iadd, 1) := by decide +kernel
theorem dL_law_279 : decode cL_law 279 = .ok (.iaload, 1) := by decide +kernel
theorem dL_law_280 : decode cL_law 280 = .ok (.aload_n 0, 1) := by decide +kernel
theorem dL_law_281 : decode cL_law 281 = .ok (.iload_n 3, 1) := by decide +kernel
theorem dL_law_282 : decode cL_law 282 = .ok (.iconst 3, 1) := by decide +kernel
theorem dL_law_283 : decode cL_law 283 = .ok (.iadd, 1) := by decide +kernel
theorem dL_law_284 : decode cL_law 284 = .ok (.iaload, 1) := by decide +kernel
theorem dL_law_285 : decode cL_law 285 = .ok (.aload_n 0, 1) := by decide +kernel
theorem dL_law_286 : decode cL_law 286 = .ok (.iload_n 3, 1) := by decide +kernel
theorem dL_law_287 : decode cL_law 287 = .ok (.iconst 4, 1) := by decide +kernel
theorem dL_law_288 : decode cL_law 288 = .ok (.iadd, 1) := by decide +kernel
theorem dL_law_289 : decode cL_law 289 = .ok (.iaload, 1) := by decide +kernel
theorem dL_law_290 : decode cL_law 290 = .ok (.aload_n 0, 1) := by decide +kernel
theorem dL_law_291 : decode cL_law 291 = .ok (.iload_n 3, 1) := by decide +kernel
theorem dL_law_292 : decode cL_law 292 = .ok (.iconst 5, 1) := by decide +kernel
theorem dL_law_293 : decode cL_law 293 = .ok (.iadd, 1) := by decide +kernel
theorem dL_law_294 : decode cL_law 294 = .ok (.iaload, 1) := by decide +kernel
theorem dL_law_295 : decode cL_law 295 = .ok (.aload_n 0, 1) := by decide +kernel
theorem dL_law_296 : decode cL_law 296 = .ok (.iload_n 3, 1) := by decide +kernel
theorem dL_law_297 : decode cL_law 297 = .ok (.bipush 6, 2) := by decide +kernel
theorem dL_law_299 : decode cL_law 299 = .ok (.iadd, 1) := by decide +kernel
theorem dL_law_300 : decode cL_law 300 = .ok (.iaload, 1) := by decide +kernel
theorem dL_law_301 : decode cL_law 301 = .ok (.invokevirtual 28, 3) := by decide +kernel
theorem dL_law_304 : decode cL_law 304 = .ok (.aload_n 2, 1) := by decide +kernel
theorem dL_law_305 : decode cL_law 305 = .ok (.aload_n 0, 1) := by decide +kernel
theorem dL_law_306 : decode cL_law 306 = .ok (.iload_n 3, 1) := by decide +kernel
theorem dL_law_307 : decode cL_law 307 = .ok (.iconst 1, 1) := by decide +kernel
theorem dL_law_308 : decode cL_law 308 = .ok (.iadd, 1) := by decide +kernel
theorem dL_law_309 : decode cL_law 309 = .ok (.iaload, 1) := by decide +kernel
theorem dL_law_310 : decode cL_law 310 = .ok (.aload_n 0, 1) := by decide +kernel
theorem dL_law_311 : decode cL_law 311 = .ok (.iload_n 3, 1) := by decide +kernel
theorem dL_law_312 : decode cL_law 312 = .ok (.iconst 2, 1) := by decide +kernel
theorem dL_law_313 : decode cL_law 313 = .ok (.iadd, 1) := by decide +kernel
theorem dL_law_314 : decode cL_law 314 = .ok (.iaload, 1) := by decide +kernel
theorem dL_law_315 : decode cL_law 315 = .ok (.aload_n 0, 1) := by decide +kernel
theorem dL_law_316 : decode cL_law 316 = .ok (.iload_n 3, 1) := by decide +kernel
theorem dL_law_317 : decode cL_law 317 = .ok (.iconst 3, 1) := by decide +kernel
theorem dL_law_318 : decode cL_law 318 = .ok (.iadd, 1) := by decide +kernel
theorem dL_law_319 : decode cL_law 319 = .ok (.iaload, 1) := by decide +kernel
theorem dL_law_320 : decode cL_law 320 = .ok (.aload_n 0, 1) := by decide +kernel
theorem dL_law_321 : decode cL_law 321 = .ok (.iload_n 3, 1) := by decide +kernel
theorem dL_law_322 : decode cL_law 322 = .ok (.iconst 4, 1) := by decide +kernel
theorem dL_law_323 : decode cL_law 323 = .ok (.iadd, 1) := by decide +kernel
theorem dL_law_324 : decode cL_law 324 = .ok (.iaload, 1) := by decide +kernel
theorem dL_law_325 : decode cL_law 325 = .ok (.aload_n 0, 1) := by decide +kernel
theorem dL_law_326 : decode cL_law 326 = .ok (.iload_n 3, 1) := by decide +kernel
theorem dL_law_327 : decode cL_law 327 = .ok (.iconst 5, 1) := by decide +kernel
theorem dL_law_328 : decode cL_law 328 = .ok (.iadd, 1) := by decide +kernel
theorem dL_law_329 : decode cL_law 329 = .ok (.iaload, 1) := by decide +kernel
theorem dL_law_330 : decode cL_law 330 = .ok (.aload_n 0, 1) := by decide +kernel
theorem dL_law_331 : decode cL_law 331 = .ok (.iload_n 3, 1) := by decide +kernel
theorem dL_law_332 : decode cL_law 332 = .ok (.bipush 6, 2) := by decide +kernel
theorem dL_law_334 : decode cL_law 334 = .ok (.iadd, 1) := by decide +kernel
theorem dL_law_335 : decode cL_law 335 = .ok (.iaload, 1) := by decide +kernel
theorem dL_law_336 : decode cL_law 336 = .ok (.invokevirtual 32, 3) := by decide +kernel
theorem dL_law_339 : decode cL_law 339 = .ok (.if_icmp .eq 938, 3) := by decide +kernel
theorem dL_law_342 : decode cL_law 342 = .ok (.iconst 0, 1) := by decide +kernel
theorem dL_law_343 : decode cL_law 343 = .ok (.ireturn, 1) := by decide +kernel
theorem dL_law_344 : decode cL_law 344 = .ok (.aload_n 1, 1) := by decide +kernel
theorem dL_law_345 : decode cL_law 345 = .ok (.aload_n 0, 1) := by decide +kernel
theorem dL_law_346 : decode cL_law 346 = .ok (.iload_n 3, 1) := by decide +kernel
theorem dL_law_347 : decode cL_law 347 = .ok (.iconst 1, 1) := by decide +kernel
theorem dL_law_348 : decode cL_law 348 = .ok (.iadd, 1) := by decide +kernel
theorem dL_law_349 : decode cL_law 349 = .ok (.iaload, 1) := by decide +kernel
theorem dL_law_350 : decode cL_law 350 = .ok (.aload_n 0, 1) := by decide +kernel
theorem dL_law_351 : decode cL_law 351 = .ok (.iload_n 3, 1) := by decide +kernel
theorem dL_law_352 : decode cL_law 352 = .ok (.iconst 2, 1) := by decide +kernel
theorem dL_law_353 : decode cL_law 353 = .ok (.iadd, 1) := by decide +kernel
theorem dL_law_354 : decode cL_law 354 = .ok (.iaload, 1) := by decide +kernel
theorem dL_law_355 : decode cL_law 355 = .ok (.aload_n 0, 1) := by decide +kernel
theorem dL_law_356 : decode cL_law 356 = .ok (.iload_n 3, 1) := by decide +kernel
theorem dL_law_357 : decode cL_law 357 = .ok (.iconst 3, 1) := by decide +kernel
theorem dL_law_358 : decode cL_law 358 = .ok (.iadd, 1) := by decide +kernel
theorem dL_law_359 : decode cL_law 359 = .ok (.iaload, 1) := by decide +kernel
theorem dL_law_360 : decode cL_law 360 = .ok (.invokevirtual 33, 3) := by decide +kernel
theorem dL_law_363 : decode cL_law 363 = .ok (.aload_n 2, 1) := by decide +kernel
theorem dL_law_364 : decode cL_law 364 = .ok (.aload_n 0, 1) := by decide +kernel
theorem dL_law_365 : decode cL_law 365 = .ok (.iload_n 3, 1) := by decide +kernel
theorem dL_law_366 : decode cL_law 366 = .ok (.iconst 1, 1) := by decide +kernel
theorem dL_law_367 : decode cL_law 367 = .ok (.iadd, 1) := by decide +kernel
theorem dL_law_368 : decode cL_law 368 = .ok (.iaload, 1) := by decide +kernel
theorem dL_law_369 : decode cL_law 369 = .ok (.aload_n 0, 1) := by decide +kernel
theorem dL_law_370 : decode cL_law 370 = .ok (.iload_n 3, 1) := by decide +kernel
theorem dL_law_371 : decode cL_law 371 = .ok (.iconst 2, 1) := by decide +kernel
theorem dL_law_372 : decode cL_law 372 = .ok (.iadd, 1) := by decide +kernel
theorem dL_law_373 : decode cL_law 373 = .ok (.iaload, 1) := by decide +kernel
theorem dL_law_374 : decode cL_law 374 = .ok (.aload_n 0, 1) := by decide +kernel
theorem dL_law_375 : decode cL_law 375 = .ok (.iload_n 3, 1) := by decide +kernel
theorem dL_law_376 : decode cL_law 376 = .ok (.iconst 3, 1) := by decide +kernel
theorem dL_law_377 : decode cL_law 377 = .ok (.iadd, 1) := by decide +kernel
theorem dL_law_378 : decode cL_law 378 = .ok (.iaload, 1) := by decide +kernel
theorem dL_law_379 : decode cL_law 379 = .ok (.invokevirtual 36, 3) := by decide +kernel
theorem dL_law_382 : decode cL_law 382 = .ok (.if_icmp .eq 895, 3) := by decide +kernel
theorem dL_law_385 : decode cL_law 385 = .ok (.iconst 0, 1) := by decide +kernel
theorem dL_law_386 : decode cL_law 386 = .ok (.ireturn, 1) := by decide +kernel
theorem dL_law_387 : decode cL_law 387 = .ok (.aload_n 1, 1) := by decide +kernel
theorem dL_law_388 : decode cL_law 388 = .ok (.aload_n 0, 1) := by decide +kernel
theorem dL_law_389 : decode cL_law 389 = .ok (.iload_n 3, 1) := by decide +kernel
theorem dL_law_390 : decode cL_law 390 = .ok (.iconst 1, 1) := by decide +kernel
theorem dL_law_391 : decode cL_law 391 = .ok (.iadd, 1) := by decide +kernel
theorem dL_law_392 : decode cL_law 392 = .ok (.iaload, 1) := by decide +kernel
theorem dL_law_393 : decode cL_law 393 = .ok (.aload_n 0, 1) := by decide +kernel
theorem dL_law_394 : decode cL_law 394 = .ok (.iload_n 3, 1) := by decide +kernel
theorem dL_law_395 : decode cL_law 395 = .ok (.iconst 2, 1) := by decide +kernel
theorem dL_law_396 : decode cL_law 396 = .ok (.iadd, 1) := by decide +kernel
theorem dL_law_397 : decode cL_law 397 = .ok (.iaload, 1) := by decide +kernel
theorem dL_law_398 : decode cL_law 398 = .ok (.aload_n 0, 1) := by decide +kernel
theorem dL_law_399 : decode cL_law 399 = .ok (.iload_n 3, 1) := by decide +kernel
theorem dL_law_400 : decode cL_law 400 = .ok (.iconst 3, 1) := by decide +kernel
theorem dL_law_401 : decode cL_law 401 = .ok (.iadd, 1) := by decide +kernel
theorem dL_law_402 : decode cL_law 402 = .ok (.iaload, 1) := by decide +kernel
theorem dL_law_403 : decode cL_law 403 = .ok (.invokevirtual 37, 3) := by decide +kernel
theorem dL_law_406 : decode cL_law 406 = .ok (.aload_n 2, 1) := by decide +kernel
theorem dL_law_407 : decode cL_law 407 = .ok (.aload_n 0, 1) := by decide +kernel
theorem dL_law_408 : decode cL_law 408 = .ok (.iload_n 3, 1) := by decide +kernel
theorem dL_law_409 : decode cL_law 409 = .ok (.iconst 1, 1) := by decide +kernel
theorem dL_law_410 : decode cL_law 410 = .ok (.iadd, 1) := by decide +kernel
theorem dL_law_411 : decode cL_law 411 = .ok (.iaload, 1) := by decide +kernel
theorem dL_law_412 : decode cL_law 412 = .ok (.aload_n 0, 1) := by decide +kernel
theorem dL_law_413 : decode cL_law 413 = .ok (.iload_n 3, 1) := by decide +kernel
theorem dL_law_414 : decode cL_law 414 = .ok (.iconst 2, 1) := by decide +kernel
theorem dL_law_415 : decode cL_law 415 = .ok (.iadd, 1) := by decide +kernel
theorem dL_law_416 : decode cL_law 416 = .ok (.iaload, 1) := by decide +kernel
theorem dL_law_417 : decode cL_law 417 = .ok (.aload_n 0, 1) := by decide +kernel
theorem dL_law_418 : decode cL_law 418 = .ok (.iload_n 3, 1) := by decide +kernel
theorem dL_law_419 : decode cL_law 419 = .ok (.iconst 3, 1) := by decide +kernel
theorem dL_law_420 : decode cL_law 420 = .ok (.iadd, 1) := by decide +kernel
theorem dL_law_421 : decode cL_law 421 = .ok (.iaload, 1) := by decide +kernel
theorem dL_law_422 : decode cL_law 422 = .ok (.invokevirtual 40, 3) := by decide +kernel
theorem dL_law_425 : decode cL_law 425 = .ok (.if_icmp .eq 852, 3) := by decide +kernel
theorem dL_law_428 : decode cL_law 428 = .ok (.iconst 0, 1) := by decide +kernel
theorem dL_law_429 : decode cL_law 429 = .ok (.ireturn, 1) := by decide +kernel
theorem dL_law_430 : decode cL_law 430 = .ok (.aload_n 1, 1) := by decide +kernel
theorem dL_law_431 : decode cL_law 431 = .ok (.aload_n 0, 1) := by decide +kernel
theorem dL_law_432 : decode cL_law 432 = .ok (.iload_n 3, 1) := by decide +kernel
theorem dL_law_433 : decode cL_law 433 = .ok (.iconst 1, 1) := by decide +kernel
theorem dL_law_434 : decode cL_law 434 = .ok (.iadd, 1) := by decide +kernel
theorem dL_law_435 : decode cL_law 435 = .ok (.iaload, 1) := by decide +kernel
theorem dL_law_436 : decode cL_law 436 = .ok (.aload_n 0, 1) := by decide +kernel
theorem dL_law_437 : decode cL_law 437 = .ok (.iload_n 3, 1) := by decide +kernel
theorem dL_law_438 : decode cL_law 438 = .ok (.iconst 2, 1) := by decide +kernel
theorem dL_law_439 : decode cL_law 439 = .ok (.iadd, 1) := by decide +kernel
theorem dL_law_440 : decode cL_law 440 = .ok (.iaload, 1) := by decide +kernel
theorem dL_law_441 : decode cL_law 441 = .ok (.aload_n 0, 1) := by decide +kernel
theorem dL_law_442 : decode cL_law 442 = .ok (.iload_n 3, 1) := by decide +kernel
theorem dL_law_443 : decode cL_law 443 = .ok (.iconst 3, 1) := by decide +kernel
theorem dL_law_444 : decode cL_law 444 = .ok (.iadd, 1) := by decide +kernel
theorem dL_law_445 : decode cL_law 445 = .ok (.iaload, 1) := by decide +kernel
theorem dL_law_446 : decode cL_law 446 = .ok (.aload_n 0, 1) := by decide +kernel
theorem dL_law_447 : decode cL_law 447 = .ok (.iload_n 3, 1) := by decide +kernel
theorem dL_law_448 : decode cL_law 448 = .ok (.iconst 4, 1) := by decide +kernel
theorem dL_law_449 : decode cL_law 449 = .ok (.iadd, 1) := by decide +kernel
theorem dL_law_450 : decode cL_law 450 = .ok (.iaload, 1) := by decide +kernel
theorem dL_law_451 : decode cL_law 451 = .ok (.aload_n 0, 1) := by decide +kernel
theorem dL_law_452 : decode cL_law 452 = .ok (.iload_n 3, 1) := by decide +kernel
theorem dL_law_453 : decode cL_law 453 = .ok (.iconst 5, 1) := by decide +kernel
theorem dL_law_454 : decode cL_law 454 = .ok (.iadd, 1) := by decide +kernel
theorem dL_law_455 : decode cL_law 455 = .ok (.iaload, 1) := by decide +kernel
theorem dL_law_456 : decode cL_law 456 = .ok (.invokevirtual 41, 3) := by decide +kernel
theorem dL_law_459 : decode cL_law 459 = .ok (.aload_n 2, 1) := by decide +kernel
theorem dL_law_460 : decode cL_law 460 = .ok (.aload_n 0, 1) := by decide +kernel
theorem dL_law_461 : decode cL_law 461 = .ok (.iload_n 3, 1) := by decide +kernel
theorem dL_law_462 : decode cL_law 462 = .ok (.iconst 1, 1) := by decide +kernel
theorem dL_law_463 : decode cL_law 463 = .ok (.iadd, 1) := by decide +kernel
theorem dL_law_464 : decode cL_law 464 = .ok (.iaload, 1) := by decide +kernel
theorem dL_law_465 : decode cL_law 465 = .ok (.aload_n 0, 1) := by decide +kernel
theorem dL_law_466 : decode cL_law 466 = .ok (.iload_n 3, 1) := by decide +kernel
theorem dL_law_467 : decode cL_law 467 = .ok (.iconst 2, 1) := by decide +kernel
theorem dL_law_468 : decode cL_law 468 = .ok (.iadd, 1) := by decide +kernel
theorem dL_law_469 : decode cL_law 469 = .ok (.iaload, 1) := by decide +kernel
theorem dL_law_470 : decode cL_law 470 = .ok (.aload_n 0, 1) := by decide +kernel
theorem dL_law_471 : decode cL_law 471 = .ok (.iload_n 3, 1) := by decide +kernel
theorem dL_law_472 : decode cL_law 472 = .ok (.iconst 3, 1) := by decide +kernel
theorem dL_law_473 : decode cL_law 473 = .ok (.iadd, 1) := by decide +kernel
theorem dL_law_474 : decode cL_law 474 = .ok (.iaload, 1) := by decide +kernel
theorem dL_law_475 : decode cL_law 475 = .ok (.aload_n 0, 1) := by decide +kernel
theorem dL_law_476 : decode cL_law 476 = .ok (.iload_n 3, 1) := by decide +kernel
theorem dL_law_477 : decode cL_law 477 = .ok (.iconst 4, 1) := by decide +kernel
theorem dL_law_478 : decode cL_law 478 = .ok (.iadd, 1) := by decide +kernel
theorem dL_law_479 : decode cL_law 479 = .ok (.iaload, 1) := by decide +kernel
theorem dL_law_480 : decode cL_law 480 = .ok (.aload_n 0, 1) := by decide +kernel
theorem dL_law_481 : decode cL_law 481 = .ok (.iload_n 3, 1) := by decide +kernel
theorem dL_law_482 : decode cL_law 482 = .ok (.iconst 5, 1) := by decide +kernel
theorem dL_law_483 : decode cL_law 483 = .ok (.iadd, 1) := by decide +kernel
theorem dL_law_484 : decode cL_law 484 = .ok (.iaload, 1) := by decide +kernel
theorem dL_law_485 : decode cL_law 485 = .ok (.invokevirtual 45, 3) := by decide +kernel
theorem dL_law_488 : decode cL_law 488 = .ok (.if_icmp .eq 789, 3) := by decide +kernel
theorem dL_law_491 : decode cL_law 491 = .ok (.iconst 0, 1) := by decide +kernel
theorem dL_law_492 : decode cL_law 492 = .ok (.ireturn, 1) := by decide +kernel
theorem dL_law_493 : decode cL_law 493 = .ok (.aload_n 1, 1) := by decide +kernel
theorem dL_law_494 : decode cL_law 494 = .ok (.aload_n 0, 1) := by decide +kernel
theorem dL_law_495 : decode cL_law 495 = .ok (.iload_n 3, 1) := by decide +kernel
theorem dL_law_496 : decode cL_law 496 = .ok (.iconst 1, 1) := by decide +kernel
theorem dL_law_497 : decode cL_law 497 = .ok (.iadd, 1) := by decide +kernel
theorem dL_law_498 : decode cL_law 498 = .ok (.iaload, 1) := by decide +kernel
theorem dL_law_499 : decode cL_law 499 = .ok (.invokevirtual 46, 3) := by decide +kernel
theorem dL_law_502 : decode cL_law 502 = .ok (.aload_n 2, 1) := by decide +kernel
theorem dL_law_503 : decode cL_law 503 = .ok (.aload_n 0, 1) := by decide +kernel
theorem dL_law_504 : decode cL_law 504 = .ok (.iload_n 3, 1) := by decide +kernel
theorem dL_law_505 : decode cL_law 505 = .ok (.iconst 1, 1) := by decide +kernel
theorem dL_law_506 : decode cL_law 506 = .ok (.iadd, 1) := by decide +kernel
theorem dL_law_507 : decode cL_law 507 = .ok (.iaload, 1) := by decide +kernel
theorem dL_law_508 : decode cL_law 508 = .ok (.invokevirtual 49, 3) := by decide +kernel
theorem dL_law_511 : decode cL_law 511 = .ok (.if_icmp .eq 766, 3) := by decide +kernel
theorem dL_law_514 : decode cL_law 514 = .ok (.iconst 0, 1) := by decide +kernel
theorem dL_law_515 : decode cL_law 515 = .ok (.ireturn, 1) := by decide +kernel
theorem dL_law_516 : decode cL_law 516 = .ok (.aload_n 1, 1) := by decide +kernel
theorem dL_law_517 : decode cL_law 517 = .ok (.invokevirtual 50, 3) := by decide +kernel
theorem dL_law_520 : decode cL_law 520 = .ok (.aload_n 2, 1) := by decide +kernel
theorem dL_law_521 : decode cL_law 521 = .ok (.invokevirtual 54, 3) := by decide +kernel
theorem dL_law_524 : decode cL_law 524 = .ok (.if_icmp .eq 753, 3) := by decide +kernel
theorem dL_law_527 : decode cL_law 527 = .ok (.iconst 0, 1) := by decide +kernel
theorem dL_law_528 : decode cL_law 528 = .ok (.ireturn, 1) := by decide +kernel
theorem dL_law_529 : decode cL_law 529 = .ok (.aload_n 1, 1) := by decide +kernel
theorem dL_law_530 : decode cL_law 530 = .ok (.aload_n 0, 1) := by decide +kernel
theorem dL_law_531 : decode cL_law 531 = .ok (.iload_n 3, 1) := by decide +kernel
theorem dL_law_532 : decode cL_law 532 = .ok (.iconst 1, 1) := by decide +kernel
theorem dL_law_533 : decode cL_law 533 = .ok (.iadd, 1) := by decide +kernel
theorem dL_law_534 : decode cL_law 534 = .ok (.iaload, 1) := by decide +kernel
theorem dL_law_535 : decode cL_law 535 = .ok (.invokevirtual 55, 3) := by decide +kernel
theorem dL_law_538 : decode cL_law 538 = .ok (.aload_n 2, 1) := by decide +kernel
theorem dL_law_539 : decode cL_law 539 = .ok (.aload_n 0, 1) := by decide +kernel
theorem dL_law_540 : decode cL_law 540 = .ok (.iload_n 3, 1) := by decide +kernel
theorem dL_law_541 : decode cL_law 541 = .ok (.iconst 1, 1) := by decide +kernel
theorem dL_law_542 : decode cL_law 542 = .ok (.iadd, 1) := by decide +kernel
theorem dL_law_543 : decode cL_law 543 = .ok (.iaload, 1) := by decide +kernel
theorem dL_law_544 : decode cL_law 544 = .ok (.invokevirtual 59, 3) := by decide +kernel
theorem dL_law_547 : decode cL_law 547 = .ok (.if_icmp .eq 730, 3) := by decide +kernel
theorem dL_law_550 : decode cL_law 550 = .ok (.iconst 0, 1) := by decide +kernel
theorem dL_law_551 : decode cL_law 551 = .ok (.ireturn, 1) := by decide +kernel
theorem dL_law_552 : decode cL_law 552 = .ok (.aload_n 1, 1) := by decide +kernel
theorem dL_law_553 : decode cL_law 553 = .ok (.aload_n 0, 1) := by decide +kernel
theorem dL_law_554 : decode cL_law 554 = .ok (.iload_n 3, 1) := by decide +kernel
theorem dL_law_555 : decode cL_law 555 = .ok (.iconst 1, 1) := by decide +kernel
theorem dL_law_556 : decode cL_law 556 = .ok (.iadd, 1) := by decide +kernel
theorem dL_law_557 : decode cL_law 557 = .ok (.iaload, 1) := by decide +kernel
theorem dL_law_558 : decode cL_law 558 = .ok (.invokevirtual 60, 3) := by decide +kernel
theorem dL_law_561 : decode cL_law 561 = .ok (.aload_n 2, 1) := by decide +kernel
theorem dL_law_562 : decode cL_law 562 = .ok (.aload_n 0, 1) := by decide +kernel
theorem dL_law_563 : decode cL_law 563 = .ok (.iload_n 3, 1) := by decide +kernel
theorem dL_law_564 : decode cL_law 564 = .ok (.iconst 1, 1) := by decide +kernel
theorem dL_law_565 : decode cL_law 565 = .ok (.iadd, 1) := by decide +kernel
theorem dL_law_566 : decode cL_law 566 = .ok (.iaload, 1) := by decide +kernel
theorem dL_law_567 : decode cL_law 567 = .ok (.invokevirtual 63, 3) := by decide +kernel
theorem dL_law_570 : decode cL_law 570 = .ok (.if_icmp .eq 707, 3) := by decide +kernel
theorem dL_law_573 : decode cL_law 573 = .ok (.iconst 0, 1) := by decide +kernel
theorem dL_law_574 : decode cL_law 574 = .ok (.ireturn, 1) := by decide +kernel
theorem dL_law_575 : decode cL_law 575 = .ok (.aload_n 1, 1) := by decide +kernel
theorem dL_law_576 : decode cL_law 576 = .ok (.aload_n 0, 1) := by decide +kernel
theorem dL_law_577 : decode cL_law 577 = .ok (.iload_n 3, 1) := by decide +kernel
theorem dL_law_578 : decode cL_law 578 = .ok (.iconst 1, 1) := by decide +kernel
theorem dL_law_579 : decode cL_law 579 = .ok (.iadd, 1) := by decide +kernel
theorem dL_law_580 : decode cL_law 580 = .ok (.iaload, 1) := by decide +kernel
theorem dL_law_581 : decode cL_law 581 = .ok (.aload_n 0, 1) := by decide +kernel
theorem dL_law_582 : decode cL_law 582 = .ok (.iload_n 3, 1) := by decide +kernel
theorem dL_law_583 : decode cL_law 583 = .ok (.iconst 2, 1) := by decide +kernel
theorem dL_law_584 : decode cL_law 584 = .ok (.iadd, 1) := by decide +kernel
theorem dL_law_585 : decode cL_law 585 = .ok (.iaload, 1) := by decide +kernel
theorem dL_law_586 : decode cL_law 586 = .ok (.invokevirtual 64, 3) := by decide +kernel
theorem dL_law_589 : decode cL_law 589 = .ok (.aload_n 2, 1) := by decide +kernel
theorem dL_law_590 : decode cL_law 590 = .ok (.aload_n 0, 1) := by decide +kernel
theorem dL_law_591 : decode cL_law 591 = .ok (.iload_n 3, 1) := by decide +kernel
theorem dL_law_592 : decode cL_law 592 = .ok (.iconst 1, 1) := by decide +kernel
theorem dL_law_593 : decode cL_law 593 = .ok (.iadd, 1) := by decide +kernel
theorem dL_law_594 : decode cL_law 594 = .ok (.iaload, 1) := by decide +kernel
theorem dL_law_595 : decode cL_law 595 = .ok (.aload_n 0, 1) := by decide +kernel
theorem dL_law_596 : decode cL_law 596 = .ok (.iload_n 3, 1) := by decide +kernel
theorem dL_law_597 : decode cL_law 597 = .ok (.iconst 2, 1) := by decide +kernel
theorem dL_law_598 : decode cL_law 598 = .ok (.iadd, 1) := by decide +kernel
theorem dL_law_599 : decode cL_law 599 = .ok (.iaload, 1) := by decide +kernel
theorem dL_law_600 : decode cL_law 600 = .ok (.invokevirtual 68, 3) := by decide +kernel
theorem dL_law_603 : decode cL_law 603 = .ok (.if_icmp .eq 674, 3) := by decide +kernel
theorem dL_law_606 : decode cL_law 606 = .ok (.iconst 0, 1) := by decide +kernel
theorem dL_law_607 : decode cL_law 607 = .ok (.ireturn, 1) := by decide +kernel
theorem dL_law_608 : decode cL_law 608 = .ok (.aload_n 1, 1) := by decide +kernel
theorem dL_law_609 : decode cL_law 609 = .ok (.aload_n 0, 1) := by decide +kernel
theorem dL_law_610 : decode cL_law 610 = .ok (.iload_n 3, 1) := by decide +kernel
theorem dL_law_611 : decode cL_law 611 = .ok (.iconst 1, 1) := by decide +kernel
theorem dL_law_612 : decode cL_law 612 = .ok (.iadd, 1) := by decide +kernel
theorem dL_law_613 : decode cL_law 613 = .ok (.iaload, 1) := by decide +kernel
theorem dL_law_614 : decode cL_law 614 = .ok (.aload_n 0, 1) := by decide +kernel
theorem dL_law_615 : decode cL_law 615 = .ok (.iload_n 3, 1) := by decide +kernel
theorem dL_law_616 : decode cL_law 616 = .ok (.iconst 2, 1) := by decide +kernel
theorem dL_law_617 : decode cL_law 617 = .ok (.iadd, 1) := by decide +kernel
theorem dL_law_618 : decode cL_law 618 = .ok (.iaload, 1) := by decide +kernel
theorem dL_law_619 : decode cL_law 619 = .ok (.invokevirtual 69, 3) := by decide +kernel
theorem dL_law_622 : decode cL_law 622 = .ok (.aload_n 2, 1) := by decide +kernel
theorem dL_law_623 : decode cL_law 623 = .ok (.aload_n 0, 1) := by decide +kernel
theorem dL_law_624 : decode cL_law 624 = .ok (.iload_n 3, 1) := by decide +kernel
theorem dL_law_625 : decode cL_law 625 = .ok (.iconst 1, 1) := by decide +kernel
theorem dL_law_626 : decode cL_law 626 = .ok (.iadd, 1) := by decide +kernel
theorem dL_law_627 : decode cL_law 627 = .ok (.iaload, 1) := by decide +kernel
theorem dL_law_628 : decode cL_law 628 = .ok (.aload_n 0, 1) := by decide +kernel
theorem dL_law_629 : decode cL_law 629 = .ok (.iload_n 3, 1) := by decide +kernel
theorem dL_law_630 : decode cL_law 630 = .ok (.iconst 2, 1) := by decide +kernel
theorem dL_law_631 : decode cL_law 631 = .ok (.iadd, 1) := by decide +kernel
theorem dL_law_632 : decode cL_law 632 = .ok (.iaload, 1) := by decide +kernel
theorem dL_law_633 : decode cL_law 633 = .ok (.invokevirtual 72, 3) := by decide +kernel
theorem dL_law_636 : decode cL_law 636 = .ok (.if_icmp .eq 641, 3) := by decide +kernel
theorem dL_law_639 : decode cL_law 639 = .ok (.iconst 0, 1) := by decide +kernel
theorem dL_law_640 : decode cL_law 640 = .ok (.ireturn, 1) := by decide +kernel
theorem dL_law_641 : decode cL_law 641 = .ok (.aload_n 1, 1) := by decide +kernel
theorem dL_law_642 : decode cL_law 642 = .ok (.aload_n 0, 1) := by decide +kernel
theorem dL_law_643 : decode cL_law 643 = .ok (.iload_n 3, 1) := by decide +kernel
theorem dL_law_644 : decode cL_law 644 = .ok (.iconst 1, 1) := by decide +kernel
theorem dL_law_645 : decode cL_law 645 = .ok (.iadd, 1) := by decide +kernel
theorem dL_law_646 : decode cL_law 646 = .ok (.iaload, 1) := by decide +kernel
theorem dL_law_647 : decode cL_law 647 = .ok (.aload_n 0, 1) := by decide +kernel
theorem dL_law_648 : decode cL_law 648 = .ok (.iload_n 3, 1) := by decide +kernel
theorem dL_law_649 : decode cL_law 649 = .ok (.iconst 2, 1) := by decide +kernel
theorem dL_law_650 : decode cL_law 650 = .ok (.iadd, 1) := by decide +kernel
theorem dL_law_651 : decode cL_law 651 = .ok (.iaload, 1) := by decide +kernel
theorem dL_law_652 : decode cL_law 652 = .ok (.invokevirtual 73, 3) := by decide +kernel
theorem dL_law_655 : decode cL_law 655 = .ok (.aload_n 2, 1) := by decide +kernel
theorem dL_law_656 : decode cL_law 656 = .ok (.aload_n 0, 1) := by decide +kernel
theorem dL_law_657 : decode cL_law 657 = .ok (.iload_n 3, 1) := by decide +kernel
theorem dL_law_658 : decode cL_law 658 = .ok (.iconst 1, 1) := by decide +kernel
theorem dL_law_659 : decode cL_law 659 = .ok (.iadd, 1) := by decide +kernel
theorem dL_law_660 : decode cL_law 660 = .ok (.iaload, 1) := by decide +kernel
theorem dL_law_661 : decode cL_law 661 = .ok (.aload_n 0, 1) := by decide +kernel
theorem dL_law_662 : decode cL_law 662 = .ok (.iload_n 3, 1) := by decide +kernel
theorem dL_law_663 : decode cL_law 663 = .ok (.iconst 2, 1) := by decide +kernel
theorem dL_law_664 : decode cL_law 664 = .ok (.iadd, 1) := by decide +kernel
theorem dL_law_665 : decode cL_law 665 = .ok (.iaload, 1) := by decide +kernel
theorem dL_law_666 : decode cL_law 666 = .ok (.invokevirtual 76, 3) := by decide +kernel
theorem dL_law_669 : decode cL_law 669 = .ok (.if_icmp .eq 608, 3) := by decide +kernel
theorem dL_law_672 : decode cL_law 672 = .ok (.iconst 0, 1) := by decide +kernel
theorem dL_law_673 : decode cL_law 673 = .ok (.ireturn, 1) := by decide +kernel
theorem dL_law_674 : decode cL_law 674 = .ok (.aload_n 1, 1) := by decide +kernel
theorem dL_law_675 : decode cL_law 675 = .ok (.aload_n 0, 1) := by decide +kernel
theorem dL_law_676 : decode cL_law 676 = .ok (.iload_n 3, 1) := by decide +kernel
theorem dL_law_677 : decode cL_law 677 = .ok (.iconst 1, 1) := by decide +kernel
theorem dL_law_678 : decode cL_law 678 = .ok (.iadd, 1) := by decide +kernel
theorem dL_law_679 : decode cL_law 679 = .ok (.iaload, 1) := by decide +kernel
theorem dL_law_680 : decode cL_law 680 = .ok (.aload_n 0, 1) := by decide +kernel
theorem dL_law_681 : decode cL_law 681 = .ok (.iload_n 3, 1) := by decide +kernel
theorem dL_law_682 : decode cL_law 682 = .ok (.iconst 2, 1) := by decide +kernel
theorem dL_law_683 : decode cL_law 683 = .ok (.iadd, 1) := by decide +kernel
theorem dL_law_684 : decode cL_law 684 = .ok (.iaload, 1) := by decide +kernel
theorem dL_law_685 : decode cL_law 685 = .ok (.invokevirtual 77, 3) := by decide +kernel
theorem dL_law_688 : decode cL_law 688 = .ok (.aload_n 2, 1) := by decide +kernel
theorem dL_law_689 : decode cL_law 689 = .ok (.aload_n 0, 1) := by decide +kernel
theorem dL_law_690 : decode cL_law 690 = .ok (.iload_n 3, 1) := by decide +kernel
theorem dL_law_691 : decode cL_law 691 = .ok (.iconst 1, 1) := by decide +kernel
theorem dL_law_692 : decode cL_law 692 = .ok (.iadd, 1) := by decide +kernel
theorem dL_law_693 : decode cL_law 693 = .ok (.iaload, 1) := by decide +kernel
theorem dL_law_694 : decode cL_law 694 = .ok (.aload_n 0, 1) := by decide +kernel
theorem dL_law_695 : decode cL_law 695 = .ok (.iload_n 3, 1) := by decide +kernel
theorem dL_law_696 : decode cL_law 696 = .ok (.iconst 2, 1) := by decide +kernel
theorem dL_law_697 : decode cL_law 697 = .ok (.iadd, 1) := by decide +kernel
theorem dL_law_698 : decode cL_law 698 = .ok (.iaload, 1) := by decide +kernel
theorem dL_law_699 : decode cL_law 699 = .ok (.invokevirtual 80, 3) := by decide +kernel
theorem dL_law_702 : decode cL_law 702 = .ok (.if_icmp .eq 575, 3) := by decide +kernel
theorem dL_law_705 : decode cL_law 705 = .ok (.iconst 0, 1) := by decide +kernel
theorem dL_law_706 : decode cL_law 706 = .ok (.ireturn, 1) := by decide +kernel
theorem dL_law_707 : decode cL_law 707 = .ok (.aload_n 1, 1) := by decide +kernel
theorem dL_law_708 : decode cL_law 708 = .ok (.aload_n 0, 1) := by decide +kernel
theorem dL_law_709 : decode cL_law 709 = .ok (.iload_n 3, 1) := by decide +kernel
theorem dL_law_710 : decode cL_law 710 = .ok (.iconst 1, 1) := by decide +kernel
theorem dL_law_711 : decode cL_law 711 = .ok (.iadd, 1) := by decide +kernel
theorem dL_law_712 : decode cL_law 712 = .ok (.iaload, 1) := by decide +kernel
theorem dL_law_713 : decode cL_law 713 = .ok (.aload_n 0, 1) := by decide +kernel
theorem dL_law_714 : decode cL_law 714 = .ok (.iload_n 3, 1) := by decide +kernel
theorem dL_law_715 : decode cL_law 715 = .ok (.iconst 2, 1) := by decide +kernel
theorem dL_law_716 : decode cL_law 716 = .ok (.iadd, 1) := by decide +kernel
theorem dL_law_717 : decode cL_law 717 = .ok (.iaload, 1) := by decide +kernel
theorem dL_law_718 : decode cL_law 718 = .ok (.invokevirtual 81, 3) := by decide +kernel
theorem dL_law_721 : decode cL_law 721 = .ok (.aload_n 2, 1) := by decide +kernel
theorem dL_law_722 : decode cL_law 722 = .ok (.aload_n 0, 1) := by decide +kernel
theorem dL_law_723 : decode cL_law 723 = .ok (.iload_n 3, 1) := by decide +kernel
theorem dL_law_724 : decode cL_law 724 = .ok (.iconst 1, 1) := by decide +kernel
theorem dL_law_725 : decode cL_law 725 = .ok (.iadd, 1) := by decide +kernel
theorem dL_law_726 : decode cL_law 726 = .ok (.iaload, 1) := by decide +kernel
theorem dL_law_727 : decode cL_law 727 = .ok (.aload_n 0, 1) := by decide +kernel
theorem dL_law_728 : decode cL_law 728 = .ok (.iload_n 3, 1) := by decide +kernel
theorem dL_law_729 : decode cL_law 729 = .ok (.iconst 2, 1) := by decide +kernel
theorem dL_law_730 : decode cL_law 730 = .ok (.iadd, 1) := by decide +kernel
theorem dL_law_731 : decode cL_law 731 = .ok (.iaload, 1) := by decide +kernel
theorem dL_law_732 : decode cL_law 732 = .ok (.invokevirtual 84, 3) := by decide +kernel
theorem dL_law_735 : decode cL_law 735 = .ok (.if_icmp .eq 542, 3) := by decide +kernel
theorem dL_law_738 : decode cL_law 738 = .ok (.iconst 0, 1) := by decide +kernel
theorem dL_law_739 : decode cL_law 739 = .ok (.ireturn, 1) := by decide +kernel
theorem dL_law_740 : decode cL_law 740 = .ok (.aload_n 1, 1) := by decide +kernel
theorem dL_law_741 : decode cL_law 741 = .ok (.aload_n 0, 1) := by decide +kernel
theorem dL_law_742 : decode cL_law 742 = .ok (.iload_n 3, 1) := by decide +kernel
theorem dL_law_743 : decode cL_law 743 = .ok (.iconst 1, 1) := by decide +kernel
theorem dL_law_744 : decode cL_law 744 = .ok (.iadd, 1) := by decide +kernel
theorem dL_law_745 : decode cL_law 745 = .ok (.iaload, 1) := by decide +kernel
theorem dL_law_746 : decode cL_law 746 = .ok (.invokevirtual 85, 3) := by decide +kernel
theorem dL_law_749 : decode cL_law 749 = .ok (.aload_n 2, 1) := by decide +kernel
theorem dL_law_750 : decode cL_law 750 = .ok (.aload_n 0, 1) := by decide +kernel
theorem dL_law_751 : decode cL_law 751 = .ok (.iload_n 3, 1) := by decide +kernel
theorem dL_law_752 : decode cL_law 752 = .ok (.iconst 1, 1) := by decide +kernel
theorem dL_law_753 : decode cL_law 753 = .ok (.iadd, 1) := by decide +kernel
theorem dL_law_754 : decode cL_law 754 = .ok (.iaload, 1) := by decide +kernel
theorem dL_law_755 : decode cL_law 755 = .ok (.invokevirtual 88, 3) := by decide +kernel
theorem dL_law_758 : decode cL_law 758 = .ok (.if_icmp .eq 519, 3) := by decide +kernel
theorem dL_law_761 : decode cL_law 761 = .ok (.iconst 0, 1) := by decide +kernel
theorem dL_law_762 : decode cL_law 762 = .ok (.ireturn, 1) := by decide +kernel
theorem dL_law_763 : decode cL_law 763 = .ok (.aload_n 1, 1) := by decide +kernel
theorem dL_law_764 : decode cL_law 764 = .ok (.aload_n 0, 1) := by decide +kernel
theorem dL_law_765 : decode cL_law 765 = .ok (.iload_n 3, 1) := by decide +kernel
theorem dL_law_766 : decode cL_law 766 = .ok (.iconst 1, 1) := by decide +kernel
theorem dL_law_767 : decode cL_law 767 = .ok (.iadd, 1) := by decide +kernel
theorem dL_law_768 : decode cL_law 768 = .ok (.iaload, 1) := by decide +kernel
theorem dL_law_769 : decode cL_law 769 = .ok (.aload_n 0, 1) := by decide +kernel
theorem dL_law_770 : decode cL_law 770 = .ok (.iload_n 3, 1) := by decide +kernel
theorem dL_law_771 : decode cL_law 771 = .ok (.iconst 2, 1) := by decide +kernel
theorem dL_law_772 : decode cL_law 772 = .ok (.iadd, 1) := by decide +kernel
theorem dL_law_773 : decode cL_law 773 = .ok (.iaload, 1) := by decide +kernel
theorem dL_law_774 : decode cL_law 774 = .ok (.aload_n 0, 1) := by decide +kernel
theorem dL_law_775 : decode cL_law 775 = .ok (.iload_n 3, 1) := by decide +kernel
theorem dL_law_776 : decode cL_law 776 = .ok (.iconst 3, 1) := by decide +kernel
theorem dL_law_777 : decode cL_law 777 = .ok (.iadd, 1) := by decide +kernel
theorem dL_law_778 : decode cL_law 778 = .ok (.iaload, 1) := by decide +kernel
theorem dL_law_779 : decode cL_law 779 = .ok (.invokevirtual 89, 3) := by decide +kernel
theorem dL_law_782 : decode cL_law 782 = .ok (.aload_n 2, 1) := by decide +kernel
theorem dL_law_783 : decode cL_law 783 = .ok (.aload_n 0, 1) := by decide +kernel
theorem dL_law_784 : decode cL_law 784 = .ok (.iload_n 3, 1) := by decide +kernel
theorem dL_law_785 : decode cL_law 785 = .ok (.iconst 1, 1) := by decide +kernel
theorem dL_law_786 : decode cL_law 786 = .ok (.iadd, 1) := by decide +kernel
theorem dL_law_787 : decode cL_law 787 = .ok (.iaload, 1) := by decide +kernel
theorem dL_law_788 : decode cL_law 788 = .ok (.aload_n 0, 1) := by decide +kernel
theorem dL_law_789 : decode cL_law 789 = .ok (.iload_n 3, 1) := by decide +kernel
theorem dL_law_790 : decode cL_law 790 = .ok (.iconst 2, 1) := by decide +kernel
theorem dL_law_791 : decode cL_law 791 = .ok (.iadd, 1) := by decide +kernel
theorem dL_law_792 : decode cL_law 792 = .ok (.iaload, 1) := by decide +kernel
theorem dL_law_793 : decode cL_law 793 = .ok (.aload_n 0, 1) := by decide +kernel
theorem dL_law_794 : decode cL_law 794 = .ok (.iload_n 3, 1) := by decide +kernel
theorem dL_law_795 : decode cL_law 795 = .ok (.iconst 3, 1) := by decide +kernel
theorem dL_law_796 : decode cL_law 796 = .ok (.iadd, 1) := by decide +kernel
theorem dL_law_797 : decode cL_law 797 = .ok (.iaload, 1) := by decide +kernel
theorem dL_law_798 : decode cL_law 798 = .ok (.invokevirtual 92, 3) := by decide +kernel
theorem dL_law_801 : decode cL_law 801 = .ok (.if_icmp .eq 476, 3) := by decide +kernel
theorem dL_law_804 : decode cL_law 804 = .ok (.iconst 0, 1) := by decide +kernel
theorem dL_law_805 : decode cL_law 805 = .ok (.ireturn, 1) := by decide +kernel
theorem dL_law_806 : decode cL_law 806 = .ok (.aload_n 1, 1) := by decide +kernel
theorem dL_law_807 : decode cL_law 807 = .ok (.aload_n 0, 1) := by decide +kernel
theorem dL_law_808 : decode cL_law 808 = .ok (.iload_n 3, 1) := by decide +kernel
theorem dL_law_809 : decode cL_law 809 = .ok (.iconst 1, 1) := by decide +kernel
theorem dL_law_810 : decode cL_law 810 = .ok (.iadd, 1) := by decide +kernel
theorem dL_law_811 : decode cL_law 811 = .ok (.iaload, 1) := by decide +kernel
theorem dL_law_812 : decode cL_law 812 = .ok (.aload_n 0, 1) := by decide +kernel
theorem dL_law_813 : decode cL_law 813 = .ok (.iload_n 3, 1) := by decide +kernel
theorem dL_law_814 : decode cL_law 814 = .ok (.iconst 2, 1) := by decide +kernel
theorem dL_law_815 : decode cL_law 815 = .ok (.iadd, 1) := by decide +kernel
theorem dL_law_816 : decode cL_law 816 = .ok (.iaload, 1) := by decide +kernel
theorem dL_law_817 : decode cL_law 817 = .ok (.aload_n 0, 1) := by decide +kernel
theorem dL_law_818 : decode cL_law 818 = .ok (.iload_n 3, 1) := by decide +kernel
theorem dL_law_819 : decode cL_law 819 = .ok (.iconst 3, 1) := by decide +kernel
theorem dL_law_820 : decode cL_law 820 = .ok (.iadd, 1) := by decide +kernel
theorem dL_law_821 : decode cL_law 821 = .ok (.iaload, 1) := by decide +kernel
theorem dL_law_822 : decode cL_law 822 = .ok (.aload_n 0, 1) := by decide +kernel
theorem dL_law_823 : decode cL_law 823 = .ok (.iload_n 3, 1) := by decide +kernel
theorem dL_law_824 : decode cL_law 824 = .ok (.iconst 4, 1) := by decide +kernel
theorem dL_law_825 : decode cL_law 825 = .ok (.iadd, 1) := by decide +kernel
theorem dL_law_826 : decode cL_law 826 = .ok (.iaload, 1) := by decide +kernel
theorem dL_law_827 : decode cL_law 827 = .ok (.aload_n 0, 1) := by decide +kernel
theorem dL_law_828 : decode cL_law 828 = .ok (.iload_n 3, 1) := by decide +kernel
theorem dL_law_829 : decode cL_law 829 = .ok (.iconst 5, 1) := by decide +kernel
theorem dL_law_830 : decode cL_law 830 = .ok (.iadd, 1) := by decide +kernel
theorem dL_law_831 : decode cL_law 831 = .ok (.iaload, 1) := by decide +kernel
theorem dL_law_832 : decode cL_law 832 = .ok (.aload_n 0, 1) := by decide +kernel
theorem dL_law_833 : decode cL_law 833 = .ok (.iload_n 3, 1) := by decide +kernel
theorem dL_law_834 : decode cL_law 834 = .ok (.bipush 6, 2) := by decide +kernel
theorem dL_law_836 : decode cL_law 836 = .ok (.iadd, 1) := by decide +kernel
theorem dL_law_837 : decode cL_law 837 = .ok (.iaload, 1) := by decide +kernel
theorem dL_law_838 : decode cL_law 838 = .ok (.invokevirtual 93, 3) := by decide +kernel
theorem dL_law_841 : decode cL_law 841 = .ok (.aload_n 2, 1) := by decide +kernel
theorem dL_law_842 : decode cL_law 842 = .ok (.aload_n 0, 1) := by decide +kernel
theorem dL_law_843 : decode cL_law 843 = .ok (.iload_n 3, 1) := by decide +kernel
theorem dL_law_844 : decode cL_law 844 = .ok (.iconst 1, 1) := by decide +kernel
theorem dL_law_845 : decode cL_law 845 = .ok (.iadd, 1) := by decide +kernel
theorem dL_law_846 : decode cL_law 846 = .ok (.iaload, 1) := by decide +kernel
theorem dL_law_847 : decode cL_law 847 = .ok (.aload_n 0, 1) := by decide +kernel
theorem dL_law_848 : decode cL_law 848 = .ok (.iload_n 3, 1) := by decide +kernel
theorem dL_law_849 : decode cL_law 849 = .ok (.iconst 2, 1) := by decide +kernel
theorem dL_law_850 : decode cL_law 850 = .ok (.iadd, 1) := by decide +kernel
theorem dL_law_851 : decode cL_law 851 = .ok (.iaload, 1) := by decide +kernel
theorem dL_law_852 : decode cL_law 852 = .ok (.aload_n 0, 1) := by decide +kernel
theorem dL_law_853 : decode cL_law 853 = .ok (.iload_n 3, 1) := by decide +kernel
theorem dL_law_854 : decode cL_law 854 = .ok (.iconst 3, 1) := by decide +kernel
theorem dL_law_855 : decode cL_law 855 = .ok (.iadd, 1) := by decide +kernel
theorem dL_law_856 : decode cL_law 856 = .ok (.iaload, 1) := by decide +kernel
theorem dL_law_857 : decode cL_law 857 = .ok (.aload_n 0, 1) := by decide +kernel
theorem dL_law_858 : decode cL_law 858 = .ok (.iload_n 3, 1) := by decide +kernel
theorem dL_law_859 : decode cL_law 859 = .ok (.iconst 4, 1) := by decide +kernel
theorem dL_law_860 : decode cL_law 860 = .ok (.iadd, 1) := by decide +kernel
theorem dL_law_861 : decode cL_law 861 = .ok (.iaload, 1) := by decide +kernel
theorem dL_law_862 : decode cL_law 862 = .ok (.aload_n 0, 1) := by decide +kernel
theorem dL_law_863 : decode cL_law 863 = .ok (.iload_n 3, 1) := by decide +kernel
theorem dL_law_864 : decode cL_law 864 = .ok (.iconst 5, 1) := by decide +kernel
theorem dL_law_865 : decode cL_law 865 = .ok (.iadd, 1) := by decide +kernel
theorem dL_law_866 : decode cL_law 866 = .ok (.iaload, 1) := by decide +kernel
theorem dL_law_867 : decode cL_law 867 = .ok (.aload_n 0, 1) := by decide +kernel
theorem dL_law_868 : decode cL_law 868 = .ok (.iload_n 3, 1) := by decide +kernel
theorem dL_law_869 : decode cL_law 869 = .ok (.bipush 6, 2) := by decide +kernel
theorem dL_law_871 : decode cL_law 871 = .ok (.iadd, 1) := by decide +kernel
theorem dL_law_872 : decode cL_law 872 = .ok (.iaload, 1) := by decide +kernel
theorem dL_law_873 : decode cL_law 873 = .ok (.invokevirtual 96, 3) := by decide +kernel
theorem dL_law_876 : decode cL_law 876 = .ok (.if_icmp .eq 401, 3) := by decide +kernel
theorem dL_law_879 : decode cL_law 879 = .ok (.iconst 0, 1) := by decide +kernel
theorem dL_law_880 : decode cL_law 880 = .ok (.ireturn, 1) := by decide +kernel
theorem dL_law_881 : decode cL_law 881 = .ok (.aload_n 1, 1) := by decide +kernel
theorem dL_law_882 : decode cL_law 882 = .ok (.aload_n 0, 1) := by decide +kernel
theorem dL_law_883 : decode cL_law 883 = .ok (.iload_n 3, 1) := by decide +kernel
theorem dL_law_884 : decode cL_law 884 = .ok (.iconst 1, 1) := by decide +kernel
theorem dL_law_885 : decode cL_law 885 = .ok (.iadd, 1) := by decide +kernel
theorem dL_law_886 : decode cL_law 886 = .ok (.iaload, 1) := by decide +kernel
theorem dL_law_887 : decode cL_law 887 = .ok (.aload_n 0, 1) := by decide +kernel
theorem dL_law_888 : decode cL_law 888 = .ok (.iload_n 3, 1) := by decide +kernel
theorem dL_law_889 : decode cL_law 889 = .ok (.iconst 2, 1) := by decide +kernel
theorem dL_law_890 : decode cL_law 890 = .ok (.iadd, 1) := by decide +kernel
theorem dL_law_891 : decode cL_law 891 = .ok (.iaload, 1) := by decide +kernel
theorem dL_law_892 : decode cL_law 892 = .ok (.aload_n 0, 1) := by decide +kernel
theorem dL_law_893 : decode cL_law 893 = .ok (.iload_n 3, 1) := by decide +kernel
theorem dL_law_894 : decode cL_law 894 = .ok (.iconst 3, 1) := by decide +kernel
theorem dL_law_895 : decode cL_law 895 = .ok (.iadd, 1) := by decide +kernel
theorem dL_law_896 : decode cL_law 896 = .ok (.iaload, 1) := by decide +kernel
theorem dL_law_897 : decode cL_law 897 = .ok (.aload_n 0, 1) := by decide +kernel
theorem dL_law_898 : decode cL_law 898 = .ok (.iload_n 3, 1) := by decide +kernel
theorem dL_law_899 : decode cL_law 899 = .ok (.iconst 4, 1) := by decide +kernel
theorem dL_law_900 : decode cL_law 900 = .ok (.iadd, 1) := by decide +kernel
theorem dL_law_901 : decode cL_law 901 = .ok (.iaload, 1) := by decide +kernel
theorem dL_law_902 : decode cL_law 902 = .ok (.aload_n 0, 1) := by decide +kernel
theorem dL_law_903 : decode cL_law 903 = .ok (.iload_n 3, 1) := by decide +kernel
theorem dL_law_904 : decode cL_law 904 = .ok (.iconst 5, 1) := by decide +kernel
theorem dL_law_905 : decode cL_law 905 = .ok (.iadd, 1) := by decide +kernel
theorem dL_law_906 : decode cL_law 906 = .ok (.iaload, 1) := by decide +kernel
theorem dL_law_907 : decode cL_law 907 = .ok (.aload_n 0, 1) := by decide +kernel
theorem dL_law_908 : decode cL_law 908 = .ok (.iload_n 3, 1) := by decide +kernel
theorem dL_law_909 : decode cL_law 909 = .ok (.bipush 6, 2) := by decide +kernel
theorem dL_law_911 : decode cL_law 911 = .ok (.iadd, 1) := by decide +kernel
theorem dL_law_912 : decode cL_law 912 = .ok (.iaload, 1) := by decide +kernel
theorem dL_law_913 : decode cL_law 913 = .ok (.invokevirtual 97, 3) := by decide +kernel
theorem dL_law_916 : decode cL_law 916 = .ok (.aload_n 2, 1) := by decide +kernel
theorem dL_law_917 : decode cL_law 917 = .ok (.aload_n 0, 1) := by decide +kernel
theorem dL_law_918 : decode cL_law 918 = .ok (.iload_n 3, 1) := by decide +kernel
theorem dL_law_919 : decode cL_law 919 = .ok (.iconst 1, 1) := by decide +kernel
theorem dL_law_920 : decode cL_law 920 = .ok (.iadd, 1) := by decide +kernel
theorem dL_law_921 : decode cL_law 921 = .ok (.iaload, 1) := by decide +kernel
theorem dL_law_922 : decode cL_law 922 = .ok (.aload_n 0, 1) := by decide +kernel
theorem dL_law_923 : decode cL_law 923 = .ok (.iload_n 3, 1) := by decide +kernel
theorem dL_law_924 : decode cL_law 924 = .ok (.iconst 2, 1) := by decide +kernel
theorem dL_law_925 : decode cL_law 925 = .ok (.iadd, 1) := by decide +kernel
theorem dL_law_926 : decode cL_law 926 = .ok (.iaload, 1) := by decide +kernel
theorem dL_law_927 : decode cL_law 927 = .ok (.aload_n 0, 1) := by decide +kernel
theorem dL_law_928 : decode cL_law 928 = .ok (.iload_n 3, 1) := by decide +kernel
theorem dL_law_929 : decode cL_law 929 = .ok (.iconst 3, 1) := by decide +kernel
theorem dL_law_930 : decode cL_law 930 = .ok (.iadd, 1) := by decide +kernel
theorem dL_law_931 : decode cL_law 931 = .ok (.iaload, 1) := by decide +kernel
theorem dL_law_932 : decode cL_law 932 = .ok (.aload_n 0, 1) := by decide +kernel
theorem dL_law_933 : decode cL_law 933 = .ok (.iload_n 3, 1) := by decide +kernel
theorem dL_law_934 : decode cL_law 934 = .ok (.iconst 4, 1) := by decide +kernel
theorem dL_law_935 : decode cL_law 935 = .ok (.iadd, 1) := by decide +kernel
theorem dL_law_936 : decode cL_law 936 = .ok (.iaload, 1) := by decide +kernel
theorem dL_law_937 : decode cL_law 937 = .ok (.aload_n 0, 1) := by decide +kernel
theorem dL_law_938 : decode cL_law 938 = .ok (.iload_n 3, 1) := by decide +kernel
theorem dL_law_939 : decode cL_law 939 = .ok (.iconst 5, 1) := by decide +kernel
theorem dL_law_940 : decode cL_law 940 = .ok (.iadd, 1) := by decide +kernel
theorem dL_law_941 : decode cL_law 941 = .ok (.iaload, 1) := by decide +kernel
theorem dL_law_942 : decode cL_law 942 = .ok (.aload_n 0, 1) := by decide +kernel
theorem dL_law_943 : decode cL_law 943 = .ok (.iload_n 3, 1) := by decide +kernel
theorem dL_law_944 : decode cL_law 944 = .ok (.bipush 6, 2) := by decide +kernel
theorem dL_law_946 : decode cL_law 946 = .ok (.iadd, 1) := by decide +kernel
theorem dL_law_947 : decode cL_law 947 = .ok (.iaload, 1) := by decide +kernel
theorem dL_law_948 : decode cL_law 948 = .ok (.invokevirtual 100, 3) := by decide +kernel
theorem dL_law_951 : decode cL_law 951 = .ok (.if_icmp .eq 326, 3) := by decide +kernel
theorem dL_law_954 : decode cL_law 954 = .ok (.iconst 0, 1) := by decide +kernel
theorem dL_law_955 : decode cL_law 955 = .ok (.ireturn, 1) := by decide +kernel
theorem dL_law_956 : decode cL_law 956 = .ok (.aload_n 1, 1) := by decide +kernel
theorem dL_law_957 : decode cL_law 957 = .ok (.aload_n 0, 1) := by decide +kernel
theorem dL_law_958 : decode cL_law 958 = .ok (.iload_n 3, 1) := by decide +kernel
theorem dL_law_959 : decode cL_law 959 = .ok (.iconst 1, 1) := by decide +kernel
theorem dL_law_960 : decode cL_law 960 = .ok (.iadd, 1) := by decide +kernel
theorem dL_law_961 : decode cL_law 961 = .ok (.iaload, 1) := by decide +kernel
theorem dL_law_962 : decode cL_law 962 = .ok (.aload_n 0, 1) := by decide +kernel
theorem dL_law_963 : decode cL_law 963 = .ok (.iload_n 3, 1) := by decide +kernel
theorem dL_law_964 : decode cL_law 964 = .ok (.iconst 2, 1) := by decide +kernel
theorem dL_law_965 : decode cL_law 965 = .ok (.iadd, 1) := by decide +kernel
theorem dL_law_966 : decode cL_law 966 = .ok (.iaload, 1) := by decide +kernel
theorem dL_law_967 : decode cL_law 967 = .ok (.aload_n 0, 1) := by decide +kernel
theorem dL_law_968 : decode cL_law 968 = .ok (.iload_n 3, 1) := by decide +kernel
theorem dL_law_969 : decode cL_law 969 = .ok (.iconst 3, 1) := by decide +kernel
theorem dL_law_970 : decode cL_law 970 = .ok (.iadd, 1) := by decide +kernel
theorem dL_law_971 : decode cL_law 971 = .ok (.iaload, 1) := by decide +kernel
theorem dL_law_972 : decode cL_law 972 = .ok (.aload_n 0, 1) := by decide +kernel
theorem dL_law_973 : decode cL_law 973 = .ok (.iload_n 3, 1) := by decide +kernel
theorem dL_law_974 : decode cL_law 974 = .ok (.iconst 4, 1) := by decide +kernel
theorem dL_law_975 : decode cL_law 975 = .ok (.iadd, 1) := by decide +kernel
theorem dL_law_976 : decode cL_law 976 = .ok (.iaload, 1) := by decide +kernel
theorem dL_law_977 : decode cL_law 977 = .ok (.aload_n 0, 1) := by decide +kernel
theorem dL_law_978 : decode cL_law 978 = .ok (.iload_n 3, 1) := by decide +kernel
theorem dL_law_979 : decode cL_law 979 = .ok (.iconst 5, 1) := by decide +kernel
theorem dL_law_980 : decode cL_law 980 = .ok (.iadd, 1) := by decide +kernel
theorem dL_law_981 : decode cL_law 981 = .ok (.iaload, 1) := by decide +kernel
theorem dL_law_982 : decode cL_law 982 = .ok (.invokevirtual 101, 3) := by decide +kernel
theorem dL_law_985 : decode cL_law 985 = .ok (.aload_n 2, 1) := by decide +kernel
theorem dL_law_986 : decode cL_law 986 = .ok (.aload_n 0, 1) := by decide +kernel
theorem dL_law_987 : decode cL_law 987 = .ok (.iload_n 3, 1) := by decide +kernel
theorem dL_law_988 : decode cL_law 988 = .ok (.iconst 1, 1) := by decide +kernel
theorem dL_law_989 : decode cL_law 989 = .ok (.iadd, 1) := by decide +kernel
theorem dL_law_990 : decode cL_law 990 = .ok (.iaload, 1) := by decide +kernel
theorem dL_law_991 : decode cL_law 991 = .ok (.aload_n 0, 1) := by decide +kernel
theorem dL_law_992 : decode cL_law 992 = .ok (.iload_n 3, 1) := by decide +kernel
theorem dL_law_993 : decode cL_law 993 = .ok (.iconst 2, 1) := by decide +kernel
theorem dL_law_994 : decode cL_law 994 = .ok (.iadd, 1) := by decide +kernel
theorem dL_law_995 : decode cL_law 995 = .ok (.iaload, 1) := by decide +kernel
theorem dL_law_996 : decode cL_law 996 = .ok (.aload_n 0, 1) := by decide +kernel
theorem dL_law_997 : decode cL_law 997 = .ok (.iload_n 3, 1) := by decide +kernel
theorem dL_law_998 : decode cL_law 998 = .ok (.iconst 3, 1) := by decide +kernel
theorem dL_law_999 : decode cL_law 999 = .ok (.iadd, 1) := by decide +kernel
theorem dL_law_1000 : decode cL_law 1000 = .ok (.iaload, 1) := by decide +kernel
theorem dL_law_1001 : decode cL_law 1001 = .ok (.aload_n 0, 1) := by decide +kernel
theorem dL_law_1002 : decode cL_law 1002 = .ok (.iload_n 3, 1) := by decide +kernel
theorem dL_law_1003 : decode cL_law 1003 = .ok (.iconst 4, 1) := by decide +kernel
theorem dL_law_1004 : decode cL_law 1004 = .ok (.iadd, 1) := by decide +kernel
theorem dL_law_1005 : decode cL_law 1005 = .ok (.iaload, 1) := by decide +kernel
theorem dL_law_1006 : decode cL_law 1006 = .ok (.aload_n 0, 1) := by decide +kernel
theorem dL_law_1007 : decode cL_law 1007 = .ok (.iload_n 3, 1) := by decide +kernel
theorem dL_law_1008 : decode cL_law 1008 = .ok (.iconst 5, 1) := by decide +kernel
theorem dL_law_1009 : decode cL_law 1009 = .ok (.iadd, 1) := by decide +kernel
theorem dL_law_1010 : decode cL_law 1010 = .ok (.iaload, 1) := by decide +kernel
theorem dL_law_1011 : decode cL_law 1011 = .ok (.invokevirtual 104, 3) := by decide +kernel
theorem dL_law_1014 : decode cL_law 1014 = .ok (.if_icmp .eq 263, 3) := by decide +kernel
theorem dL_law_1017 : decode cL_law 1017 = .ok (.iconst 0, 1) := by decide +kernel
theorem dL_law_1018 : decode cL_law 1018 = .ok (.ireturn, 1) := by decide +kernel
theorem dL_law_1019 : decode cL_law 1019 = .ok (.aload_n 1, 1) := by decide +kernel
theorem dL_law_1020 : decode cL_law 1020 = .ok (.aload_n 0, 1) := by decide +kernel
theorem dL_law_1021 : decode cL_law 1021 = .ok (.iload_n 3, 1) := by decide +kernel
theorem dL_law_1022 : decode cL_law 1022 = .ok (.iconst 1, 1) := by decide +kernel
theorem dL_law_1023 : decode cL_law 1023 = .ok (.iadd, 1) := by decide +kernel
theorem dL_law_1024 : decode cL_law 1024 = .ok (.iaload, 1) := by decide +kernel
theorem dL_law_1025 : decode cL_law 1025 = .ok (.aload_n 0, 1) := by decide +kernel
theorem dL_law_1026 : decode cL_law 1026 = .ok (.iload_n 3, 1) := by decide +kernel
theorem dL_law_1027 : decode cL_law 1027 = .ok (.iconst 2, 1) := by decide +kernel
theorem dL_law_1028 : decode cL_law 1028 = .ok (.iadd, 1) := by decide +kernel
theorem dL_law_1029 : decode cL_law 1029 = .ok (.iaload, 1) := by decide +kernel
theorem dL_law_1030 : decode cL_law 1030 = .ok (.aload_n 0, 1) := by decide +kernel
theorem dL_law_1031 : decode cL_law 1031 = .ok (.iload_n 3, 1) := by decide +kernel
theorem dL_law_1032 : decode cL_law 1032 = .ok (.iconst 3, 1) := by decide +kernel
theorem dL_law_1033 : decode cL_law 1033 = .ok (.iadd, 1) := by decide +kernel
theorem dL_law_1034 : decode cL_law 1034 = .ok (.iaload, 1) := by decide +kernel
theorem dL_law_1035 : decode cL_law 1035 = .ok (.aload_n 0, 1) := by decide +kernel
theorem dL_law_1036 : decode cL_law 1036 = .ok (.iload_n 3, 1) := by decide +kernel
theorem dL_law_1037 : decode cL_law 1037 = .ok (.iconst 4, 1) := by decide +kernel
theorem dL_law_1038 : decode cL_law 1038 = .ok (.iadd, 1) := by decide +kernel
theorem dL_law_1039 : decode cL_law 1039 = .ok (.iaload, 1) := by decide +kernel
theorem dL_law_1040 : decode cL_law 1040 = .ok (.invokevirtual 105, 3) := by decide +kernel
theorem dL_law_1043 : decode cL_law 1043 = .ok (.aload_n 2, 1) := by decide +kernel
theorem dL_law_1044 : decode cL_law 1044 = .ok (.aload_n 0, 1) := by decide +kernel
theorem dL_law_1045 : decode cL_law 1045 = .ok (.iload_n 3, 1) := by decide +kernel
theorem dL_law_1046 : decode cL_law 1046 = .ok (.iconst 1, 1) := by decide +kernel
theorem dL_law_1047 : decode cL_law 1047 = .ok (.iadd, 1) := by decide +kernel
theorem dL_law_1048 : decode cL_law 1048 = .ok (.iaload, 1) := by decide +kernel
theorem dL_law_1049 : decode cL_law 1049 = .ok (.aload_n 0, 1) := by decide +kernel
theorem dL_law_1050 : decode cL_law 1050 = .ok (.iload_n 3, 1) := by decide +kernel
theorem dL_law_1051 : decode cL_law 1051 = .ok (.iconst 2, 1) := by decide +kernel
theorem dL_law_1052 : decode cL_law 1052 = .ok (.iadd, 1) := by decide +kernel
theorem dL_law_1053 : decode cL_law 1053 = .ok (.iaload, 1) := by decide +kernel
theorem dL_law_1054 : decode cL_law 1054 = .ok (.aload_n 0, 1) := by decide +kernel
theorem dL_law_1055 : decode cL_law 1055 = .ok (.iload_n 3, 1) := by decide +kernel
theorem dL_law_1056 : decode cL_law 1056 = .ok (.iconst 3, 1) := by decide +kernel
theorem dL_law_1057 : decode cL_law 1057 = .ok (.iadd, 1) := by decide +kernel
theorem dL_law_1058 : decode cL_law 1058 = .ok (.iaload, 1) := by decide +kernel
theorem dL_law_1059 : decode cL_law 1059 = .ok (.aload_n 0, 1) := by decide +kernel
theorem dL_law_1060 : decode cL_law 1060 = .ok (.iload_n 3, 1) := by decide +kernel
theorem dL_law_1061 : decode cL_law 1061 = .ok (.iconst 4, 1) := by decide +kernel
theorem dL_law_1062 : decode cL_law 1062 = .ok (.iadd, 1) := by decide +kernel
theorem dL_law_1063 : decode cL_law 1063 = .ok (.iaload, 1) := by decide +kernel
theorem dL_law_1064 : decode cL_law 1064 = .ok (.invokevirtual 109, 3) := by decide +kernel
theorem dL_law_1067 : decode cL_law 1067 = .ok (.if_icmp .eq 210, 3) := by decide +kernel
theorem dL_law_1070 : decode cL_law 1070 = .ok (.iconst 0, 1) := by decide +kernel
theorem dL_law_1071 : decode cL_law 1071 = .ok (.ireturn, 1) := by decide +kernel
theorem dL_law_1072 : decode cL_law 1072 = .ok (.aload_n 1, 1) := by decide +kernel
theorem dL_law_1073 : decode cL_law 1073 = .ok (.aload_n 0, 1) := by decide +kernel
theorem dL_law_1074 : decode cL_law 1074 = .ok (.iload_n 3, 1) := by decide +kernel
theorem dL_law_1075 : decode cL_law 1075 = .ok (.iconst 1, 1) := by decide +kernel
theorem dL_law_1076 : decode cL_law 1076 = .ok (.iadd, 1) := by decide +kernel
theorem dL_law_1077 : decode cL_law 1077 = .ok (.iaload, 1) := by decide +kernel
theorem dL_law_1078 : decode cL_law 1078 = .ok (.invokevirtual 110, 3) := by decide +kernel
theorem dL_law_1081 : decode cL_law 1081 = .ok (.aload_n 2, 1) := by decide +kernel
theorem dL_law_1082 : decode cL_law 1082 = .ok (.aload_n 0, 1) := by decide +kernel
theorem dL_law_1083 : decode cL_law 1083 = .ok (.iload_n 3, 1) := by decide +kernel
theorem dL_law_1084 : decode cL_law 1084 = .ok (.iconst 1, 1) := by decide +kernel
theorem dL_law_1085 : decode cL_law 1085 = .ok (.iadd, 1) := by decide +kernel
theorem dL_law_1086 : decode cL_law 1086 = .ok (.iaload, 1) := by decide +kernel
theorem dL_law_1087 : decode cL_law 1087 = .ok (.invokevirtual 113, 3) := by decide +kernel
theorem dL_law_1090 : decode cL_law 1090 = .ok (.if_icmp .eq 187, 3) := by decide +kernel
theorem dL_law_1093 : decode cL_law 1093 = .ok (.iconst 0, 1) := by decide +kernel
theorem dL_law_1094 : decode cL_law 1094 = .ok (.ireturn, 1) := by decide +kernel
theorem dL_law_1095 : decode cL_law 1095 = .ok (.aload_n 1, 1) := by decide +kernel
theorem dL_law_1096 : decode cL_law 1096 = .ok (.aload_n 0, 1) := by decide +kernel
theorem dL_law_1097 : decode cL_law 1097 = .ok (.iload_n 3, 1) := by decide +kernel
theorem dL_law_1098 : decode cL_law 1098 = .ok (.iconst 1, 1) := by decide +kernel
theorem dL_law_1099 : decode cL_law 1099 = .ok (.iadd, 1) := by decide +kernel
theorem dL_law_1100 : decode cL_law 1100 = .ok (.iaload, 1) := by decide +kernel
theorem dL_law_1101 : decode cL_law 1101 = .ok (.aload_n 0, 1) := by decide +kernel
theorem dL_law_1102 : decode cL_law 1102 = .ok (.iload_n 3, 1) := by decide +kernel
theorem dL_law_1103 : decode cL_law 1103 = .ok (.iconst 2, 1) := by decide +kernel
theorem dL_law_1104 : decode cL_law 1104 = .ok (.iadd, 1) := by decide +kernel
theorem dL_law_1105 : decode cL_law 1105 = .ok (.iaload, 1) := by decide +kernel
theorem dL_law_1106 : decode cL_law 1106 = .ok (.aload_n 0, 1) := by decide +kernel
theorem dL_law_1107 : decode cL_law 1107 = .ok (.iload_n 3, 1) := by decide +kernel
theorem dL_law_1108 : decode cL_law 1108 = .ok (.iconst 3, 1) := by decide +kernel
theorem dL_law_1109 : decode cL_law 1109 = .ok (.iadd, 1) := by decide +kernel
theorem dL_law_1110 : decode cL_law 1110 = .ok (.iaload, 1) := by decide +kernel
theorem dL_law_1111 : decode cL_law 1111 = .ok (.invokevirtual 114, 3) := by decide +kernel
theorem dL_law_1114 : decode cL_law 1114 = .ok (.aload_n 2, 1) := by decide +kernel
theorem dL_law_1115 : decode cL_law 1115 = .ok (.aload_n 0, 1) := by decide +kernel
theorem dL_law_1116 : decode cL_law 1116 = .ok (.iload_n 3, 1) := by decide +kernel
theorem dL_law_1117 : decode cL_law 1117 = .ok (.iconst 1, 1) := by decide +kernel
theorem dL_law_1118 : decode cL_law 1118 = .ok (.iadd, 1) := by decide +kernel
theorem dL_law_1119 : decode cL_law 1119 = .ok (.iaload, 1) := by decide +kernel
theorem dL_law_1120 : decode cL_law 1120 = .ok (.aload_n 0, 1) := by decide +kernel
theorem dL_law_1121 : decode cL_law 1121 = .ok (.iload_n 3, 1) := by decide +kernel
theorem dL_law_1122 : decode cL_law 1122 = .ok (.iconst 2, 1) := by decide +kernel
theorem dL_law_1123 : decode cL_law 1123 = .ok (.iadd, 1) := by decide +kernel
theorem dL_law_1124 : decode cL_law 1124 = .ok (.iaload, 1) := by decide +kernel
theorem dL_law_1125 : decode cL_law 1125 = .ok (.aload_n 0, 1) := by decide +kernel
theorem dL_law_1126 : decode cL_law 1126 = .ok (.iload_n 3, 1) := by decide +kernel
theorem dL_law_1127 : decode cL_law 1127 = .ok (.iconst 3, 1) := by decide +kernel
theorem dL_law_1128 : decode cL_law 1128 = .ok (.iadd, 1) := by decide +kernel
theorem dL_law_1129 : decode cL_law 1129 = .ok (.iaload, 1) := by decide +kernel
theorem dL_law_1130 : decode cL_law 1130 = .ok (.invokevirtual 117, 3) := by decide +kernel
theorem dL_law_1133 : decode cL_law 1133 = .ok (.if_icmp .eq 144, 3) := by decide +kernel
theorem dL_law_1136 : decode cL_law 1136 = .ok (.iconst 0, 1) := by decide +kernel
theorem dL_law_1137 : decode cL_law 1137 = .ok (.ireturn, 1) := by decide +kernel
theorem dL_law_1138 : decode cL_law 1138 = .ok (.aload_n 1, 1) := by decide +kernel
theorem dL_law_1139 : decode cL_law 1139 = .ok (.aload_n 0, 1) := by decide +kernel
theorem dL_law_1140 : decode cL_law 1140 = .ok (.iload_n 3, 1) := by decide +kernel
theorem dL_law_1141 : decode cL_law 1141 = .ok (.iconst 1, 1) := by decide +kernel
theorem dL_law_1142 : decode cL_law 1142 = .ok (.iadd, 1) := by decide +kernel
theorem dL_law_1143 : decode cL_law 1143 = .ok (.iaload, 1) := by decide +kernel
theorem dL_law_1144 : decode cL_law 1144 = .ok (.invokevirtual 118, 3) := by decide +kernel
theorem dL_law_1147 : decode cL_law 1147 = .ok (.aload_n 2, 1) := by decide +kernel
theorem dL_law_1148 : decode cL_law 1148 = .ok (.aload_n 0, 1) := by decide +kernel
theorem dL_law_1149 : decode cL_law 1149 = .ok (.iload_n 3, 1) := by decide +kernel
theorem dL_law_1150 : decode cL_law 1150 = .ok (.iconst 1, 1) := by decide +kernel
theorem dL_law_1151 : decode cL_law 1151 = .ok (.iadd, 1) := by decide +kernel
theorem dL_law_1152 : decode cL_law 1152 = .ok (.iaload, 1) := by decide +kernel
theorem dL_law_1153 : decode cL_law 1153 = .ok (.invokevirtual 121, 3) := by decide +kernel
theorem dL_law_1156 : decode cL_law 1156 = .ok (.if_icmp .eq 121, 3) := by decide +kernel
theorem dL_law_1159 : decode cL_law 1159 = .ok (.iconst 0, 1) := by decide +kernel
theorem dL_law_1160 : decode cL_law 1160 = .ok (.ireturn, 1) := by decide +kernel
theorem dL_law_1161 : decode cL_law 1161 = .ok (.aload_n 1, 1) := by decide +kernel
theorem dL_law_1162 : decode cL_law 1162 = .ok (.aload_n 0, 1) := by decide +kernel
theorem dL_law_1163 : decode cL_law 1163 = .ok (.iload_n 3, 1) := by decide +kernel
theorem dL_law_1164 : decode cL_law 1164 = .ok (.iconst 1, 1) := by decide +kernel
theorem dL_law_1165 : decode cL_law 1165 = .ok (.iadd, 1) := by decide +kernel
theorem dL_law_1166 : decode cL_law 1166 = .ok (.iaload, 1) := by decide +kernel
theorem dL_law_1167 : decode cL_law 1167 = .ok (.aload_n 0, 1) := by decide +kernel
theorem dL_law_1168 : decode cL_law 1168 = .ok (.iload_n 3, 1) := by decide +kernel
theorem dL_law_1169 : decode cL_law 1169 = .ok (.iconst 2, 1) := by decide +kernel
theorem dL_law_1170 : decode cL_law 1170 = .ok (.iadd, 1) := by decide +kernel
theorem dL_law_1171 : decode cL_law 1171 = .ok (.iaload, 1) := by decide +kernel
theorem dL_law_1172 : decode cL_law 1172 = .ok (.aload_n 0, 1) := by decide +kernel
theorem dL_law_1173 : decode cL_law 1173 = .ok (.iload_n 3, 1) := by decide +kernel
theorem dL_law_1174 : decode cL_law 1174 = .ok (.iconst 3, 1) := by decide +kernel
theorem dL_law_1175 : decode cL_law 1175 = .ok (.iadd, 1) := by decide +kernel
theorem dL_law_1176 : decode cL_law 1176 = .ok (.iaload, 1) := by decide +kernel
theorem dL_law_1177 : decode cL_law 1177 = .ok (.aload_n 0, 1) := by decide +kernel
theorem dL_law_1178 : decode cL_law 1178 = .ok (.iload_n 3, 1) := by decide +kernel
theorem dL_law_1179 : decode cL_law 1179 = .ok (.iconst 4, 1) := by decide +kernel
theorem dL_law_1180 : decode cL_law 1180 = .ok (.iadd, 1) := by decide +kernel
theorem dL_law_1181 : decode cL_law 1181 = .ok (.iaload, 1) := by decide +kernel
theorem dL_law_1182 : decode cL_law 1182 = .ok (.invokevirtual 122, 3) := by decide +kernel
theorem dL_law_1185 : decode cL_law 1185 = .ok (.aload_n 2, 1) := by decide +kernel
theorem dL_law_1186 : decode cL_law 1186 = .ok (.aload_n 0, 1) := by decide +kernel
theorem dL_law_1187 : decode cL_law 1187 = .ok (.iload_n 3, 1) := by decide +kernel
theorem dL_law_1188 : decode cL_law 1188 = .ok (.iconst 1, 1) := by decide +kernel
theorem dL_law_1189 : decode cL_law 1189 = .ok (.iadd, 1) := by decide +kernel
theorem dL_law_1190 : decode cL_law 1190 = .ok (.iaload, 1) := by decide +kernel
theorem dL_law_1191 : decode cL_law 1191 = .ok (.aload_n 0, 1) := by decide +kernel
theorem dL_law_1192 : decode cL_law 1192 = .ok (.iload_n 3, 1) := by decide +kernel
theorem dL_law_1193 : decode cL_law 1193 = .ok (.iconst 2, 1) := by decide +kernel
theorem dL_law_1194 : decode cL_law 1194 = .ok (.iadd, 1) := by decide +kernel
theorem dL_law_1195 : decode cL_law 1195 = .ok (.iaload, 1) := by decide +kernel
theorem dL_law_1196 : decode cL_law 1196 = .ok (.aload_n 0, 1) := by decide +kernel
theorem dL_law_1197 : decode cL_law 1197 = .ok (.iload_n 3, 1) := by decide +kernel
theorem dL_law_1198 : decode cL_law 1198 = .ok (.iconst 3, 1) := by decide +kernel
theorem dL_law_1199 : decode cL_law 1199 = .ok (.iadd, 1) := by decide +kernel
theorem dL_law_1200 : decode cL_law 1200 = .ok (.iaload, 1) := by decide +kernel
theorem dL_law_1201 : decode cL_law 1201 = .ok (.aload_n 0, 1) := by decide +kernel
theorem dL_law_1202 : decode cL_law 1202 = .ok (.iload_n 3, 1) := by decide +kernel
theorem dL_law_1203 : decode cL_law 1203 = .ok (.iconst 4, 1) := by decide +kernel
theorem dL_law_1204 : decode cL_law 1204 = .ok (.iadd, 1) := by decide +kernel
theorem dL_law_1205 : decode cL_law 1205 = .ok (.iaload, 1) := by decide +kernel
theorem dL_law_1206 : decode cL_law 1206 = .ok (.invokevirtual 126, 3) := by decide +kernel
theorem dL_law_1209 : decode cL_law 1209 = .ok (.lcmp, 1) := by decide +kernel
theorem dL_law_1210 : decode cL_law 1210 = .ok (.ifCond .eq 67, 3) := by decide +kernel
theorem dL_law_1213 : decode cL_law 1213 = .ok (.iconst 0, 1) := by decide +kernel
theorem dL_law_1214 : decode cL_law 1214 = .ok (.ireturn, 1) := by decide +kernel
theorem dL_law_1215 : decode cL_law 1215 = .ok (.aload_n 1, 1) := by decide +kernel
theorem dL_law_1216 : decode cL_law 1216 = .ok (.aload_n 0, 1) := by decide +kernel
theorem dL_law_1217 : decode cL_law 1217 = .ok (.iload_n 3, 1) := by decide +kernel
theorem dL_law_1218 : decode cL_law 1218 = .ok (.iconst 1, 1) := by decide +kernel
theorem dL_law_1219 : decode cL_law 1219 = .ok (.iadd, 1) := by decide +kernel
theorem dL_law_1220 : decode cL_law 1220 = .ok (.iaload, 1) := by decide +kernel
theorem dL_law_1221 : decode cL_law 1221 = .ok (.ifCond .eq 7, 3) := by decide +kernel
theorem dL_law_1224 : decode cL_law 1224 = .ok (.iconst 1, 1) := by decide +kernel
theorem dL_law_1225 : decode cL_law 1225 = .ok (.goto 4, 3) := by decide +kernel
theorem dL_law_1228 : decode cL_law 1228 = .ok (.iconst 0, 1) := by decide +kernel
theorem dL_law_1229 : decode cL_law 1229 = .ok (.invokevirtual 127, 3) := by decide +kernel
theorem dL_law_1232 : decode cL_law 1232 = .ok (.aload_n 2, 1) := by decide +kernel
theorem dL_law_1233 : decode cL_law 1233 = .ok (.aload_n 0, 1) := by decide +kernel
theorem dL_law_1234 : decode cL_law 1234 = .ok (.iload_n 3, 1) := by decide +kernel
theorem dL_law_1235 : decode cL_law 1235 = .ok (.iconst 1, 1) := by decide +kernel
theorem dL_law_1236 : decode cL_law 1236 = .ok (.iadd, 1) := by decide +kernel
theorem dL_law_1237 : decode cL_law 1237 = .ok (.iaload, 1) := by decide +kernel
theorem dL_law_1238 : decode cL_law 1238 = .ok (.ifCond .eq 7, 3) := by decide +kernel
theorem dL_law_1241 : decode cL_law 1241 = .ok (.iconst 1, 1) := by decide +kernel
theorem dL_law_1242 : decode cL_law 1242 = .ok (.goto 4, 3) := by decide +kernel
theorem dL_law_1245 : decode cL_law 1245 = .ok (.iconst 0, 1) := by decide +kernel
theorem dL_law_1246 : decode cL_law 1246 = .ok (.invokevirtual 131, 3) := by decide +kernel
theorem dL_law_1249 : decode cL_law 1249 = .ok (.if_icmp .eq 28, 3) := by decide +kernel
theorem dL_law_1252 : decode cL_law 1252 = .ok (.iconst 0, 1) := by decide +kernel
theorem dL_law_1253 : decode cL_law 1253 = .ok (.ireturn, 1) := by decide +kernel
theorem dL_law_1254 : decode cL_law 1254 = .ok (.aload_n 1, 1) := by decide +kernel
theorem dL_law_1255 : decode cL_law 1255 = .ok (.aload_n 0, 1) := by decide +kernel
theorem dL_law_1256 : decode cL_law 1256 = .ok (.iload_n 3, 1) := by decide +kernel
theorem dL_law_1257 : decode cL_law 1257 = .ok (.iconst 1, 1) := by decide +kernel
theorem dL_law_1258 : decode cL_law 1258 = .ok (.iadd, 1) := by decide +kernel
theorem dL_law_1259 : decode cL_law 1259 = .ok (.iaload, 1) := by decide +kernel
theorem dL_law_1260 : decode cL_law 1260 = .ok (.invokevirtual 132, 3) := by decide +kernel
theorem dL_law_1263 : decode cL_law 1263 = .ok (.aload_n 2, 1) := by decide +kernel
theorem dL_law_1264 : decode cL_law 1264 = .ok (.aload_n 0, 1) := by decide +kernel
theorem dL_law_1265 : decode cL_law 1265 = .ok (.iload_n 3, 1) := by decide +kernel
theorem dL_law_1266 : decode cL_law 1266 = .ok (.iconst 1, 1) := by decide +kernel
theorem dL_law_1267 : decode cL_law 1267 = .ok (.iadd, 1) := by decide +kernel
theorem dL_law_1268 : decode cL_law 1268 = .ok (.iaload, 1) := by decide +kernel
theorem dL_law_1269 : decode cL_law 1269 = .ok (.invokevirtual 135, 3) := by decide +kernel
theorem dL_law_1272 : decode cL_law 1272 = .ok (.if_icmp .eq 5, 3) := by decide +kernel
theorem dL_law_1275 : decode cL_law 1275 = .ok (.iconst 0, 1) := by decide +kernel
theorem dL_law_1276 : decode cL_law 1276 = .ok (.ireturn, 1) := by decide +kernel
theorem dL_law_1277 : decode cL_law 1277 = .ok (.iinc 3 7, 3) := by decide +kernel
theorem dL_law_1280 : decode cL_law 1280 = .ok (.goto (-1262), 3) := by decide +kernel
theorem dL_law_1283 : decode cL_law 1283 = .ok (.iconst 1, 1) := by decide +kernel
theorem dL_law_1284 : decode cL_law 1284 = .ok (.ireturn, 1) := by decide +kernel
