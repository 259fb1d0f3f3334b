theorem dX8_stepClosed_89 : decode cX8_stepClosed 89 = .ok (.iconst 1, 1) := by decide +kernel
theorem dX8_stepClosed_90 : decode cX8_stepClosed 90 = .ok (.isub, 1) := by decide +kernel
theorem dX8_stepClosed_91 : decode cX8_stepClosed 91 = .ok (.putfield 94, 3) := by decide +kernel
theorem dX8_stepClosed_94 : decode cX8_stepClosed 94 = .ok (.aload_n 0, 1) := by decide +kernel
theorem dX8_stepClosed_95 : decode cX8_stepClosed 95 = .ok (.bipush 7, 2) := by decide +kernel
theorem dX8_stepClosed_97 : decode cX8_stepClosed 97 = .ok (.putfield 45, 3) := by decide +kernel
theorem dX8_stepClosed_100 : decode cX8_stepClosed 100 = .ok (.goto 47, 3) := by decide +kernel
theorem dX8_stepClosed_103 : decode cX8_stepClosed 103 = .ok (.aload_n 0, 1) := by decide +kernel
theorem dX8_stepClosed_104 : decode cX8_stepClosed 104 = .ok (.getfield 81, 3) := by decide +kernel
theorem dX8_stepClosed_107 : decode cX8_stepClosed 107 = .ok (.bipush 15, 2) := by decide +kernel
theorem dX8_stepClosed_109 : decode cX8_stepClosed 109 = .ok (.if_icmp .ne 33, 3) := by decide +kernel
theorem dX8_stepClosed_112 : decode cX8_stepClosed 112 = .ok (.aload_n 0, 1) := by decide +kernel
theorem dX8_stepClosed_113 : decode cX8_stepClosed 113 = .ok (.getfield 97, 3) := by decide +kernel
theorem dX8_stepClosed_116 : decode cX8_stepClosed 116 = .ok (.ifCond .ne 26, 3) := by decide +kernel
theorem dX8_stepClosed_119 : decode cX8_stepClosed 119 = .ok (.aload_n 0, 1) := by decide +kernel
theorem dX8_stepClosed_120 : decode cX8_stepClosed 120 = .ok (.iconst 5, 1) := by decide +kernel
theorem dX8_stepClosed_121 : decode cX8_stepClosed 121 = .ok (.invokestatic 122, 3) := by decide +kernel
theorem dX8_stepClosed_124 : decode cX8_stepClosed 124 = .ok (.invokevirtual 126, 3) := by decide +kernel
theorem dX8_stepClosed_127 : decode cX8_stepClosed 127 = .ok (.aload_n 0, 1) := by decide +kernel
theorem dX8_stepClosed_128 : decode cX8_stepClosed 128 = .ok (.getfield 18, 3) := by decide +kernel
theorem dX8_stepClosed_131 : decode cX8_stepClosed 131 = .ok (.invokevirtual 100, 3) := by decide +kernel
theorem dX8_stepClosed_134 : decode cX8_stepClosed 134 = .ok (.aload_n 0, 1) := by decide +kernel
theorem dX8_stepClosed_135 : decode cX8_stepClosed 135 = .ok (.iconst 0, 1) := by decide +kernel
theorem dX8_stepClosed_136 : decode cX8_stepClosed 136 = .ok (.putfield 45, 3) := by decide +kernel
theorem dX8_stepClosed_139 : decode cX8_stepClosed 139 = .ok (.goto 8, 3) := by decide +kernel
theorem dX8_stepClosed_142 : decode cX8_stepClosed 142 = .ok (.aload_n 0, 1) := by decide +kernel
theorem dX8_stepClosed_143 : decode cX8_stepClosed 143 = .ok (.iconst 1, 1) := by decide +kernel
theorem dX8_stepClosed_144 : decode cX8_stepClosed 144 = .ok (.invokevirtual 84, 3) := by decide +kernel
theorem dX8_stepClosed_147 : decode cX8_stepClosed 147 = .ok (.return_, 1) := by decide +kernel
theorem dX8_join_0 : decode cX8_join 0 = .ok (.aload_n 0, 1) := by decide +kernel
theorem dX8_join_1 : decode cX8_join 1 = .ok (.aload_n 0, 1) := by decide +kernel
theorem dX8_join_2 : decode cX8_join 2 = .ok (.getfield 81, 3) := by decide +kernel
theorem dX8_join_5 : decode cX8_join 5 = .ok (.invokestatic 122, 3) := by decide +kernel
theorem dX8_join_8 : decode cX8_join 8 = .ok (.invokevirtual 126, 3) := by decide +kernel
theorem dX8_join_11 : decode cX8_join 11 = .ok (.aload_n 0, 1) := by decide +kernel
theorem dX8_join_12 : decode cX8_join 12 = .ok (.aload_n 0, 1) := by decide +kernel
theorem dX8_join_13 : decode cX8_join 13 = .ok (.getfield 81, 3) := by decide +kernel
theorem dX8_join_16 : decode cX8_join 16 = .ok (.invokevirtual 107, 3) := by decide +kernel
theorem dX8_join_19 : decode cX8_join 19 = .ok (.return_, 1) := by decide +kernel
theorem dX8_hold_0 : decode cX8_hold 0 = .ok (.aload_n 0, 1) := by decide +kernel
theorem dX8_hold_1 : decode cX8_hold 1 = .ok (.getfield 91, 3) := by decide +kernel
theorem dX8_hold_4 : decode cX8_hold 4 = .ok (.bipush 64, 2) := by decide +kernel
theorem dX8_hold_6 : decode cX8_hold 6 = .ok (.if_icmp .ge 23, 3) := by decide +kernel
theorem dX8_hold_9 : decode cX8_hold 9 = .ok (.aload_n 0, 1) := by decide +kernel
theorem dX8_hold_10 : decode cX8_hold 10 = .ok (.getfield 22, 3) := by decide +kernel
theorem dX8_hold_13 : decode cX8_hold 13 = .ok (.aload_n 0, 1) := by decide +kernel
theorem dX8_hold_14 : decode cX8_hold 14 = .ok (.getfield 91, 3) := by decide +kernel
theorem dX8_hold_17 : decode cX8_hold 17 = .ok (.iload_n 1, 1) := by decide +kernel
theorem dX8_hold_18 : decode cX8_hold 18 = .ok (.iastore, 1) := by decide +kernel
theorem dX8_hold_19 : decode cX8_hold 19 = .ok (.aload_n 0, 1) := by decide +kernel
theorem dX8_hold_20 : decode cX8_hold 20 = .ok (.dup, 1) := by decide +kernel
theorem dX8_hold_21 : decode cX8_hold 21 = .ok (.getfield 91, 3) := by decide +kernel
theorem dX8_hold_24 : decode cX8_hold 24 = .ok (.iconst 1, 1) := by decide +kernel
theorem dX8_hold_25 : decode cX8_hold 25 = .ok (.iadd, 1) := by decide +kernel
theorem dX8_hold_26 : decode cX8_hold 26 = .ok (.putfield 91, 3) := by decide +kernel
theorem dX8_hold_29 : decode cX8_hold 29 = .ok (.return_, 1) := by decide +kernel
theorem dX8_release_0 : decode cX8_release 0 = .ok (.aload_n 0, 1) := by decide +kernel
theorem dX8_release_1 : decode cX8_release 1 = .ok (.getfield 91, 3) := by decide +kernel
theorem dX8_release_4 : decode cX8_release 4 = .ok (.ifCond .le 79, 3) := by decide +kernel
theorem dX8_release_7 : decode cX8_release 7 = .ok (.aload_n 0, 1) := by decide +kernel
theorem dX8_release_8 : decode cX8_release 8 = .ok (.getfield 22, 3) := by decide +kernel
theorem dX8_release_11 : decode cX8_release 11 = .ok (.aload_n 0, 1) := by decide +kernel
theorem dX8_release_12 : decode cX8_release 12 = .ok (.getfield 91, 3) := by decide +kernel
theorem dX8_release_15 : decode cX8_release 15 = .ok (.iconst 1, 1) := by decide +kernel
theorem dX8_release_16 : decode cX8_release 16 = .ok (.isub, 1) := by decide +kernel
theorem dX8_release_17 : decode cX8_release 17 = .ok (.iaload, 1) := by decide +kernel
theorem dX8_release_18 : decode cX8_release 18 = .ok (.invokestatic 122, 3) := by decide +kernel
theorem dX8_release_21 : decode cX8_release 21 = .ok (.iload_n 1, 1) := by decide +kernel
theorem dX8_release_22 : decode cX8_release 22 = .ok (.if_icmp .lt 61, 3) := by decide +kernel
theorem dX8_release_25 : decode cX8_release 25 = .ok (.aload_n 0, 1) := by decide +kernel
theorem dX8_release_26 : decode cX8_release 26 = .ok (.dup, 1) := by decide +kernel
theorem dX8_release_27 : decode cX8_release 27 = .ok (.getfield 91, 3) := by decide +kernel
theorem dX8_release_30 : decode cX8_release 30 = .ok (.iconst 1, 1) := by decide +kernel
theorem dX8_release_31 : decode cX8_release 31 = .ok (.isub, 1) := by decide +kernel
theorem dX8_release_32 : decode cX8_release 32 = .ok (.putfield 91, 3) := by decide +kernel
theorem dX8_release_35 : decode cX8_release 35 = .ok (.aload_n 0, 1) := by decide +kernel
theorem dX8_release_36 : decode cX8_release 36 = .ok (.dup, 1) := by decide +kernel
theorem dX8_release_37 : decode cX8_release 37 = .ok (.getfield 94, 3) := by decide +kernel
theorem dX8_release_40 : decode cX8_release 40 = .ok (.aload_n 0, 1) := by decide +kernel
theorem dX8_release_41 : decode cX8_release 41 = .ok (.getfield 22, 3) := by decide +kernel
theorem dX8_release_44 : decode cX8_release 44 = .ok (.aload_n 0, 1) := by decide +kernel
theorem dX8_release_45 : decode cX8_release 45 = .ok (.getfield 91, 3) := by decide +kernel
theorem dX8_release_48 : decode cX8_release 48 = .ok (.iaload, 1) := by decide +kernel
theorem dX8_release_49 : decode cX8_release 49 = .ok (.bipush 7, 2) := by decide +kernel
theorem dX8_release_51 : decode cX8_release 51 = .ok (.if_icmp .ne 7, 3) := by decide +kernel
theorem dX8_release_54 : decode cX8_release 54 = .ok (.iconst 1, 1) := by decide +kernel
theorem dX8_release_55 : decode cX8_release 55 = .ok (.goto 4, 3) := by decide +kernel
theorem dX8_release_58 : decode cX8_release 58 = .ok (.iconst 0, 1) := by decide +kernel
theorem dX8_release_59 : decode cX8_release 59 = .ok (.isub, 1) := by decide +kernel
theorem dX8_release_60 : decode cX8_release 60 = .ok (.putfield 94, 3) := by decide +kernel
theorem dX8_release_63 : decode cX8_release 63 = .ok (.aload_n 0, 1) := by decide +kernel
theorem dX8_release_64 : decode cX8_release 64 = .ok (.getfield 18, 3) := by decide +kernel
theorem dX8_release_67 : decode cX8_release 67 = .ok (.aload_n 0, 1) := by decide +kernel
theorem dX8_release_68 : decode cX8_release 68 = .ok (.getfield 22, 3) := by decide +kernel
theorem dX8_release_71 : decode cX8_release 71 = .ok (.aload_n 0, 1) := by decide +kernel
theorem dX8_release_72 : decode cX8_release 72 = .ok (.getfield 91, 3) := by decide +kernel
theorem dX8_release_75 : decode cX8_release 75 = .ok (.iaload, 1) := by decide +kernel
theorem dX8_release_76 : decode cX8_release 76 = .ok (.ineg, 1) := by decide +kernel
theorem dX8_release_77 : decode cX8_release 77 = .ok (.invokevirtual 113, 3) := by decide +kernel
theorem dX8_release_80 : decode cX8_release 80 = .ok (.goto (-80), 3) := by decide +kernel
theorem dX8_release_83 : decode cX8_release 83 = .ok (.return_, 1) := by decide +kernel
theorem dX8_rank_0 : decode cX8_rank 0 = .ok (.iload_n 0, 1) := by decide +kernel
theorem dX8_rank_1 : decode cX8_rank 1 = .ok (.tableswitch 108 5 24 #[95, 97, 99, 108, 108, 108, 108, 108, 108, 108, 108, 103, 103, 105, 105, 108, 108, 101, 101, 101], 95) := by decide +kernel
theorem dX8_rank_96 : decode cX8_rank 96 = .ok (.iconst 1, 1) := by decide +kernel
theorem dX8_rank_97 : decode cX8_rank 97 = .ok (.ireturn, 1) := by decide +kernel
theorem dX8_rank_98 : decode cX8_rank 98 = .ok (.iconst 2, 1) := by decide +kernel
theorem dX8_rank_99 : decode cX8_rank 99 = .ok (.ireturn, 1) := by decide +kernel
theorem dX8_rank_100 : decode cX8_rank 100 = .ok (.iconst 3, 1) := by decide +kernel
theorem dX8_rank_101 : decode cX8_rank 101 = .ok (.ireturn, 1) := by decide +kernel
theorem dX8_rank_102 : decode cX8_rank 102 = .ok (.iconst 4, 1) := by decide +kernel
theorem dX8_rank_103 : decode cX8_rank 103 = .ok (.ireturn, 1) := by decide +kernel
theorem dX8_rank_104 : decode cX8_rank 104 = .ok (.iconst 5, 1) := by decide +kernel
theorem dX8_rank_105 : decode cX8_rank 105 = .ok (.ireturn, 1) := by decide +kernel
theorem dX8_rank_106 : decode cX8_rank 106 = .ok (.bipush 6, 2) := by decide +kernel
theorem dX8_rank_108 : decode cX8_rank 108 = .ok (.ireturn, 1) := by decide +kernel
theorem dX8_rank_109 : decode cX8_rank 109 = .ok (.iconst 0, 1) := by decide +kernel
theorem dX8_rank_110 : decode cX8_rank 110 = .ok (.ireturn, 1) := by decide +kernel
theorem dX8_nextToken_0 : decode cX8_nextToken 0 = .ok (.aload_n 0, 1) := by decide +kernel
theorem dX8_nextToken_1 : decode cX8_nextToken 1 = .ok (.getfield 42, 3) := by decide +kernel
theorem dX8_nextToken_4 : decode cX8_nextToken 4 = .ok (.aload_n 0, 1) := by decide +kernel
theorem dX8_nextToken_5 : decode cX8_nextToken 5 = .ok (.getfield 29, 3) := by decide +kernel
theorem dX8_nextToken_8 : decode cX8_nextToken 8 = .ok (.if_icmp .ge 44, 3) := by decide +kernel
theorem dX8_nextToken_11 : decode cX8_nextToken 11 = .ok (.aload_n 0, 1) := by decide +kernel
theorem dX8_nextToken_12 : decode cX8_nextToken 12 = .ok (.getfield 9, 3) := by decide +kernel
theorem dX8_nextToken_15 : decode cX8_nextToken 15 = .ok (.aload_n 0, 1) := by decide +kernel
theorem dX8_nextToken_16 : decode cX8_nextToken 16 = .ok (.getfield 42, 3) := by decide +kernel
theorem dX8_nextToken_19 : decode cX8_nextToken 19 = .ok (.iaload, 1) := by decide +kernel
theorem dX8_nextToken_20 : decode cX8_nextToken 20 = .ok (.bipush 32, 2) := by decide +kernel
theorem dX8_nextToken_22 : decode cX8_nextToken 22 = .ok (.if_icmp .eq 17, 3) := by decide +kernel
theorem dX8_nextToken_25 : decode cX8_nextToken 25 = .ok (.aload_n 0, 1) := by decide +kernel
theorem dX8_nextToken_26 : decode cX8_nextToken 26 = .ok (.getfield 9, 3) := by decide +kernel
theorem dX8_nextToken_29 : decode cX8_nextToken 29 = .ok (.aload_n 0, 1) := by decide +kernel
theorem dX8_nextToken_30 : decode cX8_nextToken 30 = .ok (.getfield 42, 3) := by decide +kernel
theorem dX8_nextToken_33 : decode cX8_nextToken 33 = .ok (.iaload, 1) := by decide +kernel
theorem dX8_nextToken_34 : decode cX8_nextToken 34 = .ok (.bipush 10, 2) := by decide +kernel
theorem dX8_nextToken_36 : decode cX8_nextToken 36 = .ok (.if_icmp .ne 16, 3) := by decide +kernel
theorem dX8_nextToken_39 : decode cX8_nextToken 39 = .ok (.aload_n 0, 1) := by decide +kernel
theorem dX8_nextToken_40 : decode cX8_nextToken 40 = .ok (.dup, 1) := by decide +kernel
theorem dX8_nextToken_41 : decode cX8_nextToken 41 = .ok (.getfield 42, 3) := by decide +kernel
theorem dX8_nextToken_44 : decode cX8_nextToken 44 = .ok (.iconst 1, 1) := by decide +kernel
theorem dX8_nextToken_45 : decode cX8_nextToken 45 = .ok (.iadd, 1) := by decide +kernel
theorem dX8_nextToken_46 : decode cX8_nextToken 46 = .ok (.putfield 42, 3) := by decide +kernel
theorem dX8_nextToken_49 : decode cX8_nextToken 49 = .ok (.goto (-49), 3) := by decide +kernel
theorem dX8_nextToken_52 : decode cX8_nextToken 52 = .ok (.aload_n 0, 1) := by decide +kernel
theorem dX8_nextToken_53 : decode cX8_nextToken 53 = .ok (.aload_n 0, 1) := by decide +kernel
theorem dX8_nextToken_54 : decode cX8_nextToken 54 = .ok (.getfield 42, 3) := by decide +kernel
theorem dX8_nextToken_57 : decode cX8_nextToken 57 = .ok (.putfield 54, 3) := by decide +kernel
theorem dX8_nextToken_60 : decode cX8_nextToken 60 = .ok (.aload_n 0, 1) := by decide +kernel
theorem dX8_nextToken_61 : decode cX8_nextToken 61 = .ok (.getfield 42, 3) := by decide +kernel
theorem dX8_nextToken_64 : decode cX8_nextToken 64 = .ok (.aload_n 0, 1) := by decide +kernel
theorem dX8_nextToken_65 : decode cX8_nextToken 65 = .ok (.getfield 29, 3) := by decide +kernel
theorem dX8_nextToken_68 : decode cX8_nextToken 68 = .ok (.if_icmp .lt 11, 3) := by decide +kernel
theorem dX8_nextToken_71 : decode cX8_nextToken 71 = .ok (.aload_n 0, 1) := by decide +kernel
theorem dX8_nextToken_72 : decode cX8_nextToken 72 = .ok (.iconst 0, 1) := by decide +kernel
theorem dX8_nextToken_73 : decode cX8_nextToken 73 = .ok (.putfield 81, 3) := by decide +kernel
theorem dX8_nextToken_76 : decode cX8_nextToken 76 = .ok (.goto 203, 3) := by decide +kernel
theorem dX8_nextToken_79 : decode cX8_nextToken 79 = .ok (.aload_n 0, 1) := by decide +kernel
theorem dX8_nextToken_80 : decode cX8_nextToken 80 = .ok (.getfield 9, 3) := by decide +kernel
theorem dX8_nextToken_83 : decode cX8_nextToken 83 = .ok (.aload_n 0, 1) := by decide +kernel
theorem dX8_nextToken_84 : decode cX8_nextToken 84 = .ok (.getfield 42, 3) := by decide +kernel
theorem dX8_nextToken_87 : decode cX8_nextToken 87 = .ok (.iaload, 1) := by decide +kernel
theorem dX8_nextToken_88 : decode cX8_nextToken 88 = .ok (.invokestatic 129, 3) := by decide +kernel
theorem dX8_nextToken_91 : decode cX8_nextToken 91 = .ok (.ifCond .eq 53, 3) := by decide +kernel
theorem dX8_nextToken_94 : decode cX8_nextToken 94 = .ok (.aload_n 0, 1) := by decide +kernel
theorem dX8_nextToken_95 : decode cX8_nextToken 95 = .ok (.getfield 42, 3) := by decide +kernel
theorem dX8_nextToken_98 : decode cX8_nextToken 98 = .ok (.aload_n 0, 1) := by decide +kernel
theorem dX8_nextToken_99 : decode cX8_nextToken 99 = .ok (.getfield 29, 3) := by decide +kernel
theorem dX8_nextToken_102 : decode cX8_nextToken 102 = .ok (.if_icmp .ge 31, 3) := by decide +kernel
theorem dX8_nextToken_105 : decode cX8_nextToken 105 = .ok (.aload_n 0, 1) := by decide +kernel
theorem dX8_nextToken_106 : decode cX8_nextToken 106 = .ok (.getfield 9, 3) := by decide +kernel
theorem dX8_nextToken_109 : decode cX8_nextToken 109 = .ok (.aload_n 0, 1) := by decide +kernel
theorem dX8_nextToken_110 : decode cX8_nextToken 110 = .ok (.getfield 42, 3) := by decide +kernel
theorem dX8_nextToken_113 : decode cX8_nextToken 113 = .ok (.iaload, 1) := by decide +kernel
theorem dX8_nextToken_114 : decode cX8_nextToken 114 = .ok (.invokestatic 129, 3) := by decide +kernel
theorem dX8_nextToken_117 : decode cX8_nextToken 117 = .ok (.ifCond .eq 16, 3) := by decide +kernel
theorem dX8_nextToken_120 : decode cX8_nextToken 120 = .ok (.aload_n 0, 1) := by decide +kernel
theorem dX8_nextToken_121 : decode cX8_nextToken 121 = .ok (.dup, 1) := by decide +kernel
theorem dX8_nextToken_122 : decode cX8_nextToken 122 = .ok (.getfield 42, 3) := by decide +kernel
theorem dX8_nextToken_125 : decode cX8_nextToken 125 = .ok (.iconst 1, 1) := by decide +kernel
theorem dX8_nextToken_126 : decode cX8_nextToken 126 = .ok (.iadd, 1) := by decide +kernel
theorem dX8_nextToken_127 : decode cX8_nextToken 127 = .ok (.putfield 42, 3) := by decide +kernel
theorem dX8_nextToken_130 : decode cX8_nextToken 130 = .ok (.goto (-36), 3) := by decide +kernel
theorem dX8_nextToken_133 : decode cX8_nextToken 133 = .ok (.aload_n 0, 1) := by decide +kernel
theorem dX8_nextToken_134 : decode cX8_nextToken 134 = .ok (.aload_n 0, 1) := by decide +kernel
theorem dX8_nextToken_135 : decode cX8_nextToken 135 = .ok (.invokevirtual 133, 3) := by decide +kernel
theorem dX8_nextToken_138 : decode cX8_nextToken 138 = .ok (.putfield 81, 3) := by decide +kernel
theorem dX8_nextToken_141 : decode cX8_nextToken 141 = .ok (.goto 138, 3) := by decide +kernel
theorem dX8_nextToken_144 : decode cX8_nextToken 144 = .ok (.aload_n 0, 1) := by decide +kernel
theorem dX8_nextToken_145 : decode cX8_nextToken 145 = .ok (.getfield 9, 3) := by decide +kernel
theorem dX8_nextToken_148 : decode cX8_nextToken 148 = .ok (.aload_n 0, 1) := by decide +kernel
theorem dX8_nextToken_149 : decode cX8_nextToken 149 = .ok (.getfield 42, 3) := by decide +kernel
theorem dX8_nextToken_152 : decode cX8_nextToken 152 = .ok (.iaload, 1) := by decide +kernel
theorem dX8_nextToken_153 : decode cX8_nextToken 153 = .ok (.invokestatic 137, 3) := by decide +kernel
theorem dX8_nextToken_156 : decode cX8_nextToken 156 = .ok (.ifCond .eq 97, 3) := by decide +kernel
theorem dX8_nextToken_159 : decode cX8_nextToken 159 = .ok (.aload_n 0, 1) := by decide +kernel
theorem dX8_nextToken_160 : decode cX8_nextToken 160 = .ok (.iconst 0, 1) := by decide +kernel
theorem dX8_nextToken_161 : decode cX8_nextToken 161 = .ok (.putfield 110, 3) := by decide +kernel
theorem dX8_nextToken_164 : decode cX8_nextToken 164 = .ok (.aload_n 0, 1) := by decide +kernel
theorem dX8_nextToken_165 : decode cX8_nextToken 165 = .ok (.getfield 42, 3) := by decide +kernel
theorem dX8_nextToken_168 : decode cX8_nextToken 168 = .ok (.aload_n 0, 1) := by decide +kernel
theorem dX8_nextToken_169 : decode cX8_nextToken 169 = .ok (.getfield 29, 3) := by decide +kernel
theorem dX8_nextToken_172 : decode cX8_nextToken 172 = .ok (.if_icmp .ge 55, 3) := by decide +kernel
theorem dX8_nextToken_175 : decode cX8_nextToken 175 = .ok (.aload_n 0, 1) := by decide +kernel
theorem dX8_nextToken_176 : decode cX8_nextToken 176 = .ok (.getfield 9, 3) := by decide +kernel
theorem dX8_nextToken_179 : decode cX8_nextToken 179 = .ok (.aload_n 0, 1) := by decide +kernel
theorem dX8_nextToken_180 : decode cX8_nextToken 180 = .ok (.getfield 42, 3) := by decide +kernel
theorem dX8_nextToken_183 : decode cX8_nextToken 183 = .ok (.iaload, 1) := by decide +kernel
theorem dX8_nextToken_184 : decode cX8_nextToken 184 = .ok (.invokestatic 137, 3) := by decide +kernel
theorem dX8_nextToken_187 : decode cX8_nextToken 187 = .ok (.ifCond .eq 40, 3) := by decide +kernel
theorem dX8_nextToken_190 : decode cX8_nextToken 190 = .ok (.aload_n 0, 1) := by decide +kernel
theorem dX8_nextToken_191 : decode cX8_nextToken 191 = .ok (.aload_n 0, 1) := by decide +kernel
theorem dX8_nextToken_192 : decode cX8_nextToken 192 = .ok (.getfield 110, 3) := by decide +kernel
theorem dX8_nextToken_195 : decode cX8_nextToken 195 = .ok (.bipush 10, 2) := by decide +kernel
theorem dX8_nextToken_197 : decode cX8_nextToken 197 = .ok (.imul, 1) := by decide +kernel
theorem dX8_nextToken_198 : decode cX8_nextToken 198 = .ok (.aload_n 0, 1) := by decide +kernel
theorem dX8_nextToken_199 : decode cX8_nextToken 199 = .ok (.getfield 9, 3) := by decide +kernel
theorem dX8_nextToken_202 : decode cX8_nextToken 202 = .ok (.aload_n 0, 1) := by decide +kernel
theorem dX8_nextToken_203 : decode cX8_nextToken 203 = .ok (.getfield 42, 3) := by decide +kernel
theorem dX8_nextToken_206 : decode cX8_nextToken 206 = .ok (.iaload, 1) := by decide +kernel
theorem dX8_nextToken_207 : decode cX8_nextToken 207 = .ok (.iadd, 1) := by decide +kernel
theorem dX8_nextToken_208 : decode cX8_nextToken 208 = .ok (.bipush 48, 2) := by decide +kernel
theorem dX8_nextToken_210 : decode cX8_nextToken 210 = .ok (.isub, 1) := by decide +kernel
theorem dX8_nextToken_211 : decode cX8_nextToken 211 = .ok (.putfield 110, 3) := by decide +kernel
theorem dX8_nextToken_214 : decode cX8_nextToken 214 = .ok (.aload_n 0, 1) := by decide +kernel
theorem dX8_nextToken_215 : decode cX8_nextToken 215 = .ok (.dup, 1) := by decide +kernel
theorem dX8_nextToken_216 : decode cX8_nextToken 216 = .ok (.getfield 42, 3) := by decide +kernel
theorem dX8_nextToken_219 : decode cX8_nextToken 219 = .ok (.iconst 1, 1) := by decide +kernel
theorem dX8_nextToken_220 : decode cX8_nextToken 220 = .ok (.iadd, 1) := by decide +kernel
theorem dX8_nextToken_221 : decode cX8_nextToken 221 = .ok (.putfield 42, 3) := by decide +kernel
theorem dX8_nextToken_224 : decode cX8_nextToken 224 = .ok (.goto (-60), 3) := by decide +kernel
theorem dX8_nextToken_227 : decode cX8_nextToken 227 = .ok (.aload_n 0, 1) := by decide +kernel
theorem dX8_nextToken_228 : decode cX8_nextToken 228 = .ok (.aload_n 0, 1) := by decide +kernel
theorem dX8_nextToken_229 : decode cX8_nextToken 229 = .ok (.getfield 42, 3) := by decide +kernel
theorem dX8_nextToken_232 : decode cX8_nextToken 232 = .ok (.aload_n 0, 1) := by decide +kernel
theorem dX8_nextToken_233 : decode cX8_nextToken 233 = .ok (.getfield 54, 3) := by decide +kernel
theorem dX8_nextToken_236 : decode cX8_nextToken 236 = .ok (.isub, 1) := by decide +kernel
theorem dX8_nextToken_237 : decode cX8_nextToken 237 = .ok (.iconst 4, 1) := by decide +kernel
theorem dX8_nextToken_238 : decode cX8_nextToken 238 = .ok (.if_icmp .gt 7, 3) := by decide +kernel
theorem dX8_nextToken_241 : decode cX8_nextToken 241 = .ok (.iconst 1, 1) := by decide +kernel
theorem dX8_nextToken_242 : decode cX8_nextToken 242 = .ok (.goto 5, 3) := by decide +kernel
theorem dX8_nextToken_245 : decode cX8_nextToken 245 = .ok (.bipush 25, 2) := by decide +kernel
theorem dX8_nextToken_247 : decode cX8_nextToken 247 = .ok (.putfield 81, 3) := by decide +kernel
theorem dX8_nextToken_250 : decode cX8_nextToken 250 = .ok (.goto 29, 3) := by decide +kernel
theorem dX8_nextToken_253 : decode cX8_nextToken 253 = .ok (.aload_n 0, 1) := by decide +kernel
theorem dX8_nextToken_254 : decode cX8_nextToken 254 = .ok (.aload_n 0, 1) := by decide +kernel
theorem dX8_nextToken_255 : decode cX8_nextToken 255 = .ok (.getfield 9, 3) := by decide +kernel
theorem dX8_nextToken_258 : decode cX8_nextToken 258 = .ok (.aload_n 0, 1) := by decide +kernel
theorem dX8_nextToken_259 : decode cX8_nextToken 259 = .ok (.getfield 42, 3) := by decide +kernel
theorem dX8_nextToken_262 : decode cX8_nextToken 262 = .ok (.iaload, 1) := by decide +kernel
theorem dX8_nextToken_263 : decode cX8_nextToken 263 = .ok (.invokestatic 140, 3) := by decide +kernel
theorem dX8_nextToken_266 : decode cX8_nextToken 266 = .ok (.putfield 81, 3) := by decide +kernel
theorem dX8_nextToken_269 : decode cX8_nextToken 269 = .ok (.aload_n 0, 1) := by decide +kernel
theorem dX8_nextToken_270 : decode cX8_nextToken 270 = .ok (.dup, 1) := by decide +kernel
theorem dX8_nextToken_271 : decode cX8_nextToken 271 = .ok (.getfield 42, 3) := by decide +kernel
theorem dX8_nextToken_274 : decode cX8_nextToken 274 = .ok (.iconst 1, 1) := by decide +kernel
theorem dX8_nextToken_275 : decode cX8_nextToken 275 = .ok (.iadd, 1) := by decide +kernel
theorem dX8_nextToken_276 : decode cX8_nextToken 276 = .ok (.putfield 42, 3) := by decide +kernel
theorem dX8_nextToken_279 : decode cX8_nextToken 279 = .ok (.return_, 1) := by decide +kernel
theorem dX8_isLetter_0 : decode cX8_isLetter 0 = .ok (.iload_n 0, 1) := by decide +kernel
theorem dX8_isLetter_1 : decode cX8_isLetter 1 = .ok (.bipush 97, 2) := by decide +kernel
theorem dX8_isLetter_3 : decode cX8_isLetter 3 = .ok (.if_icmp .lt 9, 3) := by decide +kernel
theorem dX8_isLetter_6 : decode cX8_isLetter 6 = .ok (.iload_n 0, 1) := by decide +kernel
theorem dX8_isLetter_7 : decode cX8_isLetter 7 = .ok (.bipush 122, 2) := by decide +kernel
theorem dX8_isLetter_9 : decode cX8_isLetter 9 = .ok (.if_icmp .le 15, 3) := by decide +kernel
theorem dX8_isLetter_12 : decode cX8_isLetter 12 = .ok (.iload_n 0, 1) := by decide +kernel
theorem dX8_isLetter_13 : decode cX8_isLetter 13 = .ok (.bipush 65, 2) := by decide +kernel
theorem dX8_isLetter_15 : decode cX8_isLetter 15 = .ok (.if_icmp .lt 13, 3) := by decide +kernel
theorem dX8_isLetter_18 : decode cX8_isLetter 18 = .ok (.iload_n 0, 1) := by decide +kernel
theorem dX8_isLetter_19 : decode cX8_isLetter 19 = .ok (.bipush 90, 2) := by decide +kernel
theorem dX8_isLetter_21 : decode cX8_isLetter 21 = .ok (.if_icmp .gt 7, 3) := by decide +kernel
theorem dX8_isLetter_24 : decode cX8_isLetter 24 = .ok (.iconst 1, 1) := by decide +kernel
theorem dX8_isLetter_25 : decode cX8_isLetter 25 = .ok (.goto 4, 3) := by decide +kernel
theorem dX8_isLetter_28 : decode cX8_isLetter 28 = .ok (.iconst 0, 1) := by decide +kernel
theorem dX8_isLetter_29 : decode cX8_isLetter 29 = .ok (.ireturn, 1) := by decide +kernel
theorem dX8_isDigit_0 : decode cX8_isDigit 0 = .ok (.iload_n 0, 1) := by decide +kernel
theorem dX8_isDigit_1 : decode cX8_isDigit 1 = .ok (.bipush 48, 2) := by decide +kernel
theorem dX8_isDigit_3 : decode cX8_isDigit 3 = .ok (.if_icmp .lt 13, 3) := by decide +kernel
theorem dX8_isDigit_6 : decode cX8_isDigit 6 = .ok (.iload_n 0, 1) := by decide +kernel
theorem dX8_isDigit_7 : decode cX8_isDigit 7 = .ok (.bipush 57, 2) := by decide +kernel
theorem dX8_isDigit_9 : decode cX8_isDigit 9 = .ok (.if_icmp .gt 7, 3) := by decide +kernel
theorem dX8_isDigit_12 : decode cX8_isDigit 12 = .ok (.iconst 1, 1) := by decide +kernel
theorem dX8_isDigit_13 : decode cX8_isDigit 13 = .ok (.goto 4, 3) := by decide +kernel
theorem dX8_isDigit_16 : decode cX8_isDigit 16 = .ok (.iconst 0, 1) := by decide +kernel
theorem dX8_isDigit_17 : decode cX8_isDigit 17 = .ok (.ireturn, 1) := by decide +kernel
theorem dX8_sign_0 : decode cX8_sign 0 = .ok (.iload_n 0, 1) := by decide +kernel
theorem dX8_sign_1 : decode cX8_sign 1 = .ok (.tableswitch 137 40 62 #[122, 125, 116, 110, 137, 113, 137, 119, 137, 137, 137, 137, 137, 137, 137, 137, 137, 137, 137, 107, 128, 131, 134], 107) := by decide +kernel
theorem dX8_sign_108 : decode cX8_sign 108 = .ok (.bipush 15, 2) := by decide +kernel
theorem dX8_sign_110 : decode cX8_sign 110 = .ok (.ireturn, 1) := by decide +kernel
theorem dX8_sign_111 : decode cX8_sign 111 = .ok (.bipush 16, 2) := by decide +kernel
theorem dX8_sign_113 : decode cX8_sign 113 = .ok (.ireturn, 1) := by decide +kernel
theorem dX8_sign_114 : decode cX8_sign 114 = .ok (.bipush 17, 2) := by decide +kernel
theorem dX8_sign_116 : decode cX8_sign 116 = .ok (.ireturn, 1) := by decide +kernel
theorem dX8_sign_117 : decode cX8_sign 117 = .ok (.bipush 18, 2) := by decide +kernel
theorem dX8_sign_119 : decode cX8_sign 119 = .ok (.ireturn, 1) := by decide +kernel
theorem dX8_sign_120 : decode cX8_sign 120 = .ok (.bipush 19, 2) := by decide +kernel
theorem dX8_sign_122 : decode cX8_sign 122 = .ok (.ireturn, 1) := by decide +kernel
theorem dX8_sign_123 : decode cX8_sign 123 = .ok (.bipush 20, 2) := by decide +kernel
theorem dX8_sign_125 : decode cX8_sign 125 = .ok (.ireturn, 1) := by decide +kernel
theorem dX8_sign_126 : decode cX8_sign 126 = .ok (.bipush 21, 2) := by decide +kernel
theorem dX8_sign_128 : decode cX8_sign 128 = .ok (.ireturn, 1) := by decide +kernel
theorem dX8_sign_129 : decode cX8_sign 129 = .ok (.bipush 22, 2) := by decide +kernel
theorem dX8_sign_131 : decode cX8_sign 131 = .ok (.ireturn, 1) := by decide +kernel
theorem dX8_sign_132 : decode cX8_sign 132 = .ok (.bipush 23, 2) := by decide +kernel
theorem dX8_sign_134 : decode cX8_sign 134 = .ok (.ireturn, 1) := by decide +kernel
theorem dX8_sign_135 : decode cX8_sign 135 = .ok (.bipush 24, 2) := by decide +kernel
theorem dX8_sign_137 : decode cX8_sign 137 = .ok (.ireturn, 1) := by decide +kernel
theorem dX8_sign_138 : decode cX8_sign 138 = .ok (.bipush 25, 2) := by decide +kernel
theorem dX8_sign_140 : decode cX8_sign 140 = .ok (.ireturn, 1) := by decide +kernel
theorem dX8_keyword_0 : decode cX8_keyword 0 = .ok (.iconst 2, 1) := by decide +kernel
theorem dX8_keyword_1 : decode cX8_keyword 1 = .ok (.istore_n 1, 1) := by decide +kernel
theorem dX8_keyword_2 : decode cX8_keyword 2 = .ok (.iload_n 1, 1) := by decide +kernel
theorem dX8_keyword_3 : decode cX8_keyword 3 = .ok (.bipush 14, 2) := by decide +kernel
theorem dX8_keyword_5 : decode cX8_keyword 5 = .ok (.if_icmp .gt 22, 3) := by decide +kernel
theorem dX8_keyword_8 : decode cX8_keyword 8 = .ok (.aload_n 0, 1) := by decide +kernel
theorem dX8_keyword_9 : decode cX8_keyword 9 = .ok (.iload_n 1, 1) := by decide +kernel
theorem dX8_keyword_10 : decode cX8_keyword 10 = .ok (.invokestatic 143, 3) := by decide +kernel
theorem dX8_keyword_13 : decode cX8_keyword 13 = .ok (.invokevirtual 147, 3) := by decide +kernel
theorem dX8_keyword_16 : decode cX8_keyword 16 = .ok (.ifCond .eq 5, 3) := by decide +kernel
theorem dX8_keyword_19 : decode cX8_keyword 19 = .ok (.iload_n 1, 1) := by decide +kernel
theorem dX8_keyword_20 : decode cX8_keyword 20 = .ok (.ireturn, 1) := by decide +kernel
theorem dX8_keyword_21 : decode cX8_keyword 21 = .ok (.iinc 1 1, 3) := by decide +kernel
theorem dX8_keyword_24 : decode cX8_keyword 24 = .ok (.goto (-22), 3) := by decide +kernel
theorem dX8_keyword_27 : decode cX8_keyword 27 = .ok (.bipush 25, 2) := by decide +kernel
theorem dX8_keyword_29 : decode cX8_keyword 29 = .ok (.ireturn, 1) := by decide +kernel
theorem dX8_isSpelt_0 : decode cX8_isSpelt 0 = .ok (.aload_n 1, 1) := by decide +kernel
theorem dX8_isSpelt_1 : decode cX8_isSpelt 1 = .ok (.invokevirtual 151, 3) := by decide +kernel
theorem dX8_isSpelt_4 : decode cX8_isSpelt 4 = .ok (.aload_n 0, 1) := by decide +kernel
theorem dX8_isSpelt_5 : decode cX8_isSpelt 5 = .ok (.getfield 42, 3) := by decide +kernel
theorem dX8_isSpelt_8 : decode cX8_isSpelt 8 = .ok (.aload_n 0, 1) := by decide +kernel
theorem dX8_isSpelt_9 : decode cX8_isSpelt 9 = .ok (.getfield 54, 3) := by decide +kernel
theorem dX8_isSpelt_12 : decode cX8_isSpelt 12 = .ok (.isub, 1) := by decide +kernel
theorem dX8_isSpelt_13 : decode cX8_isSpelt 13 = .ok (.if_icmp .eq 5, 3) := by decide +kernel
theorem dX8_isSpelt_16 : decode cX8_isSpelt 16 = .ok (.iconst 0, 1) := by decide +kernel
theorem dX8_isSpelt_17 : decode cX8_isSpelt 17 = .ok (.ireturn, 1) := by decide +kernel
theorem dX8_isSpelt_18 : decode cX8_isSpelt 18 = .ok (.iconst 0, 1) := by decide +kernel
theorem dX8_isSpelt_19 : decode cX8_isSpelt 19 = .ok (.istore_n 2, 1) := by decide +kernel
theorem dX8_isSpelt_20 : decode cX8_isSpelt 20 = .ok (.iload_n 2, 1) := by decide +kernel
theorem dX8_isSpelt_21 : decode cX8_isSpelt 21 = .ok (.aload_n 1, 1) := by decide +kernel
theorem dX8_isSpelt_22 : decode cX8_isSpelt 22 = .ok (.invokevirtual 151, 3) := by decide +kernel
theorem dX8_isSpelt_25 : decode cX8_isSpelt 25 = .ok (.if_icmp .ge 30, 3) := by decide +kernel
theorem dX8_isSpelt_28 : decode cX8_isSpelt 28 = .ok (.aload_n 0, 1) := by decide +kernel
theorem dX8_isSpelt_29 : decode cX8_isSpelt 29 = .ok (.getfield 9, 3) := by decide +kernel
theorem dX8_isSpelt_32 : decode cX8_isSpelt 32 = .ok (.aload_n 0, 1) := by decide +kernel
theorem dX8_isSpelt_33 : decode cX8_isSpelt 33 = .ok (.getfield 54, 3) := by decide +kernel
theorem dX8_isSpelt_36 : decode cX8_isSpelt 36 = .ok (.iload_n 2, 1) := by decide +kernel
theorem dX8_isSpelt_37 : decode cX8_isSpelt 37 = .ok (.iadd, 1) := by decide +kernel
theorem dX8_isSpelt_38 : decode cX8_isSpelt 38 = .ok (.iaload, 1) := by decide +kernel
theorem dX8_isSpelt_39 : decode cX8_isSpelt 39 = .ok (.aload_n 1, 1) := by decide +kernel
theorem dX8_isSpelt_40 : decode cX8_isSpelt 40 = .ok (.iload_n 2, 1) := by decide +kernel
theorem dX8_isSpelt_41 : decode cX8_isSpelt 41 = .ok (.invokevirtual 155, 3) := by decide +kernel
theorem dX8_isSpelt_44 : decode cX8_isSpelt 44 = .ok (.if_icmp .eq 5, 3) := by decide +kernel
theorem dX8_isSpelt_47 : decode cX8_isSpelt 47 = .ok (.iconst 0, 1) := by decide +kernel
theorem dX8_isSpelt_48 : decode cX8_isSpelt 48 = .ok (.ireturn, 1) := by decide +kernel
theorem dX8_isSpelt_49 : decode cX8_isSpelt 49 = .ok (.iinc 2 1, 3) := by decide +kernel
theorem dX8_isSpelt_52 : decode cX8_isSpelt 52 = .ok (.goto (-32), 3) := by decide +kernel
theorem dX8_isSpelt_55 : decode cX8_isSpelt 55 = .ok (.iconst 1, 1) := by decide +kernel
theorem dX8_isSpelt_56 : decode cX8_isSpelt 56 = .ok (.ireturn, 1) := by decide +kernel
theorem dX8_spelling_0 : decode cX8_spelling 0 = .ok (.iload_n 0, 1) := by decide +kernel
theorem dX8_spelling_1 : decode cX8_spelling 1 = .ok (.tableswitch 106 2 14 #[67, 70, 73, 76, 79, 82, 85, 88, 91, 94, 97, 100, 103], 67) := by decide +kernel
theorem dX8_spelling_68 : decode cX8_spelling 68 = .ok (.ldc 159, 2) := by decide +kernel
theorem dX8_spelling_70 : decode cX8_spelling 70 = .ok (.areturn, 1) := by decide +kernel
theorem dX8_spelling_71 : decode cX8_spelling 71 = .ok (.ldc 161, 2) := by decide +kernel
theorem dX8_spelling_73 : decode cX8_spelling 73 = .ok (.areturn, 1) := by decide +kernel
theorem dX8_spelling_74 : decode cX8_spelling 74 = .ok (.ldc 163, 2) := by decide +kernel
theorem dX8_spelling_76 : decode cX8_spelling 76 = .ok (.areturn, 1) := by decide +kernel
theorem dX8_spelling_77 : decode cX8_spelling 77 = .ok (.ldc 165, 2) := by decide +kernel
theorem dX8_spelling_79 : decode cX8_spelling 79 = .ok (.areturn, 1) := by decide +kernel
theorem dX8_spelling_80 : decode cX8_spelling 80 = .ok (.ldc 167, 2) := by decide +kernel
theorem dX8_spelling_82 : decode cX8_spelling 82 = .ok (.areturn, 1) := by decide +kernel
theorem dX8_spelling_83 : decode cX8_spelling 83 = .ok (.ldc 169, 2) := by decide +kernel
theorem dX8_spelling_85 : decode cX8_spelling 85 = .ok (.areturn, 1) := by decide +kernel
theorem dX8_spelling_86 : decode cX8_spelling 86 = .ok (.ldc 171, 2) := by decide +kernel
theorem dX8_spelling_88 : decode cX8_spelling 88 = .ok (.areturn, 1) := by decide +kernel
theorem dX8_spelling_89 : decode cX8_spelling 89 = .ok (.ldc 173, 2) := by decide +kernel
theorem dX8_spelling_91 : decode cX8_spelling 91 = .ok (.areturn, 1) := by decide +kernel
theorem dX8_spelling_92 : decode cX8_spelling 92 = .ok (.ldc 175, 2) := by decide +kernel
theorem dX8_spelling_94 : decode cX8_spelling 94 = .ok (.areturn, 1) := by decide +kernel
theorem dX8_spelling_95 : decode cX8_spelling 95 = .ok (.ldc 177, 2) := by decide +kernel
theorem dX8_spelling_97 : decode cX8_spelling 97 = .ok (.areturn, 1) := by decide +kernel
theorem dX8_spelling_98 : decode cX8_spelling 98 = .ok (.ldc 179, 2) := by decide +kernel
theorem dX8_spelling_100 : decode cX8_spelling 100 = .ok (.areturn, 1) := by decide +kernel
theorem dX8_spelling_101 : decode cX8_spelling 101 = .ok (.ldc 181, 2) := by decide +kernel
theorem dX8_spelling_103 : decode cX8_spelling 103 = .ok (.areturn, 1) := by decide +kernel
theorem dX8_spelling_104 : decode cX8_spelling 104 = .ok (.ldc 183, 2) := by decide +kernel
theorem dX8_spelling_106 : decode cX8_spelling 106 = .ok (.areturn, 1) := by decide +kernel
theorem dX8_spelling_107 : decode cX8_spelling 107 = .ok (.ldc 185, 2) := by decide +kernel
theorem dX8_spelling_109 : decode cX8_spelling 109 = .ok (.areturn, 1) := by decide +kernel
theorem dX9_init_0 : decode cX9_init 0 = .ok (.aload_n 0, 1) := by decide +kernel
theorem dX9_init_1 : decode cX9_init 1 = .ok (.invokespecial 3, 3) := by decide +kernel
theorem dX9_init_4 : decode cX9_init 4 = .ok (.aload_n 0, 1) := by decide +kernel
theorem dX9_init_5 : decode cX9_init 5 = .ok (.bipush 30, 2) := by decide +kernel
theorem dX9_init_7 : decode cX9_init 7 = .ok (.newarray .int, 2) := by decide +kernel
theorem dX9_init_9 : decode cX9_init 9 = .ok (.putfield 9, 3) := by decide +kernel
theorem dX9_init_12 : decode cX9_init 12 = .ok (.aload_n 0, 1) := by decide +kernel
theorem dX9_init_13 : decode cX9_init 13 = .ok (.bipush 30, 2) := by decide +kernel
theorem dX9_init_15 : decode cX9_init 15 = .ok (.newarray .int, 2) := by decide +kernel
theorem dX9_init_17 : decode cX9_init 17 = .ok (.putfield 15, 3) := by decide +kernel
theorem dX9_init_20 : decode cX9_init 20 = .ok (.aload_n 0, 1) := by decide +kernel
theorem dX9_init_21 : decode cX9_init 21 = .ok (.bipush 30, 2) := by decide +kernel
theorem dX9_init_23 : decode cX9_init 23 = .ok (.newarray .int, 2) := by decide +kernel
theorem dX9_init_25 : decode cX9_init 25 = .ok (.putfield 18, 3) := by decide +kernel
theorem dX9_init_28 : decode cX9_init 28 = .ok (.aload_n 0, 1) := by decide +kernel
theorem dX9_init_29 : decode cX9_init 29 = .ok (.bipush 30, 2) := by decide +kernel
theorem dX9_init_31 : decode cX9_init 31 = .ok (.newarray .int, 2) := by decide +kernel
theorem dX9_init_33 : decode cX9_init 33 = .ok (.putfield 21, 3) := by decide +kernel
theorem dX9_init_36 : decode cX9_init 36 = .ok (.aload_n 0, 1) := by decide +kernel
theorem dX9_init_37 : decode cX9_init 37 = .ok (.bipush 120, 2) := by decide +kernel
theorem dX9_init_39 : decode cX9_init 39 = .ok (.newarray .int, 2) := by decide +kernel
theorem dX9_init_41 : decode cX9_init 41 = .ok (.putfield 24, 3) := by decide +kernel
theorem dX9_init_44 : decode cX9_init 44 = .ok (.aload_n 0, 1) := by decide +kernel
theorem dX9_init_45 : decode cX9_init 45 = .ok (.iconst 4, 1) := by decide +kernel
theorem dX9_init_46 : decode cX9_init 46 = .ok (.newarray .int, 2) := by decide +kernel
theorem dX9_init_48 : decode cX9_init 48 = .ok (.putfield 27, 3) := by decide +kernel
theorem dX9_init_51 : decode cX9_init 51 = .ok (.aload_n 0, 1) := by decide +kernel
theorem dX9_init_52 : decode cX9_init 52 = .ok (.bipush 20, 2) := by decide +kernel
theorem dX9_init_54 : decode cX9_init 54 = .ok (.newarray .int, 2) := by decide +kernel
theorem dX9_init_56 : decode cX9_init 56 = .ok (.putfield 30, 3) := by decide +kernel
theorem dX9_init_59 : decode cX9_init 59 = .ok (.aload_n 0, 1) := by decide +kernel
theorem dX9_init_60 : decode cX9_init 60 = .ok (.bipush 20, 2) := by decide +kernel
theorem dX9_init_62 : decode cX9_init 62 = .ok (.newarray .int, 2) := by decide +kernel
theorem dX9_init_64 : decode cX9_init 64 = .ok (.putfield 33, 3) := by decide +kernel
theorem dX9_init_67 : decode cX9_init 67 = .ok (.aload_n 0, 1) := by decide +kernel
theorem dX9_init_68 : decode cX9_init 68 = .ok (.bipush 20, 2) := by decide +kernel
theorem dX9_init_70 : decode cX9_init 70 = .ok (.newarray .int, 2) := by decide +kernel
theorem dX9_init_72 : decode cX9_init 72 = .ok (.putfield 36, 3) := by decide +kernel
theorem dX9_init_75 : decode cX9_init 75 = .ok (.aload_n 0, 1) := by decide +kernel
theorem dX9_init_76 : decode cX9_init 76 = .ok (.invokevirtual 39, 3) := by decide +kernel
theorem dX9_init_79 : decode cX9_init 79 = .ok (.return_, 1) := by decide +kernel
theorem dX9_clear_0 : decode cX9_clear 0 = .ok (.aload_n 0, 1) := by decide +kernel
theorem dX9_clear_1 : decode cX9_clear 1 = .ok (.getfield 9, 3) := by decide +kernel
theorem dX9_clear_4 : decode cX9_clear 4 = .ok (.iconst (-1), 1) := by decide +kernel
theorem dX9_clear_5 : decode cX9_clear 5 = .ok (.invokestatic 42, 3) := by decide +kernel
theorem dX9_clear_8 : decode cX9_clear 8 = .ok (.aload_n 0, 1) := by decide +kernel
theorem dX9_clear_9 : decode cX9_clear 9 = .ok (.getfield 15, 3) := by decide +kernel
theorem dX9_clear_12 : decode cX9_clear 12 = .ok (.iconst (-1), 1) := by decide +kernel
theorem dX9_clear_13 : decode cX9_clear 13 = .ok (.invokestatic 42, 3) := by decide +kernel
theorem dX9_clear_16 : decode cX9_clear 16 = .ok (.aload_n 0, 1) := by decide +kernel
theorem dX9_clear_17 : decode cX9_clear 17 = .ok (.getfield 18, 3) := by decide +kernel
theorem dX9_clear_20 : decode cX9_clear 20 = .ok (.iconst 0, 1) := by decide +kernel
theorem dX9_clear_21 : decode cX9_clear 21 = .ok (.invokestatic 42, 3) := by decide +kernel
theorem dX9_clear_24 : decode cX9_clear 24 = .ok (.aload_n 0, 1) := by decide +kernel
theorem dX9_clear_25 : decode cX9_clear 25 = .ok (.getfield 21, 3) := by decide +kernel
theorem dX9_clear_28 : decode cX9_clear 28 = .ok (.iconst 0, 1) := by decide +kernel
theorem dX9_clear_29 : decode cX9_clear 29 = .ok (.invokestatic 42, 3) := by decide +kernel
theorem dX9_clear_32 : decode cX9_clear 32 = .ok (.aload_n 0, 1) := by decide +kernel
theorem dX9_clear_33 : decode cX9_clear 33 = .ok (.getfield 27, 3) := by decide +kernel
theorem dX9_clear_36 : decode cX9_clear 36 = .ok (.iconst 0, 1) := by decide +kernel
theorem dX9_clear_37 : decode cX9_clear 37 = .ok (.invokestatic 42, 3) := by decide +kernel
theorem dX9_clear_40 : decode cX9_clear 40 = .ok (.aload_n 0, 1) := by decide +kernel
theorem dX9_clear_41 : decode cX9_clear 41 = .ok (.getfield 30, 3) := by decide +kernel
theorem dX9_clear_44 : decode cX9_clear 44 = .ok (.iconst (-1), 1) := by decide +kernel
theorem dX9_clear_45 : decode cX9_clear 45 = .ok (.invokestatic 42, 3) := by decide +kernel
theorem dX9_clear_48 : decode cX9_clear 48 = .ok (.aload_n 0, 1) := by decide +kernel
theorem dX9_clear_49 : decode cX9_clear 49 = .ok (.getfield 33, 3) := by decide +kernel
theorem dX9_clear_52 : decode cX9_clear 52 = .ok (.iconst 0, 1) := by decide +kernel
theorem dX9_clear_53 : decode cX9_clear 53 = .ok (.invokestatic 42, 3) := by decide +kernel
theorem dX9_clear_56 : decode cX9_clear 56 = .ok (.aload_n 0, 1) := by decide +kernel
theorem dX9_clear_57 : decode cX9_clear 57 = .ok (.getfield 36, 3) := by decide +kernel
theorem dX9_clear_60 : decode cX9_clear 60 = .ok (.iconst 0, 1) := by decide +kernel
theorem dX9_clear_61 : decode cX9_clear 61 = .ok (.invokestatic 42, 3) := by decide +kernel
theorem dX9_clear_64 : decode cX9_clear 64 = .ok (.aload_n 0, 1) := by decide +kernel
theorem dX9_clear_65 : decode cX9_clear 65 = .ok (.iconst 0, 1) := by decide +kernel
theorem dX9_clear_66 : decode cX9_clear 66 = .ok (.putfield 48, 3) := by decide +kernel
theorem dX9_clear_69 : decode cX9_clear 69 = .ok (.aload_n 0, 1) := by decide +kernel
theorem dX9_clear_70 : decode cX9_clear 70 = .ok (.iconst 0, 1) := by decide +kernel
theorem dX9_clear_71 : decode cX9_clear 71 = .ok (.putfield 52, 3) := by decide +kernel
theorem dX9_clear_74 : decode cX9_clear 74 = .ok (.return_, 1) := by decide +kernel
theorem dX9_isAt_0 : decode cX9_isAt 0 = .ok (.aload_n 0, 1) := by decide +kernel
theorem dX9_isAt_1 : decode cX9_isAt 1 = .ok (.getfield 9, 3) := by decide +kernel
theorem dX9_isAt_4 : decode cX9_isAt 4 = .ok (.iload_n 1, 1) := by decide +kernel
theorem dX9_isAt_5 : decode cX9_isAt 5 = .ok (.iaload, 1) := by decide +kernel
theorem dX9_isAt_6 : decode cX9_isAt 6 = .ok (.iload_n 2, 1) := by decide +kernel
theorem dX9_isAt_7 : decode cX9_isAt 7 = .ok (.if_icmp .ne 16, 3) := by decide +kernel
theorem dX9_isAt_10 : decode cX9_isAt 10 = .ok (.aload_n 0, 1) := by decide +kernel
theorem dX9_isAt_11 : decode cX9_isAt 11 = .ok (.getfield 21, 3) := by decide +kernel
theorem dX9_isAt_14 : decode cX9_isAt 14 = .ok (.iload_n 1, 1) := by decide +kernel
theorem dX9_isAt_15 : decode cX9_isAt 15 = .ok (.iaload, 1) := by decide +kernel
theorem dX9_isAt_16 : decode cX9_isAt 16 = .ok (.ifCond .ne 7, 3) := by decide +kernel
theorem dX9_isAt_19 : decode cX9_isAt 19 = .ok (.iconst 1, 1) := by decide +kernel
theorem dX9_isAt_20 : decode cX9_isAt 20 = .ok (.goto 4, 3) := by decide +kernel
theorem dX9_isAt_23 : decode cX9_isAt 23 = .ok (.iconst 0, 1) := by decide +kernel
theorem dX9_isAt_24 : decode cX9_isAt 24 = .ok (.ireturn, 1) := by decide +kernel
theorem dX9_append_0 : decode cX9_append 0 = .ok (.aload_n 0, 1) := by decide +kernel
theorem dX9_append_1 : decode cX9_append 1 = .ok (.getfield 27, 3) := by decide +kernel
theorem dX9_append_4 : decode cX9_append 4 = .ok (.iload_n 2, 1) := by decide +kernel
theorem dX9_append_5 : decode cX9_append 5 = .ok (.iaload, 1) := by decide +kernel
theorem dX9_append_6 : decode cX9_append 6 = .ok (.bipush 30, 2) := by decide +kernel
theorem dX9_append_8 : decode cX9_append 8 = .ok (.if_icmp .ge 30, 3) := by decide +kernel
theorem dX9_append_11 : decode cX9_append 11 = .ok (.aload_n 0, 1) := by decide +kernel
theorem dX9_append_12 : decode cX9_append 12 = .ok (.getfield 24, 3) := by decide +kernel
theorem dX9_append_15 : decode cX9_append 15 = .ok (.iload_n 2, 1) := by decide +kernel
theorem dX9_append_16 : decode cX9_append 16 = .ok (.bipush 30, 2) := by decide +kernel
theorem dX9_append_18 : decode cX9_append 18 = .ok (.imul, 1) := by decide +kernel
theorem dX9_append_19 : decode cX9_append 19 = .ok (.aload_n 0, 1) := by decide +kernel
theorem dX9_append_20 : decode cX9_append 20 = .ok (.getfield 27, 3) := by decide +kernel
theorem dX9_append_23 : decode cX9_append 23 = .ok (.iload_n 2, 1) := by decide +kernel
theorem dX9_append_24 : decode cX9_append 24 = .ok (.iaload, 1) := by decide +kernel
theorem dX9_append_25 : decode cX9_append 25 = .ok (.iadd, 1) := by decide +kernel
theorem dX9_append_26 : decode cX9_append 26 = .ok (.iload_n 1, 1) := by decide +kernel
theorem dX9_append_27 : decode cX9_append 27 = .ok (.iastore, 1) := by decide +kernel
theorem dX9_append_28 : decode cX9_append 28 = .ok (.aload_n 0, 1) := by decide +kernel
theorem dX9_append_29 : decode cX9_append 29 = .ok (.getfield 27, 3) := by decide +kernel
theorem dX9_append_32 : decode cX9_append 32 = .ok (.iload_n 2, 1) := by decide +kernel
theorem dX9_append_33 : decode cX9_append 33 = .ok (.dup2, 1) := by decide +kernel
theorem dX9_append_34 : decode cX9_append 34 = .ok (.iaload, 1) := by decide +kernel
theorem dX9_append_35 : decode cX9_append 35 = .ok (.iconst 1, 1) := by decide +kernel
theorem dX9_append_36 : decode cX9_append 36 = .ok (.iadd, 1) := by decide +kernel
theorem dX9_append_37 : decode cX9_append 37 = .ok (.iastore, 1) := by decide +kernel
theorem dX9_append_38 : decode cX9_append 38 = .ok (.aload_n 0, 1) := by decide +kernel
theorem dX9_append_39 : decode cX9_append 39 = .ok (.getfield 9, 3) := by decide +kernel
theorem dX9_append_42 : decode cX9_append 42 = .ok (.iload_n 1, 1) := by decide +kernel
theorem dX9_append_43 : decode cX9_append 43 = .ok (.iload_n 2, 1) := by decide +kernel
theorem dX9_append_44 : decode cX9_append 44 = .ok (.iastore, 1) := by decide +kernel
theorem dX9_append_45 : decode cX9_append 45 = .ok (.aload_n 0, 1) := by decide +kernel
theorem dX9_append_46 : decode cX9_append 46 = .ok (.getfield 15, 3) := by decide +kernel
theorem dX9_append_49 : decode cX9_append 49 = .ok (.iload_n 1, 1) := by decide +kernel
theorem dX9_append_50 : decode cX9_append 50 = .ok (.iload_n 3, 1) := by decide +kernel
theorem dX9_append_51 : decode cX9_append 51 = .ok (.iastore, 1) := by decide +kernel
theorem dX9_append_52 : decode cX9_append 52 = .ok (.return_, 1) := by decide +kernel
theorem dX9_drop_0 : decode cX9_drop 0 = .ok (.iload_n 3, 1) := by decide +kernel
theorem dX9_drop_1 : decode cX9_drop 1 = .ok (.bipush 30, 2) := by decide +kernel
theorem dX9_drop_3 : decode cX9_drop 3 = .ok (.imul, 1) := by decide +kernel
theorem dX9_drop_4 : decode cX9_drop 4 = .ok (.istore 4, 2) := by decide +kernel
theorem dX9_drop_6 : decode cX9_drop 6 = .ok (.iconst 0, 1) := by decide +kernel
theorem dX9_drop_7 : decode cX9_drop 7 = .ok (.istore 5, 2) := by decide +kernel
theorem dX9_drop_9 : decode cX9_drop 9 = .ok (.iconst 0, 1) := by decide +kernel
theorem dX9_drop_10 : decode cX9_drop 10 = .ok (.istore 6, 2) := by decide +kernel
theorem dX9_drop_12 : decode cX9_drop 12 = .ok (.iconst 0, 1) := by decide +kernel
theorem dX9_drop_13 : decode cX9_drop 13 = .ok (.istore 7, 2) := by decide +kernel
theorem dX9_drop_15 : decode cX9_drop 15 = .ok (.iload 7, 2) := by decide +kernel
theorem dX9_drop_17 : decode cX9_drop 17 = .ok (.aload_n 0, 1) := by decide +kernel
theorem dX9_drop_18 : decode cX9_drop 18 = .ok (.getfield 27, 3) := by decide +kernel
theorem dX9_drop_21 : decode cX9_drop 21 = .ok (.iload_n 3, 1) := by decide +kernel
theorem dX9_drop_22 : decode cX9_drop 22 = .ok (.iaload, 1) := by decide +kernel
theorem dX9_drop_23 : decode cX9_drop 23 = .ok (.if_icmp .ge 64, 3) := by decide +kernel
theorem dX9_drop_26 : decode cX9_drop 26 = .ok (.aload_n 0, 1) := by decide +kernel
theorem dX9_drop_27 : decode cX9_drop 27 = .ok (.getfield 24, 3) := by decide +kernel
theorem dX9_drop_30 : decode cX9_drop 30 = .ok (.iload 4, 2) := by decide +kernel
theorem dX9_drop_32 : decode cX9_drop 32 = .ok (.iload 7, 2) := by decide +kernel
theorem dX9_drop_34 : decode cX9_drop 34 = .ok (.iadd, 1) := by decide +kernel
theorem dX9_drop_35 : decode cX9_drop 35 = .ok (.iaload, 1) := by decide +kernel
theorem dX9_drop_36 : decode cX9_drop 36 = .ok (.istore 8, 2) := by decide +kernel
theorem dX9_drop_38 : decode cX9_drop 38 = .ok (.iload 6, 2) := by decide +kernel
theorem dX9_drop_40 : decode cX9_drop 40 = .ok (.iload_n 2, 1) := by decide +kernel
theorem dX9_drop_41 : decode cX9_drop 41 = .ok (.if_icmp .ge 25, 3) := by decide +kernel
theorem dX9_drop_44 : decode cX9_drop 44 = .ok (.iload 6, 2) := by decide +kernel
theorem dX9_drop_46 : decode cX9_drop 46 = .ok (.aload_n 1, 1) := by decide +kernel
theorem dX9_drop_47 : decode cX9_drop 47 = .ok (.arraylength, 1) := by decide +kernel
theorem dX9_drop_48 : decode cX9_drop 48 = .ok (.if_icmp .ge 18, 3) := by decide +kernel
theorem dX9_drop_51 : decode cX9_drop 51 = .ok (.iload 8, 2) := by decide +kernel
theorem dX9_drop_53 : decode cX9_drop 53 = .ok (.aload_n 1, 1) := by decide +kernel
theorem dX9_drop_54 : decode cX9_drop 54 = .ok (.iload 6, 2) := by decide +kernel
theorem dX9_drop_56 : decode cX9_drop 56 = .ok (.iaload, 1) := by decide +kernel
theorem dX9_drop_57 : decode cX9_drop 57 = .ok (.if_icmp .ne 9, 3) := by decide +kernel
theorem dX9_drop_60 : decode cX9_drop 60 = .ok (.iinc 6 1, 3) := by decide +kernel
theorem dX9_drop_63 : decode cX9_drop 63 = .ok (.goto 18, 3) := by decide +kernel
theorem dX9_drop_66 : decode cX9_drop 66 = .ok (.aload_n 0, 1) := by decide +kernel
theorem dX9_drop_67 : decode cX9_drop 67 = .ok (.getfield 24, 3) := by decide +kernel
theorem dX9_drop_70 : decode cX9_drop 70 = .ok (.iload 4, 2) := by decide +kernel
theorem dX9_drop_72 : decode cX9_drop 72 = .ok (.iload 5, 2) := by decide +kernel
theorem dX9_drop_74 : decode cX9_drop 74 = .ok (.iadd, 1) := by decide +kernel
theorem dX9_drop_75 : decode cX9_drop 75 = .ok (.iload 8, 2) := by decide +kernel
theorem dX9_drop_77 : decode cX9_drop 77 = .ok (.iastore, 1) := by decide +kernel
theorem dX9_drop_78 : decode cX9_drop 78 = .ok (.iinc 5 1, 3) := by decide +kernel
theorem dX9_drop_81 : decode cX9_drop 81 = .ok (.iinc 7 1, 3) := by decide +kernel
theorem dX9_drop_84 : decode cX9_drop 84 = .ok (.goto (-69), 3) := by decide +kernel
theorem dX9_drop_87 : decode cX9_drop 87 = .ok (.aload_n 0, 1) := by decide +kernel
theorem dX9_drop_88 : decode cX9_drop 88 = .ok (.getfield 27, 3) := by decide +kernel
theorem dX9_drop_91 : decode cX9_drop 91 = .ok (.iload_n 3, 1) := by decide +kernel
theorem dX9_drop_92 : decode cX9_drop 92 = .ok (.iload 5, 2) := by decide +kernel
theorem dX9_drop_94 : decode cX9_drop 94 = .ok (.iastore, 1) := by decide +kernel
theorem dX9_drop_95 : decode cX9_drop 95 = .ok (.return_, 1) := by decide +kernel
theorem dX9_weightAt_0 : decode cX9_weightAt 0 = .ok (.iconst 0, 1) := by decide +kernel
theorem dX9_weightAt_1 : decode cX9_weightAt 1 = .ok (.istore_n 3, 1) := by decide +kernel
theorem dX9_weightAt_2 : decode cX9_weightAt 2 = .ok (.iconst 0, 1) := by decide +kernel
theorem dX9_weightAt_3 : decode cX9_weightAt 3 = .ok (.istore 4, 2) := by decide +kernel
theorem dX9_weightAt_5 : decode cX9_weightAt 5 = .ok (.iload 4, 2) := by decide +kernel
theorem dX9_weightAt_7 : decode cX9_weightAt 7 = .ok (.aload_n 0, 1) := by decide +kernel
theorem dX9_weightAt_8 : decode cX9_weightAt 8 = .ok (.getfield 27, 3) := by decide +kernel
theorem dX9_weightAt_11 : decode cX9_weightAt 11 = .ok (.iload_n 1, 1) := by decide +kernel
theorem dX9_weightAt_12 : decode cX9_weightAt 12 = .ok (.iaload, 1) := by decide +kernel
theorem dX9_weightAt_13 : decode cX9_weightAt 13 = .ok (.if_icmp .ge 29, 3) := by decide +kernel
theorem dX9_weightAt_16 : decode cX9_weightAt 16 = .ok (.iload_n 3, 1) := by decide +kernel
theorem dX9_weightAt_17 : decode cX9_weightAt 17 = .ok (.aload_n 2, 1) := by decide +kernel
theorem dX9_weightAt_18 : decode cX9_weightAt 18 = .ok (.getfield 55, 3) := by decide +kernel
theorem dX9_weightAt_21 : decode cX9_weightAt 21 = .ok (.aload_n 0, 1) := by decide +kernel
theorem dX9_weightAt_22 : decode cX9_weightAt 22 = .ok (.getfield 24, 3) := by decide +kernel
theorem dX9_weightAt_25 : decode cX9_weightAt 25 = .ok (.iload_n 1, 1) := by decide +kernel
theorem dX9_weightAt_26 : decode cX9_weightAt 26 = .ok (.bipush 30, 2) := by decide +kernel
theorem dX9_weightAt_28 : decode cX9_weightAt 28 = .ok (.imul, 1) := by decide +kernel
theorem dX9_weightAt_29 : decode cX9_weightAt 29 = .ok (.iload 4, 2) := by decide +kernel
theorem dX9_weightAt_31 : decode cX9_weightAt 31 = .ok (.iadd, 1) := by decide +kernel
theorem dX9_weightAt_32 : decode cX9_weightAt 32 = .ok (.iaload, 1) := by decide +kernel
theorem dX9_weightAt_33 : decode cX9_weightAt 33 = .ok (.iaload, 1) := by decide +kernel
theorem dX9_weightAt_34 : decode cX9_weightAt 34 = .ok (.iadd, 1) := by decide +kernel
theorem dX9_weightAt_35 : decode cX9_weightAt 35 = .ok (.istore_n 3, 1) := by decide +kernel
theorem dX9_weightAt_36 : decode cX9_weightAt 36 = .ok (.iinc 4 1, 3) := by decide +kernel
theorem dX9_weightAt_39 : decode cX9_weightAt 39 = .ok (.goto (-34), 3) := by decide +kernel
theorem dX9_weightAt_42 : decode cX9_weightAt 42 = .ok (.iload_n 3, 1) := by decide +kernel
theorem dX9_weightAt_43 : decode cX9_weightAt 43 = .ok (.ireturn, 1) := by decide +kernel
theorem dX9_setAt_0 : decode cX9_setAt 0 = .ok (.iconst 0, 1) := by decide +kernel
theorem dX9_setAt_1 : decode cX9_setAt 1 = .ok (.istore_n 2, 1) := by decide +kernel
theorem dX9_setAt_2 : decode cX9_setAt 2 = .ok (.iconst 0, 1) := by decide +kernel
theorem dX9_setAt_3 : decode cX9_setAt 3 = .ok (.istore_n 3, 1) := by decide +kernel
theorem dX9_setAt_4 : decode cX9_setAt 4 = .ok (.iload_n 3, 1) := by decide +kernel
theorem dX9_setAt_5 : decode cX9_setAt 5 = .ok (.aload_n 0, 1) := by decide +kernel
theorem dX9_setAt_6 : decode cX9_setAt 6 = .ok (.getfield 27, 3) := by decide +kernel
theorem dX9_setAt_9 : decode cX9_setAt 9 = .ok (.iload_n 1, 1) := by decide +kernel
theorem dX9_setAt_10 : decode cX9_setAt 10 = .ok (.iaload, 1) := by decide +kernel
theorem dX9_setAt_11 : decode cX9_setAt 11 = .ok (.if_icmp .ge 25, 3) := by decide +kernel
theorem dX9_setAt_14 : decode cX9_setAt 14 = .ok (.iload_n 2, 1) := by decide +kernel
theorem dX9_setAt_15 : decode cX9_setAt 15 = .ok (.iconst 1, 1) := by decide +kernel
theorem dX9_setAt_16 : decode cX9_setAt 16 = .ok (.aload_n 0, 1) := by decide +kernel
theorem dX9_setAt_17 : decode cX9_setAt 17 = .ok (.getfield 24, 3) := by decide +kernel
theorem dX9_setAt_20 : decode cX9_setAt 20 = .ok (.iload_n 1, 1) := by decide +kernel
theorem dX9_setAt_21 : decode cX9_setAt 21 = .ok (.bipush 30, 2) := by decide +kernel
theorem dX9_setAt_23 : decode cX9_setAt 23 = .ok (.imul, 1) := by decide +kernel
theorem dX9_setAt_24 : decode cX9_setAt 24 = .ok (.iload_n 3, 1) := by decide +kernel
theorem dX9_setAt_25 : decode cX9_setAt 25 = .ok (.iadd, 1) := by decide +kernel
theorem dX9_setAt_26 : decode cX9_setAt 26 = .ok (.iaload, 1) := by decide +kernel
theorem dX9_setAt_27 : decode cX9_setAt 27 = .ok (.ishl, 1) := by decide +kernel
theorem dX9_setAt_28 : decode cX9_setAt 28 = .ok (.ior, 1) := by decide +kernel
theorem dX9_setAt_29 : decode cX9_setAt 29 = .ok (.istore_n 2, 1) := by decide +kernel
theorem dX9_setAt_30 : decode cX9_setAt 30 = .ok (.iinc 3 1, 3) := by decide +kernel
theorem dX9_setAt_33 : decode cX9_setAt 33 = .ok (.goto (-29), 3) := by decide +kernel
theorem dX9_setAt_36 : decode cX9_setAt 36 = .ok (.iload_n 2, 1) := by decide +kernel
theorem dX9_setAt_37 : decode cX9_setAt 37 = .ok (.ireturn, 1) := by decide +kernel
theorem dX9_bearersSince_0 : decode cX9_bearersSince 0 = .ok (.iconst 0, 1) := by decide +kernel
theorem dX9_bearersSince_1 : decode cX9_bearersSince 1 = .ok (.istore_n 3, 1) := by decide +kernel
theorem dX9_bearersSince_2 : decode cX9_bearersSince 2 = .ok (.iconst 0, 1) := by decide +kernel
theorem dX9_bearersSince_3 : decode cX9_bearersSince 3 = .ok (.istore 4, 2) := by decide +kernel
theorem dX9_bearersSince_5 : decode cX9_bearersSince 5 = .ok (.iload 4, 2) := by decide +kernel
theorem dX9_bearersSince_7 : decode cX9_bearersSince 7 = .ok (.iload_n 2, 1) := by decide +kernel
theorem dX9_bearersSince_8 : decode cX9_bearersSince 8 = .ok (.if_icmp .ge 40, 3) := by decide +kernel
theorem dX9_bearersSince_11 : decode cX9_bearersSince 11 = .ok (.iload 4, 2) := by decide +kernel
theorem dX9_bearersSince_13 : decode cX9_bearersSince 13 = .ok (.bipush 20, 2) := by decide +kernel
theorem dX9_bearersSince_15 : decode cX9_bearersSince 15 = .ok (.if_icmp .ge 33, 3) := by decide +kernel
theorem dX9_bearersSince_18 : decode cX9_bearersSince 18 = .ok (.aload_n 0, 1) := by decide +kernel
theorem dX9_bearersSince_19 : decode cX9_bearersSince 19 = .ok (.getfield 30, 3) := by decide +kernel
theorem dX9_bearersSince_22 : decode cX9_bearersSince 22 = .ok (.iload 4, 2) := by decide +kernel
theorem dX9_bearersSince_24 : decode cX9_bearersSince 24 = .ok (.iaload, 1) := by decide +kernel
theorem dX9_bearersSince_25 : decode cX9_bearersSince 25 = .ok (.iload_n 1, 1) := by decide +kernel
theorem dX9_bearersSince_26 : decode cX9_bearersSince 26 = .ok (.if_icmp .lt 16, 3) := by decide +kernel
theorem dX9_bearersSince_29 : decode cX9_bearersSince 29 = .ok (.aload_n 0, 1) := by decide +kernel
theorem dX9_bearersSince_30 : decode cX9_bearersSince 30 = .ok (.getfield 33, 3) := by decide +kernel
theorem dX9_bearersSince_33 : decode cX9_bearersSince 33 = .ok (.iload 4, 2) := by decide +kernel
theorem dX9_bearersSince_35 : decode cX9_bearersSince 35 = .ok (.iaload, 1) := by decide +kernel
theorem dX9_bearersSince_36 : decode cX9_bearersSince 36 = .ok (.ifCond .le 6, 3) := by decide +kernel
theorem dX9_bearersSince_39 : decode cX9_bearersSince 39 = .ok (.iinc 3 1, 3) := by decide +kernel
theorem dX9_bearersSince_42 : decode cX9_bearersSince 42 = .ok (.iinc 4 1, 3) := by decide +kernel
theorem dX9_bearersSince_45 : decode cX9_bearersSince 45 = .ok (.goto (-40), 3) := by decide +kernel
theorem dX9_bearersSince_48 : decode cX9_bearersSince 48 = .ok (.iload_n 3, 1) := by decide +kernel
theorem dX9_bearersSince_49 : decode cX9_bearersSince 49 = .ok (.ireturn, 1) := by decide +kernel
theorem dX9_copyFrom_0 : decode cX9_copyFrom 0 = .ok (.aload_n 1, 1) := by decide +kernel
theorem dX9_copyFrom_1 : decode cX9_copyFrom 1 = .ok (.getfield 9, 3) := by decide +kernel
theorem dX9_copyFrom_4 : decode cX9_copyFrom 4 = .ok (.iconst 0, 1) := by decide +kernel
theorem dX9_copyFrom_5 : decode cX9_copyFrom 5 = .ok (.aload_n 0, 1) := by decide +kernel
theorem dX9_copyFrom_6 : decode cX9_copyFrom 6 = .ok (.getfield 9, 3) := by decide +kernel
theorem dX9_copyFrom_9 : decode cX9_copyFrom 9 = .ok (.iconst 0, 1) := by decide +kernel
theorem dX9_copyFrom_10 : decode cX9_copyFrom 10 = .ok (.bipush 30, 2) := by decide +kernel
theorem dX9_copyFrom_12 : decode cX9_copyFrom 12 = .ok (.invokestatic 60, 3) := by decide +kernel
theorem dX9_copyFrom_15 : decode cX9_copyFrom 15 = .ok (.aload_n 1, 1) := by decide +kernel
theorem dX9_copyFrom_16 : decode cX9_copyFrom 16 = .ok (.getfield 15, 3) := by decide +kernel
theorem dX9_copyFrom_19 : decode cX9_copyFrom 19 = .ok (.iconst 0, 1) := by decide +kernel
theorem dX9_copyFrom_20 : decode cX9_copyFrom 20 = .ok (.aload_n 0, 1) := by decide +kernel
theorem dX9_copyFrom_21 : decode cX9_copyFrom 21 = .ok (.getfield 15, 3) := by decide +kernel
theorem dX9_copyFrom_24 : decode cX9_copyFrom 24 = .ok (.iconst 0, 1) := by decide +kernel
theorem dX9_copyFrom_25 : decode cX9_copyFrom 25 = .ok (.bipush 30, 2) := by decide +kernel
theorem dX9_copyFrom_27 : decode cX9_copyFrom 27 = .ok (.invokestatic 60, 3) := by decide +kernel
theorem dX9_copyFrom_30 : decode cX9_copyFrom 30 = .ok (.aload_n 1, 1) := by decide +kernel
theorem dX9_copyFrom_31 : decode cX9_copyFrom 31 = .ok (.getfield 18, 3) := by decide +kernel
theorem dX9_copyFrom_34 : decode cX9_copyFrom 34 = .ok (.iconst 0, 1) := by decide +kernel
theorem dX9_copyFrom_35 : decode cX9_copyFrom 35 = .ok (.aload_n 0, 1) := by decide +kernel
theorem dX9_copyFrom_36 : decode cX9_copyFrom 36 = .ok (.getfield 18, 3) := by decide +kernel
theorem dX9_copyFrom_39 : decode cX9_copyFrom 39 = .ok (.iconst 0, 1) := by decide +kernel
theorem dX9_copyFrom_40 : decode cX9_copyFrom 40 = .ok (.bipush 30, 2) := by decide +kernel
theorem dX9_copyFrom_42 : decode cX9_copyFrom 42 = .ok (.invokestatic 60, 3) := by decide +kernel
theorem dX9_copyFrom_45 : decode cX9_copyFrom 45 = .ok (.aload_n 1, 1) := by decide +kernel
theorem dX9_copyFrom_46 : decode cX9_copyFrom 46 = .ok (.getfield 21, 3) := by decide +kernel
theorem dX9_copyFrom_49 : decode cX9_copyFrom 49 = .ok (.iconst 0, 1) := by decide +kernel
theorem dX9_copyFrom_50 : decode cX9_copyFrom 50 = .ok (.aload_n 0, 1) := by decide +kernel
theorem dX9_copyFrom_51 : decode cX9_copyFrom 51 = .ok (.getfield 21, 3) := by decide +kernel
theorem dX9_copyFrom_54 : decode cX9_copyFrom 54 = .ok (.iconst 0, 1) := by decide +kernel
theorem dX9_copyFrom_55 : decode cX9_copyFrom 55 = .ok (.bipush 30, 2) := by decide +kernel
theorem dX9_copyFrom_57 : decode cX9_copyFrom 57 = .ok (.invokestatic 60, 3) := by decide +kernel
theorem dX9_copyFrom_60 : decode cX9_copyFrom 60 = .ok (.aload_n 1, 1) := by decide +kernel
theorem dX9_copyFrom_61 : decode cX9_copyFrom 61 = .ok (.getfield 24, 3) := by decide +kernel
theorem dX9_copyFrom_64 : decode cX9_copyFrom 64 = .ok (.iconst 0, 1) := by decide +kernel
theorem dX9_copyFrom_65 : decode cX9_copyFrom 65 = .ok (.aload_n 0, 1) := by decide +kernel
theorem dX9_copyFrom_66 : decode cX9_copyFrom 66 = .ok (.getfield 24, 3) := by decide +kernel
theorem dX9_copyFrom_69 : decode cX9_copyFrom 69 = .ok (.iconst 0, 1) := by decide +kernel
theorem dX9_copyFrom_70 : decode cX9_copyFrom 70 = .ok (.bipush 120, 2) := by decide +kernel
theorem dX9_copyFrom_72 : decode cX9_copyFrom 72 = .ok (.invokestatic 60, 3) := by decide +kernel
theorem dX9_copyFrom_75 : decode cX9_copyFrom 75 = .ok (.aload_n 1, 1) := by decide +kernel
theorem dX9_copyFrom_76 : decode cX9_copyFrom 76 = .ok (.getfield 27, 3) := by decide +kernel
theorem dX9_copyFrom_79 : decode cX9_copyFrom 79 = .ok (.iconst 0, 1) := by decide +kernel
theorem dX9_copyFrom_80 : decode cX9_copyFrom 80 = .ok (.aload_n 0, 1) := by decide +kernel
theorem dX9_copyFrom_81 : decode cX9_copyFrom 81 = .ok (.getfield 27, 3) := by decide +kernel
theorem dX9_copyFrom_84 : decode cX9_copyFrom 84 = .ok (.iconst 0, 1) := by decide +kernel
theorem dX9_copyFrom_85 : decode cX9_copyFrom 85 = .ok (.iconst 4, 1) := by decide +kernel
theorem dX9_copyFrom_86 : decode cX9_copyFrom 86 = .ok (.invokestatic 60, 3) := by decide +kernel
theorem dX9_copyFrom_89 : decode cX9_copyFrom 89 = .ok (.aload_n 1, 1) := by decide +kernel
theorem dX9_copyFrom_90 : decode cX9_copyFrom 90 = .ok (.getfield 30, 3) := by decide +kernel
theorem dX9_copyFrom_93 : decode cX9_copyFrom 93 = .ok (.iconst 0, 1) := by decide +kernel
theorem dX9_copyFrom_94 : decode cX9_copyFrom 94 = .ok (.aload_n 0, 1) := by decide +kernel
theorem dX9_copyFrom_95 : decode cX9_copyFrom 95 = .ok (.getfield 30, 3) := by decide +kernel
theorem dX9_copyFrom_98 : decode cX9_copyFrom 98 = .ok (.iconst 0, 1) := by decide +kernel
theorem dX9_copyFrom_99 : decode cX9_copyFrom 99 = .ok (.bipush 20, 2) := by decide +kernel
theorem dX9_copyFrom_101 : decode cX9_copyFrom 101 = .ok (.invokestatic 60, 3) := by decide +kernel
theorem dX9_copyFrom_104 : decode cX9_copyFrom 104 = .ok (.aload_n 1, 1) := by decide +kernel
theorem dX9_copyFrom_105 : decode cX9_copyFrom 105 = .ok (.getfield 33, 3) := by decide +kernel
theorem dX9_copyFrom_108 : decode cX9_copyFrom 108 = .ok (.iconst 0, 1) := by decide +kernel
theorem dX9_copyFrom_109 : decode cX9_copyFrom 109 = .ok (.aload_n 0, 1) := by decide +kernel
theorem dX9_copyFrom_110 : decode cX9_copyFrom 110 = .ok (.getfield 33, 3) := by decide +kernel
theorem dX9_copyFrom_113 : decode cX9_copyFrom 113 = .ok (.iconst 0, 1) := by decide +kernel
theorem dX9_copyFrom_114 : decode cX9_copyFrom 114 = .ok (.bipush 20, 2) := by decide +kernel
theorem dX9_copyFrom_116 : decode cX9_copyFrom 116 = .ok (.invokestatic 60, 3) := by decide +kernel
theorem dX9_copyFrom_119 : decode cX9_copyFrom 119 = .ok (.aload_n 1, 1) := by decide +kernel
theorem dX9_copyFrom_120 : decode cX9_copyFrom 120 = .ok (.getfield 36, 3) := by decide +kernel
theorem dX9_copyFrom_123 : decode cX9_copyFrom 123 = .ok (.iconst 0, 1) := by decide +kernel
theorem dX9_copyFrom_124 : decode cX9_copyFrom 124 = .ok (.aload_n 0, 1) := by decide +kernel
theorem dX9_copyFrom_125 : decode cX9_copyFrom 125 = .ok (.getfield 36, 3) := by decide +kernel
theorem dX9_copyFrom_128 : decode cX9_copyFrom 128 = .ok (.iconst 0, 1) := by decide +kernel
theorem dX9_copyFrom_129 : decode cX9_copyFrom 129 = .ok (.bipush 20, 2) := by decide +kernel
theorem dX9_copyFrom_131 : decode cX9_copyFrom 131 = .ok (.invokestatic 60, 3) := by decide +kernel
theorem dX9_copyFrom_134 : decode cX9_copyFrom 134 = .ok (.aload_n 0, 1) := by decide +kernel
theorem dX9_copyFrom_135 : decode cX9_copyFrom 135 = .ok (.aload_n 1, 1) := by decide +kernel
theorem dX9_copyFrom_136 : decode cX9_copyFrom 136 = .ok (.getfield 48, 3) := by decide +kernel
theorem dX9_copyFrom_139 : decode cX9_copyFrom 139 = .ok (.putfield 48, 3) := by decide +kernel
theorem dX9_copyFrom_142 : decode cX9_copyFrom 142 = .ok (.aload_n 0, 1) := by decide +kernel
theorem dX9_copyFrom_143 : decode cX9_copyFrom 143 = .ok (.aload_n 1, 1) := by decide +kernel
theorem dX9_copyFrom_144 : decode cX9_copyFrom 144 = .ok (.getfield 52, 3) := by decide +kernel
theorem dX9_copyFrom_147 : decode cX9_copyFrom 147 = .ok (.putfield 52, 3) := by decide +kernel
theorem dX9_copyFrom_150 : decode cX9_copyFrom 150 = .ok (.return_, 1) := by decide +kernel
theorem dX10_init_0 : decode cX10_init 0 = .ok (.aload_n 0, 1) := by decide +kernel
theorem dX10_init_1 : decode cX10_init 1 = .ok (.invokespecial 3, 3) := by decide +kernel
theorem dX10_init_4 : decode cX10_init 4 = .ok (.aload_n 0, 1) := by decide +kernel
theorem dX10_init_5 : decode cX10_init 5 = .ok (.new 9, 3) := by decide +kernel
theorem dX10_init_8 : decode cX10_init 8 = .ok (.dup, 1) := by decide +kernel
theorem dX10_init_9 : decode cX10_init 9 = .ok (.invokespecial 11, 3) := by decide +kernel
theorem dX10_init_12 : decode cX10_init 12 = .ok (.putfield 12, 3) := by decide +kernel
theorem dX10_init_15 : decode cX10_init 15 = .ok (.aload_n 0, 1) := by decide +kernel
theorem dX10_init_16 : decode cX10_init 16 = .ok (.new 18, 3) := by decide +kernel
theorem dX10_init_19 : decode cX10_init 19 = .ok (.dup, 1) := by decide +kernel
theorem dX10_init_20 : decode cX10_init 20 = .ok (.invokespecial 20, 3) := by decide +kernel
theorem dX10_init_23 : decode cX10_init 23 = .ok (.putfield 21, 3) := by decide +kernel
theorem dX10_init_26 : decode cX10_init 26 = .ok (.aload_n 0, 1) := by decide +kernel
theorem dX10_init_27 : decode cX10_init 27 = .ok (.new 25, 3) := by decide +kernel
theorem dX10_init_30 : decode cX10_init 30 = .ok (.dup, 1) := by decide +kernel
theorem dX10_init_31 : decode cX10_init 31 = .ok (.invokespecial 27, 3) := by decide +kernel
theorem dX10_init_34 : decode cX10_init 34 = .ok (.putfield 28, 3) := by decide +kernel
theorem dX10_init_37 : decode cX10_init 37 = .ok (.aload_n 0, 1) := by decide +kernel
theorem dX10_init_38 : decode cX10_init 38 = .ok (.new 32, 3) := by decide +kernel
theorem dX10_init_41 : decode cX10_init 41 = .ok (.dup, 1) := by decide +kernel
theorem dX10_init_42 : decode cX10_init 42 = .ok (.invokespecial 34, 3) := by decide +kernel
theorem dX10_init_45 : decode cX10_init 45 = .ok (.putfield 35, 3) := by decide +kernel
theorem dX10_init_48 : decode cX10_init 48 = .ok (.aload_n 0, 1) := by decide +kernel
theorem dX10_init_49 : decode cX10_init 49 = .ok (.new 39, 3) := by decide +kernel
theorem dX10_init_52 : decode cX10_init 52 = .ok (.dup, 1) := by decide +kernel
theorem dX10_init_53 : decode cX10_init 53 = .ok (.invokespecial 41, 3) := by decide +kernel
theorem dX10_init_56 : decode cX10_init 56 = .ok (.putfield 42, 3) := by decide +kernel
theorem dX10_init_59 : decode cX10_init 59 = .ok (.aload_n 0, 1) := by decide +kernel
theorem dX10_init_60 : decode cX10_init 60 = .ok (.iconst 1, 1) := by decide +kernel
theorem dX10_init_61 : decode cX10_init 61 = .ok (.putfield 46, 3) := by decide +kernel
theorem dX10_init_64 : decode cX10_init 64 = .ok (.aload_n 0, 1) := by decide +kernel
theorem dX10_init_65 : decode cX10_init 65 = .ok (.iconst (-1), 1) := by decide +kernel
theorem dX10_init_66 : decode cX10_init 66 = .ok (.putfield 50, 3) := by decide +kernel
theorem dX10_init_69 : decode cX10_init 69 = .ok (.return_, 1) := by decide +kernel
theorem dX10_hasEnd_0 : decode cX10_hasEnd 0 = .ok (.iload_n 1, 1) := by decide +kernel
theorem dX10_hasEnd_1 : decode cX10_hasEnd 1 = .ok (.ifCond .lt 15, 3) := by decide +kernel
theorem dX10_hasEnd_4 : decode cX10_hasEnd 4 = .ok (.iload_n 1, 1) := by decide +kernel
theorem dX10_hasEnd_5 : decode cX10_hasEnd 5 = .ok (.aload_n 0, 1) := by decide +kernel
theorem dX10_hasEnd_6 : decode cX10_hasEnd 6 = .ok (.getfield 46, 3) := by decide +kernel
theorem dX10_hasEnd_9 : decode cX10_hasEnd 9 = .ok (.if_icmp .gt 7, 3) := by decide +kernel
theorem dX10_hasEnd_12 : decode cX10_hasEnd 12 = .ok (.iconst 1, 1) := by decide +kernel
theorem dX10_hasEnd_13 : decode cX10_hasEnd 13 = .ok (.goto 4, 3) := by decide +kernel
theorem dX10_hasEnd_16 : decode cX10_hasEnd 16 = .ok (.iconst 0, 1) := by decide +kernel
theorem dX10_hasEnd_17 : decode cX10_hasEnd 17 = .ok (.ireturn, 1) := by decide +kernel
theorem dX10_clear_0 : decode cX10_clear 0 = .ok (.aload_n 0, 1) := by decide +kernel
theorem dX10_clear_1 : decode cX10_clear 1 = .ok (.iload_n 1, 1) := by decide +kernel
theorem dX10_clear_2 : decode cX10_clear 2 = .ok (.putfield 46, 3) := by decide +kernel
theorem dX10_clear_5 : decode cX10_clear 5 = .ok (.aload_n 0, 1) := by decide +kernel
theorem dX10_clear_6 : decode cX10_clear 6 = .ok (.iconst (-1), 1) := by decide +kernel
theorem dX10_clear_7 : decode cX10_clear 7 = .ok (.putfield 50, 3) := by decide +kernel
theorem dX10_clear_10 : decode cX10_clear 10 = .ok (.aload_n 0, 1) := by decide +kernel
theorem dX10_clear_11 : decode cX10_clear 11 = .ok (.iconst 0, 1) := by decide +kernel
theorem dX10_clear_12 : decode cX10_clear 12 = .ok (.putfield 53, 3) := by decide +kernel
theorem dX10_clear_15 : decode cX10_clear 15 = .ok (.aload_n 0, 1) := by decide +kernel
theorem dX10_clear_16 : decode cX10_clear 16 = .ok (.getfield 12, 3) := by decide +kernel
theorem dX10_clear_19 : decode cX10_clear 19 = .ok (.iconst 0, 1) := by decide +kernel
theorem dX10_clear_20 : decode cX10_clear 20 = .ok (.putfield 56, 3) := by decide +kernel
theorem dX10_clear_23 : decode cX10_clear 23 = .ok (.aload_n 0, 1) := by decide +kernel
theorem dX10_clear_24 : decode cX10_clear 24 = .ok (.getfield 21, 3) := by decide +kernel
theorem dX10_clear_27 : decode cX10_clear 27 = .ok (.iconst 0, 1) := by decide +kernel
theorem dX10_clear_28 : decode cX10_clear 28 = .ok (.putfield 59, 3) := by decide +kernel
theorem dX10_clear_31 : decode cX10_clear 31 = .ok (.aload_n 0, 1) := by decide +kernel
theorem dX10_clear_32 : decode cX10_clear 32 = .ok (.getfield 28, 3) := by decide +kernel
theorem dX10_clear_35 : decode cX10_clear 35 = .ok (.iconst 0, 1) := by decide +kernel
theorem dX10_clear_36 : decode cX10_clear 36 = .ok (.putfield 60, 3) := by decide +kernel
theorem dX10_clear_39 : decode cX10_clear 39 = .ok (.aload_n 0, 1) := by decide +kernel
theorem dX10_clear_40 : decode cX10_clear 40 = .ok (.getfield 35, 3) := by decide +kernel
theorem dX10_clear_43 : decode cX10_clear 43 = .ok (.iconst 0, 1) := by decide +kernel
theorem dX10_clear_44 : decode cX10_clear 44 = .ok (.putfield 61, 3) := by decide +kernel
theorem dX10_clear_47 : decode cX10_clear 47 = .ok (.aload_n 0, 1) := by decide +kernel
theorem dX10_clear_48 : decode cX10_clear 48 = .ok (.getfield 42, 3) := by decide +kernel
theorem dX10_clear_51 : decode cX10_clear 51 = .ok (.invokevirtual 62, 3) := by decide +kernel
theorem dX10_clear_54 : decode cX10_clear 54 = .ok (.return_, 1) := by decide +kernel
theorem dX10_copyFrom_0 : decode cX10_copyFrom 0 = .ok (.aload_n 0, 1) := by decide +kernel
theorem dX10_copyFrom_1 : decode cX10_copyFrom 1 = .ok (.aload_n 1, 1) := by decide +kernel
theorem dX10_copyFrom_2 : decode cX10_copyFrom 2 = .ok (.getfield 46, 3) := by decide +kernel
theorem dX10_copyFrom_5 : decode cX10_copyFrom 5 = .ok (.putfield 46, 3) := by decide +kernel
theorem dX10_copyFrom_8 : decode cX10_copyFrom 8 = .ok (.aload_n 0, 1) := by decide +kernel
theorem dX10_copyFrom_9 : decode cX10_copyFrom 9 = .ok (.aload_n 1, 1) := by decide +kernel
theorem dX10_copyFrom_10 : decode cX10_copyFrom 10 = .ok (.getfield 50, 3) := by decide +kernel
theorem dX10_copyFrom_13 : decode cX10_copyFrom 13 = .ok (.putfield 50, 3) := by decide +kernel
theorem dX10_copyFrom_16 : decode cX10_copyFrom 16 = .ok (.aload_n 0, 1) := by decide +kernel
theorem dX10_copyFrom_17 : decode cX10_copyFrom 17 = .ok (.aload_n 1, 1) := by decide +kernel
theorem dX10_copyFrom_18 : decode cX10_copyFrom 18 = .ok (.getfield 53, 3) := by decide +kernel
theorem dX10_copyFrom_21 : decode cX10_copyFrom 21 = .ok (.putfield 53, 3) := by decide +kernel
theorem dX10_copyFrom_24 : decode cX10_copyFrom 24 = .ok (.aload_n 0, 1) := by decide +kernel
theorem dX10_copyFrom_25 : decode cX10_copyFrom 25 = .ok (.getfield 12, 3) := by decide +kernel
theorem dX10_copyFrom_28 : decode cX10_copyFrom 28 = .ok (.aload_n 1, 1) := by decide +kernel
theorem dX10_copyFrom_29 : decode cX10_copyFrom 29 = .ok (.getfield 12, 3) := by decide +kernel
theorem dX10_copyFrom_32 : decode cX10_copyFrom 32 = .ok (.invokevirtual 65, 3) := by decide +kernel
theorem dX10_copyFrom_35 : decode cX10_copyFrom 35 = .ok (.aload_n 0, 1) := by decide +kernel
theorem dX10_copyFrom_36 : decode cX10_copyFrom 36 = .ok (.getfield 21, 3) := by decide +kernel
theorem dX10_copyFrom_39 : decode cX10_copyFrom 39 = .ok (.aload_n 1, 1) := by decide +kernel
theorem dX10_copyFrom_40 : decode cX10_copyFrom 40 = .ok (.getfield 21, 3) := by decide +kernel
theorem dX10_copyFrom_43 : decode cX10_copyFrom 43 = .ok (.invokevirtual 69, 3) := by decide +kernel
theorem dX10_copyFrom_46 : decode cX10_copyFrom 46 = .ok (.aload_n 0, 1) := by decide +kernel
theorem dX10_copyFrom_47 : decode cX10_copyFrom 47 = .ok (.getfield 28, 3) := by decide +kernel
theorem dX10_copyFrom_50 : decode cX10_copyFrom 50 = .ok (.aload_n 1, 1) := by decide +kernel
theorem dX10_copyFrom_51 : decode cX10_copyFrom 51 = .ok (.getfield 28, 3) := by decide +kernel
theorem dX10_copyFrom_54 : decode cX10_copyFrom 54 = .ok (.invokevirtual 72, 3) := by decide +kernel
theorem dX10_copyFrom_57 : decode cX10_copyFrom 57 = .ok (.aload_n 0, 1) := by decide +kernel
theorem dX10_copyFrom_58 : decode cX10_copyFrom 58 = .ok (.getfield 35, 3) := by decide +kernel
theorem dX10_copyFrom_61 : decode cX10_copyFrom 61 = .ok (.aload_n 1, 1) := by decide +kernel
theorem dX10_copyFrom_62 : decode cX10_copyFrom 62 = .ok (.getfield 35, 3) := by decide +kernel
theorem dX10_copyFrom_65 : decode cX10_copyFrom 65 = .ok (.invokevirtual 75, 3) := by decide +kernel
theorem dX10_copyFrom_68 : decode cX10_copyFrom 68 = .ok (.aload_n 0, 1) := by decide +kernel
theorem dX10_copyFrom_69 : decode cX10_copyFrom 69 = .ok (.getfield 42, 3) := by decide +kernel
theorem dX10_copyFrom_72 : decode cX10_copyFrom 72 = .ok (.aload_n 1, 1) := by decide +kernel
theorem dX10_copyFrom_73 : decode cX10_copyFrom 73 = .ok (.getfield 42, 3) := by decide +kernel
theorem dX10_copyFrom_76 : decode cX10_copyFrom 76 = .ok (.invokevirtual 78, 3) := by decide +kernel
theorem dX10_copyFrom_79 : decode cX10_copyFrom 79 = .ok (.return_, 1) := by decide +kernel
theorem dX11_init_0 : decode cX11_init 0 = .ok (.aload_n 0, 1) := by decide +kernel
theorem dX11_init_1 : decode cX11_init 1 = .ok (.invokespecial 3, 3) := by decide +kernel
theorem dX11_init_4 : decode cX11_init 4 = .ok (.aload_n 0, 1) := by decide +kernel
theorem dX11_init_5 : decode cX11_init 5 = .ok (.new 9, 3) := by decide +kernel
theorem dX11_init_8 : decode cX11_init 8 = .ok (.dup, 1) := by decide +kernel
theorem dX11_init_9 : decode cX11_init 9 = .ok (.invokespecial 11, 3) := by decide +kernel
theorem dX11_init_12 : decode cX11_init 12 = .ok (.putfield 12, 3) := by decide +kernel
theorem dX11_init_15 : decode cX11_init 15 = .ok (.aload_n 0, 1) := by decide +kernel
theorem dX11_init_16 : decode cX11_init 16 = .ok (.new 16, 3) := by decide +kernel
theorem dX11_init_19 : decode cX11_init 19 = .ok (.dup, 1) := by decide +kernel
theorem dX11_init_20 : decode cX11_init 20 = .ok (.invokespecial 18, 3) := by decide +kernel
theorem dX11_init_23 : decode cX11_init 23 = .ok (.putfield 19, 3) := by decide +kernel
theorem dX11_init_26 : decode cX11_init 26 = .ok (.aload_n 0, 1) := by decide +kernel
theorem dX11_init_27 : decode cX11_init 27 = .ok (.new 23, 3) := by decide +kernel
theorem dX11_init_30 : decode cX11_init 30 = .ok (.dup, 1) := by decide +kernel
theorem dX11_init_31 : decode cX11_init 31 = .ok (.invokespecial 25, 3) := by decide +kernel
theorem dX11_init_34 : decode cX11_init 34 = .ok (.putfield 26, 3) := by decide +kernel
theorem dX11_init_37 : decode cX11_init 37 = .ok (.aload_n 0, 1) := by decide +kernel
theorem dX11_init_38 : decode cX11_init 38 = .ok (.new 30, 3) := by decide +kernel
theorem dX11_init_41 : decode cX11_init 41 = .ok (.dup, 1) := by decide +kernel
theorem dX11_init_42 : decode cX11_init 42 = .ok (.invokespecial 32, 3) := by decide +kernel
theorem dX11_init_45 : decode cX11_init 45 = .ok (.putfield 33, 3) := by decide +kernel
theorem dX11_init_48 : decode cX11_init 48 = .ok (.aload_n 0, 1) := by decide +kernel
theorem dX11_init_49 : decode cX11_init 49 = .ok (.new 16, 3) := by decide +kernel
theorem dX11_init_52 : decode cX11_init 52 = .ok (.dup, 1) := by decide +kernel
theorem dX11_init_53 : decode cX11_init 53 = .ok (.invokespecial 18, 3) := by decide +kernel
theorem dX11_init_56 : decode cX11_init 56 = .ok (.putfield 37, 3) := by decide +kernel
theorem dX11_init_59 : decode cX11_init 59 = .ok (.aload_n 0, 1) := by decide +kernel
theorem dX11_init_60 : decode cX11_init 60 = .ok (.new 40, 3) := by decide +kernel
theorem dX11_init_63 : decode cX11_init 63 = .ok (.dup, 1) := by decide +kernel
theorem dX11_init_64 : decode cX11_init 64 = .ok (.aload_n 0, 1) := by decide +kernel
theorem dX11_init_65 : decode cX11_init 65 = .ok (.getfield 12, 3) := by decide +kernel
theorem dX11_init_68 : decode cX11_init 68 = .ok (.aload_n 0, 1) := by decide +kernel
theorem dX11_init_69 : decode cX11_init 69 = .ok (.getfield 26, 3) := by decide +kernel
theorem dX11_init_72 : decode cX11_init 72 = .ok (.aload_n 0, 1) := by decide +kernel
theorem dX11_init_73 : decode cX11_init 73 = .ok (.getfield 37, 3) := by decide +kernel
theorem dX11_init_76 : decode cX11_init 76 = .ok (.invokespecial 42, 3) := by decide +kernel
theorem dX11_init_79 : decode cX11_init 79 = .ok (.putfield 45, 3) := by decide +kernel
theorem dX11_init_82 : decode cX11_init 82 = .ok (.aload_n 0, 1) := by decide +kernel
theorem dX11_init_83 : decode cX11_init 83 = .ok (.new 9, 3) := by decide +kernel
theorem dX11_init_86 : decode cX11_init 86 = .ok (.dup, 1) := by decide +kernel
theorem dX11_init_87 : decode cX11_init 87 = .ok (.invokespecial 11, 3) := by decide +kernel
theorem dX11_init_90 : decode cX11_init 90 = .ok (.putfield 49, 3) := by decide +kernel
theorem dX11_init_93 : decode cX11_init 93 = .ok (.aload_n 0, 1) := by decide +kernel
theorem dX11_init_94 : decode cX11_init 94 = .ok (.new 16, 3) := by decide +kernel
theorem dX11_init_97 : decode cX11_init 97 = .ok (.dup, 1) := by decide +kernel
theorem dX11_init_98 : decode cX11_init 98 = .ok (.invokespecial 18, 3) := by decide +kernel
theorem dX11_init_101 : decode cX11_init 101 = .ok (.putfield 52, 3) := by decide +kernel
theorem dX11_init_104 : decode cX11_init 104 = .ok (.aload_n 0, 1) := by decide +kernel
theorem dX11_init_105 : decode cX11_init 105 = .ok (.new 23, 3) := by decide +kernel
theorem dX11_init_108 : decode cX11_init 108 = .ok (.dup, 1) := by decide +kernel
theorem dX11_init_109 : decode cX11_init 109 = .ok (.invokespecial 25, 3) := by decide +kernel
theorem dX11_init_112 : decode cX11_init 112 = .ok (.putfield 55, 3) := by decide +kernel
theorem dX11_init_115 : decode cX11_init 115 = .ok (.aload_n 0, 1) := by decide +kernel
theorem dX11_init_116 : decode cX11_init 116 = .ok (.iconst 0, 1) := by decide +kernel
theorem dX11_init_117 : decode cX11_init 117 = .ok (.putfield 58, 3) := by decide +kernel
theorem dX11_init_120 : decode cX11_init 120 = .ok (.return_, 1) := by decide +kernel
theorem dX11_bridges_0 : decode cX11_bridges 0 = .ok (.iload_n 1, 1) := by decide +kernel
theorem dX11_bridges_1 : decode cX11_bridges 1 = .ok (.iconst 1, 1) := by decide +kernel
theorem dX11_bridges_2 : decode cX11_bridges 2 = .ok (.if_icmp .lt 8, 3) := by decide +kernel
theorem dX11_bridges_5 : decode cX11_bridges 5 = .ok (.iload_n 1, 1) := by decide +kernel
theorem dX11_bridges_6 : decode cX11_bridges 6 = .ok (.iconst 3, 1) := by decide +kernel
theorem dX11_bridges_7 : decode cX11_bridges 7 = .ok (.if_icmp .le 5, 3) := by decide +kernel
theorem dX11_bridges_10 : decode cX11_bridges 10 = .ok (.iconst 0, 1) := by decide +kernel
theorem dX11_bridges_11 : decode cX11_bridges 11 = .ok (.ireturn, 1) := by decide +kernel
theorem dX11_bridges_12 : decode cX11_bridges 12 = .ok (.aload_n 0, 1) := by decide +kernel
theorem dX11_bridges_13 : decode cX11_bridges 13 = .ok (.getfield 12, 3) := by decide +kernel
theorem dX11_bridges_16 : decode cX11_bridges 16 = .ok (.iload_n 1, 1) := by decide +kernel
theorem dX11_bridges_17 : decode cX11_bridges 17 = .ok (.invokevirtual 62, 3) := by decide +kernel
theorem dX11_bridges_20 : decode cX11_bridges 20 = .ok (.aload_n 0, 1) := by decide +kernel
theorem dX11_bridges_21 : decode cX11_bridges 21 = .ok (.getfield 19, 3) := by decide +kernel
theorem dX11_bridges_24 : decode cX11_bridges 24 = .ok (.invokevirtual 66, 3) := by decide +kernel
theorem dX11_bridges_27 : decode cX11_bridges 27 = .ok (.aload_n 0, 1) := by decide +kernel
theorem dX11_bridges_28 : decode cX11_bridges 28 = .ok (.getfield 26, 3) := by decide +kernel
theorem dX11_bridges_31 : decode cX11_bridges 31 = .ok (.iconst 0, 1) := by decide +kernel
theorem dX11_bridges_32 : decode cX11_bridges 32 = .ok (.putfield 68, 3) := by decide +kernel
theorem dX11_bridges_35 : decode cX11_bridges 35 = .ok (.iconst 1, 1) := by decide +kernel
theorem dX11_bridges_36 : decode cX11_bridges 36 = .ok (.ireturn, 1) := by decide +kernel
theorem dX11_load_0 : decode cX11_load 0 = .ok (.iload_n 1, 1) := by decide +kernel
theorem dX11_load_1 : decode cX11_load 1 = .ok (.iconst 1, 1) := by decide +kernel
theorem dX11_load_2 : decode cX11_load 2 = .ok (.if_icmp .lt 28, 3) := by decide +kernel
theorem dX11_load_5 : decode cX11_load 5 = .ok (.iload_n 1, 1) := by decide +kernel
theorem dX11_load_6 : decode cX11_load 6 = .ok (.bipush 99, 2) := by decide +kernel
theorem dX11_load_8 : decode cX11_load 8 = .ok (.if_icmp .gt 22, 3) := by decide +kernel
theorem dX11_load_11 : decode cX11_load 11 = .ok (.aload_n 0, 1) := by decide +kernel
theorem dX11_load_12 : decode cX11_load 12 = .ok (.getfield 12, 3) := by decide +kernel
theorem dX11_load_15 : decode cX11_load 15 = .ok (.iload_n 2, 1) := by decide +kernel
theorem dX11_load_16 : decode cX11_load 16 = .ok (.invokevirtual 72, 3) := by decide +kernel
theorem dX11_load_19 : decode cX11_load 19 = .ok (.ifCond .eq 11, 3) := by decide +kernel
theorem dX11_load_22 : decode cX11_load 22 = .ok (.aload_n 0, 1) := by decide +kernel
theorem dX11_load_23 : decode cX11_load 23 = .ok (.iload_n 3, 1) := by decide +kernel
theorem dX11_load_24 : decode cX11_load 24 = .ok (.invokevirtual 76, 3) := by decide +kernel
theorem dX11_load_27 : decode cX11_load 27 = .ok (.ifCond .ne 5, 3) := by decide +kernel
theorem dX11_load_30 : decode cX11_load 30 = .ok (.iconst (-1), 1) := by decide +kernel
theorem dX11_load_31 : decode cX11_load 31 = .ok (.ireturn, 1) := by decide +kernel
theorem dX11_load_32 : decode cX11_load 32 = .ok (.aload_n 0, 1) := by decide +kernel
theorem dX11_load_33 : decode cX11_load 33 = .ok (.getfield 12, 3) := by decide +kernel
theorem dX11_load_36 : decode cX11_load 36 = .ok (.getfield 79, 3) := by decide +kernel
theorem dX11_load_39 : decode cX11_load 39 = .ok (.iload_n 1, 1) := by decide +kernel
theorem dX11_load_40 : decode cX11_load 40 = .ok (.iload_n 2, 1) := by decide +kernel
theorem dX11_load_41 : decode cX11_load 41 = .ok (.iload_n 3, 1) := by decide +kernel
theorem dX11_load_42 : decode cX11_load 42 = .ok (.invokevirtual 83, 3) := by decide +kernel
theorem dX11_load_45 : decode cX11_load 45 = .ok (.ireturn, 1) := by decide +kernel
theorem dX11_fetch_0 : decode cX11_fetch 0 = .ok (.aload_n 0, 1) := by decide +kernel
theorem dX11_fetch_1 : decode cX11_fetch 1 = .ok (.getfield 12, 3) := by decide +kernel
theorem dX11_fetch_4 : decode cX11_fetch 4 = .ok (.getfield 79, 3) := by decide +kernel
theorem dX11_fetch_7 : decode cX11_fetch 7 = .ok (.iload_n 1, 1) := by decide +kernel
theorem dX11_fetch_8 : decode cX11_fetch 8 = .ok (.invokevirtual 89, 3) := by decide +kernel
theorem dX11_fetch_11 : decode cX11_fetch 11 = .ok (.ifCond .ne 5, 3) := by decide +kernel
theorem dX11_fetch_14 : decode cX11_fetch 14 = .ok (.iconst 0, 1) := by decide +kernel
theorem dX11_fetch_15 : decode cX11_fetch 15 = .ok (.ireturn, 1) := by decide +kernel
theorem dX11_fetch_16 : decode cX11_fetch 16 = .ok (.iload_n 2, 1) := by decide +kernel
theorem dX11_fetch_17 : decode cX11_fetch 17 = .ok (.iconst (-1), 1) := by decide +kernel
theorem dX11_fetch_18 : decode cX11_fetch 18 = .ok (.if_icmp .ne 18, 3) := by decide +kernel
theorem dX11_fetch_21 : decode cX11_fetch 21 = .ok (.aload_n 0, 1) := by decide +kernel
theorem dX11_fetch_22 : decode cX11_fetch 22 = .ok (.getfield 12, 3) := by decide +kernel
theorem dX11_fetch_25 : decode cX11_fetch 25 = .ok (.getfield 79, 3) := by decide +kernel
theorem dX11_fetch_28 : decode cX11_fetch 28 = .ok (.getfield 92, 3) := by decide +kernel
theorem dX11_fetch_31 : decode cX11_fetch 31 = .ok (.iload_n 1, 1) := by decide +kernel
theorem dX11_fetch_32 : decode cX11_fetch 32 = .ok (.iconst (-1), 1) := by decide +kernel
theorem dX11_fetch_33 : decode cX11_fetch 33 = .ok (.iastore, 1) := by decide +kernel
theorem dX11_fetch_34 : decode cX11_fetch 34 = .ok (.iconst 1, 1) := by decide +kernel
theorem dX11_fetch_35 : decode cX11_fetch 35 = .ok (.ireturn, 1) := by decide +kernel
theorem dX11_fetch_36 : decode cX11_fetch 36 = .ok (.aload_n 0, 1) := by decide +kernel
theorem dX11_fetch_37 : decode cX11_fetch 37 = .ok (.getfield 12, 3) := by decide +kernel
theorem dX11_fetch_40 : decode cX11_fetch 40 = .ok (.iload_n 2, 1) := by decide +kernel
theorem dX11_fetch_41 : decode cX11_fetch 41 = .ok (.invokevirtual 72, 3) := by decide +kernel
theorem dX11_fetch_44 : decode cX11_fetch 44 = .ok (.ifCond .eq 11, 3) := by decide +kernel
theorem dX11_fetch_47 : decode cX11_fetch 47 = .ok (.aload_n 0, 1) := by decide +kernel
theorem dX11_fetch_48 : decode cX11_fetch 48 = .ok (.iload_n 3, 1) := by decide +kernel
theorem dX11_fetch_49 : decode cX11_fetch 49 = .ok (.invokevirtual 76, 3) := by decide +kernel
theorem dX11_fetch_52 : decode cX11_fetch 52 = .ok (.ifCond .ne 5, 3) := by decide +kernel
theorem dX11_fetch_55 : decode cX11_fetch 55 = .ok (.iconst 0, 1) := by decide +kernel
theorem dX11_fetch_56 : decode cX11_fetch 56 = .ok (.ireturn, 1) := by decide +kernel
theorem dX11_fetch_57 : decode cX11_fetch 57 = .ok (.aload_n 0, 1) := by decide +kernel
theorem dX11_fetch_58 : decode cX11_fetch 58 = .ok (.getfield 12, 3) := by decide +kernel
theorem dX11_fetch_61 : decode cX11_fetch 61 = .ok (.getfield 79, 3) := by decide +kernel
theorem dX11_fetch_64 : decode cX11_fetch 64 = .ok (.getfield 92, 3) := by decide +kernel
theorem dX11_fetch_67 : decode cX11_fetch 67 = .ok (.iload_n 1, 1) := by decide +kernel
theorem dX11_fetch_68 : decode cX11_fetch 68 = .ok (.iload_n 2, 1) := by decide +kernel
theorem dX11_fetch_69 : decode cX11_fetch 69 = .ok (.iastore, 1) := by decide +kernel
theorem dX11_fetch_70 : decode cX11_fetch 70 = .ok (.aload_n 0, 1) := by decide +kernel
theorem dX11_fetch_71 : decode cX11_fetch 71 = .ok (.getfield 12, 3) := by decide +kernel
theorem dX11_fetch_74 : decode cX11_fetch 74 = .ok (.getfield 79, 3) := by decide +kernel
theorem dX11_fetch_77 : decode cX11_fetch 77 = .ok (.getfield 96, 3) := by decide +kernel
theorem dX11_fetch_80 : decode cX11_fetch 80 = .ok (.iload_n 1, 1) := by decide +kernel
theorem dX11_fetch_81 : decode cX11_fetch 81 = .ok (.iload_n 3, 1) := by decide +kernel
theorem dX11_fetch_82 : decode cX11_fetch 82 = .ok (.iastore, 1) := by decide +kernel
theorem dX11_fetch_83 : decode cX11_fetch 83 = .ok (.iconst 1, 1) := by decide +kernel
theorem dX11_fetch_84 : decode cX11_fetch 84 = .ok (.ireturn, 1) := by decide +kernel
theorem dX11_crosser_0 : decode cX11_crosser 0 = .ok (.aload_n 0, 1) := by decide +kernel
theorem dX11_crosser_1 : decode cX11_crosser 1 = .ok (.iload_n 1, 1) := by decide +kernel
theorem dX11_crosser_2 : decode cX11_crosser 2 = .ok (.invokevirtual 76, 3) := by decide +kernel
theorem dX11_crosser_5 : decode cX11_crosser 5 = .ok (.ifCond .eq 14, 3) := by decide +kernel
theorem dX11_crosser_8 : decode cX11_crosser 8 = .ok (.aload_n 0, 1) := by decide +kernel
theorem dX11_crosser_9 : decode cX11_crosser 9 = .ok (.iload_n 2, 1) := by decide +kernel
theorem dX11_crosser_10 : decode cX11_crosser 10 = .ok (.iload_n 3, 1) := by decide +kernel
theorem dX11_crosser_11 : decode cX11_crosser 11 = .ok (.iload 4, 2) := by decide +kernel
theorem dX11_crosser_13 : decode cX11_crosser 13 = .ok (.invokevirtual 99, 3) := by decide +kernel
theorem dX11_crosser_16 : decode cX11_crosser 16 = .ok (.ifCond .ne 5, 3) := by decide +kernel
theorem dX11_crosser_19 : decode cX11_crosser 19 = .ok (.iconst (-1), 1) := by decide +kernel
theorem dX11_crosser_20 : decode cX11_crosser 20 = .ok (.ireturn, 1) := by decide +kernel
theorem dX11_crosser_21 : decode cX11_crosser 21 = .ok (.iload 5, 2) := by decide +kernel
theorem dX11_crosser_23 : decode cX11_crosser 23 = .ok (.ifCond .lt 22, 3) := by decide +kernel
theorem dX11_crosser_26 : decode cX11_crosser 26 = .ok (.iload 5, 2) := by decide +kernel
theorem dX11_crosser_28 : decode cX11_crosser 28 = .ok (.iload 4, 2) := by decide +kernel
theorem dX11_crosser_30 : decode cX11_crosser 30 = .ok (.if_icmp .gt 15, 3) := by decide +kernel
theorem dX11_crosser_33 : decode cX11_crosser 33 = .ok (.iload 6, 2) := by decide +kernel
theorem dX11_crosser_35 : decode cX11_crosser 35 = .ok (.ifCond .lt 10, 3) := by decide +kernel
theorem dX11_crosser_38 : decode cX11_crosser 38 = .ok (.iload 6, 2) := by decide +kernel
theorem dX11_crosser_40 : decode cX11_crosser 40 = .ok (.bipush 9, 2) := by decide +kernel
theorem dX11_crosser_42 : decode cX11_crosser 42 = .ok (.if_icmp .le 5, 3) := by decide +kernel
theorem dX11_crosser_45 : decode cX11_crosser 45 = .ok (.iconst (-1), 1) := by decide +kernel
theorem dX11_crosser_46 : decode cX11_crosser 46 = .ok (.ireturn, 1) := by decide +kernel
theorem dX11_crosser_47 : decode cX11_crosser 47 = .ok (.aload_n 0, 1) := by decide +kernel
theorem dX11_crosser_48 : decode cX11_crosser 48 = .ok (.getfield 12, 3) := by decide +kernel
theorem dX11_crosser_51 : decode cX11_crosser 51 = .ok (.getfield 103, 3) := by decide +kernel
theorem dX11_crosser_54 : decode cX11_crosser 54 = .ok (.iload_n 1, 1) := by decide +kernel
theorem dX11_crosser_55 : decode cX11_crosser 55 = .ok (.iload_n 2, 1) := by decide +kernel
theorem dX11_crosser_56 : decode cX11_crosser 56 = .ok (.iload_n 3, 1) := by decide +kernel
theorem dX11_crosser_57 : decode cX11_crosser 57 = .ok (.iload 4, 2) := by decide +kernel
theorem dX11_crosser_59 : decode cX11_crosser 59 = .ok (.iload 5, 2) := by decide +kernel
theorem dX11_crosser_61 : decode cX11_crosser 61 = .ok (.iload 6, 2) := by decide +kernel
theorem dX11_crosser_63 : decode cX11_crosser 63 = .ok (.invokevirtual 107, 3) := by decide +kernel
theorem dX11_crosser_66 : decode cX11_crosser 66 = .ok (.ireturn, 1) := by decide +kernel
theorem dX11_kind_0 : decode cX11_kind 0 = .ok (.aload_n 0, 1) := by decide +kernel
theorem dX11_kind_1 : decode cX11_kind 1 = .ok (.getfield 12, 3) := by decide +kernel
theorem dX11_kind_4 : decode cX11_kind 4 = .ok (.getfield 103, 3) := by decide +kernel
theorem dX11_kind_7 : decode cX11_kind 7 = .ok (.astore 4, 2) := by decide +kernel
theorem dX11_kind_9 : decode cX11_kind 9 = .ok (.aload 4, 2) := by decide +kernel
theorem dX11_kind_11 : decode cX11_kind 11 = .ok (.iload_n 1, 1) := by decide +kernel
theorem dX11_kind_12 : decode cX11_kind 12 = .ok (.invokevirtual 112, 3) := by decide +kernel
theorem dX11_kind_15 : decode cX11_kind 15 = .ok (.ifCond .eq 16, 3) := by decide +kernel
theorem dX11_kind_18 : decode cX11_kind 18 = .ok (.aload_n 0, 1) := by decide +kernel
theorem dX11_kind_19 : decode cX11_kind 19 = .ok (.getfield 19, 3) := by decide +kernel
theorem dX11_kind_22 : decode cX11_kind 22 = .ok (.getfield 113, 3) := by decide +kernel
theorem dX11_kind_25 : decode cX11_kind 25 = .ok (.iload_n 1, 1) := by decide +kernel
theorem dX11_kind_26 : decode cX11_kind 26 = .ok (.iaload, 1) := by decide +kernel
theorem dX11_kind_27 : decode cX11_kind 27 = .ok (.iconst (-1), 1) := by decide +kernel
theorem dX11_kind_28 : decode cX11_kind 28 = .ok (.if_icmp .eq 5, 3) := by decide +kernel
theorem dX11_kind_31 : decode cX11_kind 31 = .ok (.iconst 0, 1) := by decide +kernel
theorem dX11_kind_32 : decode cX11_kind 32 = .ok (.ireturn, 1) := by decide +kernel
theorem dX11_kind_33 : decode cX11_kind 33 = .ok (.iload_n 2, 1) := by decide +kernel
theorem dX11_kind_34 : decode cX11_kind 34 = .ok (.ifCond .ne 13, 3) := by decide +kernel
theorem dX11_kind_37 : decode cX11_kind 37 = .ok (.aload 4, 2) := by decide +kernel
theorem dX11_kind_39 : decode cX11_kind 39 = .ok (.iload_n 1, 1) := by decide +kernel
theorem dX11_kind_40 : decode cX11_kind 40 = .ok (.iconst 0, 1) := by decide +kernel
theorem dX11_kind_41 : decode cX11_kind 41 = .ok (.iconst 0, 1) := by decide +kernel
theorem dX11_kind_42 : decode cX11_kind 42 = .ok (.invokevirtual 116, 3) := by decide +kernel
theorem dX11_kind_45 : decode cX11_kind 45 = .ok (.iconst 1, 1) := by decide +kernel
theorem dX11_kind_46 : decode cX11_kind 46 = .ok (.ireturn, 1) := by decide +kernel
theorem dX11_kind_47 : decode cX11_kind 47 = .ok (.iload_n 2, 1) := by decide +kernel
theorem dX11_kind_48 : decode cX11_kind 48 = .ok (.iconst 1, 1) := by decide +kernel
theorem dX11_kind_49 : decode cX11_kind 49 = .ok (.if_icmp .ne 13, 3) := by decide +kernel
theorem dX11_kind_52 : decode cX11_kind 52 = .ok (.iload_n 3, 1) := by decide +kernel
theorem dX11_kind_53 : decode cX11_kind 53 = .ok (.ifCond .lt 9, 3) := by decide +kernel
theorem dX11_kind_56 : decode cX11_kind 56 = .ok (.iload_n 3, 1) := by decide +kernel
theorem dX11_kind_57 : decode cX11_kind 57 = .ok (.bipush 24, 2) := by decide +kernel
theorem dX11_kind_59 : decode cX11_kind 59 = .ok (.if_icmp .le 18, 3) := by decide +kernel
theorem dX11_kind_62 : decode cX11_kind 62 = .ok (.iload_n 2, 1) := by decide +kernel
theorem dX11_kind_63 : decode cX11_kind 63 = .ok (.iconst 2, 1) := by decide +kernel
theorem dX11_kind_64 : decode cX11_kind 64 = .ok (.if_icmp .ne 17, 3) := by decide +kernel
theorem dX11_kind_67 : decode cX11_kind 67 = .ok (.aload 4, 2) := by decide +kernel
theorem dX11_kind_69 : decode cX11_kind 69 = .ok (.iload_n 1, 1) := by decide +kernel
theorem dX11_kind_70 : decode cX11_kind 70 = .ok (.iload_n 3, 1) := by decide +kernel
theorem dX11_kind_71 : decode cX11_kind 71 = .ok (.invokevirtual 120, 3) := by decide +kernel
theorem dX11_kind_74 : decode cX11_kind 74 = .ok (.ifCond .eq 7, 3) := by decide +kernel
theorem dX11_kind_77 : decode cX11_kind 77 = .ok (.iconst 1, 1) := by decide +kernel
theorem dX11_kind_78 : decode cX11_kind 78 = .ok (.goto 4, 3) := by decide +kernel
theorem dX11_kind_81 : decode cX11_kind 81 = .ok (.iconst 0, 1) := by decide +kernel
theorem dX11_kind_82 : decode cX11_kind 82 = .ok (.istore 5, 2) := by decide +kernel
theorem dX11_kind_84 : decode cX11_kind 84 = .ok (.iload 5, 2) := by decide +kernel
theorem dX11_kind_86 : decode cX11_kind 86 = .ok (.ifCond .eq 11, 3) := by decide +kernel
theorem dX11_kind_89 : decode cX11_kind 89 = .ok (.aload 4, 2) := by decide +kernel
theorem dX11_kind_91 : decode cX11_kind 91 = .ok (.iload_n 1, 1) := by decide +kernel
theorem dX11_kind_92 : decode cX11_kind 92 = .ok (.iload_n 2, 1) := by decide +kernel
theorem dX11_kind_93 : decode cX11_kind 93 = .ok (.iload_n 3, 1) := by decide +kernel
theorem dX11_kind_94 : decode cX11_kind 94 = .ok (.invokevirtual 116, 3) := by decide +kernel
theorem dX11_kind_97 : decode cX11_kind 97 = .ok (.iload 5, 2) := by decide +kernel
theorem dX11_kind_99 : decode cX11_kind 99 = .ok (.ireturn, 1) := by decide +kernel
theorem dX11_set_0 : decode cX11_set 0 = .ok (.iload_n 1, 1) := by decide +kernel
theorem dX11_set_1 : decode cX11_set 1 = .ok (.tableswitch 116 0 2 #[27, 55, 76], 27) := by decide +kernel
theorem dX11_set_28 : decode cX11_set 28 = .ok (.iload_n 3, 1) := by decide +kernel
theorem dX11_set_29 : decode cX11_set 29 = .ok (.iconst (-1), 1) := by decide +kernel
theorem dX11_set_30 : decode cX11_set 30 = .ok (.if_icmp .eq 16, 3) := by decide +kernel
theorem dX11_set_33 : decode cX11_set 33 = .ok (.iload_n 3, 1) := by decide +kernel
theorem dX11_set_34 : decode cX11_set 34 = .ok (.ifCond .lt 10, 3) := by decide +kernel
theorem dX11_set_37 : decode cX11_set 37 = .ok (.iload_n 3, 1) := by decide +kernel
theorem dX11_set_38 : decode cX11_set 38 = .ok (.sipush 999, 3) := by decide +kernel
theorem dX11_set_41 : decode cX11_set 41 = .ok (.if_icmp .le 5, 3) := by decide +kernel
theorem dX11_set_44 : decode cX11_set 44 = .ok (.iconst 0, 1) := by decide +kernel
theorem dX11_set_45 : decode cX11_set 45 = .ok (.ireturn, 1) := by decide +kernel
theorem dX11_set_46 : decode cX11_set 46 = .ok (.aload_n 0, 1) := by decide +kernel
theorem dX11_set_47 : decode cX11_set 47 = .ok (.getfield 12, 3) := by decide +kernel
theorem dX11_set_50 : decode cX11_set 50 = .ok (.iload_n 3, 1) := by decide +kernel
theorem dX11_set_51 : decode cX11_set 51 = .ok (.putfield 124, 3) := by decide +kernel
theorem dX11_set_54 : decode cX11_set 54 = .ok (.iconst 1, 1) := by decide +kernel
theorem dX11_set_55 : decode cX11_set 55 = .ok (.ireturn, 1) := by decide +kernel
theorem dX11_set_56 : decode cX11_set 56 = .ok (.iload_n 3, 1) := by decide +kernel
theorem dX11_set_57 : decode cX11_set 57 = .ok (.ifCond .eq 10, 3) := by decide +kernel
theorem dX11_set_60 : decode cX11_set 60 = .ok (.iload_n 3, 1) := by decide +kernel
theorem dX11_set_61 : decode cX11_set 61 = .ok (.iconst 1, 1) := by decide +kernel
theorem dX11_set_62 : decode cX11_set 62 = .ok (.if_icmp .eq 5, 3) := by decide +kernel
theorem dX11_set_65 : decode cX11_set 65 = .ok (.iconst 0, 1) := by decide +kernel
theorem dX11_set_66 : decode cX11_set 66 = .ok (.ireturn, 1) := by decide +kernel
theorem dX11_set_67 : decode cX11_set 67 = .ok (.aload_n 0, 1) := by decide +kernel
theorem dX11_set_68 : decode cX11_set 68 = .ok (.getfield 12, 3) := by decide +kernel
theorem dX11_set_71 : decode cX11_set 71 = .ok (.iload_n 3, 1) := by decide +kernel
theorem dX11_set_72 : decode cX11_set 72 = .ok (.putfield 127, 3) := by decide +kernel
theorem dX11_set_75 : decode cX11_set 75 = .ok (.iconst 1, 1) := by decide +kernel
theorem dX11_set_76 : decode cX11_set 76 = .ok (.ireturn, 1) := by decide +kernel
theorem dX11_set_77 : decode cX11_set 77 = .ok (.aload_n 0, 1) := by decide +kernel
theorem dX11_set_78 : decode cX11_set 78 = .ok (.getfield 12, 3) := by decide +kernel
theorem dX11_set_81 : decode cX11_set 81 = .ok (.getfield 103, 3) := by decide +kernel
theorem dX11_set_84 : decode cX11_set 84 = .ok (.iload_n 2, 1) := by decide +kernel
theorem dX11_set_85 : decode cX11_set 85 = .ok (.invokevirtual 112, 3) := by decide +kernel
theorem dX11_set_88 : decode cX11_set 88 = .ok (.ifCond .eq 12, 3) := by decide +kernel
theorem dX11_set_91 : decode cX11_set 91 = .ok (.iload_n 3, 1) := by decide +kernel
theorem dX11_set_92 : decode cX11_set 92 = .ok (.ifCond .eq 10, 3) := by decide +kernel
theorem dX11_set_95 : decode cX11_set 95 = .ok (.iload_n 3, 1) := by decide +kernel
theorem dX11_set_96 : decode cX11_set 96 = .ok (.iconst 1, 1) := by decide +kernel
theorem dX11_set_97 : decode cX11_set 97 = .ok (.if_icmp .eq 5, 3) := by decide +kernel
theorem dX11_set_100 : decode cX11_set 100 = .ok (.iconst 0, 1) := by decide +kernel
theorem dX11_set_101 : decode cX11_set 101 = .ok (.ireturn, 1) := by decide +kernel
theorem dX11_set_102 : decode cX11_set 102 = .ok (.aload_n 0, 1) := by decide +kernel
theorem dX11_set_103 : decode cX11_set 103 = .ok (.getfield 12, 3) := by decide +kernel
theorem dX11_set_106 : decode cX11_set 106 = .ok (.getfield 103, 3) := by decide +kernel
theorem dX11_set_109 : decode cX11_set 109 = .ok (.getfield 130, 3) := by decide +kernel
theorem dX11_set_112 : decode cX11_set 112 = .ok (.iload_n 2, 1) := by decide +kernel
theorem dX11_set_113 : decode cX11_set 113 = .ok (.iload_n 3, 1) := by decide +kernel
theorem dX11_set_114 : decode cX11_set 114 = .ok (.iastore, 1) := by decide +kernel
theorem dX11_set_115 : decode cX11_set 115 = .ok (.iconst 1, 1) := by decide +kernel
theorem dX11_set_116 : decode cX11_set 116 = .ok (.ireturn, 1) := by decide +kernel
theorem dX11_set_117 : decode cX11_set 117 = .ok (.iconst 0, 1) := by decide +kernel
theorem dX11_set_118 : decode cX11_set 118 = .ok (.ireturn, 1) := by decide +kernel
theorem dX11_feed_0 : decode cX11_feed 0 = .ok (.aload_n 0, 1) := by decide +kernel
theorem dX11_feed_1 : decode cX11_feed 1 = .ok (.getfield 33, 3) := by decide +kernel
theorem dX11_feed_4 : decode cX11_feed 4 = .ok (.iload_n 1, 1) := by decide +kernel
theorem dX11_feed_5 : decode cX11_feed 5 = .ok (.iload_n 2, 1) := by decide +kernel
theorem dX11_feed_6 : decode cX11_feed 6 = .ok (.iload_n 3, 1) := by decide +kernel
theorem dX11_feed_7 : decode cX11_feed 7 = .ok (.iload 4, 2) := by decide +kernel
theorem dX11_feed_9 : decode cX11_feed 9 = .ok (.iload 5, 2) := by decide +kernel
theorem dX11_feed_11 : decode cX11_feed 11 = .ok (.invokevirtual 133, 3) := by decide +kernel
theorem dX11_feed_14 : decode cX11_feed 14 = .ok (.ireturn, 1) := by decide +kernel
theorem dX11_end_0 : decode cX11_end 0 = .ok (.aload_n 0, 1) := by decide +kernel
theorem dX11_end_1 : decode cX11_end 1 = .ok (.getfield 33, 3) := by decide +kernel
theorem dX11_end_4 : decode cX11_end 4 = .ok (.iload_n 1, 1) := by decide +kernel
theorem dX11_end_5 : decode cX11_end 5 = .ok (.invokevirtual 137, 3) := by decide +kernel
theorem dX11_end_8 : decode cX11_end 8 = .ok (.ireturn, 1) := by decide +kernel
theorem dX11_text_0 : decode cX11_text 0 = .ok (.aload_n 0, 1) := by decide +kernel
theorem dX11_text_1 : decode cX11_text 1 = .ok (.getfield 33, 3) := by decide +kernel
theorem dX11_text_4 : decode cX11_text 4 = .ok (.invokevirtual 140, 3) := by decide +kernel
theorem dX11_text_7 : decode cX11_text 7 = .ok (.aload_n 0, 1) := by decide +kernel
theorem dX11_text_8 : decode cX11_text 8 = .ok (.getfield 33, 3) := by decide +kernel
theorem dX11_text_11 : decode cX11_text 11 = .ok (.getfield 143, 3) := by decide +kernel
theorem dX11_text_14 : decode cX11_text 14 = .ok (.ifCond .eq 5, 3) := by decide +kernel
theorem dX11_text_17 : decode cX11_text 17 = .ok (.iconst (-1), 1) := by decide +kernel
theorem dX11_text_18 : decode cX11_text 18 = .ok (.ireturn, 1) := by decide +kernel
theorem dX11_text_19 : decode cX11_text 19 = .ok (.aload_n 0, 1) := by decide +kernel
theorem dX11_text_20 : decode cX11_text 20 = .ok (.getfield 12, 3) := by decide +kernel
theorem dX11_text_23 : decode cX11_text 23 = .ok (.getfield 146, 3) := by decide +kernel
theorem dX11_text_26 : decode cX11_text 26 = .ok (.aload_n 0, 1) := by decide +kernel
theorem dX11_text_27 : decode cX11_text 27 = .ok (.getfield 33, 3) := by decide +kernel
theorem dX11_text_30 : decode cX11_text 30 = .ok (.getfield 150, 3) := by decide +kernel
theorem dX11_text_33 : decode cX11_text 33 = .ok (.invokevirtual 153, 3) := by decide +kernel
theorem dX11_text_36 : decode cX11_text 36 = .ok (.aload_n 0, 1) := by decide +kernel
theorem dX11_text_37 : decode cX11_text 37 = .ok (.getfield 12, 3) := by decide +kernel
theorem dX11_text_40 : decode cX11_text 40 = .ok (.getfield 146, 3) := by decide +kernel
theorem dX11_text_43 : decode cX11_text 43 = .ok (.getfield 159, 3) := by decide +kernel
theorem dX11_text_46 : decode cX11_text 46 = .ok (.ireturn, 1) := by decide +kernel
theorem dX11_fault_0 : decode cX11_fault 0 = .ok (.iload_n 1, 1) := by decide +kernel
theorem dX11_fault_1 : decode cX11_fault 1 = .ok (.lookupswitch 43 #[(0, 27), (1, 35)], 27) := by decide +kernel
theorem dX11_fault_28 : decode cX11_fault 28 = .ok (.aload_n 0, 1) := by decide +kernel
theorem dX11_fault_29 : decode cX11_fault 29 = .ok (.getfield 33, 3) := by decide +kernel
theorem dX11_fault_32 : decode cX11_fault 32 = .ok (.getfield 143, 3) := by decide +kernel
theorem dX11_fault_35 : decode cX11_fault 35 = .ok (.ireturn, 1) := by decide +kernel
theorem dX11_fault_36 : decode cX11_fault 36 = .ok (.aload_n 0, 1) := by decide +kernel
theorem dX11_fault_37 : decode cX11_fault 37 = .ok (.getfield 33, 3) := by decide +kernel
theorem dX11_fault_40 : decode cX11_fault 40 = .ok (.getfield 160, 3) := by decide +kernel
theorem dX11_fault_43 : decode cX11_fault 43 = .ok (.ireturn, 1) := by decide +kernel
theorem dX11_fault_44 : decode cX11_fault 44 = .ok (.iconst (-1), 1) := by decide +kernel
theorem dX11_fault_45 : decode cX11_fault 45 = .ok (.ireturn, 1) := by decide +kernel
theorem dX11_hours_0 : decode cX11_hours 0 = .ok (.iload_n 1, 1) := by decide +kernel
theorem dX11_hours_1 : decode cX11_hours 1 = .ok (.iconst 1, 1) := by decide +kernel
theorem dX11_hours_2 : decode cX11_hours 2 = .ok (.if_icmp .lt 18, 3) := by decide +kernel
theorem dX11_hours_5 : decode cX11_hours 5 = .ok (.iload_n 1, 1) := by decide +kernel
theorem dX11_hours_6 : decode cX11_hours 6 = .ok (.sipush 168, 3) := by decide +kernel
theorem dX11_hours_9 : decode cX11_hours 9 = .ok (.aload_n 0, 1) := by decide +kernel
theorem dX11_hours_10 : decode cX11_hours 10 = .ok (.getfield 19, 3) := by decide +kernel
theorem dX11_hours_13 : decode cX11_hours 13 = .ok (.getfield 163, 3) := by decide +kernel
theorem dX11_hours_16 : decode cX11_hours 16 = .ok (.isub, 1) := by decide +kernel
theorem dX11_hours_17 : decode cX11_hours 17 = .ok (.if_icmp .le 5, 3) := by decide +kernel
theorem dX11_hours_20 : decode cX11_hours 20 = .ok (.iconst (-1), 1) := by decide +kernel
theorem dX11_hours_21 : decode cX11_hours 21 = .ok (.ireturn, 1) := by decide +kernel
theorem dX11_hours_22 : decode cX11_hours 22 = .ok (.aload_n 0, 1) := by decide +kernel
theorem dX11_hours_23 : decode cX11_hours 23 = .ok (.getfield 19, 3) := by decide +kernel
theorem dX11_hours_26 : decode cX11_hours 26 = .ok (.getfield 163, 3) := by decide +kernel
theorem dX11_hours_29 : decode cX11_hours 29 = .ok (.iload_n 1, 1) := by decide +kernel
theorem dX11_hours_30 : decode cX11_hours 30 = .ok (.iadd, 1) := by decide +kernel
theorem dX11_hours_31 : decode cX11_hours 31 = .ok (.iconst 1, 1) := by decide +kernel
theorem dX11_hours_32 : decode cX11_hours 32 = .ok (.isub, 1) := by decide +kernel
theorem dX11_hours_33 : decode cX11_hours 33 = .ok (.istore_n 2, 1) := by decide +kernel
theorem dX11_hours_34 : decode cX11_hours 34 = .ok (.aload_n 0, 1) := by decide +kernel
theorem dX11_hours_35 : decode cX11_hours 35 = .ok (.getfield 45, 3) := by decide +kernel
theorem dX11_hours_38 : decode cX11_hours 38 = .ok (.getfield 166, 3) := by decide +kernel
theorem dX11_hours_41 : decode cX11_hours 41 = .ok (.aload_n 0, 1) := by decide +kernel
theorem dX11_hours_42 : decode cX11_hours 42 = .ok (.getfield 12, 3) := by decide +kernel
theorem dX11_hours_45 : decode cX11_hours 45 = .ok (.aload_n 0, 1) := by decide +kernel
theorem dX11_hours_46 : decode cX11_hours 46 = .ok (.getfield 19, 3) := by decide +kernel
theorem dX11_hours_49 : decode cX11_hours 49 = .ok (.getfield 163, 3) := by decide +kernel
theorem dX11_hours_52 : decode cX11_hours 52 = .ok (.invokevirtual 170, 3) := by decide +kernel
theorem dX11_hours_55 : decode cX11_hours 55 = .ok (.aload_n 0, 1) := by decide +kernel
theorem dX11_hours_56 : decode cX11_hours 56 = .ok (.getfield 45, 3) := by decide +kernel
theorem dX11_hours_59 : decode cX11_hours 59 = .ok (.aload_n 0, 1) := by decide +kernel
theorem dX11_hours_60 : decode cX11_hours 60 = .ok (.getfield 19, 3) := by decide +kernel
theorem dX11_hours_63 : decode cX11_hours 63 = .ok (.invokevirtual 176, 3) := by decide +kernel
theorem dX11_hours_66 : decode cX11_hours 66 = .ok (.aload_n 0, 1) := by decide +kernel
theorem dX11_hours_67 : decode cX11_hours 67 = .ok (.getfield 45, 3) := by decide +kernel
theorem dX11_hours_70 : decode cX11_hours 70 = .ok (.iconst 1, 1) := by decide +kernel
theorem dX11_hours_71 : decode cX11_hours 71 = .ok (.putfield 180, 3) := by decide +kernel
theorem dX11_hours_74 : decode cX11_hours 74 = .ok (.aload_n 0, 1) := by decide +kernel
theorem dX11_hours_75 : decode cX11_hours 75 = .ok (.getfield 45, 3) := by decide +kernel
theorem dX11_hours_78 : decode cX11_hours 78 = .ok (.iload_n 2, 1) := by decide +kernel
theorem dX11_hours_79 : decode cX11_hours 79 = .ok (.invokevirtual 183, 3) := by decide +kernel
theorem dX11_hours_82 : decode cX11_hours 82 = .ok (.aload_n 0, 1) := by decide +kernel
theorem dX11_hours_83 : decode cX11_hours 83 = .ok (.getfield 45, 3) := by decide +kernel
theorem dX11_hours_86 : decode cX11_hours 86 = .ok (.getfield 186, 3) := by decide +kernel
theorem dX11_hours_89 : decode cX11_hours 89 = .ok (.ireturn, 1) := by decide +kernel
theorem dX11_of_0 : decode cX11_of 0 = .ok (.aload_n 0, 1) := by decide +kernel
theorem dX11_of_1 : decode cX11_of 1 = .ok (.getfield 12, 3) := by decide +kernel
theorem dX11_of_4 : decode cX11_of 4 = .ok (.getfield 79, 3) := by decide +kernel
theorem dX11_of_7 : decode cX11_of 7 = .ok (.iload_n 1, 1) := by decide +kernel
theorem dX11_of_8 : decode cX11_of 8 = .ok (.invokevirtual 89, 3) := by decide +kernel
theorem dX11_of_11 : decode cX11_of 11 = .ok (.ifCond .ne 6, 3) := by decide +kernel
theorem dX11_of_14 : decode cX11_of 14 = .ok (.bipush (-2), 2) := by decide +kernel
theorem dX11_of_16 : decode cX11_of 16 = .ok (.ireturn, 1) := by decide +kernel
theorem dX11_of_17 : decode cX11_of 17 = .ok (.iload_n 2, 1) := by decide +kernel
theorem dX11_of_18 : decode cX11_of 18 = .ok (.tableswitch 104 0 5 #[38, 51, 61, 71, 81, 94], 38) := by decide +kernel
theorem dX11_of_56 : decode cX11_of 56 = .ok (.aload_n 0, 1) := by decide +kernel
theorem dX11_of_57 : decode cX11_of 57 = .ok (.getfield 12, 3) := by decide +kernel
theorem dX11_of_60 : decode cX11_of 60 = .ok (.getfield 79, 3) := by decide +kernel
theorem dX11_of_63 : decode cX11_of 63 = .ok (.getfield 189, 3) := by decide +kernel
theorem dX11_of_66 : decode cX11_of 66 = .ok (.iload_n 1, 1) := by decide +kernel
theorem dX11_of_67 : decode cX11_of 67 = .ok (.iaload, 1) := by decide +kernel
theorem dX11_of_68 : decode cX11_of 68 = .ok (.ireturn, 1) := by decide +kernel
theorem dX11_of_69 : decode cX11_of 69 = .ok (.aload_n 0, 1) := by decide +kernel
theorem dX11_of_70 : decode cX11_of 70 = .ok (.getfield 19, 3) := by decide +kernel
theorem dX11_of_73 : decode cX11_of 73 = .ok (.getfield 192, 3) := by decide +kernel
theorem dX11_of_76 : decode cX11_of 76 = .ok (.iload_n 1, 1) := by decide +kernel
theorem dX11_of_77 : decode cX11_of 77 = .ok (.iaload, 1) := by decide +kernel
theorem dX11_of_78 : decode cX11_of 78 = .ok (.ireturn, 1) := by decide +kernel
theorem dX11_of_79 : decode cX11_of 79 = .ok (.aload_n 0, 1) := by decide +kernel
theorem dX11_of_80 : decode cX11_of 80 = .ok (.getfield 19, 3) := by decide +kernel
theorem dX11_of_83 : decode cX11_of 83 = .ok (.getfield 195, 3) := by decide +kernel
theorem dX11_of_86 : decode cX11_of 86 = .ok (.iload_n 1, 1) := by decide +kernel
theorem dX11_of_87 : decode cX11_of 87 = .ok (.iaload, 1) := by decide +kernel
theorem dX11_of_88 : decode cX11_of 88 = .ok (.ireturn, 1) := by decide +kernel
theorem dX11_of_89 : decode cX11_of 89 = .ok (.aload_n 0, 1) := by decide +kernel
theorem dX11_of_90 : decode cX11_of 90 = .ok (.getfield 19, 3) := by decide +kernel
theorem dX11_of_93 : decode cX11_of 93 = .ok (.getfield 198, 3) := by decide +kernel
theorem dX11_of_96 : decode cX11_of 96 = .ok (.iload_n 1, 1) := by decide +kernel
theorem dX11_of_97 : decode cX11_of 97 = .ok (.iaload, 1) := by decide +kernel
theorem dX11_of_98 : decode cX11_of 98 = .ok (.ireturn, 1) := by decide +kernel
theorem dX11_of_99 : decode cX11_of 99 = .ok (.aload_n 0, 1) := by decide +kernel
theorem dX11_of_100 : decode cX11_of 100 = .ok (.getfield 12, 3) := by decide +kernel
theorem dX11_of_103 : decode cX11_of 103 = .ok (.getfield 79, 3) := by decide +kernel
theorem dX11_of_106 : decode cX11_of 106 = .ok (.getfield 201, 3) := by decide +kernel
theorem dX11_of_109 : decode cX11_of 109 = .ok (.iload_n 1, 1) := by decide +kernel
theorem dX11_of_110 : decode cX11_of 110 = .ok (.iaload, 1) := by decide +kernel
theorem dX11_of_111 : decode cX11_of 111 = .ok (.ireturn, 1) := by decide +kernel
theorem dX11_of_112 : decode cX11_of 112 = .ok (.aload_n 0, 1) := by decide +kernel
theorem dX11_of_113 : decode cX11_of 113 = .ok (.getfield 19, 3) := by decide +kernel
theorem dX11_of_116 : decode cX11_of 116 = .ok (.getfield 204, 3) := by decide +kernel
theorem dX11_of_119 : decode cX11_of 119 = .ok (.iload_n 1, 1) := by decide +kernel
theorem dX11_of_120 : decode cX11_of 120 = .ok (.iaload, 1) := by decide +kernel
theorem dX11_of_121 : decode cX11_of 121 = .ok (.ireturn, 1) := by decide +kernel
theorem dX11_of_122 : decode cX11_of 122 = .ok (.bipush (-2), 2) := by decide +kernel
theorem dX11_of_124 : decode cX11_of 124 = .ok (.ireturn, 1) := by decide +kernel
theorem dX11_who_0 : decode cX11_who 0 = .ok (.aload_n 0, 1) := by decide +kernel
theorem dX11_who_1 : decode cX11_who 1 = .ok (.getfield 12, 3) := by decide +kernel
theorem dX11_who_4 : decode cX11_who 4 = .ok (.getfield 103, 3) := by decide +kernel
theorem dX11_who_7 : decode cX11_who 7 = .ok (.iload_n 1, 1) := by decide +kernel
theorem dX11_who_8 : decode cX11_who 8 = .ok (.invokevirtual 112, 3) := by decide +kernel
theorem dX11_who_11 : decode cX11_who 11 = .ok (.ifCond .ne 6, 3) := by decide +kernel
theorem dX11_who_14 : decode cX11_who 14 = .ok (.bipush (-2), 2) := by decide +kernel
theorem dX11_who_16 : decode cX11_who 16 = .ok (.ireturn, 1) := by decide +kernel
theorem dX11_who_17 : decode cX11_who 17 = .ok (.iload_n 2, 1) := by decide +kernel
theorem dX11_who_18 : decode cX11_who 18 = .ok (.tableswitch 56 8 10 #[26, 36, 46], 26) := by decide +kernel
theorem dX11_who_44 : decode cX11_who 44 = .ok (.aload_n 0, 1) := by decide +kernel
theorem dX11_who_45 : decode cX11_who 45 = .ok (.getfield 19, 3) := by decide +kernel
theorem dX11_who_48 : decode cX11_who 48 = .ok (.getfield 113, 3) := by decide +kernel
theorem dX11_who_51 : decode cX11_who 51 = .ok (.iload_n 1, 1) := by decide +kernel
theorem dX11_who_52 : decode cX11_who 52 = .ok (.iaload, 1) := by decide +kernel
theorem dX11_who_53 : decode cX11_who 53 = .ok (.ireturn, 1) := by decide +kernel
theorem dX11_who_54 : decode cX11_who 54 = .ok (.aload_n 0, 1) := by decide +kernel
theorem dX11_who_55 : decode cX11_who 55 = .ok (.getfield 19, 3) := by decide +kernel
theorem dX11_who_58 : decode cX11_who 58 = .ok (.getfield 207, 3) := by decide +kernel
theorem dX11_who_61 : decode cX11_who 61 = .ok (.iload_n 1, 1) := by decide +kernel
theorem dX11_who_62 : decode cX11_who 62 = .ok (.iaload, 1) := by decide +kernel
theorem dX11_who_63 : decode cX11_who 63 = .ok (.ireturn, 1) := by decide +kernel
theorem dX11_who_64 : decode cX11_who 64 = .ok (.aload_n 0, 1) := by decide +kernel
theorem dX11_who_65 : decode cX11_who 65 = .ok (.getfield 19, 3) := by decide +kernel
theorem dX11_who_68 : decode cX11_who 68 = .ok (.getfield 210, 3) := by decide +kernel
theorem dX11_who_71 : decode cX11_who 71 = .ok (.iload_n 1, 1) := by decide +kernel
theorem dX11_who_72 : decode cX11_who 72 = .ok (.iaload, 1) := by decide +kernel
theorem dX11_who_73 : decode cX11_who 73 = .ok (.ireturn, 1) := by decide +kernel
theorem dX11_who_74 : decode cX11_who 74 = .ok (.aload_n 0, 1) := by decide +kernel
theorem dX11_who_75 : decode cX11_who 75 = .ok (.getfield 12, 3) := by decide +kernel
theorem dX11_who_78 : decode cX11_who 78 = .ok (.getfield 103, 3) := by decide +kernel
theorem dX11_who_81 : decode cX11_who 81 = .ok (.iload_n 1, 1) := by decide +kernel
theorem dX11_who_82 : decode cX11_who 82 = .ok (.iload_n 2, 1) := by decide +kernel
theorem dX11_who_83 : decode cX11_who 83 = .ok (.invokevirtual 213, 3) := by decide +kernel
theorem dX11_who_86 : decode cX11_who 86 = .ok (.ireturn, 1) := by decide +kernel
theorem dX11_waits_0 : decode cX11_waits 0 = .ok (.aload_n 0, 1) := by decide +kernel
theorem dX11_waits_1 : decode cX11_waits 1 = .ok (.getfield 12, 3) := by decide +kernel
theorem dX11_waits_4 : decode cX11_waits 4 = .ok (.iload_n 1, 1) := by decide +kernel
theorem dX11_waits_5 : decode cX11_waits 5 = .ok (.invokevirtual 72, 3) := by decide +kernel
theorem dX11_waits_8 : decode cX11_waits 8 = .ok (.ifCond .eq 20, 3) := by decide +kernel
theorem dX11_waits_11 : decode cX11_waits 11 = .ok (.iload_n 2, 1) := by decide +kernel
theorem dX11_waits_12 : decode cX11_waits 12 = .ok (.ifCond .lt 16, 3) := by decide +kernel
theorem dX11_waits_15 : decode cX11_waits 15 = .ok (.iload_n 2, 1) := by decide +kernel
theorem dX11_waits_16 : decode cX11_waits 16 = .ok (.aload_n 0, 1) := by decide +kernel
theorem dX11_waits_17 : decode cX11_waits 17 = .ok (.getfield 19, 3) := by decide +kernel
theorem dX11_waits_20 : decode cX11_waits 20 = .ok (.getfield 217, 3) := by decide +kernel
theorem dX11_waits_23 : decode cX11_waits 23 = .ok (.iload_n 1, 1) := by decide +kernel
theorem dX11_waits_24 : decode cX11_waits 24 = .ok (.iaload, 1) := by decide +kernel
theorem dX11_waits_25 : decode cX11_waits 25 = .ok (.if_icmp .lt 5, 3) := by decide +kernel
theorem dX11_waits_28 : decode cX11_waits 28 = .ok (.iconst (-1), 1) := by decide +kernel
theorem dX11_waits_29 : decode cX11_waits 29 = .ok (.ireturn, 1) := by decide +kernel
theorem dX11_waits_30 : decode cX11_waits 30 = .ok (.aload_n 0, 1) := by decide +kernel
theorem dX11_waits_31 : decode cX11_waits 31 = .ok (.getfield 19, 3) := by decide +kernel
theorem dX11_waits_34 : decode cX11_waits 34 = .ok (.getfield 220, 3) := by decide +kernel
theorem dX11_waits_37 : decode cX11_waits 37 = .ok (.iload_n 1, 1) := by decide +kernel
theorem dX11_waits_38 : decode cX11_waits 38 = .ok (.bipush 30, 2) := by decide +kernel
theorem dX11_waits_40 : decode cX11_waits 40 = .ok (.imul, 1) := by decide +kernel
theorem dX11_waits_41 : decode cX11_waits 41 = .ok (.iload_n 2, 1) := by decide +kernel
theorem dX11_waits_42 : decode cX11_waits 42 = .ok (.iadd, 1) := by decide +kernel
theorem dX11_waits_43 : decode cX11_waits 43 = .ok (.iaload, 1) := by decide +kernel
theorem dX11_waits_44 : decode cX11_waits 44 = .ok (.ireturn, 1) := by decide +kernel
theorem dX11_book_0 : decode cX11_book 0 = .ok (.iload_n 1, 1) := by decide +kernel
theorem dX11_book_1 : decode cX11_book 1 = .ok (.ifCond .lt 14, 3) := by decide +kernel
theorem dX11_book_4 : decode cX11_book 4 = .ok (.iload_n 1, 1) := by decide +kernel
theorem dX11_book_5 : decode cX11_book 5 = .ok (.aload_n 0, 1) := by decide +kernel
theorem dX11_book_6 : decode cX11_book 6 = .ok (.getfield 26, 3) := by decide +kernel
theorem dX11_book_9 : decode cX11_book 9 = .ok (.getfield 68, 3) := by decide +kernel
theorem dX11_book_12 : decode cX11_book 12 = .ok (.if_icmp .lt 5, 3) := by decide +kernel
theorem dX11_book_15 : decode cX11_book 15 = .ok (.iconst (-1), 1) := by decide +kernel
theorem dX11_book_16 : decode cX11_book 16 = .ok (.ireturn, 1) := by decide +kernel
theorem dX11_book_17 : decode cX11_book 17 = .ok (.iload_n 2, 1) := by decide +kernel
theorem dX11_book_18 : decode cX11_book 18 = .ok (.tableswitch 56 0 2 #[26, 36, 46], 26) := by decide +kernel
theorem dX11_book_44 : decode cX11_book 44 = .ok (.aload_n 0, 1) := by decide +kernel
theorem dX11_book_45 : decode cX11_book 45 = .ok (.getfield 26, 3) := by decide +kernel
theorem dX11_book_48 : decode cX11_book 48 = .ok (.getfield 223, 3) := by decide +kernel
theorem dX11_book_51 : decode cX11_book 51 = .ok (.iload_n 1, 1) := by decide +kernel
theorem dX11_book_52 : decode cX11_book 52 = .ok (.iaload, 1) := by decide +kernel
theorem dX11_book_53 : decode cX11_book 53 = .ok (.ireturn, 1) := by decide +kernel
theorem dX11_book_54 : decode cX11_book 54 = .ok (.aload_n 0, 1) := by decide +kernel
theorem dX11_book_55 : decode cX11_book 55 = .ok (.getfield 26, 3) := by decide +kernel
theorem dX11_book_58 : decode cX11_book 58 = .ok (.getfield 225, 3) := by decide +kernel
theorem dX11_book_61 : decode cX11_book 61 = .ok (.iload_n 1, 1) := by decide +kernel
theorem dX11_book_62 : decode cX11_book 62 = .ok (.iaload, 1) := by decide +kernel
theorem dX11_book_63 : decode cX11_book 63 = .ok (.ireturn, 1) := by decide +kernel
theorem dX11_book_64 : decode cX11_book 64 = .ok (.aload_n 0, 1) := by decide +kernel
theorem dX11_book_65 : decode cX11_book 65 = .ok (.getfield 26, 3) := by decide +kernel
theorem dX11_book_68 : decode cX11_book 68 = .ok (.getfield 227, 3) := by decide +kernel
theorem dX11_book_71 : decode cX11_book 71 = .ok (.iload_n 1, 1) := by decide +kernel
theorem dX11_book_72 : decode cX11_book 72 = .ok (.iaload, 1) := by decide +kernel
theorem dX11_book_73 : decode cX11_book 73 = .ok (.ireturn, 1) := by decide +kernel
theorem dX11_book_74 : decode cX11_book 74 = .ok (.iconst (-1), 1) := by decide +kernel
theorem dX11_book_75 : decode cX11_book 75 = .ok (.ireturn, 1) := by decide +kernel
theorem dX11_over_0 : decode cX11_over 0 = .ok (.aload_n 0, 1) := by decide +kernel
theorem dX11_over_1 : decode cX11_over 1 = .ok (.getfield 12, 3) := by decide +kernel
theorem dX11_over_4 : decode cX11_over 4 = .ok (.getfield 79, 3) := by decide +kernel
theorem dX11_over_7 : decode cX11_over 7 = .ok (.iload_n 1, 1) := by decide +kernel
theorem dX11_over_8 : decode cX11_over 8 = .ok (.invokevirtual 89, 3) := by decide +kernel
theorem dX11_over_11 : decode cX11_over 11 = .ok (.ifCond .eq 14, 3) := by decide +kernel
theorem dX11_over_14 : decode cX11_over 14 = .ok (.aload_n 0, 1) := by decide +kernel
theorem dX11_over_15 : decode cX11_over 15 = .ok (.getfield 12, 3) := by decide +kernel
theorem dX11_over_18 : decode cX11_over 18 = .ok (.iload_n 2, 1) := by decide +kernel
theorem dX11_over_19 : decode cX11_over 19 = .ok (.invokevirtual 72, 3) := by decide +kernel
theorem dX11_over_22 : decode cX11_over 22 = .ok (.ifCond .ne 5, 3) := by decide +kernel
theorem dX11_over_25 : decode cX11_over 25 = .ok (.iconst (-1), 1) := by decide +kernel
theorem dX11_over_26 : decode cX11_over 26 = .ok (.ireturn, 1) := by decide +kernel
theorem dX11_over_27 : decode cX11_over 27 = .ok (.aload_n 0, 1) := by decide +kernel
theorem dX11_over_28 : decode cX11_over 28 = .ok (.getfield 19, 3) := by decide +kernel
theorem dX11_over_31 : decode cX11_over 31 = .ok (.iload_n 1, 1) := by decide +kernel
theorem dX11_over_32 : decode cX11_over 32 = .ok (.iload_n 2, 1) := by decide +kernel
theorem dX11_over_33 : decode cX11_over 33 = .ok (.invokevirtual 230, 3) := by decide +kernel
theorem dX11_over_36 : decode cX11_over 36 = .ok (.ifCond .eq 11, 3) := by decide +kernel
theorem dX11_over_39 : decode cX11_over 39 = .ok (.aload_n 0, 1) := by decide +kernel
theorem dX11_over_40 : decode cX11_over 40 = .ok (.getfield 19, 3) := by decide +kernel
theorem dX11_over_43 : decode cX11_over 43 = .ok (.getfield 163, 3) := by decide +kernel
theorem dX11_over_46 : decode cX11_over 46 = .ok (.ireturn, 1) := by decide +kernel
theorem dX11_over_47 : decode cX11_over 47 = .ok (.aload_n 0, 1) := by decide +kernel
theorem dX11_over_48 : decode cX11_over 48 = .ok (.getfield 45, 3) := by decide +kernel
theorem dX11_over_51 : decode cX11_over 51 = .ok (.getfield 166, 3) := by decide +kernel
theorem dX11_over_54 : decode cX11_over 54 = .ok (.aload_n 0, 1) := by decide +kernel
theorem dX11_over_55 : decode cX11_over 55 = .ok (.getfield 12, 3) := by decide +kernel
theorem dX11_over_58 : decode cX11_over 58 = .ok (.aload_n 0, 1) := by decide +kernel
theorem dX11_over_59 : decode cX11_over 59 = .ok (.getfield 19, 3) := by decide +kernel
theorem dX11_over_62 : decode cX11_over 62 = .ok (.getfield 163, 3) := by decide +kernel
theorem dX11_over_65 : decode cX11_over 65 = .ok (.invokevirtual 170, 3) := by decide +kernel
theorem dX11_over_68 : decode cX11_over 68 = .ok (.aload_n 0, 1) := by decide +kernel
theorem dX11_over_69 : decode cX11_over 69 = .ok (.invokevirtual 233, 3) := by decide +kernel
theorem dX11_over_72 : decode cX11_over 72 = .ok (.aload_n 0, 1) := by decide +kernel
theorem dX11_over_73 : decode cX11_over 73 = .ok (.getfield 45, 3) := by decide +kernel
theorem dX11_over_76 : decode cX11_over 76 = .ok (.iload_n 1, 1) := by decide +kernel
theorem dX11_over_77 : decode cX11_over 77 = .ok (.iload_n 2, 1) := by decide +kernel
theorem dX11_over_78 : decode cX11_over 78 = .ok (.invokevirtual 236, 3) := by decide +kernel
theorem dX11_over_81 : decode cX11_over 81 = .ok (.aload_n 0, 1) := by decide +kernel
theorem dX11_over_82 : decode cX11_over 82 = .ok (.getfield 45, 3) := by decide +kernel
theorem dX11_over_85 : decode cX11_over 85 = .ok (.sipush 167, 3) := by decide +kernel
theorem dX11_over_88 : decode cX11_over 88 = .ok (.invokevirtual 183, 3) := by decide +kernel
theorem dX11_over_91 : decode cX11_over 91 = .ok (.aload_n 0, 1) := by decide +kernel
theorem dX11_over_92 : decode cX11_over 92 = .ok (.getfield 45, 3) := by decide +kernel
theorem dX11_over_95 : decode cX11_over 95 = .ok (.getfield 240, 3) := by decide +kernel
theorem dX11_over_98 : decode cX11_over 98 = .ok (.ireturn, 1) := by decide +kernel
theorem dX11_back_0 : decode cX11_back 0 = .ok (.aload_n 0, 1) := by decide +kernel
theorem dX11_back_1 : decode cX11_back 1 = .ok (.getfield 12, 3) := by decide +kernel
theorem dX11_back_4 : decode cX11_back 4 = .ok (.getfield 79, 3) := by decide +kernel
theorem dX11_back_7 : decode cX11_back 7 = .ok (.iload_n 1, 1) := by decide +kernel
theorem dX11_back_8 : decode cX11_back 8 = .ok (.invokevirtual 89, 3) := by decide +kernel
theorem dX11_back_11 : decode cX11_back 11 = .ok (.ifCond .ne 5, 3) := by decide +kernel
theorem dX11_back_14 : decode cX11_back 14 = .ok (.iconst (-1), 1) := by decide +kernel
theorem dX11_back_15 : decode cX11_back 15 = .ok (.ireturn, 1) := by decide +kernel
theorem dX11_back_16 : decode cX11_back 16 = .ok (.aload_n 0, 1) := by decide +kernel
theorem dX11_back_17 : decode cX11_back 17 = .ok (.getfield 45, 3) := by decide +kernel
theorem dX11_back_20 : decode cX11_back 20 = .ok (.getfield 166, 3) := by decide +kernel
theorem dX11_back_23 : decode cX11_back 23 = .ok (.aload_n 0, 1) := by decide +kernel
theorem dX11_back_24 : decode cX11_back 24 = .ok (.getfield 12, 3) := by decide +kernel
theorem dX11_back_27 : decode cX11_back 27 = .ok (.aload_n 0, 1) := by decide +kernel
theorem dX11_back_28 : decode cX11_back 28 = .ok (.getfield 19, 3) := by decide +kernel
theorem dX11_back_31 : decode cX11_back 31 = .ok (.getfield 163, 3) := by decide +kernel
theorem dX11_back_34 : decode cX11_back 34 = .ok (.invokevirtual 170, 3) := by decide +kernel
theorem dX11_back_37 : decode cX11_back 37 = .ok (.aload_n 0, 1) := by decide +kernel
theorem dX11_back_38 : decode cX11_back 38 = .ok (.invokevirtual 233, 3) := by decide +kernel
theorem dX11_back_41 : decode cX11_back 41 = .ok (.aload_n 0, 1) := by decide +kernel
theorem dX11_back_42 : decode cX11_back 42 = .ok (.getfield 45, 3) := by decide +kernel
theorem dX11_back_45 : decode cX11_back 45 = .ok (.sipush 167, 3) := by decide +kernel
theorem dX11_back_48 : decode cX11_back 48 = .ok (.invokevirtual 183, 3) := by decide +kernel
theorem dX11_back_51 : decode cX11_back 51 = .ok (.aload_n 0, 1) := by decide +kernel
theorem dX11_back_52 : decode cX11_back 52 = .ok (.getfield 37, 3) := by decide +kernel
theorem dX11_back_55 : decode cX11_back 55 = .ok (.getfield 198, 3) := by decide +kernel
theorem dX11_back_58 : decode cX11_back 58 = .ok (.iload_n 1, 1) := by decide +kernel
theorem dX11_back_59 : decode cX11_back 59 = .ok (.iaload, 1) := by decide +kernel
theorem dX11_back_60 : decode cX11_back 60 = .ok (.ireturn, 1) := by decide +kernel
theorem dX11_gathers_0 : decode cX11_gathers 0 = .ok (.aload_n 0, 1) := by decide +kernel
theorem dX11_gathers_1 : decode cX11_gathers 1 = .ok (.getfield 12, 3) := by decide +kernel
theorem dX11_gathers_4 : decode cX11_gathers 4 = .ok (.iload_n 1, 1) := by decide +kernel
theorem dX11_gathers_5 : decode cX11_gathers 5 = .ok (.invokevirtual 72, 3) := by decide +kernel
theorem dX11_gathers_8 : decode cX11_gathers 8 = .ok (.ifCond .eq 20, 3) := by decide +kernel
theorem dX11_gathers_11 : decode cX11_gathers 11 = .ok (.aload_n 0, 1) := by decide +kernel
theorem dX11_gathers_12 : decode cX11_gathers 12 = .ok (.iload_n 2, 1) := by decide +kernel
theorem dX11_gathers_13 : decode cX11_gathers 13 = .ok (.invokevirtual 76, 3) := by decide +kernel
theorem dX11_gathers_16 : decode cX11_gathers 16 = .ok (.ifCond .eq 12, 3) := by decide +kernel
theorem dX11_gathers_19 : decode cX11_gathers 19 = .ok (.iload_n 3, 1) := by decide +kernel
theorem dX11_gathers_20 : decode cX11_gathers 20 = .ok (.ifCond .lt 8, 3) := by decide +kernel
theorem dX11_gathers_23 : decode cX11_gathers 23 = .ok (.iload_n 3, 1) := by decide +kernel
theorem dX11_gathers_24 : decode cX11_gathers 24 = .ok (.iconst 1, 1) := by decide +kernel
theorem dX11_gathers_25 : decode cX11_gathers 25 = .ok (.if_icmp .le 5, 3) := by decide +kernel
theorem dX11_gathers_28 : decode cX11_gathers 28 = .ok (.iconst (-1), 1) := by decide +kernel
theorem dX11_gathers_29 : decode cX11_gathers 29 = .ok (.ireturn, 1) := by decide +kernel
theorem dX11_gathers_30 : decode cX11_gathers 30 = .ok (.aload_n 0, 1) := by decide +kernel
theorem dX11_gathers_31 : decode cX11_gathers 31 = .ok (.getfield 45, 3) := by decide +kernel
theorem dX11_gathers_34 : decode cX11_gathers 34 = .ok (.getfield 166, 3) := by decide +kernel
theorem dX11_gathers_37 : decode cX11_gathers 37 = .ok (.aload_n 0, 1) := by decide +kernel
theorem dX11_gathers_38 : decode cX11_gathers 38 = .ok (.getfield 12, 3) := by decide +kernel
theorem dX11_gathers_41 : decode cX11_gathers 41 = .ok (.aload_n 0, 1) := by decide +kernel
theorem dX11_gathers_42 : decode cX11_gathers 42 = .ok (.getfield 19, 3) := by decide +kernel
theorem dX11_gathers_45 : decode cX11_gathers 45 = .ok (.getfield 163, 3) := by decide +kernel
theorem dX11_gathers_48 : decode cX11_gathers 48 = .ok (.invokevirtual 170, 3) := by decide +kernel
theorem dX11_gathers_51 : decode cX11_gathers 51 = .ok (.aload_n 0, 1) := by decide +kernel
theorem dX11_gathers_52 : decode cX11_gathers 52 = .ok (.invokevirtual 233, 3) := by decide +kernel
theorem dX11_gathers_55 : decode cX11_gathers 55 = .ok (.aload_n 0, 1) := by decide +kernel
theorem dX11_gathers_56 : decode cX11_gathers 56 = .ok (.getfield 45, 3) := by decide +kernel
theorem dX11_gathers_59 : decode cX11_gathers 59 = .ok (.iload_n 2, 1) := by decide +kernel
theorem dX11_gathers_60 : decode cX11_gathers 60 = .ok (.invokevirtual 183, 3) := by decide +kernel
theorem dX11_gathers_63 : decode cX11_gathers 63 = .ok (.iload_n 3, 1) := by decide +kernel
theorem dX11_gathers_64 : decode cX11_gathers 64 = .ok (.ifCond .ne 15, 3) := by decide +kernel
theorem dX11_gathers_67 : decode cX11_gathers 67 = .ok (.aload_n 0, 1) := by decide +kernel
theorem dX11_gathers_68 : decode cX11_gathers 68 = .ok (.getfield 37, 3) := by decide +kernel
theorem dX11_gathers_71 : decode cX11_gathers 71 = .ok (.getfield 217, 3) := by decide +kernel
theorem dX11_gathers_74 : decode cX11_gathers 74 = .ok (.iload_n 1, 1) := by decide +kernel
theorem dX11_gathers_75 : decode cX11_gathers 75 = .ok (.iaload, 1) := by decide +kernel
theorem dX11_gathers_76 : decode cX11_gathers 76 = .ok (.goto 18, 3) := by decide +kernel
theorem dX11_gathers_79 : decode cX11_gathers 79 = .ok (.aload_n 0, 1) := by decide +kernel
theorem dX11_gathers_80 : decode cX11_gathers 80 = .ok (.getfield 37, 3) := by decide +kernel
theorem dX11_gathers_83 : decode cX11_gathers 83 = .ok (.iload_n 1, 1) := by decide +kernel
theorem dX11_gathers_84 : decode cX11_gathers 84 = .ok (.aload_n 0, 1) := by decide +kernel
theorem dX11_gathers_85 : decode cX11_gathers 85 = .ok (.getfield 12, 3) := by decide +kernel
theorem dX11_gathers_88 : decode cX11_gathers 88 = .ok (.getfield 79, 3) := by decide +kernel
theorem dX11_gathers_91 : decode cX11_gathers 91 = .ok (.invokevirtual 243, 3) := by decide +kernel
theorem dX11_gathers_94 : decode cX11_gathers 94 = .ok (.ireturn, 1) := by decide +kernel
theorem dX11_best_0 : decode cX11_best 0 = .ok (.aload_n 0, 1) := by decide +kernel
theorem dX11_best_1 : decode cX11_best 1 = .ok (.iload_n 1, 1) := by decide +kernel
theorem dX11_best_2 : decode cX11_best 2 = .ok (.iload_n 2, 1) := by decide +kernel
theorem dX11_best_3 : decode cX11_best 3 = .ok (.iload_n 3, 1) := by decide +kernel
theorem dX11_best_4 : decode cX11_best 4 = .ok (.invokevirtual 99, 3) := by decide +kernel
theorem dX11_best_7 : decode cX11_best 7 = .ok (.ifCond .eq 25, 3) := by decide +kernel
theorem dX11_best_10 : decode cX11_best 10 = .ok (.aload_n 0, 1) := by decide +kernel
theorem dX11_best_11 : decode cX11_best 11 = .ok (.iload 4, 2) := by decide +kernel
theorem dX11_best_13 : decode cX11_best 13 = .ok (.iload 5, 2) := by decide +kernel
theorem dX11_best_15 : decode cX11_best 15 = .ok (.invokevirtual 247, 3) := by decide +kernel
theorem dX11_best_18 : decode cX11_best 18 = .ok (.ifCond .eq 14, 3) := by decide +kernel
theorem dX11_best_21 : decode cX11_best 21 = .ok (.iload 6, 2) := by decide +kernel
theorem dX11_best_23 : decode cX11_best 23 = .ok (.ifCond .lt 9, 3) := by decide +kernel
theorem dX11_best_26 : decode cX11_best 26 = .ok (.iload 6, 2) := by decide +kernel
theorem dX11_best_28 : decode cX11_best 28 = .ok (.iconst 1, 1) := by decide +kernel
theorem dX11_best_29 : decode cX11_best 29 = .ok (.if_icmp .le 5, 3) := by decide +kernel
theorem dX11_best_32 : decode cX11_best 32 = .ok (.iconst (-1), 1) := by decide +kernel
theorem dX11_best_33 : decode cX11_best 33 = .ok (.ireturn, 1) := by decide +kernel
theorem dX11_best_34 : decode cX11_best 34 = .ok (.aload_n 0, 1) := by decide +kernel
theorem dX11_best_35 : decode cX11_best 35 = .ok (.getfield 45, 3) := by decide +kernel
theorem dX11_best_38 : decode cX11_best 38 = .ok (.getfield 166, 3) := by decide +kernel
theorem dX11_best_41 : decode cX11_best 41 = .ok (.aload_n 0, 1) := by decide +kernel
theorem dX11_best_42 : decode cX11_best 42 = .ok (.getfield 12, 3) := by decide +kernel
theorem dX11_best_45 : decode cX11_best 45 = .ok (.aload_n 0, 1) := by decide +kernel
theorem dX11_best_46 : decode cX11_best 46 = .ok (.getfield 19, 3) := by decide +kernel
theorem dX11_best_49 : decode cX11_best 49 = .ok (.getfield 163, 3) := by decide +kernel
theorem dX11_best_52 : decode cX11_best 52 = .ok (.invokevirtual 170, 3) := by decide +kernel
theorem dX11_best_55 : decode cX11_best 55 = .ok (.aload_n 0, 1) := by decide +kernel
theorem dX11_best_56 : decode cX11_best 56 = .ok (.invokevirtual 233, 3) := by decide +kernel
theorem dX11_best_59 : decode cX11_best 59 = .ok (.aload_n 0, 1) := by decide +kernel
theorem dX11_best_60 : decode cX11_best 60 = .ok (.getfield 45, 3) := by decide +kernel
theorem dX11_best_63 : decode cX11_best 63 = .ok (.iload 4, 2) := by decide +kernel
theorem dX11_best_65 : decode cX11_best 65 = .ok (.iconst 1, 1) := by decide +kernel
theorem dX11_best_66 : decode cX11_best 66 = .ok (.isub, 1) := by decide +kernel
theorem dX11_best_67 : decode cX11_best 67 = .ok (.invokevirtual 183, 3) := by decide +kernel
theorem dX11_best_70 : decode cX11_best 70 = .ok (.iconst (-1), 1) := by decide +kernel
theorem dX11_best_71 : decode cX11_best 71 = .ok (.istore 7, 2) := by decide +kernel
theorem dX11_best_73 : decode cX11_best 73 = .ok (.iconst (-1), 1) := by decide +kernel
theorem dX11_best_74 : decode cX11_best 74 = .ok (.istore 8, 2) := by decide +kernel
theorem dX11_best_76 : decode cX11_best 76 = .ok (.iload 4, 2) := by decide +kernel
theorem dX11_best_78 : decode cX11_best 78 = .ok (.istore 9, 2) := by decide +kernel
theorem dX11_best_80 : decode cX11_best 80 = .ok (.iload 9, 2) := by decide +kernel
theorem dX11_best_82 : decode cX11_best 82 = .ok (.iload 5, 2) := by decide +kernel
theorem dX11_best_84 : decode cX11_best 84 = .ok (.if_icmp .gt 55, 3) := by decide +kernel
theorem dX11_best_87 : decode cX11_best 87 = .ok (.aload_n 0, 1) := by decide +kernel
theorem dX11_best_88 : decode cX11_best 88 = .ok (.getfield 45, 3) := by decide +kernel
theorem dX11_best_91 : decode cX11_best 91 = .ok (.iload 9, 2) := by decide +kernel
theorem dX11_best_93 : decode cX11_best 93 = .ok (.invokevirtual 183, 3) := by decide +kernel
theorem dX11_best_96 : decode cX11_best 96 = .ok (.aload_n 0, 1) := by decide +kernel
theorem dX11_best_97 : decode cX11_best 97 = .ok (.getfield 45, 3) := by decide +kernel
theorem dX11_best_100 : decode cX11_best 100 = .ok (.iload_n 1, 1) := by decide +kernel
theorem dX11_best_101 : decode cX11_best 101 = .ok (.iload_n 2, 1) := by decide +kernel
theorem dX11_best_102 : decode cX11_best 102 = .ok (.iadd, 1) := by decide +kernel
theorem dX11_best_103 : decode cX11_best 103 = .ok (.iload_n 3, 1) := by decide +kernel
theorem dX11_best_104 : decode cX11_best 104 = .ok (.iconst 0, 1) := by decide +kernel
theorem dX11_best_105 : decode cX11_best 105 = .ok (.iload 9, 2) := by decide +kernel
theorem dX11_best_107 : decode cX11_best 107 = .ok (.invokevirtual 250, 3) := by decide +kernel
theorem dX11_best_110 : decode cX11_best 110 = .ok (.istore 10, 2) := by decide +kernel
theorem dX11_best_112 : decode cX11_best 112 = .ok (.iload 8, 2) := by decide +kernel
theorem dX11_best_114 : decode cX11_best 114 = .ok (.iconst (-1), 1) := by decide +kernel
theorem dX11_best_115 : decode cX11_best 115 = .ok (.if_icmp .eq 10, 3) := by decide +kernel
theorem dX11_best_118 : decode cX11_best 118 = .ok (.iload 10, 2) := by decide +kernel
theorem dX11_best_120 : decode cX11_best 120 = .ok (.iload 8, 2) := by decide +kernel
theorem dX11_best_122 : decode cX11_best 122 = .ok (.if_icmp .ge 11, 3) := by decide +kernel
theorem dX11_best_125 : decode cX11_best 125 = .ok (.iload 10, 2) := by decide +kernel
theorem dX11_best_127 : decode cX11_best 127 = .ok (.istore 8, 2) := by decide +kernel
theorem dX11_best_129 : decode cX11_best 129 = .ok (.iload 9, 2) := by decide +kernel
theorem dX11_best_131 : decode cX11_best 131 = .ok (.istore 7, 2) := by decide +kernel
theorem dX11_best_133 : decode cX11_best 133 = .ok (.iinc 9 1, 3) := by decide +kernel
theorem dX11_best_136 : decode cX11_best 136 = .ok (.goto (-56), 3) := by decide +kernel
theorem dX11_best_139 : decode cX11_best 139 = .ok (.iload 6, 2) := by decide +kernel
theorem dX11_best_141 : decode cX11_best 141 = .ok (.ifCond .ne 8, 3) := by decide +kernel
theorem dX11_best_144 : decode cX11_best 144 = .ok (.iload 7, 2) := by decide +kernel
theorem dX11_best_146 : decode cX11_best 146 = .ok (.goto 5, 3) := by decide +kernel
theorem dX11_best_149 : decode cX11_best 149 = .ok (.iload 8, 2) := by decide +kernel
theorem dX11_best_151 : decode cX11_best 151 = .ok (.ireturn, 1) := by decide +kernel
theorem dX11_send_0 : decode cX11_send 0 = .ok (.iload_n 1, 1) := by decide +kernel
theorem dX11_send_1 : decode cX11_send 1 = .ok (.iconst 1, 1) := by decide +kernel
theorem dX11_send_2 : decode cX11_send 2 = .ok (.if_icmp .lt 36, 3) := by decide +kernel
theorem dX11_send_5 : decode cX11_send 5 = .ok (.iload_n 1, 1) := by decide +kernel
theorem dX11_send_6 : decode cX11_send 6 = .ok (.bipush 99, 2) := by decide +kernel
theorem dX11_send_8 : decode cX11_send 8 = .ok (.if_icmp .gt 30, 3) := by decide +kernel
theorem dX11_send_11 : decode cX11_send 11 = .ok (.aload_n 0, 1) := by decide +kernel
theorem dX11_send_12 : decode cX11_send 12 = .ok (.getfield 12, 3) := by decide +kernel
theorem dX11_send_15 : decode cX11_send 15 = .ok (.iload_n 2, 1) := by decide +kernel
theorem dX11_send_16 : decode cX11_send 16 = .ok (.invokevirtual 72, 3) := by decide +kernel
theorem dX11_send_19 : decode cX11_send 19 = .ok (.ifCond .eq 19, 3) := by decide +kernel
theorem dX11_send_22 : decode cX11_send 22 = .ok (.aload_n 0, 1) := by decide +kernel
theorem dX11_send_23 : decode cX11_send 23 = .ok (.getfield 12, 3) := by decide +kernel
theorem dX11_send_26 : decode cX11_send 26 = .ok (.iload_n 3, 1) := by decide +kernel
theorem dX11_send_27 : decode cX11_send 27 = .ok (.invokevirtual 72, 3) := by decide +kernel
theorem dX11_send_30 : decode cX11_send 30 = .ok (.ifCond .eq 8, 3) := by decide +kernel
theorem dX11_send_33 : decode cX11_send 33 = .ok (.iload_n 2, 1) := by decide +kernel
theorem dX11_send_34 : decode cX11_send 34 = .ok (.iload_n 3, 1) := by decide +kernel
theorem dX11_send_35 : decode cX11_send 35 = .ok (.if_icmp .ne 5, 3) := by decide +kernel
theorem dX11_send_38 : decode cX11_send 38 = .ok (.iconst (-1), 1) := by decide +kernel
theorem dX11_send_39 : decode cX11_send 39 = .ok (.ireturn, 1) := by decide +kernel
theorem dX11_send_40 : decode cX11_send 40 = .ok (.aload_n 0, 1) := by decide +kernel
theorem dX11_send_41 : decode cX11_send 41 = .ok (.iload 4, 2) := by decide +kernel
theorem dX11_send_43 : decode cX11_send 43 = .ok (.iload 5, 2) := by decide +kernel
theorem dX11_send_45 : decode cX11_send 45 = .ok (.invokevirtual 247, 3) := by decide +kernel
theorem dX11_send_48 : decode cX11_send 48 = .ok (.ifCond .eq 14, 3) := by decide +kernel
theorem dX11_send_51 : decode cX11_send 51 = .ok (.iload 6, 2) := by decide +kernel
theorem dX11_send_53 : decode cX11_send 53 = .ok (.ifCond .lt 9, 3) := by decide +kernel
theorem dX11_send_56 : decode cX11_send 56 = .ok (.iload 6, 2) := by decide +kernel
theorem dX11_send_58 : decode cX11_send 58 = .ok (.iconst 1, 1) := by decide +kernel
theorem dX11_send_59 : decode cX11_send 59 = .ok (.if_icmp .le 5, 3) := by decide +kernel
theorem dX11_send_62 : decode cX11_send 62 = .ok (.iconst (-1), 1) := by decide +kernel
theorem dX11_send_63 : decode cX11_send 63 = .ok (.ireturn, 1) := by decide +kernel
theorem dX11_send_64 : decode cX11_send 64 = .ok (.aload_n 0, 1) := by decide +kernel
theorem dX11_send_65 : decode cX11_send 65 = .ok (.getfield 45, 3) := by decide +kernel
theorem dX11_send_68 : decode cX11_send 68 = .ok (.getfield 166, 3) := by decide +kernel
theorem dX11_send_71 : decode cX11_send 71 = .ok (.aload_n 0, 1) := by decide +kernel
theorem dX11_send_72 : decode cX11_send 72 = .ok (.getfield 12, 3) := by decide +kernel
theorem dX11_send_75 : decode cX11_send 75 = .ok (.aload_n 0, 1) := by decide +kernel
theorem dX11_send_76 : decode cX11_send 76 = .ok (.getfield 19, 3) := by decide +kernel
theorem dX11_send_79 : decode cX11_send 79 = .ok (.getfield 163, 3) := by decide +kernel
theorem dX11_send_82 : decode cX11_send 82 = .ok (.invokevirtual 170, 3) := by decide +kernel
theorem dX11_send_85 : decode cX11_send 85 = .ok (.aload_n 0, 1) := by decide +kernel
theorem dX11_send_86 : decode cX11_send 86 = .ok (.getfield 12, 3) := by decide +kernel
theorem dX11_send_89 : decode cX11_send 89 = .ok (.getfield 79, 3) := by decide +kernel
theorem dX11_send_92 : decode cX11_send 92 = .ok (.iload_n 1, 1) := by decide +kernel
theorem dX11_send_93 : decode cX11_send 93 = .ok (.iload_n 2, 1) := by decide +kernel
theorem dX11_send_94 : decode cX11_send 94 = .ok (.iload 4, 2) := by decide +kernel
theorem dX11_send_96 : decode cX11_send 96 = .ok (.invokevirtual 83, 3) := by decide +kernel
theorem dX11_send_99 : decode cX11_send 99 = .ok (.istore 7, 2) := by decide +kernel
theorem dX11_send_101 : decode cX11_send 101 = .ok (.iload 7, 2) := by decide +kernel
theorem dX11_send_103 : decode cX11_send 103 = .ok (.iconst (-1), 1) := by decide +kernel
theorem dX11_send_104 : decode cX11_send 104 = .ok (.if_icmp .ne 5, 3) := by decide +kernel
theorem dX11_send_107 : decode cX11_send 107 = .ok (.iconst (-1), 1) := by decide +kernel
theorem dX11_send_108 : decode cX11_send 108 = .ok (.ireturn, 1) := by decide +kernel
theorem dX11_send_109 : decode cX11_send 109 = .ok (.iconst (-1), 1) := by decide +kernel
theorem dX11_send_110 : decode cX11_send 110 = .ok (.istore 8, 2) := by decide +kernel
theorem dX11_send_112 : decode cX11_send 112 = .ok (.iconst (-1), 1) := by decide +kernel
theorem dX11_send_113 : decode cX11_send 113 = .ok (.istore 9, 2) := by decide +kernel
theorem dX11_send_115 : decode cX11_send 115 = .ok (.iload 5, 2) := by decide +kernel
theorem dX11_send_117 : decode cX11_send 117 = .ok (.istore 10, 2) := by decide +kernel
theorem dX11_send_119 : decode cX11_send 119 = .ok (.iload 4, 2) := by decide +kernel
theorem dX11_send_121 : decode cX11_send 121 = .ok (.istore 11, 2) := by decide +kernel
theorem dX11_send_123 : decode cX11_send 123 = .ok (.iload 11, 2) := by decide +kernel
theorem dX11_send_125 : decode cX11_send 125 = .ok (.iload 10, 2) := by decide +kernel
theorem dX11_send_127 : decode cX11_send 127 = .ok (.if_icmp .gt 57, 3) := by decide +kernel
theorem dX11_send_130 : decode cX11_send 130 = .ok (.aload_n 0, 1) := by decide +kernel
theorem dX11_send_131 : decode cX11_send 131 = .ok (.iload 7, 2) := by decide +kernel
theorem dX11_send_133 : decode cX11_send 133 = .ok (.iload_n 3, 1) := by decide +kernel
theorem dX11_send_134 : decode cX11_send 134 = .ok (.iload 11, 2) := by decide +kernel
theorem dX11_send_136 : decode cX11_send 136 = .ok (.iload 9, 2) := by decide +kernel
theorem dX11_send_138 : decode cX11_send 138 = .ok (.iconst (-1), 1) := by decide +kernel
theorem dX11_send_139 : decode cX11_send 139 = .ok (.if_icmp .ne 9, 3) := by decide +kernel
theorem dX11_send_142 : decode cX11_send 142 = .ok (.sipush 167, 3) := by decide +kernel
theorem dX11_send_145 : decode cX11_send 145 = .ok (.goto 5, 3) := by decide +kernel
theorem dX11_send_148 : decode cX11_send 148 = .ok (.iload 9, 2) := by decide +kernel
theorem dX11_send_150 : decode cX11_send 150 = .ok (.invokevirtual 254, 3) := by decide +kernel
theorem dX11_send_153 : decode cX11_send 153 = .ok (.istore 12, 2) := by decide +kernel
theorem dX11_send_155 : decode cX11_send 155 = .ok (.iload 12, 2) := by decide +kernel
theorem dX11_send_157 : decode cX11_send 157 = .ok (.iconst (-1), 1) := by decide +kernel
theorem dX11_send_158 : decode cX11_send 158 = .ok (.if_icmp .eq 20, 3) := by decide +kernel
theorem dX11_send_161 : decode cX11_send 161 = .ok (.iload 12, 2) := by decide +kernel
theorem dX11_send_163 : decode cX11_send 163 = .ok (.istore 9, 2) := by decide +kernel
theorem dX11_send_165 : decode cX11_send 165 = .ok (.iload 11, 2) := by decide +kernel
theorem dX11_send_167 : decode cX11_send 167 = .ok (.istore 8, 2) := by decide +kernel
theorem dX11_send_169 : decode cX11_send 169 = .ok (.iload 5, 2) := by decide +kernel
theorem dX11_send_171 : decode cX11_send 171 = .ok (.iload 9, 2) := by decide +kernel
theorem dX11_send_173 : decode cX11_send 173 = .ok (.invokestatic 257, 3) := by decide +kernel
theorem dX11_send_176 : decode cX11_send 176 = .ok (.istore 10, 2) := by decide +kernel
theorem dX11_send_178 : decode cX11_send 178 = .ok (.iinc 11 1, 3) := by decide +kernel
theorem dX11_send_181 : decode cX11_send 181 = .ok (.goto (-58), 3) := by decide +kernel
theorem dX11_send_184 : decode cX11_send 184 = .ok (.aload_n 0, 1) := by decide +kernel
theorem dX11_send_185 : decode cX11_send 185 = .ok (.getfield 12, 3) := by decide +kernel
theorem dX11_send_188 : decode cX11_send 188 = .ok (.getfield 79, 3) := by decide +kernel
theorem dX11_send_191 : decode cX11_send 191 = .ok (.invokevirtual 262, 3) := by decide +kernel
theorem dX11_send_194 : decode cX11_send 194 = .ok (.iload 6, 2) := by decide +kernel
theorem dX11_send_196 : decode cX11_send 196 = .ok (.ifCond .ne 8, 3) := by decide +kernel
theorem dX11_send_199 : decode cX11_send 199 = .ok (.iload 8, 2) := by decide +kernel
theorem dX11_send_201 : decode cX11_send 201 = .ok (.goto 5, 3) := by decide +kernel
theorem dX11_send_204 : decode cX11_send 204 = .ok (.iload 9, 2) := by decide +kernel
theorem dX11_send_206 : decode cX11_send 206 = .ok (.ireturn, 1) := by decide +kernel
theorem dX11_offer_0 : decode cX11_offer 0 = .ok (.aload_n 0, 1) := by decide +kernel
theorem dX11_offer_1 : decode cX11_offer 1 = .ok (.iload_n 1, 1) := by decide +kernel
theorem dX11_offer_2 : decode cX11_offer 2 = .ok (.invokevirtual 76, 3) := by decide +kernel
theorem dX11_offer_5 : decode cX11_offer 5 = .ok (.ifCond .eq 27, 3) := by decide +kernel
theorem dX11_offer_8 : decode cX11_offer 8 = .ok (.aload_n 0, 1) := by decide +kernel
theorem dX11_offer_9 : decode cX11_offer 9 = .ok (.iload_n 2, 1) := by decide +kernel
theorem dX11_offer_10 : decode cX11_offer 10 = .ok (.iload_n 3, 1) := by decide +kernel
theorem dX11_offer_11 : decode cX11_offer 11 = .ok (.iload 4, 2) := by decide +kernel
theorem dX11_offer_13 : decode cX11_offer 13 = .ok (.invokevirtual 99, 3) := by decide +kernel
theorem dX11_offer_16 : decode cX11_offer 16 = .ok (.ifCond .eq 16, 3) := by decide +kernel
theorem dX11_offer_19 : decode cX11_offer 19 = .ok (.iload 5, 2) := by decide +kernel
theorem dX11_offer_21 : decode cX11_offer 21 = .ok (.ifCond .lt 11, 3) := by decide +kernel
theorem dX11_offer_24 : decode cX11_offer 24 = .ok (.iload 5, 2) := by decide +kernel
theorem dX11_offer_26 : decode cX11_offer 26 = .ok (.sipush 999, 3) := by decide +kernel
theorem dX11_offer_29 : decode cX11_offer 29 = .ok (.if_icmp .le 5, 3) := by decide +kernel
theorem dX11_offer_32 : decode cX11_offer 32 = .ok (.iconst (-1), 1) := by decide +kernel
theorem dX11_offer_33 : decode cX11_offer 33 = .ok (.ireturn, 1) := by decide +kernel
theorem dX11_offer_34 : decode cX11_offer 34 = .ok (.aload_n 0, 1) := by decide +kernel
theorem dX11_offer_35 : decode cX11_offer 35 = .ok (.getfield 12, 3) := by decide +kernel
theorem dX11_offer_38 : decode cX11_offer 38 = .ok (.getfield 265, 3) := by decide +kernel
theorem dX11_offer_41 : decode cX11_offer 41 = .ok (.iload_n 1, 1) := by decide +kernel
theorem dX11_offer_42 : decode cX11_offer 42 = .ok (.iload_n 2, 1) := by decide +kernel
theorem dX11_offer_43 : decode cX11_offer 43 = .ok (.iload_n 3, 1) := by decide +kernel
theorem dX11_offer_44 : decode cX11_offer 44 = .ok (.iload 4, 2) := by decide +kernel
theorem dX11_offer_46 : decode cX11_offer 46 = .ok (.iload 5, 2) := by decide +kernel
theorem dX11_offer_48 : decode cX11_offer 48 = .ok (.invokevirtual 269, 3) := by decide +kernel
theorem dX11_offer_51 : decode cX11_offer 51 = .ok (.ireturn, 1) := by decide +kernel
theorem dX11_fewest_0 : decode cX11_fewest 0 = .ok (.iload_n 1, 1) := by decide +kernel
theorem dX11_fewest_1 : decode cX11_fewest 1 = .ok (.ifCond .eq 36, 3) := by decide +kernel
theorem dX11_fewest_4 : decode cX11_fewest 4 = .ok (.aload_n 0, 1) := by decide +kernel
theorem dX11_fewest_5 : decode cX11_fewest 5 = .ok (.getfield 12, 3) := by decide +kernel
theorem dX11_fewest_8 : decode cX11_fewest 8 = .ok (.getfield 79, 3) := by decide +kernel
theorem dX11_fewest_11 : decode cX11_fewest 11 = .ok (.iload_n 1, 1) := by decide +kernel
theorem dX11_fewest_12 : decode cX11_fewest 12 = .ok (.invokevirtual 273, 3) := by decide +kernel
theorem dX11_fewest_15 : decode cX11_fewest 15 = .ok (.ifCond .eq 22, 3) := by decide +kernel
theorem dX11_fewest_18 : decode cX11_fewest 18 = .ok (.aload_n 0, 1) := by decide +kernel
theorem dX11_fewest_19 : decode cX11_fewest 19 = .ok (.getfield 12, 3) := by decide +kernel
theorem dX11_fewest_22 : decode cX11_fewest 22 = .ok (.iload_n 2, 1) := by decide +kernel
theorem dX11_fewest_23 : decode cX11_fewest 23 = .ok (.invokevirtual 72, 3) := by decide +kernel
theorem dX11_fewest_26 : decode cX11_fewest 26 = .ok (.ifCond .eq 11, 3) := by decide +kernel
theorem dX11_fewest_29 : decode cX11_fewest 29 = .ok (.aload_n 0, 1) := by decide +kernel
theorem dX11_fewest_30 : decode cX11_fewest 30 = .ok (.iload_n 3, 1) := by decide +kernel
theorem dX11_fewest_31 : decode cX11_fewest 31 = .ok (.invokevirtual 76, 3) := by decide +kernel
theorem dX11_fewest_34 : decode cX11_fewest 34 = .ok (.ifCond .ne 5, 3) := by decide +kernel
theorem dX11_fewest_37 : decode cX11_fewest 37 = .ok (.iconst (-1), 1) := by decide +kernel
theorem dX11_fewest_38 : decode cX11_fewest 38 = .ok (.ireturn, 1) := by decide +kernel
theorem dX11_fewest_39 : decode cX11_fewest 39 = .ok (.iload 4, 2) := by decide +kernel
theorem dX11_fewest_41 : decode cX11_fewest 41 = .ok (.ifCond .lt 9, 3) := by decide +kernel
theorem dX11_fewest_44 : decode cX11_fewest 44 = .ok (.iload 4, 2) := by decide +kernel
theorem dX11_fewest_46 : decode cX11_fewest 46 = .ok (.iconst 1, 1) := by decide +kernel
theorem dX11_fewest_47 : decode cX11_fewest 47 = .ok (.if_icmp .le 5, 3) := by decide +kernel
theorem dX11_fewest_50 : decode cX11_fewest 50 = .ok (.iconst (-1), 1) := by decide +kernel
theorem dX11_fewest_51 : decode cX11_fewest 51 = .ok (.ireturn, 1) := by decide +kernel
theorem dX11_fewest_52 : decode cX11_fewest 52 = .ok (.aload_n 0, 1) := by decide +kernel
theorem dX11_fewest_53 : decode cX11_fewest 53 = .ok (.getfield 45, 3) := by decide +kernel
theorem dX11_fewest_56 : decode cX11_fewest 56 = .ok (.getfield 166, 3) := by decide +kernel
theorem dX11_fewest_59 : decode cX11_fewest 59 = .ok (.aload_n 0, 1) := by decide +kernel
theorem dX11_fewest_60 : decode cX11_fewest 60 = .ok (.getfield 12, 3) := by decide +kernel
theorem dX11_fewest_63 : decode cX11_fewest 63 = .ok (.aload_n 0, 1) := by decide +kernel
theorem dX11_fewest_64 : decode cX11_fewest 64 = .ok (.getfield 19, 3) := by decide +kernel
theorem dX11_fewest_67 : decode cX11_fewest 67 = .ok (.getfield 163, 3) := by decide +kernel
theorem dX11_fewest_70 : decode cX11_fewest 70 = .ok (.invokevirtual 170, 3) := by decide +kernel
theorem dX11_fewest_73 : decode cX11_fewest 73 = .ok (.iconst (-1), 1) := by decide +kernel
theorem dX11_fewest_74 : decode cX11_fewest 74 = .ok (.istore 5, 2) := by decide +kernel
theorem dX11_fewest_76 : decode cX11_fewest 76 = .ok (.iconst 0, 1) := by decide +kernel
theorem dX11_fewest_77 : decode cX11_fewest 77 = .ok (.istore 6, 2) := by decide +kernel
theorem dX11_fewest_79 : decode cX11_fewest 79 = .ok (.iconst 0, 1) := by decide +kernel
theorem dX11_fewest_80 : decode cX11_fewest 80 = .ok (.istore 7, 2) := by decide +kernel
theorem dX11_fewest_82 : decode cX11_fewest 82 = .ok (.iconst 1, 1) := by decide +kernel
theorem dX11_fewest_83 : decode cX11_fewest 83 = .ok (.aload_n 0, 1) := by decide +kernel
theorem dX11_fewest_84 : decode cX11_fewest 84 = .ok (.getfield 12, 3) := by decide +kernel
theorem dX11_fewest_87 : decode cX11_fewest 87 = .ok (.getfield 265, 3) := by decide +kernel
theorem dX11_fewest_90 : decode cX11_fewest 90 = .ok (.getfield 276, 3) := by decide +kernel
theorem dX11_fewest_93 : decode cX11_fewest 93 = .ok (.ishl, 1) := by decide +kernel
theorem dX11_fewest_94 : decode cX11_fewest 94 = .ok (.istore 8, 2) := by decide +kernel
theorem dX11_fewest_96 : decode cX11_fewest 96 = .ok (.iconst 0, 1) := by decide +kernel
theorem dX11_fewest_97 : decode cX11_fewest 97 = .ok (.istore 9, 2) := by decide +kernel
theorem dX11_fewest_99 : decode cX11_fewest 99 = .ok (.iload 9, 2) := by decide +kernel
theorem dX11_fewest_101 : decode cX11_fewest 101 = .ok (.iload 8, 2) := by decide +kernel
theorem dX11_fewest_103 : decode cX11_fewest 103 = .ok (.if_icmp .ge 93, 3) := by decide +kernel
theorem dX11_fewest_106 : decode cX11_fewest 106 = .ok (.iload 9, 2) := by decide +kernel
theorem dX11_fewest_108 : decode cX11_fewest 108 = .ok (.invokestatic 279, 3) := by decide +kernel
theorem dX11_fewest_111 : decode cX11_fewest 111 = .ok (.istore 10, 2) := by decide +kernel
theorem dX11_fewest_113 : decode cX11_fewest 113 = .ok (.aload_n 0, 1) := by decide +kernel
theorem dX11_fewest_114 : decode cX11_fewest 114 = .ok (.getfield 12, 3) := by decide +kernel
theorem dX11_fewest_117 : decode cX11_fewest 117 = .ok (.getfield 265, 3) := by decide +kernel
theorem dX11_fewest_120 : decode cX11_fewest 120 = .ok (.iload 9, 2) := by decide +kernel
theorem dX11_fewest_122 : decode cX11_fewest 122 = .ok (.invokevirtual 285, 3) := by decide +kernel
theorem dX11_fewest_125 : decode cX11_fewest 125 = .ok (.istore 11, 2) := by decide +kernel
theorem dX11_fewest_127 : decode cX11_fewest 127 = .ok (.iload 5, 2) := by decide +kernel
theorem dX11_fewest_129 : decode cX11_fewest 129 = .ok (.iconst (-1), 1) := by decide +kernel
theorem dX11_fewest_130 : decode cX11_fewest 130 = .ok (.if_icmp .eq 24, 3) := by decide +kernel
theorem dX11_fewest_133 : decode cX11_fewest 133 = .ok (.iload 10, 2) := by decide +kernel
theorem dX11_fewest_135 : decode cX11_fewest 135 = .ok (.iload 6, 2) := by decide +kernel
theorem dX11_fewest_137 : decode cX11_fewest 137 = .ok (.if_icmp .lt 17, 3) := by decide +kernel
theorem dX11_fewest_140 : decode cX11_fewest 140 = .ok (.iload 10, 2) := by decide +kernel
theorem dX11_fewest_142 : decode cX11_fewest 142 = .ok (.iload 6, 2) := by decide +kernel
theorem dX11_fewest_144 : decode cX11_fewest 144 = .ok (.if_icmp .ne 14, 3) := by decide +kernel
theorem dX11_fewest_147 : decode cX11_fewest 147 = .ok (.iload 11, 2) := by decide +kernel
theorem dX11_fewest_149 : decode cX11_fewest 149 = .ok (.iload 7, 2) := by decide +kernel
theorem dX11_fewest_151 : decode cX11_fewest 151 = .ok (.if_icmp .ge 7, 3) := by decide +kernel
theorem dX11_fewest_154 : decode cX11_fewest 154 = .ok (.iconst 1, 1) := by decide +kernel
theorem dX11_fewest_155 : decode cX11_fewest 155 = .ok (.goto 4, 3) := by decide +kernel
theorem dX11_fewest_158 : decode cX11_fewest 158 = .ok (.iconst 0, 1) := by decide +kernel
theorem dX11_fewest_159 : decode cX11_fewest 159 = .ok (.istore 12, 2) := by decide +kernel
theorem dX11_fewest_161 : decode cX11_fewest 161 = .ok (.iload 12, 2) := by decide +kernel
theorem dX11_fewest_163 : decode cX11_fewest 163 = .ok (.ifCond .eq 27, 3) := by decide +kernel
theorem dX11_fewest_166 : decode cX11_fewest 166 = .ok (.aload_n 0, 1) := by decide +kernel
theorem dX11_fewest_167 : decode cX11_fewest 167 = .ok (.iload 9, 2) := by decide +kernel
theorem dX11_fewest_169 : decode cX11_fewest 169 = .ok (.iload_n 1, 1) := by decide +kernel
theorem dX11_fewest_170 : decode cX11_fewest 170 = .ok (.iload_n 2, 1) := by decide +kernel
theorem dX11_fewest_171 : decode cX11_fewest 171 = .ok (.iload_n 3, 1) := by decide +kernel
theorem dX11_fewest_172 : decode cX11_fewest 172 = .ok (.invokevirtual 288, 3) := by decide +kernel
theorem dX11_fewest_175 : decode cX11_fewest 175 = .ok (.ifCond .eq 15, 3) := by decide +kernel
theorem dX11_fewest_178 : decode cX11_fewest 178 = .ok (.iload 9, 2) := by decide +kernel
theorem dX11_fewest_180 : decode cX11_fewest 180 = .ok (.istore 5, 2) := by decide +kernel
theorem dX11_fewest_182 : decode cX11_fewest 182 = .ok (.iload 10, 2) := by decide +kernel
theorem dX11_fewest_184 : decode cX11_fewest 184 = .ok (.istore 6, 2) := by decide +kernel
theorem dX11_fewest_186 : decode cX11_fewest 186 = .ok (.iload 11, 2) := by decide +kernel
theorem dX11_fewest_188 : decode cX11_fewest 188 = .ok (.istore 7, 2) := by decide +kernel
theorem dX11_fewest_190 : decode cX11_fewest 190 = .ok (.iinc 9 1, 3) := by decide +kernel
theorem dX11_fewest_193 : decode cX11_fewest 193 = .ok (.goto (-94), 3) := by decide +kernel
theorem dX11_fewest_196 : decode cX11_fewest 196 = .ok (.iload 4, 2) := by decide +kernel
theorem dX11_fewest_198 : decode cX11_fewest 198 = .ok (.ifCond .eq 9, 3) := by decide +kernel
theorem dX11_fewest_201 : decode cX11_fewest 201 = .ok (.iload 5, 2) := by decide +kernel
theorem dX11_fewest_203 : decode cX11_fewest 203 = .ok (.iconst (-1), 1) := by decide +kernel
theorem dX11_fewest_204 : decode cX11_fewest 204 = .ok (.if_icmp .ne 8, 3) := by decide +kernel
theorem dX11_fewest_207 : decode cX11_fewest 207 = .ok (.iload 5, 2) := by decide +kernel
theorem dX11_fewest_209 : decode cX11_fewest 209 = .ok (.goto 5, 3) := by decide +kernel
theorem dX11_fewest_212 : decode cX11_fewest 212 = .ok (.iload 7, 2) := by decide +kernel
theorem dX11_fewest_214 : decode cX11_fewest 214 = .ok (.ireturn, 1) := by decide +kernel
theorem dX11_right_0 : decode cX11_right 0 = .ok (.iload_n 1, 1) := by decide +kernel
theorem dX11_right_1 : decode cX11_right 1 = .ok (.iconst 1, 1) := by decide +kernel
theorem dX11_right_2 : decode cX11_right 2 = .ok (.if_icmp .lt 9, 3) := by decide +kernel
theorem dX11_right_5 : decode cX11_right 5 = .ok (.iload_n 1, 1) := by decide +kernel
theorem dX11_right_6 : decode cX11_right 6 = .ok (.bipush 20, 2) := by decide +kernel
theorem dX11_right_8 : decode cX11_right 8 = .ok (.if_icmp .le 5, 3) := by decide +kernel
theorem dX11_right_11 : decode cX11_right 11 = .ok (.iconst (-1), 1) := by decide +kernel
theorem dX11_right_12 : decode cX11_right 12 = .ok (.ireturn, 1) := by decide +kernel
theorem dX11_right_13 : decode cX11_right 13 = .ok (.aload_n 0, 1) := by decide +kernel
theorem dX11_right_14 : decode cX11_right 14 = .ok (.getfield 45, 3) := by decide +kernel
theorem dX11_right_17 : decode cX11_right 17 = .ok (.getfield 166, 3) := by decide +kernel
theorem dX11_right_20 : decode cX11_right 20 = .ok (.aload_n 0, 1) := by decide +kernel
theorem dX11_right_21 : decode cX11_right 21 = .ok (.getfield 12, 3) := by decide +kernel
theorem dX11_right_24 : decode cX11_right 24 = .ok (.aload_n 0, 1) := by decide +kernel
theorem dX11_right_25 : decode cX11_right 25 = .ok (.getfield 19, 3) := by decide +kernel
theorem dX11_right_28 : decode cX11_right 28 = .ok (.getfield 163, 3) := by decide +kernel
theorem dX11_right_31 : decode cX11_right 31 = .ok (.invokevirtual 170, 3) := by decide +kernel
theorem dX11_right_34 : decode cX11_right 34 = .ok (.iconst 0, 1) := by decide +kernel
theorem dX11_right_35 : decode cX11_right 35 = .ok (.istore_n 2, 1) := by decide +kernel
theorem dX11_right_36 : decode cX11_right 36 = .ok (.iconst 0, 1) := by decide +kernel
theorem dX11_right_37 : decode cX11_right 37 = .ok (.istore_n 3, 1) := by decide +kernel
theorem dX11_right_38 : decode cX11_right 38 = .ok (.iload_n 3, 1) := by decide +kernel
theorem dX11_right_39 : decode cX11_right 39 = .ok (.sipush 300, 3) := by decide +kernel
theorem dX11_right_42 : decode cX11_right 42 = .ok (.if_icmp .gt 89, 3) := by decide +kernel
theorem dX11_right_45 : decode cX11_right 45 = .ok (.iload_n 2, 1) := by decide +kernel
theorem dX11_right_46 : decode cX11_right 46 = .ok (.sipush 300, 3) := by decide +kernel
theorem dX11_right_49 : decode cX11_right 49 = .ok (.if_icmp .gt 82, 3) := by decide +kernel
theorem dX11_right_52 : decode cX11_right 52 = .ok (.aload_n 0, 1) := by decide +kernel
theorem dX11_right_53 : decode cX11_right 53 = .ok (.invokevirtual 233, 3) := by decide +kernel
theorem dX11_right_56 : decode cX11_right 56 = .ok (.aload_n 0, 1) := by decide +kernel
theorem dX11_right_57 : decode cX11_right 57 = .ok (.getfield 45, 3) := by decide +kernel
theorem dX11_right_60 : decode cX11_right 60 = .ok (.iload_n 2, 1) := by decide +kernel
theorem dX11_right_61 : decode cX11_right 61 = .ok (.putfield 292, 3) := by decide +kernel
theorem dX11_right_64 : decode cX11_right 64 = .ok (.aload_n 0, 1) := by decide +kernel
theorem dX11_right_65 : decode cX11_right 65 = .ok (.getfield 45, 3) := by decide +kernel
theorem dX11_right_68 : decode cX11_right 68 = .ok (.sipush 167, 3) := by decide +kernel
theorem dX11_right_71 : decode cX11_right 71 = .ok (.invokevirtual 183, 3) := by decide +kernel
theorem dX11_right_74 : decode cX11_right 74 = .ok (.aload_n 0, 1) := by decide +kernel
theorem dX11_right_75 : decode cX11_right 75 = .ok (.getfield 37, 3) := by decide +kernel
theorem dX11_right_78 : decode cX11_right 78 = .ok (.aload_n 0, 1) := by decide +kernel
theorem dX11_right_79 : decode cX11_right 79 = .ok (.getfield 19, 3) := by decide +kernel
theorem dX11_right_82 : decode cX11_right 82 = .ok (.getfield 163, 3) := by decide +kernel
theorem dX11_right_85 : decode cX11_right 85 = .ok (.aload_n 0, 1) := by decide +kernel
theorem dX11_right_86 : decode cX11_right 86 = .ok (.getfield 12, 3) := by decide +kernel
theorem dX11_right_89 : decode cX11_right 89 = .ok (.getfield 103, 3) := by decide +kernel
theorem dX11_right_92 : decode cX11_right 92 = .ok (.getfield 293, 3) := by decide +kernel
theorem dX11_right_95 : decode cX11_right 95 = .ok (.invokevirtual 294, 3) := by decide +kernel
theorem dX11_right_98 : decode cX11_right 98 = .ok (.iload_n 1, 1) := by decide +kernel
theorem dX11_right_99 : decode cX11_right 99 = .ok (.if_icmp .lt 5, 3) := by decide +kernel
theorem dX11_right_102 : decode cX11_right 102 = .ok (.iload_n 2, 1) := by decide +kernel
theorem dX11_right_103 : decode cX11_right 103 = .ok (.ireturn, 1) := by decide +kernel
theorem dX11_right_104 : decode cX11_right 104 = .ok (.aload_n 0, 1) := by decide +kernel
theorem dX11_right_105 : decode cX11_right 105 = .ok (.getfield 45, 3) := by decide +kernel
theorem dX11_right_108 : decode cX11_right 108 = .ok (.getfield 297, 3) := by decide +kernel
theorem dX11_right_111 : decode cX11_right 111 = .ok (.iconst (-1), 1) := by decide +kernel
theorem dX11_right_112 : decode cX11_right 112 = .ok (.if_icmp .ne 5, 3) := by decide +kernel
theorem dX11_right_115 : decode cX11_right 115 = .ok (.iconst (-1), 1) := by decide +kernel
theorem dX11_right_116 : decode cX11_right 116 = .ok (.ireturn, 1) := by decide +kernel
theorem dX11_right_117 : decode cX11_right 117 = .ok (.aload_n 0, 1) := by decide +kernel
theorem dX11_right_118 : decode cX11_right 118 = .ok (.getfield 45, 3) := by decide +kernel
theorem dX11_right_121 : decode cX11_right 121 = .ok (.getfield 297, 3) := by decide +kernel
theorem dX11_right_124 : decode cX11_right 124 = .ok (.istore_n 2, 1) := by decide +kernel
theorem dX11_right_125 : decode cX11_right 125 = .ok (.iinc 3 1, 3) := by decide +kernel
theorem dX11_right_128 : decode cX11_right 128 = .ok (.goto (-90), 3) := by decide +kernel
theorem dX11_right_131 : decode cX11_right 131 = .ok (.iconst (-1), 1) := by decide +kernel
theorem dX11_right_132 : decode cX11_right 132 = .ok (.ireturn, 1) := by decide +kernel
theorem dX11_list_0 : decode cX11_list 0 = .ok (.iload_n 1, 1) := by decide +kernel
theorem dX11_list_1 : decode cX11_list 1 = .ok (.ifCond .lt 35, 3) := by decide +kernel
theorem dX11_list_4 : decode cX11_list 4 = .ok (.iload_n 1, 1) := by decide +kernel
theorem dX11_list_5 : decode cX11_list 5 = .ok (.sipush 167, 3) := by decide +kernel
theorem dX11_list_8 : decode cX11_list 8 = .ok (.if_icmp .gt 28, 3) := by decide +kernel
theorem dX11_list_11 : decode cX11_list 11 = .ok (.aload_n 0, 1) := by decide +kernel
theorem dX11_list_12 : decode cX11_list 12 = .ok (.getfield 12, 3) := by decide +kernel
theorem dX11_list_15 : decode cX11_list 15 = .ok (.iload_n 2, 1) := by decide +kernel
theorem dX11_list_16 : decode cX11_list 16 = .ok (.invokevirtual 72, 3) := by decide +kernel
theorem dX11_list_19 : decode cX11_list 19 = .ok (.ifCond .eq 17, 3) := by decide +kernel
theorem dX11_list_22 : decode cX11_list 22 = .ok (.aload_n 0, 1) := by decide +kernel
theorem dX11_list_23 : decode cX11_list 23 = .ok (.getfield 12, 3) := by decide +kernel
theorem dX11_list_26 : decode cX11_list 26 = .ok (.getfield 79, 3) := by decide +kernel
theorem dX11_list_29 : decode cX11_list 29 = .ok (.iload_n 3, 1) := by decide +kernel
theorem dX11_list_30 : decode cX11_list 30 = .ok (.invokevirtual 273, 3) := by decide +kernel
theorem dX11_list_33 : decode cX11_list 33 = .ok (.ifCond .ne 5, 3) := by decide +kernel
theorem dX11_list_36 : decode cX11_list 36 = .ok (.iconst 0, 1) := by decide +kernel
theorem dX11_list_37 : decode cX11_list 37 = .ok (.ireturn, 1) := by decide +kernel
theorem dX11_list_38 : decode cX11_list 38 = .ok (.aload_n 0, 1) := by decide +kernel
theorem dX11_list_39 : decode cX11_list 39 = .ok (.getfield 12, 3) := by decide +kernel
theorem dX11_list_42 : decode cX11_list 42 = .ok (.getfield 300, 3) := by decide +kernel
theorem dX11_list_45 : decode cX11_list 45 = .ok (.iload_n 1, 1) := by decide +kernel
theorem dX11_list_46 : decode cX11_list 46 = .ok (.iload_n 2, 1) := by decide +kernel
theorem dX11_list_47 : decode cX11_list 47 = .ok (.iload_n 3, 1) := by decide +kernel
theorem dX11_list_48 : decode cX11_list 48 = .ok (.invokevirtual 304, 3) := by decide +kernel
theorem dX11_list_51 : decode cX11_list 51 = .ok (.ireturn, 1) := by decide +kernel
theorem dX11_night_0 : decode cX11_night 0 = .ok (.aload_n 0, 1) := by decide +kernel
theorem dX11_night_1 : decode cX11_night 1 = .ok (.getfield 12, 3) := by decide +kernel
theorem dX11_night_4 : decode cX11_night 4 = .ok (.getfield 103, 3) := by decide +kernel
theorem dX11_night_7 : decode cX11_night 7 = .ok (.invokevirtual 308, 3) := by decide +kernel
theorem dX11_night_10 : decode cX11_night 10 = .ok (.istore_n 2, 1) := by decide +kernel
theorem dX11_night_11 : decode cX11_night 11 = .ok (.iload_n 2, 1) := by decide +kernel
theorem dX11_night_12 : decode cX11_night 12 = .ok (.invokestatic 279, 3) := by decide +kernel
theorem dX11_night_15 : decode cX11_night 15 = .ok (.istore_n 3, 1) := by decide +kernel
theorem dX11_night_16 : decode cX11_night 16 = .ok (.iload_n 3, 1) := by decide +kernel
theorem dX11_night_17 : decode cX11_night 17 = .ok (.bipush 8, 2) := by decide +kernel
theorem dX11_night_19 : decode cX11_night 19 = .ok (.if_icmp .gt 12, 3) := by decide +kernel
theorem dX11_night_22 : decode cX11_night 22 = .ok (.iload_n 1, 1) := by decide +kernel
theorem dX11_night_23 : decode cX11_night 23 = .ok (.ifCond .lt 8, 3) := by decide +kernel
theorem dX11_night_26 : decode cX11_night 26 = .ok (.iload_n 1, 1) := by decide +kernel
theorem dX11_night_27 : decode cX11_night 27 = .ok (.iconst 2, 1) := by decide +kernel
theorem dX11_night_28 : decode cX11_night 28 = .ok (.if_icmp .le 5, 3) := by decide +kernel
theorem dX11_night_31 : decode cX11_night 31 = .ok (.iconst (-1), 1) := by decide +kernel
theorem dX11_night_32 : decode cX11_night 32 = .ok (.ireturn, 1) := by decide +kernel
theorem dX11_night_33 : decode cX11_night 33 = .ok (.aload_n 0, 1) := by decide +kernel
theorem dX11_night_34 : decode cX11_night 34 = .ok (.getfield 45, 3) := by decide +kernel
theorem dX11_night_37 : decode cX11_night 37 = .ok (.getfield 166, 3) := by decide +kernel
theorem dX11_night_40 : decode cX11_night 40 = .ok (.aload_n 0, 1) := by decide +kernel
theorem dX11_night_41 : decode cX11_night 41 = .ok (.getfield 12, 3) := by decide +kernel
theorem dX11_night_44 : decode cX11_night 44 = .ok (.iconst 0, 1) := by decide +kernel
theorem dX11_night_45 : decode cX11_night 45 = .ok (.invokevirtual 170, 3) := by decide +kernel
theorem dX11_night_48 : decode cX11_night 48 = .ok (.iconst 0, 1) := by decide +kernel
theorem dX11_night_49 : decode cX11_night 49 = .ok (.istore 4, 2) := by decide +kernel
theorem dX11_night_51 : decode cX11_night 51 = .ok (.iload_n 2, 1) := by decide +kernel
theorem dX11_night_52 : decode cX11_night 52 = .ok (.istore 5, 2) := by decide +kernel
theorem dX11_night_54 : decode cX11_night 54 = .ok (.iconst (-1), 1) := by decide +kernel
theorem dX11_night_55 : decode cX11_night 55 = .ok (.istore 6, 2) := by decide +kernel
theorem dX11_night_57 : decode cX11_night 57 = .ok (.iconst 0, 1) := by decide +kernel
theorem dX11_night_58 : decode cX11_night 58 = .ok (.istore 7, 2) := by decide +kernel
theorem dX11_night_60 : decode cX11_night 60 = .ok (.iconst 0, 1) := by decide +kernel
theorem dX11_night_61 : decode cX11_night 61 = .ok (.istore 8, 2) := by decide +kernel
theorem dX11_night_63 : decode cX11_night 63 = .ok (.iload 8, 2) := by decide +kernel
theorem dX11_night_65 : decode cX11_night 65 = .ok (.iconst 1, 1) := by decide +kernel
theorem dX11_night_66 : decode cX11_night 66 = .ok (.iload_n 3, 1) := by decide +kernel
theorem dX11_night_67 : decode cX11_night 67 = .ok (.ishl, 1) := by decide +kernel
theorem dX11_night_68 : decode cX11_night 68 = .ok (.if_icmp .ge 55, 3) := by decide +kernel
theorem dX11_night_71 : decode cX11_night 71 = .ok (.aload_n 0, 1) := by decide +kernel
theorem dX11_night_72 : decode cX11_night 72 = .ok (.iload_n 2, 1) := by decide +kernel
theorem dX11_night_73 : decode cX11_night 73 = .ok (.iload 7, 2) := by decide +kernel
theorem dX11_night_75 : decode cX11_night 75 = .ok (.iconst (-1), 1) := by decide +kernel
theorem dX11_night_76 : decode cX11_night 76 = .ok (.ixor, 1) := by decide +kernel
theorem dX11_night_77 : decode cX11_night 77 = .ok (.iand, 1) := by decide +kernel
theorem dX11_night_78 : decode cX11_night 78 = .ok (.invokevirtual 312, 3) := by decide +kernel
theorem dX11_night_81 : decode cX11_night 81 = .ok (.ifCond .eq 28, 3) := by decide +kernel
theorem dX11_night_84 : decode cX11_night 84 = .ok (.iinc 4 1, 3) := by decide +kernel
theorem dX11_night_87 : decode cX11_night 87 = .ok (.iload 5, 2) := by decide +kernel
theorem dX11_night_89 : decode cX11_night 89 = .ok (.iload 7, 2) := by decide +kernel
theorem dX11_night_91 : decode cX11_night 91 = .ok (.iand, 1) := by decide +kernel
theorem dX11_night_92 : decode cX11_night 92 = .ok (.istore 5, 2) := by decide +kernel
theorem dX11_night_94 : decode cX11_night 94 = .ok (.iload 6, 2) := by decide +kernel
theorem dX11_night_96 : decode cX11_night 96 = .ok (.iconst (-1), 1) := by decide +kernel
theorem dX11_night_97 : decode cX11_night 97 = .ok (.if_icmp .ne 8, 3) := by decide +kernel
theorem dX11_night_100 : decode cX11_night 100 = .ok (.iload 7, 2) := by decide +kernel
theorem dX11_night_102 : decode cX11_night 102 = .ok (.goto 5, 3) := by decide +kernel
theorem dX11_night_105 : decode cX11_night 105 = .ok (.iload 6, 2) := by decide +kernel
theorem dX11_night_107 : decode cX11_night 107 = .ok (.istore 6, 2) := by decide +kernel
theorem dX11_night_109 : decode cX11_night 109 = .ok (.iload 7, 2) := by decide +kernel
theorem dX11_night_111 : decode cX11_night 111 = .ok (.iload_n 2, 1) := by decide +kernel
theorem dX11_night_112 : decode cX11_night 112 = .ok (.isub, 1) := by decide +kernel
theorem dX11_night_113 : decode cX11_night 113 = .ok (.iload_n 2, 1) := by decide +kernel
theorem dX11_night_114 : decode cX11_night 114 = .ok (.iand, 1) := by decide +kernel
theorem dX11_night_115 : decode cX11_night 115 = .ok (.istore 7, 2) := by decide +kernel
theorem dX11_night_117 : decode cX11_night 117 = .ok (.iinc 8 1, 3) := by decide +kernel
theorem dX11_night_120 : decode cX11_night 120 = .ok (.goto (-57), 3) := by decide +kernel
theorem dX11_night_123 : decode cX11_night 123 = .ok (.iload_n 1, 1) := by decide +kernel
theorem dX11_night_124 : decode cX11_night 124 = .ok (.ifCond .ne 6, 3) := by decide +kernel
theorem dX11_night_127 : decode cX11_night 127 = .ok (.iload 4, 2) := by decide +kernel
theorem dX11_night_129 : decode cX11_night 129 = .ok (.ireturn, 1) := by decide +kernel
theorem dX11_night_130 : decode cX11_night 130 = .ok (.iload_n 1, 1) := by decide +kernel
theorem dX11_night_131 : decode cX11_night 131 = .ok (.iconst 2, 1) := by decide +kernel
theorem dX11_night_132 : decode cX11_night 132 = .ok (.if_icmp .ne 8, 3) := by decide +kernel
theorem dX11_night_135 : decode cX11_night 135 = .ok (.iload 6, 2) := by decide +kernel
theorem dX11_night_137 : decode cX11_night 137 = .ok (.goto 14, 3) := by decide +kernel
theorem dX11_night_140 : decode cX11_night 140 = .ok (.iload 4, 2) := by decide +kernel
theorem dX11_night_142 : decode cX11_night 142 = .ok (.ifCond .ne 7, 3) := by decide +kernel
theorem dX11_night_145 : decode cX11_night 145 = .ok (.iconst 0, 1) := by decide +kernel
theorem dX11_night_146 : decode cX11_night 146 = .ok (.goto 5, 3) := by decide +kernel
theorem dX11_night_149 : decode cX11_night 149 = .ok (.iload 5, 2) := by decide +kernel
theorem dX11_night_151 : decode cX11_night 151 = .ok (.ireturn, 1) := by decide +kernel
theorem dX11_chance_0 : decode cX11_chance 0 = .ok (.iload_n 1, 1) := by decide +kernel
theorem dX11_chance_1 : decode cX11_chance 1 = .ok (.ifCond .lt 30, 3) := by decide +kernel
theorem dX11_chance_4 : decode cX11_chance 4 = .ok (.iload_n 1, 1) := by decide +kernel
theorem dX11_chance_5 : decode cX11_chance 5 = .ok (.bipush 10, 2) := by decide +kernel
theorem dX11_chance_7 : decode cX11_chance 7 = .ok (.if_icmp .gt 24, 3) := by decide +kernel
theorem dX11_chance_10 : decode cX11_chance 10 = .ok (.iload_n 2, 1) := by decide +kernel
theorem dX11_chance_11 : decode cX11_chance 11 = .ok (.ifCond .lt 20, 3) := by decide +kernel
theorem dX11_chance_14 : decode cX11_chance 14 = .ok (.iload_n 2, 1) := by decide +kernel
theorem dX11_chance_15 : decode cX11_chance 15 = .ok (.bipush 10, 2) := by decide +kernel
theorem dX11_chance_17 : decode cX11_chance 17 = .ok (.if_icmp .gt 14, 3) := by decide +kernel
theorem dX11_chance_20 : decode cX11_chance 20 = .ok (.iload_n 3, 1) := by decide +kernel
theorem dX11_chance_21 : decode cX11_chance 21 = .ok (.iconst 1, 1) := by decide +kernel
theorem dX11_chance_22 : decode cX11_chance 22 = .ok (.if_icmp .lt 9, 3) := by decide +kernel
theorem dX11_chance_25 : decode cX11_chance 25 = .ok (.iload_n 3, 1) := by decide +kernel
theorem dX11_chance_26 : decode cX11_chance 26 = .ok (.bipush 8, 2) := by decide +kernel
theorem dX11_chance_28 : decode cX11_chance 28 = .ok (.if_icmp .le 7, 3) := by decide +kernel
theorem dX11_chance_31 : decode cX11_chance 31 = .ok (.ldc2_w 315, 3) := by decide +kernel
theorem dX11_chance_34 : decode cX11_chance 34 = .ok (.lreturn, 1) := by decide +kernel
theorem dX11_chance_35 : decode cX11_chance 35 = .ok (.iload 4, 2) := by decide +kernel
theorem dX11_chance_37 : decode cX11_chance 37 = .ok (.ifCond .lt 9, 3) := by decide +kernel
theorem dX11_chance_40 : decode cX11_chance 40 = .ok (.iload 4, 2) := by decide +kernel
theorem dX11_chance_42 : decode cX11_chance 42 = .ok (.iconst 1, 1) := by decide +kernel
theorem dX11_chance_43 : decode cX11_chance 43 = .ok (.if_icmp .le 7, 3) := by decide +kernel
theorem dX11_chance_46 : decode cX11_chance 46 = .ok (.ldc2_w 315, 3) := by decide +kernel
theorem dX11_chance_49 : decode cX11_chance 49 = .ok (.lreturn, 1) := by decide +kernel
theorem dX11_chance_50 : decode cX11_chance 50 = .ok (.lconst 1, 1) := by decide +kernel
theorem dX11_chance_51 : decode cX11_chance 51 = .ok (.lstore 5, 2) := by decide +kernel
theorem dX11_chance_53 : decode cX11_chance 53 = .ok (.lconst 0, 1) := by decide +kernel
theorem dX11_chance_54 : decode cX11_chance 54 = .ok (.lstore 7, 2) := by decide +kernel
theorem dX11_chance_56 : decode cX11_chance 56 = .ok (.lconst 0, 1) := by decide +kernel
theorem dX11_chance_57 : decode cX11_chance 57 = .ok (.lstore 9, 2) := by decide +kernel
theorem dX11_chance_59 : decode cX11_chance 59 = .ok (.iconst 1, 1) := by decide +kernel
theorem dX11_chance_60 : decode cX11_chance 60 = .ok (.istore 11, 2) := by decide +kernel
theorem dX11_chance_62 : decode cX11_chance 62 = .ok (.iconst 1, 1) := by decide +kernel
theorem dX11_chance_63 : decode cX11_chance 63 = .ok (.istore 12, 2) := by decide +kernel
theorem dX11_chance_65 : decode cX11_chance 65 = .ok (.iload 12, 2) := by decide +kernel
theorem dX11_chance_67 : decode cX11_chance 67 = .ok (.iload_n 3, 1) := by decide +kernel
theorem dX11_chance_68 : decode cX11_chance 68 = .ok (.if_icmp .gt 72, 3) := by decide +kernel
theorem dX11_chance_71 : decode cX11_chance 71 = .ok (.lload 7, 2) := by decide +kernel
theorem dX11_chance_73 : decode cX11_chance 73 = .ok (.ldc2_w 317, 3) := by decide +kernel
theorem dX11_chance_76 : decode cX11_chance 76 = .ok (.lmul, 1) := by decide +kernel
theorem dX11_chance_77 : decode cX11_chance 77 = .ok (.lload 5, 2) := by decide +kernel
theorem dX11_chance_79 : decode cX11_chance 79 = .ok (.lload 7, 2) := by decide +kernel
theorem dX11_chance_81 : decode cX11_chance 81 = .ok (.lsub, 1) := by decide +kernel
theorem dX11_chance_82 : decode cX11_chance 82 = .ok (.iload_n 1, 1) := by decide +kernel
theorem dX11_chance_83 : decode cX11_chance 83 = .ok (.i2l, 1) := by decide +kernel
theorem dX11_chance_84 : decode cX11_chance 84 = .ok (.lmul, 1) := by decide +kernel
theorem dX11_chance_85 : decode cX11_chance 85 = .ok (.ladd, 1) := by decide +kernel
theorem dX11_chance_86 : decode cX11_chance 86 = .ok (.bipush 10, 2) := by decide +kernel
theorem dX11_chance_88 : decode cX11_chance 88 = .ok (.iload_n 2, 1) := by decide +kernel
theorem dX11_chance_89 : decode cX11_chance 89 = .ok (.isub, 1) := by decide +kernel
theorem dX11_chance_90 : decode cX11_chance 90 = .ok (.i2l, 1) := by decide +kernel
theorem dX11_chance_91 : decode cX11_chance 91 = .ok (.lmul, 1) := by decide +kernel
theorem dX11_chance_92 : decode cX11_chance 92 = .ok (.lstore 7, 2) := by decide +kernel
theorem dX11_chance_94 : decode cX11_chance 94 = .ok (.lload 5, 2) := by decide +kernel
theorem dX11_chance_96 : decode cX11_chance 96 = .ok (.ldc2_w 317, 3) := by decide +kernel
theorem dX11_chance_99 : decode cX11_chance 99 = .ok (.lmul, 1) := by decide +kernel
theorem dX11_chance_100 : decode cX11_chance 100 = .ok (.ldc2_w 317, 3) := by decide +kernel
theorem dX11_chance_103 : decode cX11_chance 103 = .ok (.lmul, 1) := by decide +kernel
theorem dX11_chance_104 : decode cX11_chance 104 = .ok (.lstore 5, 2) := by decide +kernel
theorem dX11_chance_106 : decode cX11_chance 106 = .ok (.lload 9, 2) := by decide +kernel
theorem dX11_chance_108 : decode cX11_chance 108 = .ok (.ldc2_w 317, 3) := by decide +kernel
theorem dX11_chance_111 : decode cX11_chance 111 = .ok (.lmul, 1) := by decide +kernel
theorem dX11_chance_112 : decode cX11_chance 112 = .ok (.ldc2_w 317, 3) := by decide +kernel
theorem dX11_chance_115 : decode cX11_chance 115 = .ok (.lmul, 1) := by decide +kernel
theorem dX11_chance_116 : decode cX11_chance 116 = .ok (.lstore 9, 2) := by decide +kernel
theorem dX11_chance_118 : decode cX11_chance 118 = .ok (.lload 7, 2) := by decide +kernel
theorem dX11_chance_120 : decode cX11_chance 120 = .ok (.lload 9, 2) := by decide +kernel
theorem dX11_chance_122 : decode cX11_chance 122 = .ok (.lcmp, 1) := by decide +kernel
theorem dX11_chance_123 : decode cX11_chance 123 = .ok (.ifCond .le 11, 3) := by decide +kernel
theorem dX11_chance_126 : decode cX11_chance 126 = .ok (.lload 7, 2) := by decide +kernel
theorem dX11_chance_128 : decode cX11_chance 128 = .ok (.lstore 9, 2) := by decide +kernel
theorem dX11_chance_130 : decode cX11_chance 130 = .ok (.iload 12, 2) := by decide +kernel
theorem dX11_chance_132 : decode cX11_chance 132 = .ok (.istore 11, 2) := by decide +kernel
theorem dX11_chance_134 : decode cX11_chance 134 = .ok (.iinc 12 1, 3) := by decide +kernel
theorem dX11_chance_137 : decode cX11_chance 137 = .ok (.goto (-72), 3) := by decide +kernel
theorem dX11_chance_140 : decode cX11_chance 140 = .ok (.iload 4, 2) := by decide +kernel
theorem dX11_chance_142 : decode cX11_chance 142 = .ok (.ifCond .ne 8, 3) := by decide +kernel
theorem dX11_chance_145 : decode cX11_chance 145 = .ok (.lload 7, 2) := by decide +kernel
theorem dX11_chance_147 : decode cX11_chance 147 = .ok (.goto 6, 3) := by decide +kernel
theorem dX11_chance_150 : decode cX11_chance 150 = .ok (.iload 11, 2) := by decide +kernel
theorem dX11_chance_152 : decode cX11_chance 152 = .ok (.i2l, 1) := by decide +kernel
theorem dX11_chance_153 : decode cX11_chance 153 = .ok (.lreturn, 1) := by decide +kernel
theorem dX11_image_0 : decode cX11_image 0 = .ok (.iload_n 1, 1) := by decide +kernel
theorem dX11_image_1 : decode cX11_image 1 = .ok (.ifCond .eq 44, 3) := by decide +kernel
theorem dX11_image_4 : decode cX11_image 4 = .ok (.aload_n 0, 1) := by decide +kernel
theorem dX11_image_5 : decode cX11_image 5 = .ok (.getfield 49, 3) := by decide +kernel
theorem dX11_image_8 : decode cX11_image 8 = .ok (.aload_n 0, 1) := by decide +kernel
theorem dX11_image_9 : decode cX11_image 9 = .ok (.getfield 12, 3) := by decide +kernel
theorem dX11_image_12 : decode cX11_image 12 = .ok (.invokevirtual 319, 3) := by decide +kernel
theorem dX11_image_15 : decode cX11_image 15 = .ok (.aload_n 0, 1) := by decide +kernel
theorem dX11_image_16 : decode cX11_image 16 = .ok (.getfield 52, 3) := by decide +kernel
theorem dX11_image_19 : decode cX11_image 19 = .ok (.aload_n 0, 1) := by decide +kernel
theorem dX11_image_20 : decode cX11_image 20 = .ok (.getfield 19, 3) := by decide +kernel
theorem dX11_image_23 : decode cX11_image 23 = .ok (.invokevirtual 322, 3) := by decide +kernel
theorem dX11_image_26 : decode cX11_image 26 = .ok (.aload_n 0, 1) := by decide +kernel
theorem dX11_image_27 : decode cX11_image 27 = .ok (.getfield 55, 3) := by decide +kernel
theorem dX11_image_30 : decode cX11_image 30 = .ok (.aload_n 0, 1) := by decide +kernel
theorem dX11_image_31 : decode cX11_image 31 = .ok (.getfield 26, 3) := by decide +kernel
theorem dX11_image_34 : decode cX11_image 34 = .ok (.invokevirtual 324, 3) := by decide +kernel
theorem dX11_image_37 : decode cX11_image 37 = .ok (.aload_n 0, 1) := by decide +kernel
theorem dX11_image_38 : decode cX11_image 38 = .ok (.iconst 1, 1) := by decide +kernel
theorem dX11_image_39 : decode cX11_image 39 = .ok (.putfield 58, 3) := by decide +kernel
theorem dX11_image_42 : decode cX11_image 42 = .ok (.goto 43, 3) := by decide +kernel
theorem dX11_image_45 : decode cX11_image 45 = .ok (.aload_n 0, 1) := by decide +kernel
theorem dX11_image_46 : decode cX11_image 46 = .ok (.getfield 58, 3) := by decide +kernel
theorem dX11_image_49 : decode cX11_image 49 = .ok (.ifCond .eq 36, 3) := by decide +kernel
theorem dX11_image_52 : decode cX11_image 52 = .ok (.aload_n 0, 1) := by decide +kernel
theorem dX11_image_53 : decode cX11_image 53 = .ok (.getfield 12, 3) := by decide +kernel
theorem dX11_image_56 : decode cX11_image 56 = .ok (.aload_n 0, 1) := by decide +kernel
theorem dX11_image_57 : decode cX11_image 57 = .ok (.getfield 49, 3) := by decide +kernel
theorem dX11_image_60 : decode cX11_image 60 = .ok (.invokevirtual 319, 3) := by decide +kernel
theorem dX11_image_63 : decode cX11_image 63 = .ok (.aload_n 0, 1) := by decide +kernel
theorem dX11_image_64 : decode cX11_image 64 = .ok (.getfield 19, 3) := by decide +kernel
theorem dX11_image_67 : decode cX11_image 67 = .ok (.aload_n 0, 1) := by decide +kernel
theorem dX11_image_68 : decode cX11_image 68 = .ok (.getfield 52, 3) := by decide +kernel
theorem dX11_image_71 : decode cX11_image 71 = .ok (.invokevirtual 322, 3) := by decide +kernel
theorem dX11_image_74 : decode cX11_image 74 = .ok (.aload_n 0, 1) := by decide +kernel
theorem dX11_image_75 : decode cX11_image 75 = .ok (.getfield 26, 3) := by decide +kernel
theorem dX11_image_78 : decode cX11_image 78 = .ok (.aload_n 0, 1) := by decide +kernel
theorem dX11_image_79 : decode cX11_image 79 = .ok (.getfield 55, 3) := by decide +kernel
theorem dX11_image_82 : decode cX11_image 82 = .ok (.invokevirtual 324, 3) := by decide +kernel
theorem dX11_image_85 : decode cX11_image 85 = .ok (.aload_n 0, 1) := by decide +kernel
theorem dX11_image_86 : decode cX11_image 86 = .ok (.getfield 58, 3) := by decide +kernel
theorem dX11_image_89 : decode cX11_image 89 = .ok (.ireturn, 1) := by decide +kernel
theorem dX11_look_0 : decode cX11_look 0 = .ok (.iload_n 1, 1) := by decide +kernel
theorem dX11_look_1 : decode cX11_look 1 = .ok (.tableswitch 162 0 10 #[59, 67, 75, 86, 97, 105, 113, 121, 132, 143, 154], 59) := by decide +kernel
theorem dX11_look_60 : decode cX11_look 60 = .ok (.aload_n 0, 1) := by decide +kernel
theorem dX11_look_61 : decode cX11_look 61 = .ok (.getfield 12, 3) := by decide +kernel
theorem dX11_look_64 : decode cX11_look 64 = .ok (.getfield 327, 3) := by decide +kernel
theorem dX11_look_67 : decode cX11_look 67 = .ok (.ireturn, 1) := by decide +kernel
theorem dX11_look_68 : decode cX11_look 68 = .ok (.aload_n 0, 1) := by decide +kernel
theorem dX11_look_69 : decode cX11_look 69 = .ok (.getfield 19, 3) := by decide +kernel
theorem dX11_look_72 : decode cX11_look 72 = .ok (.getfield 163, 3) := by decide +kernel
theorem dX11_look_75 : decode cX11_look 75 = .ok (.ireturn, 1) := by decide +kernel
theorem dX11_look_76 : decode cX11_look 76 = .ok (.aload_n 0, 1) := by decide +kernel
theorem dX11_look_77 : decode cX11_look 77 = .ok (.getfield 12, 3) := by decide +kernel
theorem dX11_look_80 : decode cX11_look 80 = .ok (.getfield 79, 3) := by decide +kernel
theorem dX11_look_83 : decode cX11_look 83 = .ok (.getfield 330, 3) := by decide +kernel
theorem dX11_look_86 : decode cX11_look 86 = .ok (.ireturn, 1) := by decide +kernel
theorem dX11_look_87 : decode cX11_look 87 = .ok (.aload_n 0, 1) := by decide +kernel
theorem dX11_look_88 : decode cX11_look 88 = .ok (.getfield 12, 3) := by decide +kernel
theorem dX11_look_91 : decode cX11_look 91 = .ok (.getfield 103, 3) := by decide +kernel
theorem dX11_look_94 : decode cX11_look 94 = .ok (.getfield 293, 3) := by decide +kernel
theorem dX11_look_97 : decode cX11_look 97 = .ok (.ireturn, 1) := by decide +kernel
theorem dX11_look_98 : decode cX11_look 98 = .ok (.aload_n 0, 1) := by decide +kernel
theorem dX11_look_99 : decode cX11_look 99 = .ok (.getfield 26, 3) := by decide +kernel
theorem dX11_look_102 : decode cX11_look 102 = .ok (.getfield 68, 3) := by decide +kernel
theorem dX11_look_105 : decode cX11_look 105 = .ok (.ireturn, 1) := by decide +kernel
theorem dX11_look_106 : decode cX11_look 106 = .ok (.aload_n 0, 1) := by decide +kernel
theorem dX11_look_107 : decode cX11_look 107 = .ok (.getfield 12, 3) := by decide +kernel
theorem dX11_look_110 : decode cX11_look 110 = .ok (.getfield 124, 3) := by decide +kernel
theorem dX11_look_113 : decode cX11_look 113 = .ok (.ireturn, 1) := by decide +kernel
theorem dX11_look_114 : decode cX11_look 114 = .ok (.aload_n 0, 1) := by decide +kernel
theorem dX11_look_115 : decode cX11_look 115 = .ok (.getfield 12, 3) := by decide +kernel
theorem dX11_look_118 : decode cX11_look 118 = .ok (.getfield 127, 3) := by decide +kernel
theorem dX11_look_121 : decode cX11_look 121 = .ok (.ireturn, 1) := by decide +kernel
theorem dX11_look_122 : decode cX11_look 122 = .ok (.aload_n 0, 1) := by decide +kernel
theorem dX11_look_123 : decode cX11_look 123 = .ok (.getfield 12, 3) := by decide +kernel
theorem dX11_look_126 : decode cX11_look 126 = .ok (.getfield 146, 3) := by decide +kernel
theorem dX11_look_129 : decode cX11_look 129 = .ok (.getfield 159, 3) := by decide +kernel
theorem dX11_look_132 : decode cX11_look 132 = .ok (.ireturn, 1) := by decide +kernel
theorem dX11_look_133 : decode cX11_look 133 = .ok (.aload_n 0, 1) := by decide +kernel
theorem dX11_look_134 : decode cX11_look 134 = .ok (.getfield 12, 3) := by decide +kernel
theorem dX11_look_137 : decode cX11_look 137 = .ok (.getfield 265, 3) := by decide +kernel
theorem dX11_look_140 : decode cX11_look 140 = .ok (.getfield 276, 3) := by decide +kernel
theorem dX11_look_143 : decode cX11_look 143 = .ok (.ireturn, 1) := by decide +kernel
theorem dX11_look_144 : decode cX11_look 144 = .ok (.aload_n 0, 1) := by decide +kernel
theorem dX11_look_145 : decode cX11_look 145 = .ok (.getfield 12, 3) := by decide +kernel
theorem dX11_look_148 : decode cX11_look 148 = .ok (.getfield 300, 3) := by decide +kernel
theorem dX11_look_151 : decode cX11_look 151 = .ok (.getfield 331, 3) := by decide +kernel
theorem dX11_look_154 : decode cX11_look 154 = .ok (.ireturn, 1) := by decide +kernel
theorem dX11_look_155 : decode cX11_look 155 = .ok (.aload_n 0, 1) := by decide +kernel
theorem dX11_look_156 : decode cX11_look 156 = .ok (.getfield 19, 3) := by decide +kernel
theorem dX11_look_159 : decode cX11_look 159 = .ok (.getfield 332, 3) := by decide +kernel
theorem dX11_look_162 : decode cX11_look 162 = .ok (.ireturn, 1) := by decide +kernel
theorem dX11_look_163 : decode cX11_look 163 = .ok (.bipush (-2), 2) := by decide +kernel
theorem dX11_look_165 : decode cX11_look 165 = .ok (.ireturn, 1) := by decide +kernel
theorem dX11_isAhead_0 : decode cX11_isAhead 0 = .ok (.iload_n 1, 1) := by decide +kernel
theorem dX11_isAhead_1 : decode cX11_isAhead 1 = .ok (.aload_n 0, 1) := by decide +kernel
theorem dX11_isAhead_2 : decode cX11_isAhead 2 = .ok (.getfield 19, 3) := by decide +kernel
theorem dX11_isAhead_5 : decode cX11_isAhead 5 = .ok (.getfield 163, 3) := by decide +kernel
theorem dX11_isAhead_8 : decode cX11_isAhead 8 = .ok (.if_icmp .lt 14, 3) := by decide +kernel
theorem dX11_isAhead_11 : decode cX11_isAhead 11 = .ok (.iload_n 1, 1) := by decide +kernel
theorem dX11_isAhead_12 : decode cX11_isAhead 12 = .ok (.sipush 167, 3) := by decide +kernel
theorem dX11_isAhead_15 : decode cX11_isAhead 15 = .ok (.if_icmp .gt 7, 3) := by decide +kernel
theorem dX11_isAhead_18 : decode cX11_isAhead 18 = .ok (.iconst 1, 1) := by decide +kernel
theorem dX11_isAhead_19 : decode cX11_isAhead 19 = .ok (.goto 4, 3) := by decide +kernel
theorem dX11_isAhead_22 : decode cX11_isAhead 22 = .ok (.iconst 0, 1) := by decide +kernel
theorem dX11_isAhead_23 : decode cX11_isAhead 23 = .ok (.ireturn, 1) := by decide +kernel
theorem dX11_isSpan_0 : decode cX11_isSpan 0 = .ok (.iload_n 1, 1) := by decide +kernel
theorem dX11_isSpan_1 : decode cX11_isSpan 1 = .ok (.iload_n 2, 1) := by decide +kernel
theorem dX11_isSpan_2 : decode cX11_isSpan 2 = .ok (.if_icmp .gt 23, 3) := by decide +kernel
theorem dX11_isSpan_5 : decode cX11_isSpan 5 = .ok (.aload_n 0, 1) := by decide +kernel
theorem dX11_isSpan_6 : decode cX11_isSpan 6 = .ok (.iload_n 1, 1) := by decide +kernel
theorem dX11_isSpan_7 : decode cX11_isSpan 7 = .ok (.invokevirtual 76, 3) := by decide +kernel
theorem dX11_isSpan_10 : decode cX11_isSpan 10 = .ok (.ifCond .eq 15, 3) := by decide +kernel
theorem dX11_isSpan_13 : decode cX11_isSpan 13 = .ok (.aload_n 0, 1) := by decide +kernel
theorem dX11_isSpan_14 : decode cX11_isSpan 14 = .ok (.iload_n 2, 1) := by decide +kernel
theorem dX11_isSpan_15 : decode cX11_isSpan 15 = .ok (.invokevirtual 76, 3) := by decide +kernel
theorem dX11_isSpan_18 : decode cX11_isSpan 18 = .ok (.ifCond .eq 7, 3) := by decide +kernel
theorem dX11_isSpan_21 : decode cX11_isSpan 21 = .ok (.iconst 1, 1) := by decide +kernel
theorem dX11_isSpan_22 : decode cX11_isSpan 22 = .ok (.goto 4, 3) := by decide +kernel
theorem dX11_isSpan_25 : decode cX11_isSpan 25 = .ok (.iconst 0, 1) := by decide +kernel
theorem dX11_isSpan_26 : decode cX11_isSpan 26 = .ok (.ireturn, 1) := by decide +kernel
theorem dX11_isWalk_0 : decode cX11_isWalk 0 = .ok (.iload_n 1, 1) := by decide +kernel
theorem dX11_isWalk_1 : decode cX11_isWalk 1 = .ok (.ifCond .lt 37, 3) := by decide +kernel
theorem dX11_isWalk_4 : decode cX11_isWalk 4 = .ok (.iload_n 1, 1) := by decide +kernel
theorem dX11_isWalk_5 : decode cX11_isWalk 5 = .ok (.aload_n 0, 1) := by decide +kernel
theorem dX11_isWalk_6 : decode cX11_isWalk 6 = .ok (.getfield 12, 3) := by decide +kernel
theorem dX11_isWalk_9 : decode cX11_isWalk 9 = .ok (.getfield 327, 3) := by decide +kernel
theorem dX11_isWalk_12 : decode cX11_isWalk 12 = .ok (.if_icmp .ge 26, 3) := by decide +kernel
theorem dX11_isWalk_15 : decode cX11_isWalk 15 = .ok (.iload_n 2, 1) := by decide +kernel
theorem dX11_isWalk_16 : decode cX11_isWalk 16 = .ok (.ifCond .eq 8, 3) := by decide +kernel
theorem dX11_isWalk_19 : decode cX11_isWalk 19 = .ok (.iload_n 2, 1) := by decide +kernel
theorem dX11_isWalk_20 : decode cX11_isWalk 20 = .ok (.iconst 1, 1) := by decide +kernel
theorem dX11_isWalk_21 : decode cX11_isWalk 21 = .ok (.if_icmp .ne 17, 3) := by decide +kernel
theorem dX11_isWalk_24 : decode cX11_isWalk 24 = .ok (.iload_n 3, 1) := by decide +kernel
theorem dX11_isWalk_25 : decode cX11_isWalk 25 = .ok (.ifCond .lt 13, 3) := by decide +kernel
theorem dX11_isWalk_28 : decode cX11_isWalk 28 = .ok (.iload_n 3, 1) := by decide +kernel
theorem dX11_isWalk_29 : decode cX11_isWalk 29 = .ok (.bipush 99, 2) := by decide +kernel
theorem dX11_isWalk_31 : decode cX11_isWalk 31 = .ok (.if_icmp .gt 7, 3) := by decide +kernel
theorem dX11_isWalk_34 : decode cX11_isWalk 34 = .ok (.iconst 1, 1) := by decide +kernel
theorem dX11_isWalk_35 : decode cX11_isWalk 35 = .ok (.goto 4, 3) := by decide +kernel
theorem dX11_isWalk_38 : decode cX11_isWalk 38 = .ok (.iconst 0, 1) := by decide +kernel
theorem dX11_isWalk_39 : decode cX11_isWalk 39 = .ok (.ireturn, 1) := by decide +kernel
theorem dX11_think_0 : decode cX11_think 0 = .ok (.aload_n 0, 1) := by decide +kernel
theorem dX11_think_1 : decode cX11_think 1 = .ok (.getfield 37, 3) := by decide +kernel
theorem dX11_think_4 : decode cX11_think 4 = .ok (.aload_n 0, 1) := by decide +kernel
theorem dX11_think_5 : decode cX11_think 5 = .ok (.getfield 19, 3) := by decide +kernel
theorem dX11_think_8 : decode cX11_think 8 = .ok (.invokevirtual 322, 3) := by decide +kernel
theorem dX11_think_11 : decode cX11_think 11 = .ok (.aload_n 0, 1) := by decide +kernel
theorem dX11_think_12 : decode cX11_think 12 = .ok (.getfield 45, 3) := by decide +kernel
theorem dX11_think_15 : decode cX11_think 15 = .ok (.aload_n 0, 1) := by decide +kernel
theorem dX11_think_16 : decode cX11_think 16 = .ok (.getfield 37, 3) := by decide +kernel
theorem dX11_think_19 : decode cX11_think 19 = .ok (.invokevirtual 176, 3) := by decide +kernel
theorem dX11_think_22 : decode cX11_think 22 = .ok (.return_, 1) := by decide +kernel
theorem dX11_arrival_0 : decode cX11_arrival 0 = .ok (.aload_n 0, 1) := by decide +kernel
theorem dX11_arrival_1 : decode cX11_arrival 1 = .ok (.getfield 45, 3) := by decide +kernel
theorem dX11_arrival_4 : decode cX11_arrival 4 = .ok (.getfield 166, 3) := by decide +kernel
theorem dX11_arrival_7 : decode cX11_arrival 7 = .ok (.getfield 335, 3) := by decide +kernel
theorem dX11_arrival_10 : decode cX11_arrival 10 = .ok (.iload_n 3, 1) := by decide +kernel
theorem dX11_arrival_11 : decode cX11_arrival 11 = .ok (.dup2, 1) := by decide +kernel
theorem dX11_arrival_12 : decode cX11_arrival 12 = .ok (.iaload, 1) := by decide +kernel
theorem dX11_arrival_13 : decode cX11_arrival 13 = .ok (.iconst 1, 1) := by decide +kernel
theorem dX11_arrival_14 : decode cX11_arrival 14 = .ok (.iload_n 1, 1) := by decide +kernel
theorem dX11_arrival_15 : decode cX11_arrival 15 = .ok (.ishl, 1) := by decide +kernel
theorem dX11_arrival_16 : decode cX11_arrival 16 = .ok (.ior, 1) := by decide +kernel
theorem dX11_arrival_17 : decode cX11_arrival 17 = .ok (.iastore, 1) := by decide +kernel
theorem dX11_arrival_18 : decode cX11_arrival 18 = .ok (.aload_n 0, 1) := by decide +kernel
theorem dX11_arrival_19 : decode cX11_arrival 19 = .ok (.invokevirtual 233, 3) := by decide +kernel
theorem dX11_arrival_22 : decode cX11_arrival 22 = .ok (.aload_n 0, 1) := by decide +kernel
theorem dX11_arrival_23 : decode cX11_arrival 23 = .ok (.getfield 45, 3) := by decide +kernel
theorem dX11_arrival_26 : decode cX11_arrival 26 = .ok (.iload_n 1, 1) := by decide +kernel
theorem dX11_arrival_27 : decode cX11_arrival 27 = .ok (.iload_n 2, 1) := by decide +kernel
theorem dX11_arrival_28 : decode cX11_arrival 28 = .ok (.invokevirtual 236, 3) := by decide +kernel
theorem dX11_arrival_31 : decode cX11_arrival 31 = .ok (.aload_n 0, 1) := by decide +kernel
theorem dX11_arrival_32 : decode cX11_arrival 32 = .ok (.getfield 45, 3) := by decide +kernel
theorem dX11_arrival_35 : decode cX11_arrival 35 = .ok (.iload 4, 2) := by decide +kernel
theorem dX11_arrival_37 : decode cX11_arrival 37 = .ok (.invokevirtual 183, 3) := by decide +kernel
theorem dX11_arrival_40 : decode cX11_arrival 40 = .ok (.aload_n 0, 1) := by decide +kernel
theorem dX11_arrival_41 : decode cX11_arrival 41 = .ok (.getfield 45, 3) := by decide +kernel
theorem dX11_arrival_44 : decode cX11_arrival 44 = .ok (.getfield 166, 3) := by decide +kernel
theorem dX11_arrival_47 : decode cX11_arrival 47 = .ok (.getfield 335, 3) := by decide +kernel
theorem dX11_arrival_50 : decode cX11_arrival 50 = .ok (.iload_n 3, 1) := by decide +kernel
theorem dX11_arrival_51 : decode cX11_arrival 51 = .ok (.dup2, 1) := by decide +kernel
theorem dX11_arrival_52 : decode cX11_arrival 52 = .ok (.iaload, 1) := by decide +kernel
theorem dX11_arrival_53 : decode cX11_arrival 53 = .ok (.iconst 1, 1) := by decide +kernel
theorem dX11_arrival_54 : decode cX11_arrival 54 = .ok (.iload_n 1, 1) := by decide +kernel
theorem dX11_arrival_55 : decode cX11_arrival 55 = .ok (.ishl, 1) := by decide +kernel
theorem dX11_arrival_56 : decode cX11_arrival 56 = .ok (.iconst (-1), 1) := by decide +kernel
theorem dX11_arrival_57 : decode cX11_arrival 57 = .ok (.ixor, 1) := by decide +kernel
theorem dX11_arrival_58 : decode cX11_arrival 58 = .ok (.iand, 1) := by decide +kernel
theorem dX11_arrival_59 : decode cX11_arrival 59 = .ok (.iastore, 1) := by decide +kernel
theorem dX11_arrival_60 : decode cX11_arrival 60 = .ok (.aload_n 0, 1) := by decide +kernel
theorem dX11_arrival_61 : decode cX11_arrival 61 = .ok (.getfield 45, 3) := by decide +kernel
theorem dX11_arrival_64 : decode cX11_arrival 64 = .ok (.getfield 240, 3) := by decide +kernel
theorem dX11_arrival_67 : decode cX11_arrival 67 = .ok (.ireturn, 1) := by decide +kernel
theorem dX11_isEnough_0 : decode cX11_isEnough 0 = .ok (.aload_n 0, 1) := by decide +kernel
theorem dX11_isEnough_1 : decode cX11_isEnough 1 = .ok (.invokevirtual 233, 3) := by decide +kernel
theorem dX11_isEnough_4 : decode cX11_isEnough 4 = .ok (.aload_n 0, 1) := by decide +kernel
theorem dX11_isEnough_5 : decode cX11_isEnough 5 = .ok (.getfield 45, 3) := by decide +kernel
theorem dX11_isEnough_8 : decode cX11_isEnough 8 = .ok (.iload_n 1, 1) := by decide +kernel
theorem dX11_isEnough_9 : decode cX11_isEnough 9 = .ok (.putfield 338, 3) := by decide +kernel
theorem dX11_isEnough_12 : decode cX11_isEnough 12 = .ok (.aload_n 0, 1) := by decide +kernel
theorem dX11_isEnough_13 : decode cX11_isEnough 13 = .ok (.getfield 45, 3) := by decide +kernel
theorem dX11_isEnough_16 : decode cX11_isEnough 16 = .ok (.iload 4, 2) := by decide +kernel
theorem dX11_isEnough_18 : decode cX11_isEnough 18 = .ok (.invokevirtual 183, 3) := by decide +kernel
theorem dX11_isEnough_21 : decode cX11_isEnough 21 = .ok (.iconst 0, 1) := by decide +kernel
theorem dX11_isEnough_22 : decode cX11_isEnough 22 = .ok (.istore 5, 2) := by decide +kernel
theorem dX11_isEnough_24 : decode cX11_isEnough 24 = .ok (.iload 5, 2) := by decide +kernel
theorem dX11_isEnough_26 : decode cX11_isEnough 26 = .ok (.aload_n 0, 1) := by decide +kernel
theorem dX11_isEnough_27 : decode cX11_isEnough 27 = .ok (.getfield 12, 3) := by decide +kernel
theorem dX11_isEnough_30 : decode cX11_isEnough 30 = .ok (.getfield 79, 3) := by decide +kernel
theorem dX11_isEnough_33 : decode cX11_isEnough 33 = .ok (.getfield 330, 3) := by decide +kernel
theorem dX11_isEnough_36 : decode cX11_isEnough 36 = .ok (.if_icmp .ge 60, 3) := by decide +kernel
theorem dX11_isEnough_39 : decode cX11_isEnough 39 = .ok (.iload_n 2, 1) := by decide +kernel
theorem dX11_isEnough_40 : decode cX11_isEnough 40 = .ok (.iload 5, 2) := by decide +kernel
theorem dX11_isEnough_42 : decode cX11_isEnough 42 = .ok (.ishr, 1) := by decide +kernel
theorem dX11_isEnough_43 : decode cX11_isEnough 43 = .ok (.iconst 1, 1) := by decide +kernel
theorem dX11_isEnough_44 : decode cX11_isEnough 44 = .ok (.iand, 1) := by decide +kernel
theorem dX11_isEnough_45 : decode cX11_isEnough 45 = .ok (.iconst 1, 1) := by decide +kernel
theorem dX11_isEnough_46 : decode cX11_isEnough 46 = .ok (.if_icmp .ne 7, 3) := by decide +kernel
theorem dX11_isEnough_49 : decode cX11_isEnough 49 = .ok (.iconst 1, 1) := by decide +kernel
theorem dX11_isEnough_50 : decode cX11_isEnough 50 = .ok (.goto 4, 3) := by decide +kernel
theorem dX11_isEnough_53 : decode cX11_isEnough 53 = .ok (.iconst 0, 1) := by decide +kernel
theorem dX11_isEnough_54 : decode cX11_isEnough 54 = .ok (.istore 6, 2) := by decide +kernel
theorem dX11_isEnough_56 : decode cX11_isEnough 56 = .ok (.iload 6, 2) := by decide +kernel
theorem dX11_isEnough_58 : decode cX11_isEnough 58 = .ok (.ifCond .eq 32, 3) := by decide +kernel
theorem dX11_isEnough_61 : decode cX11_isEnough 61 = .ok (.aload_n 0, 1) := by decide +kernel
theorem dX11_isEnough_62 : decode cX11_isEnough 62 = .ok (.getfield 37, 3) := by decide +kernel
theorem dX11_isEnough_65 : decode cX11_isEnough 65 = .ok (.getfield 204, 3) := by decide +kernel
theorem dX11_isEnough_68 : decode cX11_isEnough 68 = .ok (.iload 5, 2) := by decide +kernel
theorem dX11_isEnough_70 : decode cX11_isEnough 70 = .ok (.iaload, 1) := by decide +kernel
theorem dX11_isEnough_71 : decode cX11_isEnough 71 = .ok (.ifCond .ne 19, 3) := by decide +kernel
theorem dX11_isEnough_74 : decode cX11_isEnough 74 = .ok (.aload_n 0, 1) := by decide +kernel
theorem dX11_isEnough_75 : decode cX11_isEnough 75 = .ok (.getfield 37, 3) := by decide +kernel
theorem dX11_isEnough_78 : decode cX11_isEnough 78 = .ok (.getfield 192, 3) := by decide +kernel
theorem dX11_isEnough_81 : decode cX11_isEnough 81 = .ok (.iload 5, 2) := by decide +kernel
theorem dX11_isEnough_83 : decode cX11_isEnough 83 = .ok (.iaload, 1) := by decide +kernel
theorem dX11_isEnough_84 : decode cX11_isEnough 84 = .ok (.iload_n 3, 1) := by decide +kernel
theorem dX11_isEnough_85 : decode cX11_isEnough 85 = .ok (.if_icmp .eq 5, 3) := by decide +kernel
theorem dX11_isEnough_88 : decode cX11_isEnough 88 = .ok (.iconst 0, 1) := by decide +kernel
theorem dX11_isEnough_89 : decode cX11_isEnough 89 = .ok (.ireturn, 1) := by decide +kernel
theorem dX11_isEnough_90 : decode cX11_isEnough 90 = .ok (.iinc 5 1, 3) := by decide +kernel
theorem dX11_isEnough_93 : decode cX11_isEnough 93 = .ok (.goto (-69), 3) := by decide +kernel
theorem dX11_isEnough_96 : decode cX11_isEnough 96 = .ok (.iconst 1, 1) := by decide +kernel
theorem dX11_isEnough_97 : decode cX11_isEnough 97 = .ok (.ireturn, 1) := by decide +kernel
theorem dX11_goesWithLists_0 : decode cX11_goesWithLists 0 = .ok (.aload_n 0, 1) := by decide +kernel
theorem dX11_goesWithLists_1 : decode cX11_goesWithLists 1 = .ok (.getfield 37, 3) := by decide +kernel
theorem dX11_goesWithLists_4 : decode cX11_goesWithLists 4 = .ok (.invokevirtual 66, 3) := by decide +kernel
theorem dX11_goesWithLists_7 : decode cX11_goesWithLists 7 = .ok (.aload_n 0, 1) := by decide +kernel
theorem dX11_goesWithLists_8 : decode cX11_goesWithLists 8 = .ok (.getfield 45, 3) := by decide +kernel
theorem dX11_goesWithLists_11 : decode cX11_goesWithLists 11 = .ok (.aload_n 0, 1) := by decide +kernel
theorem dX11_goesWithLists_12 : decode cX11_goesWithLists 12 = .ok (.getfield 37, 3) := by decide +kernel
theorem dX11_goesWithLists_15 : decode cX11_goesWithLists 15 = .ok (.invokevirtual 176, 3) := by decide +kernel
theorem dX11_goesWithLists_18 : decode cX11_goesWithLists 18 = .ok (.aload_n 0, 1) := by decide +kernel
theorem dX11_goesWithLists_19 : decode cX11_goesWithLists 19 = .ok (.getfield 45, 3) := by decide +kernel
theorem dX11_goesWithLists_22 : decode cX11_goesWithLists 22 = .ok (.iload_n 1, 1) := by decide +kernel
theorem dX11_goesWithLists_23 : decode cX11_goesWithLists 23 = .ok (.putfield 341, 3) := by decide +kernel
theorem dX11_goesWithLists_26 : decode cX11_goesWithLists 26 = .ok (.aload_n 0, 1) := by decide +kernel
theorem dX11_goesWithLists_27 : decode cX11_goesWithLists 27 = .ok (.getfield 12, 3) := by decide +kernel
theorem dX11_goesWithLists_30 : decode cX11_goesWithLists 30 = .ok (.getfield 300, 3) := by decide +kernel
theorem dX11_goesWithLists_33 : decode cX11_goesWithLists 33 = .ok (.invokevirtual 344, 3) := by decide +kernel
theorem dX11_goesWithLists_36 : decode cX11_goesWithLists 36 = .ok (.istore_n 2, 1) := by decide +kernel
theorem dX11_goesWithLists_37 : decode cX11_goesWithLists 37 = .ok (.iconst 0, 1) := by decide +kernel
theorem dX11_goesWithLists_38 : decode cX11_goesWithLists 38 = .ok (.istore_n 3, 1) := by decide +kernel
theorem dX11_goesWithLists_39 : decode cX11_goesWithLists 39 = .ok (.iload_n 3, 1) := by decide +kernel
theorem dX11_goesWithLists_40 : decode cX11_goesWithLists 40 = .ok (.iload_n 2, 1) := by decide +kernel
theorem dX11_goesWithLists_41 : decode cX11_goesWithLists 41 = .ok (.if_icmp .gt 52, 3) := by decide +kernel
theorem dX11_goesWithLists_44 : decode cX11_goesWithLists 44 = .ok (.aload_n 0, 1) := by decide +kernel
theorem dX11_goesWithLists_45 : decode cX11_goesWithLists 45 = .ok (.getfield 45, 3) := by decide +kernel
theorem dX11_goesWithLists_48 : decode cX11_goesWithLists 48 = .ok (.iload_n 3, 1) := by decide +kernel
theorem dX11_goesWithLists_49 : decode cX11_goesWithLists 49 = .ok (.invokevirtual 183, 3) := by decide +kernel
theorem dX11_goesWithLists_52 : decode cX11_goesWithLists 52 = .ok (.aload_n 0, 1) := by decide +kernel
theorem dX11_goesWithLists_53 : decode cX11_goesWithLists 53 = .ok (.getfield 45, 3) := by decide +kernel
theorem dX11_goesWithLists_56 : decode cX11_goesWithLists 56 = .ok (.getfield 166, 3) := by decide +kernel
theorem dX11_goesWithLists_59 : decode cX11_goesWithLists 59 = .ok (.getfield 347, 3) := by decide +kernel
theorem dX11_goesWithLists_62 : decode cX11_goesWithLists 62 = .ok (.iload_n 3, 1) := by decide +kernel
theorem dX11_goesWithLists_63 : decode cX11_goesWithLists 63 = .ok (.iaload, 1) := by decide +kernel
theorem dX11_goesWithLists_64 : decode cX11_goesWithLists 64 = .ok (.ifCond .eq 23, 3) := by decide +kernel
theorem dX11_goesWithLists_67 : decode cX11_goesWithLists 67 = .ok (.aload_n 0, 1) := by decide +kernel
theorem dX11_goesWithLists_68 : decode cX11_goesWithLists 68 = .ok (.getfield 12, 3) := by decide +kernel
theorem dX11_goesWithLists_71 : decode cX11_goesWithLists 71 = .ok (.getfield 300, 3) := by decide +kernel
theorem dX11_goesWithLists_74 : decode cX11_goesWithLists 74 = .ok (.iload_n 3, 1) := by decide +kernel
theorem dX11_goesWithLists_75 : decode cX11_goesWithLists 75 = .ok (.aload_n 0, 1) := by decide +kernel
theorem dX11_goesWithLists_76 : decode cX11_goesWithLists 76 = .ok (.getfield 37, 3) := by decide +kernel
theorem dX11_goesWithLists_79 : decode cX11_goesWithLists 79 = .ok (.invokevirtual 350, 3) := by decide +kernel
theorem dX11_goesWithLists_82 : decode cX11_goesWithLists 82 = .ok (.ifCond .ne 5, 3) := by decide +kernel
theorem dX11_goesWithLists_85 : decode cX11_goesWithLists 85 = .ok (.iconst 0, 1) := by decide +kernel
theorem dX11_goesWithLists_86 : decode cX11_goesWithLists 86 = .ok (.ireturn, 1) := by decide +kernel
theorem dX11_goesWithLists_87 : decode cX11_goesWithLists 87 = .ok (.iinc 3 1, 3) := by decide +kernel
theorem dX11_goesWithLists_90 : decode cX11_goesWithLists 90 = .ok (.goto (-51), 3) := by decide +kernel
theorem dX11_goesWithLists_93 : decode cX11_goesWithLists 93 = .ok (.iconst 1, 1) := by decide +kernel
theorem dX11_goesWithLists_94 : decode cX11_goesWithLists 94 = .ok (.ireturn, 1) := by decide +kernel
theorem dX12_init_0 : decode cX12_init 0 = .ok (.aload_n 0, 1) := by decide +kernel
theorem dX12_init_1 : decode cX12_init 1 = .ok (.invokespecial 1, 3) := by decide +kernel
theorem dX12_init_4 : decode cX12_init 4 = .ok (.aload_n 0, 1) := by decide +kernel
theorem dX12_init_5 : decode cX12_init 5 = .ok (.sipush 2490, 3) := by decide +kernel
theorem dX12_init_8 : decode cX12_init 8 = .ok (.newarray .int, 2) := by decide +kernel
theorem dX12_init_10 : decode cX12_init 10 = .ok (.putfield 7, 3) := by decide +kernel
theorem dX12_init_13 : decode cX12_init 13 = .ok (.aload_n 0, 1) := by decide +kernel
theorem dX12_init_14 : decode cX12_init 14 = .ok (.sipush 2490, 3) := by decide +kernel
theorem dX12_init_17 : decode cX12_init 17 = .ok (.newarray .int, 2) := by decide +kernel
theorem dX12_init_19 : decode cX12_init 19 = .ok (.putfield 13, 3) := by decide +kernel
theorem dX12_init_22 : decode cX12_init 22 = .ok (.aload_n 0, 1) := by decide +kernel
theorem dX12_init_23 : decode cX12_init 23 = .ok (.sipush 600, 3) := by decide +kernel
theorem dX12_init_26 : decode cX12_init 26 = .ok (.newarray .int, 2) := by decide +kernel
theorem dX12_init_28 : decode cX12_init 28 = .ok (.putfield 16, 3) := by decide +kernel
theorem dX12_init_31 : decode cX12_init 31 = .ok (.aload_n 0, 1) := by decide +kernel
theorem dX12_init_32 : decode cX12_init 32 = .ok (.bipush 48, 2) := by decide +kernel
theorem dX12_init_34 : decode cX12_init 34 = .ok (.newarray .int, 2) := by decide +kernel
theorem dX12_init_36 : decode cX12_init 36 = .ok (.putfield 19, 3) := by decide +kernel
theorem dX12_init_39 : decode cX12_init 39 = .ok (.aload_n 0, 1) := by decide +kernel
theorem dX12_init_40 : decode cX12_init 40 = .ok (.sipush 820, 3) := by decide +kernel
theorem dX12_init_43 : decode cX12_init 43 = .ok (.newarray .int, 2) := by decide +kernel
theorem dX12_init_45 : decode cX12_init 45 = .ok (.putfield 22, 3) := by decide +kernel
theorem dX12_init_48 : decode cX12_init 48 = .ok (.aload_n 0, 1) := by decide +kernel
theorem dX12_init_49 : decode cX12_init 49 = .ok (.sipush 400, 3) := by decide +kernel
theorem dX12_init_52 : decode cX12_init 52 = .ok (.newarray .int, 2) := by decide +kernel
theorem dX12_init_54 : decode cX12_init 54 = .ok (.putfield 25, 3) := by decide +kernel
theorem dX12_init_57 : decode cX12_init 57 = .ok (.aload_n 0, 1) := by decide +kernel
theorem dX12_init_58 : decode cX12_init 58 = .ok (.sipush 420, 3) := by decide +kernel
theorem dX12_init_61 : decode cX12_init 61 = .ok (.newarray .int, 2) := by decide +kernel
theorem dX12_init_63 : decode cX12_init 63 = .ok (.putfield 28, 3) := by decide +kernel
theorem dX12_init_66 : decode cX12_init 66 = .ok (.aload_n 0, 1) := by decide +kernel
theorem dX12_init_67 : decode cX12_init 67 = .ok (.bipush 8, 2) := by decide +kernel
theorem dX12_init_69 : decode cX12_init 69 = .ok (.newarray .int, 2) := by decide +kernel
theorem dX12_init_71 : decode cX12_init 71 = .ok (.putfield 31, 3) := by decide +kernel
theorem dX12_init_74 : decode cX12_init 74 = .ok (.aload_n 0, 1) := by decide +kernel
theorem dX12_init_75 : decode cX12_init 75 = .ok (.iconst (-1), 1) := by decide +kernel
theorem dX12_init_76 : decode cX12_init 76 = .ok (.putfield 34, 3) := by decide +kernel
theorem dX12_init_79 : decode cX12_init 79 = .ok (.aload_n 0, 1) := by decide +kernel
theorem dX12_init_80 : decode cX12_init 80 = .ok (.iconst (-1), 1) := by decide +kernel
theorem dX12_init_81 : decode cX12_init 81 = .ok (.putfield 38, 3) := by decide +kernel
theorem dX12_init_84 : decode cX12_init 84 = .ok (.aload_n 0, 1) := by decide +kernel
theorem dX12_init_85 : decode cX12_init 85 = .ok (.bipush 30, 2) := by decide +kernel
theorem dX12_init_87 : decode cX12_init 87 = .ok (.newarray .int, 2) := by decide +kernel
theorem dX12_init_89 : decode cX12_init 89 = .ok (.putfield 41, 3) := by decide +kernel
theorem dX12_init_92 : decode cX12_init 92 = .ok (.aload_n 0, 1) := by decide +kernel
theorem dX12_init_93 : decode cX12_init 93 = .ok (.bipush 30, 2) := by decide +kernel
theorem dX12_init_95 : decode cX12_init 95 = .ok (.newarray .int, 2) := by decide +kernel
theorem dX12_init_97 : decode cX12_init 97 = .ok (.putfield 44, 3) := by decide +kernel
theorem dX12_init_100 : decode cX12_init 100 = .ok (.aload_n 0, 1) := by decide +kernel
theorem dX12_init_101 : decode cX12_init 101 = .ok (.bipush 8, 2) := by decide +kernel
theorem dX12_init_103 : decode cX12_init 103 = .ok (.newarray .int, 2) := by decide +kernel
theorem dX12_init_105 : decode cX12_init 105 = .ok (.putfield 47, 3) := by decide +kernel
theorem dX12_init_108 : decode cX12_init 108 = .ok (.aload_n 0, 1) := by decide +kernel
theorem dX12_init_109 : decode cX12_init 109 = .ok (.getfield 7, 3) := by decide +kernel
theorem dX12_init_112 : decode cX12_init 112 = .ok (.iconst 0, 1) := by decide +kernel
theorem dX12_init_113 : decode cX12_init 113 = .ok (.iconst 1, 1) := by decide +kernel
theorem dX12_init_114 : decode cX12_init 114 = .ok (.iastore, 1) := by decide +kernel
theorem dX12_init_115 : decode cX12_init 115 = .ok (.aload_n 0, 1) := by decide +kernel
theorem dX12_init_116 : decode cX12_init 116 = .ok (.getfield 7, 3) := by decide +kernel
theorem dX12_init_119 : decode cX12_init 119 = .ok (.iconst 4, 1) := by decide +kernel
theorem dX12_init_120 : decode cX12_init 120 = .ok (.iconst (-1), 1) := by decide +kernel
theorem dX12_init_121 : decode cX12_init 121 = .ok (.iastore, 1) := by decide +kernel
theorem dX12_init_122 : decode cX12_init 122 = .ok (.return_, 1) := by decide +kernel
theorem dX12_isIn_0 : decode cX12_isIn 0 = .ok (.iload_n 0, 1) := by decide +kernel
theorem dX12_isIn_1 : decode cX12_isIn 1 = .ok (.iload_n 1, 1) := by decide +kernel
theorem dX12_isIn_2 : decode cX12_isIn 2 = .ok (.if_icmp .lt 12, 3) := by decide +kernel
theorem dX12_isIn_5 : decode cX12_isIn 5 = .ok (.iload_n 0, 1) := by decide +kernel
theorem dX12_isIn_6 : decode cX12_isIn 6 = .ok (.iload_n 2, 1) := by decide +kernel
theorem dX12_isIn_7 : decode cX12_isIn 7 = .ok (.if_icmp .gt 7, 3) := by decide +kernel
theorem dX12_isIn_10 : decode cX12_isIn 10 = .ok (.iconst 1, 1) := by decide +kernel
theorem dX12_isIn_11 : decode cX12_isIn 11 = .ok (.goto 4, 3) := by decide +kernel
theorem dX12_isIn_14 : decode cX12_isIn 14 = .ok (.iconst 0, 1) := by decide +kernel
theorem dX12_isIn_15 : decode cX12_isIn 15 = .ok (.ireturn, 1) := by decide +kernel
theorem dX12_bridges_0 : decode cX12_bridges 0 = .ok (.iload_n 1, 1) := by decide +kernel
theorem dX12_bridges_1 : decode cX12_bridges 1 = .ok (.iconst 1, 1) := by decide +kernel
theorem dX12_bridges_2 : decode cX12_bridges 2 = .ok (.iconst 3, 1) := by decide +kernel
theorem dX12_bridges_3 : decode cX12_bridges 3 = .ok (.invokestatic 50, 3) := by decide +kernel
theorem dX12_bridges_6 : decode cX12_bridges 6 = .ok (.ifCond .ne 5, 3) := by decide +kernel
theorem dX12_bridges_9 : decode cX12_bridges 9 = .ok (.iconst 0, 1) := by decide +kernel
theorem dX12_bridges_10 : decode cX12_bridges 10 = .ok (.ireturn, 1) := by decide +kernel
theorem dX12_bridges_11 : decode cX12_bridges 11 = .ok (.iconst 0, 1) := by decide +kernel
theorem dX12_bridges_12 : decode cX12_bridges 12 = .ok (.istore_n 2, 1) := by decide +kernel
theorem dX12_bridges_13 : decode cX12_bridges 13 = .ok (.iload_n 2, 1) := by decide +kernel
theorem dX12_bridges_14 : decode cX12_bridges 14 = .ok (.sipush 2490, 3) := by decide +kernel
theorem dX12_bridges_17 : decode cX12_bridges 17 = .ok (.if_icmp .ge 16, 3) := by decide +kernel
theorem dX12_bridges_20 : decode cX12_bridges 20 = .ok (.aload_n 0, 1) := by decide +kernel
theorem dX12_bridges_21 : decode cX12_bridges 21 = .ok (.getfield 7, 3) := by decide +kernel
theorem dX12_bridges_24 : decode cX12_bridges 24 = .ok (.iload_n 2, 1) := by decide +kernel
theorem dX12_bridges_25 : decode cX12_bridges 25 = .ok (.iconst 0, 1) := by decide +kernel
theorem dX12_bridges_26 : decode cX12_bridges 26 = .ok (.iastore, 1) := by decide +kernel
theorem dX12_bridges_27 : decode cX12_bridges 27 = .ok (.iinc 2 1, 3) := by decide +kernel
theorem dX12_bridges_30 : decode cX12_bridges 30 = .ok (.goto (-17), 3) := by decide +kernel
theorem dX12_bridges_33 : decode cX12_bridges 33 = .ok (.aload_n 0, 1) := by decide +kernel
theorem dX12_bridges_34 : decode cX12_bridges 34 = .ok (.getfield 7, 3) := by decide +kernel
theorem dX12_bridges_37 : decode cX12_bridges 37 = .ok (.iconst 0, 1) := by decide +kernel
theorem dX12_bridges_38 : decode cX12_bridges 38 = .ok (.iload_n 1, 1) := by decide +kernel
theorem dX12_bridges_39 : decode cX12_bridges 39 = .ok (.iastore, 1) := by decide +kernel
theorem dX12_bridges_40 : decode cX12_bridges 40 = .ok (.aload_n 0, 1) := by decide +kernel
theorem dX12_bridges_41 : decode cX12_bridges 41 = .ok (.getfield 7, 3) := by decide +kernel
theorem dX12_bridges_44 : decode cX12_bridges 44 = .ok (.iconst 4, 1) := by decide +kernel
theorem dX12_bridges_45 : decode cX12_bridges 45 = .ok (.iconst (-1), 1) := by decide +kernel
theorem dX12_bridges_46 : decode cX12_bridges 46 = .ok (.iastore, 1) := by decide +kernel
theorem dX12_bridges_47 : decode cX12_bridges 47 = .ok (.iconst 1, 1) := by decide +kernel
theorem dX12_bridges_48 : decode cX12_bridges 48 = .ok (.ireturn, 1) := by decide +kernel
theorem dX12_ofLoad_0 : decode cX12_ofLoad 0 = .ok (.aload_n 0, 1) := by decide +kernel
theorem dX12_ofLoad_1 : decode cX12_ofLoad 1 = .ok (.getfield 7, 3) := by decide +kernel
theorem dX12_ofLoad_4 : decode cX12_ofLoad 4 = .ok (.bipush 20, 2) := by decide +kernel
theorem dX12_ofLoad_6 : decode cX12_ofLoad 6 = .ok (.bipush 10, 2) := by decide +kernel
theorem dX12_ofLoad_8 : decode cX12_ofLoad 8 = .ok (.iload_n 1, 1) := by decide +kernel
theorem dX12_ofLoad_9 : decode cX12_ofLoad 9 = .ok (.imul, 1) := by decide +kernel
theorem dX12_ofLoad_10 : decode cX12_ofLoad 10 = .ok (.iadd, 1) := by decide +kernel
theorem dX12_ofLoad_11 : decode cX12_ofLoad 11 = .ok (.iload_n 2, 1) := by decide +kernel
theorem dX12_ofLoad_12 : decode cX12_ofLoad 12 = .ok (.iadd, 1) := by decide +kernel
theorem dX12_ofLoad_13 : decode cX12_ofLoad 13 = .ok (.iaload, 1) := by decide +kernel
theorem dX12_ofLoad_14 : decode cX12_ofLoad 14 = .ok (.ireturn, 1) := by decide +kernel
theorem dX12_loads_0 : decode cX12_loads 0 = .ok (.aload_n 0, 1) := by decide +kernel
theorem dX12_loads_1 : decode cX12_loads 1 = .ok (.getfield 7, 3) := by decide +kernel
theorem dX12_loads_4 : decode cX12_loads 4 = .ok (.bipush 20, 2) := by decide +kernel
theorem dX12_loads_6 : decode cX12_loads 6 = .ok (.bipush 10, 2) := by decide +kernel
theorem dX12_loads_8 : decode cX12_loads 8 = .ok (.iload_n 1, 1) := by decide +kernel
theorem dX12_loads_9 : decode cX12_loads 9 = .ok (.imul, 1) := by decide +kernel
theorem dX12_loads_10 : decode cX12_loads 10 = .ok (.iadd, 1) := by decide +kernel
theorem dX12_loads_11 : decode cX12_loads 11 = .ok (.iload_n 2, 1) := by decide +kernel
theorem dX12_loads_12 : decode cX12_loads 12 = .ok (.iadd, 1) := by decide +kernel
theorem dX12_loads_13 : decode cX12_loads 13 = .ok (.iload_n 3, 1) := by decide +kernel
theorem dX12_loads_14 : decode cX12_loads 14 = .ok (.iastore, 1) := by decide +kernel
theorem dX12_loads_15 : decode cX12_loads 15 = .ok (.return_, 1) := by decide +kernel
theorem dX12_ofOne_0 : decode cX12_ofOne 0 = .ok (.aload_n 0, 1) := by decide +kernel
theorem dX12_ofOne_1 : decode cX12_ofOne 1 = .ok (.getfield 7, 3) := by decide +kernel
theorem dX12_ofOne_4 : decode cX12_ofOne 4 = .ok (.sipush 320, 3) := by decide +kernel
theorem dX12_ofOne_7 : decode cX12_ofOne 7 = .ok (.bipush 14, 2) := by decide +kernel
theorem dX12_ofOne_9 : decode cX12_ofOne 9 = .ok (.iload_n 1, 1) := by decide +kernel
theorem dX12_ofOne_10 : decode cX12_ofOne 10 = .ok (.imul, 1) := by decide +kernel
theorem dX12_ofOne_11 : decode cX12_ofOne 11 = .ok (.iadd, 1) := by decide +kernel
theorem dX12_ofOne_12 : decode cX12_ofOne 12 = .ok (.iload_n 2, 1) := by decide +kernel
theorem dX12_ofOne_13 : decode cX12_ofOne 13 = .ok (.iadd, 1) := by decide +kernel
theorem dX12_ofOne_14 : decode cX12_ofOne 14 = .ok (.iaload, 1) := by decide +kernel
theorem dX12_ofOne_15 : decode cX12_ofOne 15 = .ok (.ireturn, 1) := by decide +kernel
theorem dX12_gives_0 : decode cX12_gives 0 = .ok (.aload_n 0, 1) := by decide +kernel
theorem dX12_gives_1 : decode cX12_gives 1 = .ok (.getfield 7, 3) := by decide +kernel
theorem dX12_gives_4 : decode cX12_gives 4 = .ok (.sipush 320, 3) := by decide +kernel
theorem dX12_gives_7 : decode cX12_gives 7 = .ok (.bipush 14, 2) := by decide +kernel
theorem dX12_gives_9 : decode cX12_gives 9 = .ok (.iload_n 1, 1) := by decide +kernel
theorem dX12_gives_10 : decode cX12_gives 10 = .ok (.imul, 1) := by decide +kernel
