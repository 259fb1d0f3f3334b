theorem dX0_init_0 : decode cX0_init 0 = .ok (.aload_n 0, 1) := by decide +kernel
theorem dX0_init_1 : decode cX0_init 1 = .ok (.invokespecial 3, 3) := by decide +kernel
theorem dX0_init_4 : decode cX0_init 4 = .ok (.aload_n 0, 1) := by decide +kernel
theorem dX0_init_5 : decode cX0_init 5 = .ok (.sipush 300, 3) := by decide +kernel
theorem dX0_init_8 : decode cX0_init 8 = .ok (.newarray .int, 2) := by decide +kernel
theorem dX0_init_10 : decode cX0_init 10 = .ok (.putfield 9, 3) := by decide +kernel
theorem dX0_init_13 : decode cX0_init 13 = .ok (.aload_n 0, 1) := by decide +kernel
theorem dX0_init_14 : decode cX0_init 14 = .ok (.sipush 300, 3) := by decide +kernel
theorem dX0_init_17 : decode cX0_init 17 = .ok (.newarray .int, 2) := by decide +kernel
theorem dX0_init_19 : decode cX0_init 19 = .ok (.putfield 15, 3) := by decide +kernel
theorem dX0_init_22 : decode cX0_init 22 = .ok (.aload_n 0, 1) := by decide +kernel
theorem dX0_init_23 : decode cX0_init 23 = .ok (.sipush 300, 3) := by decide +kernel
theorem dX0_init_26 : decode cX0_init 26 = .ok (.newarray .int, 2) := by decide +kernel
theorem dX0_init_28 : decode cX0_init 28 = .ok (.putfield 18, 3) := by decide +kernel
theorem dX0_init_31 : decode cX0_init 31 = .ok (.return_, 1) := by decide +kernel
theorem dX0_write_0 : decode cX0_write 0 = .ok (.aload_n 0, 1) := by decide +kernel
theorem dX0_write_1 : decode cX0_write 1 = .ok (.getfield 21, 3) := by decide +kernel
theorem dX0_write_4 : decode cX0_write 4 = .ok (.sipush 300, 3) := by decide +kernel
theorem dX0_write_7 : decode cX0_write 7 = .ok (.if_icmp .ge 43, 3) := by decide +kernel
theorem dX0_write_10 : decode cX0_write 10 = .ok (.aload_n 0, 1) := by decide +kernel
theorem dX0_write_11 : decode cX0_write 11 = .ok (.getfield 9, 3) := by decide +kernel
theorem dX0_write_14 : decode cX0_write 14 = .ok (.aload_n 0, 1) := by decide +kernel
theorem dX0_write_15 : decode cX0_write 15 = .ok (.getfield 21, 3) := by decide +kernel
theorem dX0_write_18 : decode cX0_write 18 = .ok (.iload_n 1, 1) := by decide +kernel
theorem dX0_write_19 : decode cX0_write 19 = .ok (.iastore, 1) := by decide +kernel
theorem dX0_write_20 : decode cX0_write 20 = .ok (.aload_n 0, 1) := by decide +kernel
theorem dX0_write_21 : decode cX0_write 21 = .ok (.getfield 15, 3) := by decide +kernel
theorem dX0_write_24 : decode cX0_write 24 = .ok (.aload_n 0, 1) := by decide +kernel
theorem dX0_write_25 : decode cX0_write 25 = .ok (.getfield 21, 3) := by decide +kernel
theorem dX0_write_28 : decode cX0_write 28 = .ok (.iload_n 2, 1) := by decide +kernel
theorem dX0_write_29 : decode cX0_write 29 = .ok (.iastore, 1) := by decide +kernel
theorem dX0_write_30 : decode cX0_write 30 = .ok (.aload_n 0, 1) := by decide +kernel
theorem dX0_write_31 : decode cX0_write 31 = .ok (.getfield 18, 3) := by decide +kernel
theorem dX0_write_34 : decode cX0_write 34 = .ok (.aload_n 0, 1) := by decide +kernel
theorem dX0_write_35 : decode cX0_write 35 = .ok (.getfield 21, 3) := by decide +kernel
theorem dX0_write_38 : decode cX0_write 38 = .ok (.iload_n 3, 1) := by decide +kernel
theorem dX0_write_39 : decode cX0_write 39 = .ok (.iastore, 1) := by decide +kernel
theorem dX0_write_40 : decode cX0_write 40 = .ok (.aload_n 0, 1) := by decide +kernel
theorem dX0_write_41 : decode cX0_write 41 = .ok (.dup, 1) := by decide +kernel
theorem dX0_write_42 : decode cX0_write 42 = .ok (.getfield 21, 3) := by decide +kernel
theorem dX0_write_45 : decode cX0_write 45 = .ok (.iconst 1, 1) := by decide +kernel
theorem dX0_write_46 : decode cX0_write 46 = .ok (.iadd, 1) := by decide +kernel
theorem dX0_write_47 : decode cX0_write 47 = .ok (.putfield 21, 3) := by decide +kernel
theorem dX0_write_50 : decode cX0_write 50 = .ok (.return_, 1) := by decide +kernel
theorem dX0_copyFrom_0 : decode cX0_copyFrom 0 = .ok (.aload_n 1, 1) := by decide +kernel
theorem dX0_copyFrom_1 : decode cX0_copyFrom 1 = .ok (.getfield 9, 3) := by decide +kernel
theorem dX0_copyFrom_4 : decode cX0_copyFrom 4 = .ok (.iconst 0, 1) := by decide +kernel
theorem dX0_copyFrom_5 : decode cX0_copyFrom 5 = .ok (.aload_n 0, 1) := by decide +kernel
theorem dX0_copyFrom_6 : decode cX0_copyFrom 6 = .ok (.getfield 9, 3) := by decide +kernel
theorem dX0_copyFrom_9 : decode cX0_copyFrom 9 = .ok (.iconst 0, 1) := by decide +kernel
theorem dX0_copyFrom_10 : decode cX0_copyFrom 10 = .ok (.sipush 300, 3) := by decide +kernel
theorem dX0_copyFrom_13 : decode cX0_copyFrom 13 = .ok (.invokestatic 25, 3) := by decide +kernel
theorem dX0_copyFrom_16 : decode cX0_copyFrom 16 = .ok (.aload_n 1, 1) := by decide +kernel
theorem dX0_copyFrom_17 : decode cX0_copyFrom 17 = .ok (.getfield 15, 3) := by decide +kernel
theorem dX0_copyFrom_20 : decode cX0_copyFrom 20 = .ok (.iconst 0, 1) := by decide +kernel
theorem dX0_copyFrom_21 : decode cX0_copyFrom 21 = .ok (.aload_n 0, 1) := by decide +kernel
theorem dX0_copyFrom_22 : decode cX0_copyFrom 22 = .ok (.getfield 15, 3) := by decide +kernel
theorem dX0_copyFrom_25 : decode cX0_copyFrom 25 = .ok (.iconst 0, 1) := by decide +kernel
theorem dX0_copyFrom_26 : decode cX0_copyFrom 26 = .ok (.sipush 300, 3) := by decide +kernel
theorem dX0_copyFrom_29 : decode cX0_copyFrom 29 = .ok (.invokestatic 25, 3) := by decide +kernel
theorem dX0_copyFrom_32 : decode cX0_copyFrom 32 = .ok (.aload_n 1, 1) := by decide +kernel
theorem dX0_copyFrom_33 : decode cX0_copyFrom 33 = .ok (.getfield 18, 3) := by decide +kernel
theorem dX0_copyFrom_36 : decode cX0_copyFrom 36 = .ok (.iconst 0, 1) := by decide +kernel
theorem dX0_copyFrom_37 : decode cX0_copyFrom 37 = .ok (.aload_n 0, 1) := by decide +kernel
theorem dX0_copyFrom_38 : decode cX0_copyFrom 38 = .ok (.getfield 18, 3) := by decide +kernel
theorem dX0_copyFrom_41 : decode cX0_copyFrom 41 = .ok (.iconst 0, 1) := by decide +kernel
theorem dX0_copyFrom_42 : decode cX0_copyFrom 42 = .ok (.sipush 300, 3) := by decide +kernel
theorem dX0_copyFrom_45 : decode cX0_copyFrom 45 = .ok (.invokestatic 25, 3) := by decide +kernel
theorem dX0_copyFrom_48 : decode cX0_copyFrom 48 = .ok (.aload_n 0, 1) := by decide +kernel
theorem dX0_copyFrom_49 : decode cX0_copyFrom 49 = .ok (.aload_n 1, 1) := by decide +kernel
theorem dX0_copyFrom_50 : decode cX0_copyFrom 50 = .ok (.getfield 21, 3) := by decide +kernel
theorem dX0_copyFrom_53 : decode cX0_copyFrom 53 = .ok (.putfield 21, 3) := by decide +kernel
theorem dX0_copyFrom_56 : decode cX0_copyFrom 56 = .ok (.return_, 1) := by decide +kernel
theorem dX1_init_0 : decode cX1_init 0 = .ok (.aload_n 0, 1) := by decide +kernel
theorem dX1_init_1 : decode cX1_init 1 = .ok (.invokespecial 3, 3) := by decide +kernel
theorem dX1_init_4 : decode cX1_init 4 = .ok (.aload_n 0, 1) := by decide +kernel
theorem dX1_init_5 : decode cX1_init 5 = .ok (.new 9, 3) := by decide +kernel
theorem dX1_init_8 : decode cX1_init 8 = .ok (.dup, 1) := by decide +kernel
theorem dX1_init_9 : decode cX1_init 9 = .ok (.invokespecial 11, 3) := by decide +kernel
theorem dX1_init_12 : decode cX1_init 12 = .ok (.putfield 12, 3) := by decide +kernel
theorem dX1_init_15 : decode cX1_init 15 = .ok (.aload_n 0, 1) := by decide +kernel
theorem dX1_init_16 : decode cX1_init 16 = .ok (.bipush 30, 2) := by decide +kernel
theorem dX1_init_18 : decode cX1_init 18 = .ok (.newarray .int, 2) := by decide +kernel
theorem dX1_init_20 : decode cX1_init 20 = .ok (.putfield 18, 3) := by decide +kernel
theorem dX1_init_23 : decode cX1_init 23 = .ok (.aload_n 0, 1) := by decide +kernel
theorem dX1_init_24 : decode cX1_init 24 = .ok (.bipush 7, 2) := by decide +kernel
theorem dX1_init_26 : decode cX1_init 26 = .ok (.newarray .int, 2) := by decide +kernel
theorem dX1_init_28 : decode cX1_init 28 = .ok (.putfield 22, 3) := by decide +kernel
theorem dX1_init_31 : decode cX1_init 31 = .ok (.aload_n 0, 1) := by decide +kernel
theorem dX1_init_32 : decode cX1_init 32 = .ok (.aload_n 1, 1) := by decide +kernel
theorem dX1_init_33 : decode cX1_init 33 = .ok (.putfield 25, 3) := by decide +kernel
theorem dX1_init_36 : decode cX1_init 36 = .ok (.aload_n 0, 1) := by decide +kernel
theorem dX1_init_37 : decode cX1_init 37 = .ok (.aload_n 2, 1) := by decide +kernel
theorem dX1_init_38 : decode cX1_init 38 = .ok (.putfield 29, 3) := by decide +kernel
theorem dX1_init_41 : decode cX1_init 41 = .ok (.aload_n 0, 1) := by decide +kernel
theorem dX1_init_42 : decode cX1_init 42 = .ok (.aload_n 3, 1) := by decide +kernel
theorem dX1_init_43 : decode cX1_init 43 = .ok (.putfield 33, 3) := by decide +kernel
theorem dX1_init_46 : decode cX1_init 46 = .ok (.return_, 1) := by decide +kernel
theorem dX1_begin_0 : decode cX1_begin 0 = .ok (.aload_n 0, 1) := by decide +kernel
theorem dX1_begin_1 : decode cX1_begin 1 = .ok (.aload_n 1, 1) := by decide +kernel
theorem dX1_begin_2 : decode cX1_begin 2 = .ok (.putfield 33, 3) := by decide +kernel
theorem dX1_begin_5 : decode cX1_begin 5 = .ok (.aload_n 0, 1) := by decide +kernel
theorem dX1_begin_6 : decode cX1_begin 6 = .ok (.iconst 0, 1) := by decide +kernel
theorem dX1_begin_7 : decode cX1_begin 7 = .ok (.putfield 37, 3) := by decide +kernel
theorem dX1_begin_10 : decode cX1_begin 10 = .ok (.aload_n 0, 1) := by decide +kernel
theorem dX1_begin_11 : decode cX1_begin 11 = .ok (.aload_n 0, 1) := by decide +kernel
theorem dX1_begin_12 : decode cX1_begin 12 = .ok (.getfield 25, 3) := by decide +kernel
theorem dX1_begin_15 : decode cX1_begin 15 = .ok (.getfield 41, 3) := by decide +kernel
theorem dX1_begin_18 : decode cX1_begin 18 = .ok (.putfield 47, 3) := by decide +kernel
theorem dX1_begin_21 : decode cX1_begin 21 = .ok (.aload_n 0, 1) := by decide +kernel
theorem dX1_begin_22 : decode cX1_begin 22 = .ok (.iconst 0, 1) := by decide +kernel
theorem dX1_begin_23 : decode cX1_begin 23 = .ok (.putfield 48, 3) := by decide +kernel
theorem dX1_begin_26 : decode cX1_begin 26 = .ok (.aload_n 0, 1) := by decide +kernel
theorem dX1_begin_27 : decode cX1_begin 27 = .ok (.iconst 0, 1) := by decide +kernel
theorem dX1_begin_28 : decode cX1_begin 28 = .ok (.putfield 51, 3) := by decide +kernel
theorem dX1_begin_31 : decode cX1_begin 31 = .ok (.aload_n 0, 1) := by decide +kernel
theorem dX1_begin_32 : decode cX1_begin 32 = .ok (.iconst (-1), 1) := by decide +kernel
theorem dX1_begin_33 : decode cX1_begin 33 = .ok (.putfield 54, 3) := by decide +kernel
theorem dX1_begin_36 : decode cX1_begin 36 = .ok (.aload_n 0, 1) := by decide +kernel
theorem dX1_begin_37 : decode cX1_begin 37 = .ok (.iconst (-1), 1) := by decide +kernel
theorem dX1_begin_38 : decode cX1_begin 38 = .ok (.putfield 57, 3) := by decide +kernel
theorem dX1_begin_41 : decode cX1_begin 41 = .ok (.aload_n 0, 1) := by decide +kernel
theorem dX1_begin_42 : decode cX1_begin 42 = .ok (.iconst (-1), 1) := by decide +kernel
theorem dX1_begin_43 : decode cX1_begin 43 = .ok (.putfield 60, 3) := by decide +kernel
theorem dX1_begin_46 : decode cX1_begin 46 = .ok (.aload_n 0, 1) := by decide +kernel
theorem dX1_begin_47 : decode cX1_begin 47 = .ok (.iconst (-1), 1) := by decide +kernel
theorem dX1_begin_48 : decode cX1_begin 48 = .ok (.putfield 63, 3) := by decide +kernel
theorem dX1_begin_51 : decode cX1_begin 51 = .ok (.aload_n 0, 1) := by decide +kernel
theorem dX1_begin_52 : decode cX1_begin 52 = .ok (.iconst 0, 1) := by decide +kernel
theorem dX1_begin_53 : decode cX1_begin 53 = .ok (.putfield 66, 3) := by decide +kernel
theorem dX1_begin_56 : decode cX1_begin 56 = .ok (.return_, 1) := by decide +kernel
theorem dX1_watch_0 : decode cX1_watch 0 = .ok (.aload_n 0, 1) := by decide +kernel
theorem dX1_watch_1 : decode cX1_watch 1 = .ok (.iload_n 1, 1) := by decide +kernel
theorem dX1_watch_2 : decode cX1_watch 2 = .ok (.putfield 54, 3) := by decide +kernel
theorem dX1_watch_5 : decode cX1_watch 5 = .ok (.aload_n 0, 1) := by decide +kernel
theorem dX1_watch_6 : decode cX1_watch 6 = .ok (.iload_n 2, 1) := by decide +kernel
theorem dX1_watch_7 : decode cX1_watch 7 = .ok (.putfield 57, 3) := by decide +kernel
theorem dX1_watch_10 : decode cX1_watch 10 = .ok (.return_, 1) := by decide +kernel
theorem dX1_goOn_0 : decode cX1_goOn 0 = .ok (.aload_n 0, 1) := by decide +kernel
theorem dX1_goOn_1 : decode cX1_goOn 1 = .ok (.getfield 33, 3) := by decide +kernel
theorem dX1_goOn_4 : decode cX1_goOn 4 = .ok (.getfield 69, 3) := by decide +kernel
theorem dX1_goOn_7 : decode cX1_goOn 7 = .ok (.istore_n 2, 1) := by decide +kernel
theorem dX1_goOn_8 : decode cX1_goOn 8 = .ok (.iload_n 2, 1) := by decide +kernel
theorem dX1_goOn_9 : decode cX1_goOn 9 = .ok (.iload_n 1, 1) := by decide +kernel
theorem dX1_goOn_10 : decode cX1_goOn 10 = .ok (.if_icmp .gt 39, 3) := by decide +kernel
theorem dX1_goOn_13 : decode cX1_goOn 13 = .ok (.iload_n 2, 1) := by decide +kernel
theorem dX1_goOn_14 : decode cX1_goOn 14 = .ok (.sipush 168, 3) := by decide +kernel
theorem dX1_goOn_17 : decode cX1_goOn 17 = .ok (.if_icmp .ge 32, 3) := by decide +kernel
theorem dX1_goOn_20 : decode cX1_goOn 20 = .ok (.aload_n 0, 1) := by decide +kernel
theorem dX1_goOn_21 : decode cX1_goOn 21 = .ok (.getfield 60, 3) := by decide +kernel
theorem dX1_goOn_24 : decode cX1_goOn 24 = .ok (.iconst (-1), 1) := by decide +kernel
theorem dX1_goOn_25 : decode cX1_goOn 25 = .ok (.if_icmp .ne 24, 3) := by decide +kernel
theorem dX1_goOn_28 : decode cX1_goOn 28 = .ok (.aload_n 0, 1) := by decide +kernel
theorem dX1_goOn_29 : decode cX1_goOn 29 = .ok (.iload_n 2, 1) := by decide +kernel
theorem dX1_goOn_30 : decode cX1_goOn 30 = .ok (.invokevirtual 74, 3) := by decide +kernel
theorem dX1_goOn_33 : decode cX1_goOn 33 = .ok (.aload_n 0, 1) := by decide +kernel
theorem dX1_goOn_34 : decode cX1_goOn 34 = .ok (.getfield 33, 3) := by decide +kernel
theorem dX1_goOn_37 : decode cX1_goOn 37 = .ok (.iload_n 2, 1) := by decide +kernel
theorem dX1_goOn_38 : decode cX1_goOn 38 = .ok (.iconst 1, 1) := by decide +kernel
theorem dX1_goOn_39 : decode cX1_goOn 39 = .ok (.iadd, 1) := by decide +kernel
theorem dX1_goOn_40 : decode cX1_goOn 40 = .ok (.putfield 69, 3) := by decide +kernel
theorem dX1_goOn_43 : decode cX1_goOn 43 = .ok (.iinc 2 1, 3) := by decide +kernel
theorem dX1_goOn_46 : decode cX1_goOn 46 = .ok (.goto (-38), 3) := by decide +kernel
theorem dX1_goOn_49 : decode cX1_goOn 49 = .ok (.return_, 1) := by decide +kernel
theorem dX1_pass_0 : decode cX1_pass 0 = .ok (.aload_n 0, 1) := by decide +kernel
theorem dX1_pass_1 : decode cX1_pass 1 = .ok (.getfield 12, 3) := by decide +kernel
theorem dX1_pass_4 : decode cX1_pass 4 = .ok (.getfield 78, 3) := by decide +kernel
theorem dX1_pass_7 : decode cX1_pass 7 = .ok (.iload_n 1, 1) := by decide +kernel
theorem dX1_pass_8 : decode cX1_pass 8 = .ok (.iaload, 1) := by decide +kernel
theorem dX1_pass_9 : decode cX1_pass 9 = .ok (.ifCond .eq 17, 3) := by decide +kernel
theorem dX1_pass_12 : decode cX1_pass 12 = .ok (.aload_n 0, 1) := by decide +kernel
theorem dX1_pass_13 : decode cX1_pass 13 = .ok (.aload_n 0, 1) := by decide +kernel
theorem dX1_pass_14 : decode cX1_pass 14 = .ok (.getfield 12, 3) := by decide +kernel
theorem dX1_pass_17 : decode cX1_pass 17 = .ok (.getfield 78, 3) := by decide +kernel
theorem dX1_pass_20 : decode cX1_pass 20 = .ok (.iload_n 1, 1) := by decide +kernel
theorem dX1_pass_21 : decode cX1_pass 21 = .ok (.iaload, 1) := by decide +kernel
theorem dX1_pass_22 : decode cX1_pass 22 = .ok (.iload_n 1, 1) := by decide +kernel
theorem dX1_pass_23 : decode cX1_pass 23 = .ok (.invokevirtual 81, 3) := by decide +kernel
theorem dX1_pass_26 : decode cX1_pass 26 = .ok (.aload_n 0, 1) := by decide +kernel
theorem dX1_pass_27 : decode cX1_pass 27 = .ok (.getfield 12, 3) := by decide +kernel
theorem dX1_pass_30 : decode cX1_pass 30 = .ok (.getfield 85, 3) := by decide +kernel
theorem dX1_pass_33 : decode cX1_pass 33 = .ok (.iload_n 1, 1) := by decide +kernel
theorem dX1_pass_34 : decode cX1_pass 34 = .ok (.iaload, 1) := by decide +kernel
theorem dX1_pass_35 : decode cX1_pass 35 = .ok (.ifCond .eq 16, 3) := by decide +kernel
theorem dX1_pass_38 : decode cX1_pass 38 = .ok (.aload_n 0, 1) := by decide +kernel
theorem dX1_pass_39 : decode cX1_pass 39 = .ok (.aload_n 0, 1) := by decide +kernel
theorem dX1_pass_40 : decode cX1_pass 40 = .ok (.getfield 12, 3) := by decide +kernel
theorem dX1_pass_43 : decode cX1_pass 43 = .ok (.getfield 85, 3) := by decide +kernel
theorem dX1_pass_46 : decode cX1_pass 46 = .ok (.iload_n 1, 1) := by decide +kernel
theorem dX1_pass_47 : decode cX1_pass 47 = .ok (.iaload, 1) := by decide +kernel
theorem dX1_pass_48 : decode cX1_pass 48 = .ok (.invokevirtual 88, 3) := by decide +kernel
theorem dX1_pass_51 : decode cX1_pass 51 = .ok (.aload_n 0, 1) := by decide +kernel
theorem dX1_pass_52 : decode cX1_pass 52 = .ok (.getfield 12, 3) := by decide +kernel
theorem dX1_pass_55 : decode cX1_pass 55 = .ok (.getfield 91, 3) := by decide +kernel
theorem dX1_pass_58 : decode cX1_pass 58 = .ok (.iload_n 1, 1) := by decide +kernel
theorem dX1_pass_59 : decode cX1_pass 59 = .ok (.iaload, 1) := by decide +kernel
theorem dX1_pass_60 : decode cX1_pass 60 = .ok (.aload_n 0, 1) := by decide +kernel
theorem dX1_pass_61 : decode cX1_pass 61 = .ok (.getfield 51, 3) := by decide +kernel
theorem dX1_pass_64 : decode cX1_pass 64 = .ok (.iconst (-1), 1) := by decide +kernel
theorem dX1_pass_65 : decode cX1_pass 65 = .ok (.ixor, 1) := by decide +kernel
theorem dX1_pass_66 : decode cX1_pass 66 = .ok (.iand, 1) := by decide +kernel
theorem dX1_pass_67 : decode cX1_pass 67 = .ok (.istore_n 2, 1) := by decide +kernel
theorem dX1_pass_68 : decode cX1_pass 68 = .ok (.iconst 0, 1) := by decide +kernel
theorem dX1_pass_69 : decode cX1_pass 69 = .ok (.istore_n 3, 1) := by decide +kernel
theorem dX1_pass_70 : decode cX1_pass 70 = .ok (.iload_n 2, 1) := by decide +kernel
theorem dX1_pass_71 : decode cX1_pass 71 = .ok (.ifCond .eq 48, 3) := by decide +kernel
theorem dX1_pass_74 : decode cX1_pass 74 = .ok (.iload_n 3, 1) := by decide +kernel
theorem dX1_pass_75 : decode cX1_pass 75 = .ok (.aload_n 0, 1) := by decide +kernel
theorem dX1_pass_76 : decode cX1_pass 76 = .ok (.getfield 25, 3) := by decide +kernel
theorem dX1_pass_79 : decode cX1_pass 79 = .ok (.getfield 94, 3) := by decide +kernel
theorem dX1_pass_82 : decode cX1_pass 82 = .ok (.getfield 98, 3) := by decide +kernel
theorem dX1_pass_85 : decode cX1_pass 85 = .ok (.if_icmp .ge 34, 3) := by decide +kernel
theorem dX1_pass_88 : decode cX1_pass 88 = .ok (.iload_n 2, 1) := by decide +kernel
theorem dX1_pass_89 : decode cX1_pass 89 = .ok (.iload_n 3, 1) := by decide +kernel
theorem dX1_pass_90 : decode cX1_pass 90 = .ok (.ishr, 1) := by decide +kernel
theorem dX1_pass_91 : decode cX1_pass 91 = .ok (.iconst 1, 1) := by decide +kernel
theorem dX1_pass_92 : decode cX1_pass 92 = .ok (.iand, 1) := by decide +kernel
theorem dX1_pass_93 : decode cX1_pass 93 = .ok (.iconst 1, 1) := by decide +kernel
theorem dX1_pass_94 : decode cX1_pass 94 = .ok (.if_icmp .ne 19, 3) := by decide +kernel
theorem dX1_pass_97 : decode cX1_pass 97 = .ok (.aload_n 0, 1) := by decide +kernel
theorem dX1_pass_98 : decode cX1_pass 98 = .ok (.iload_n 3, 1) := by decide +kernel
theorem dX1_pass_99 : decode cX1_pass 99 = .ok (.iload_n 1, 1) := by decide +kernel
theorem dX1_pass_100 : decode cX1_pass 100 = .ok (.invokevirtual 103, 3) := by decide +kernel
theorem dX1_pass_103 : decode cX1_pass 103 = .ok (.ifCond .eq 10, 3) := by decide +kernel
theorem dX1_pass_106 : decode cX1_pass 106 = .ok (.aload_n 0, 1) := by decide +kernel
theorem dX1_pass_107 : decode cX1_pass 107 = .ok (.iload_n 3, 1) := by decide +kernel
theorem dX1_pass_108 : decode cX1_pass 108 = .ok (.iload_n 1, 1) := by decide +kernel
theorem dX1_pass_109 : decode cX1_pass 109 = .ok (.iconst 0, 1) := by decide +kernel
theorem dX1_pass_110 : decode cX1_pass 110 = .ok (.invokevirtual 107, 3) := by decide +kernel
theorem dX1_pass_113 : decode cX1_pass 113 = .ok (.iinc 3 1, 3) := by decide +kernel
theorem dX1_pass_116 : decode cX1_pass 116 = .ok (.goto (-46), 3) := by decide +kernel
theorem dX1_pass_119 : decode cX1_pass 119 = .ok (.aload_n 0, 1) := by decide +kernel
theorem dX1_pass_120 : decode cX1_pass 120 = .ok (.getfield 12, 3) := by decide +kernel
theorem dX1_pass_123 : decode cX1_pass 123 = .ok (.getfield 111, 3) := by decide +kernel
theorem dX1_pass_126 : decode cX1_pass 126 = .ok (.iload_n 1, 1) := by decide +kernel
theorem dX1_pass_127 : decode cX1_pass 127 = .ok (.iaload, 1) := by decide +kernel
theorem dX1_pass_128 : decode cX1_pass 128 = .ok (.aload_n 0, 1) := by decide +kernel
theorem dX1_pass_129 : decode cX1_pass 129 = .ok (.getfield 48, 3) := by decide +kernel
theorem dX1_pass_132 : decode cX1_pass 132 = .ok (.iand, 1) := by decide +kernel
theorem dX1_pass_133 : decode cX1_pass 133 = .ok (.istore_n 3, 1) := by decide +kernel
theorem dX1_pass_134 : decode cX1_pass 134 = .ok (.iconst 0, 1) := by decide +kernel
theorem dX1_pass_135 : decode cX1_pass 135 = .ok (.istore 4, 2) := by decide +kernel
theorem dX1_pass_137 : decode cX1_pass 137 = .ok (.iload_n 3, 1) := by decide +kernel
theorem dX1_pass_138 : decode cX1_pass 138 = .ok (.ifCond .eq 126, 3) := by decide +kernel
theorem dX1_pass_141 : decode cX1_pass 141 = .ok (.iload 4, 2) := by decide +kernel
theorem dX1_pass_143 : decode cX1_pass 143 = .ok (.aload_n 0, 1) := by decide +kernel
theorem dX1_pass_144 : decode cX1_pass 144 = .ok (.getfield 25, 3) := by decide +kernel
theorem dX1_pass_147 : decode cX1_pass 147 = .ok (.getfield 114, 3) := by decide +kernel
theorem dX1_pass_150 : decode cX1_pass 150 = .ok (.getfield 118, 3) := by decide +kernel
theorem dX1_pass_153 : decode cX1_pass 153 = .ok (.if_icmp .ge 111, 3) := by decide +kernel
theorem dX1_pass_156 : decode cX1_pass 156 = .ok (.iload_n 3, 1) := by decide +kernel
theorem dX1_pass_157 : decode cX1_pass 157 = .ok (.iload 4, 2) := by decide +kernel
theorem dX1_pass_159 : decode cX1_pass 159 = .ok (.ishr, 1) := by decide +kernel
theorem dX1_pass_160 : decode cX1_pass 160 = .ok (.iconst 1, 1) := by decide +kernel
theorem dX1_pass_161 : decode cX1_pass 161 = .ok (.iand, 1) := by decide +kernel
theorem dX1_pass_162 : decode cX1_pass 162 = .ok (.iconst 1, 1) := by decide +kernel
theorem dX1_pass_163 : decode cX1_pass 163 = .ok (.if_icmp .ne 95, 3) := by decide +kernel
theorem dX1_pass_166 : decode cX1_pass 166 = .ok (.aload_n 0, 1) := by decide +kernel
theorem dX1_pass_167 : decode cX1_pass 167 = .ok (.getfield 25, 3) := by decide +kernel
theorem dX1_pass_170 : decode cX1_pass 170 = .ok (.getfield 114, 3) := by decide +kernel
theorem dX1_pass_173 : decode cX1_pass 173 = .ok (.getfield 121, 3) := by decide +kernel
theorem dX1_pass_176 : decode cX1_pass 176 = .ok (.iload 4, 2) := by decide +kernel
theorem dX1_pass_178 : decode cX1_pass 178 = .ok (.iaload, 1) := by decide +kernel
theorem dX1_pass_179 : decode cX1_pass 179 = .ok (.aload_n 0, 1) := by decide +kernel
theorem dX1_pass_180 : decode cX1_pass 180 = .ok (.getfield 25, 3) := by decide +kernel
theorem dX1_pass_183 : decode cX1_pass 183 = .ok (.getfield 114, 3) := by decide +kernel
theorem dX1_pass_186 : decode cX1_pass 186 = .ok (.getfield 124, 3) := by decide +kernel
theorem dX1_pass_189 : decode cX1_pass 189 = .ok (.iload 4, 2) := by decide +kernel
theorem dX1_pass_191 : decode cX1_pass 191 = .ok (.iaload, 1) := by decide +kernel
theorem dX1_pass_192 : decode cX1_pass 192 = .ok (.iadd, 1) := by decide +kernel
theorem dX1_pass_193 : decode cX1_pass 193 = .ok (.istore 5, 2) := by decide +kernel
theorem dX1_pass_195 : decode cX1_pass 195 = .ok (.aload_n 0, 1) := by decide +kernel
theorem dX1_pass_196 : decode cX1_pass 196 = .ok (.getfield 25, 3) := by decide +kernel
theorem dX1_pass_199 : decode cX1_pass 199 = .ok (.getfield 114, 3) := by decide +kernel
theorem dX1_pass_202 : decode cX1_pass 202 = .ok (.getfield 121, 3) := by decide +kernel
theorem dX1_pass_205 : decode cX1_pass 205 = .ok (.iload 4, 2) := by decide +kernel
theorem dX1_pass_207 : decode cX1_pass 207 = .ok (.iaload, 1) := by decide +kernel
theorem dX1_pass_208 : decode cX1_pass 208 = .ok (.iconst 1, 1) := by decide +kernel
theorem dX1_pass_209 : decode cX1_pass 209 = .ok (.iadd, 1) := by decide +kernel
theorem dX1_pass_210 : decode cX1_pass 210 = .ok (.aload_n 0, 1) := by decide +kernel
theorem dX1_pass_211 : decode cX1_pass 211 = .ok (.getfield 25, 3) := by decide +kernel
theorem dX1_pass_214 : decode cX1_pass 214 = .ok (.getfield 114, 3) := by decide +kernel
theorem dX1_pass_217 : decode cX1_pass 217 = .ok (.getfield 124, 3) := by decide +kernel
theorem dX1_pass_220 : decode cX1_pass 220 = .ok (.iload 4, 2) := by decide +kernel
theorem dX1_pass_222 : decode cX1_pass 222 = .ok (.iaload, 1) := by decide +kernel
theorem dX1_pass_223 : decode cX1_pass 223 = .ok (.isub, 1) := by decide +kernel
theorem dX1_pass_224 : decode cX1_pass 224 = .ok (.istore 6, 2) := by decide +kernel
theorem dX1_pass_226 : decode cX1_pass 226 = .ok (.aload_n 0, 1) := by decide +kernel
theorem dX1_pass_227 : decode cX1_pass 227 = .ok (.iload 5, 2) := by decide +kernel
theorem dX1_pass_229 : decode cX1_pass 229 = .ok (.aload_n 0, 1) := by decide +kernel
theorem dX1_pass_230 : decode cX1_pass 230 = .ok (.getfield 25, 3) := by decide +kernel
theorem dX1_pass_233 : decode cX1_pass 233 = .ok (.getfield 114, 3) := by decide +kernel
theorem dX1_pass_236 : decode cX1_pass 236 = .ok (.getfield 127, 3) := by decide +kernel
theorem dX1_pass_239 : decode cX1_pass 239 = .ok (.iload 4, 2) := by decide +kernel
theorem dX1_pass_241 : decode cX1_pass 241 = .ok (.iaload, 1) := by decide +kernel
theorem dX1_pass_242 : decode cX1_pass 242 = .ok (.iconst 0, 1) := by decide +kernel
theorem dX1_pass_243 : decode cX1_pass 243 = .ok (.iload_n 1, 1) := by decide +kernel
theorem dX1_pass_244 : decode cX1_pass 244 = .ok (.invokevirtual 130, 3) := by decide +kernel
theorem dX1_pass_247 : decode cX1_pass 247 = .ok (.pop, 1) := by decide +kernel
theorem dX1_pass_248 : decode cX1_pass 248 = .ok (.aload_n 0, 1) := by decide +kernel
theorem dX1_pass_249 : decode cX1_pass 249 = .ok (.iload 5, 2) := by decide +kernel
theorem dX1_pass_251 : decode cX1_pass 251 = .ok (.iload 6, 2) := by decide +kernel
theorem dX1_pass_253 : decode cX1_pass 253 = .ok (.iload_n 1, 1) := by decide +kernel
theorem dX1_pass_254 : decode cX1_pass 254 = .ok (.iconst (-1), 1) := by decide +kernel
theorem dX1_pass_255 : decode cX1_pass 255 = .ok (.invokevirtual 134, 3) := by decide +kernel
theorem dX1_pass_258 : decode cX1_pass 258 = .ok (.iinc 4 1, 3) := by decide +kernel
theorem dX1_pass_261 : decode cX1_pass 261 = .ok (.goto (-124), 3) := by decide +kernel
theorem dX1_pass_264 : decode cX1_pass 264 = .ok (.return_, 1) := by decide +kernel
theorem dX1_bring_0 : decode cX1_bring 0 = .ok (.iconst 0, 1) := by decide +kernel
theorem dX1_bring_1 : decode cX1_bring 1 = .ok (.istore_n 3, 1) := by decide +kernel
theorem dX1_bring_2 : decode cX1_bring 2 = .ok (.iload_n 3, 1) := by decide +kernel
theorem dX1_bring_3 : decode cX1_bring 3 = .ok (.aload_n 0, 1) := by decide +kernel
theorem dX1_bring_4 : decode cX1_bring 4 = .ok (.getfield 25, 3) := by decide +kernel
theorem dX1_bring_7 : decode cX1_bring 7 = .ok (.getfield 138, 3) := by decide +kernel
theorem dX1_bring_10 : decode cX1_bring 10 = .ok (.getfield 142, 3) := by decide +kernel
theorem dX1_bring_13 : decode cX1_bring 13 = .ok (.if_icmp .ge 36, 3) := by decide +kernel
theorem dX1_bring_16 : decode cX1_bring 16 = .ok (.iload_n 1, 1) := by decide +kernel
theorem dX1_bring_17 : decode cX1_bring 17 = .ok (.iload_n 3, 1) := by decide +kernel
theorem dX1_bring_18 : decode cX1_bring 18 = .ok (.ishr, 1) := by decide +kernel
theorem dX1_bring_19 : decode cX1_bring 19 = .ok (.iconst 1, 1) := by decide +kernel
theorem dX1_bring_20 : decode cX1_bring 20 = .ok (.iand, 1) := by decide +kernel
theorem dX1_bring_21 : decode cX1_bring 21 = .ok (.iconst 1, 1) := by decide +kernel
theorem dX1_bring_22 : decode cX1_bring 22 = .ok (.if_icmp .ne 21, 3) := by decide +kernel
theorem dX1_bring_25 : decode cX1_bring 25 = .ok (.aload_n 0, 1) := by decide +kernel
theorem dX1_bring_26 : decode cX1_bring 26 = .ok (.iload_n 3, 1) := by decide +kernel
theorem dX1_bring_27 : decode cX1_bring 27 = .ok (.aload_n 0, 1) := by decide +kernel
theorem dX1_bring_28 : decode cX1_bring 28 = .ok (.getfield 25, 3) := by decide +kernel
theorem dX1_bring_31 : decode cX1_bring 31 = .ok (.getfield 138, 3) := by decide +kernel
theorem dX1_bring_34 : decode cX1_bring 34 = .ok (.getfield 145, 3) := by decide +kernel
theorem dX1_bring_37 : decode cX1_bring 37 = .ok (.iload_n 3, 1) := by decide +kernel
theorem dX1_bring_38 : decode cX1_bring 38 = .ok (.iaload, 1) := by decide +kernel
theorem dX1_bring_39 : decode cX1_bring 39 = .ok (.iload_n 2, 1) := by decide +kernel
theorem dX1_bring_40 : decode cX1_bring 40 = .ok (.invokevirtual 148, 3) := by decide +kernel
theorem dX1_bring_43 : decode cX1_bring 43 = .ok (.iinc 3 1, 3) := by decide +kernel
theorem dX1_bring_46 : decode cX1_bring 46 = .ok (.goto (-44), 3) := by decide +kernel
theorem dX1_bring_49 : decode cX1_bring 49 = .ok (.return_, 1) := by decide +kernel
theorem dX1_fetchOff_0 : decode cX1_fetchOff 0 = .ok (.iconst 0, 1) := by decide +kernel
theorem dX1_fetchOff_1 : decode cX1_fetchOff 1 = .ok (.istore_n 2, 1) := by decide +kernel
theorem dX1_fetchOff_2 : decode cX1_fetchOff 2 = .ok (.iload_n 2, 1) := by decide +kernel
theorem dX1_fetchOff_3 : decode cX1_fetchOff 3 = .ok (.aload_n 0, 1) := by decide +kernel
theorem dX1_fetchOff_4 : decode cX1_fetchOff 4 = .ok (.getfield 25, 3) := by decide +kernel
theorem dX1_fetchOff_7 : decode cX1_fetchOff 7 = .ok (.getfield 138, 3) := by decide +kernel
theorem dX1_fetchOff_10 : decode cX1_fetchOff 10 = .ok (.getfield 142, 3) := by decide +kernel
theorem dX1_fetchOff_13 : decode cX1_fetchOff 13 = .ok (.if_icmp .ge 84, 3) := by decide +kernel
theorem dX1_fetchOff_16 : decode cX1_fetchOff 16 = .ok (.aload_n 0, 1) := by decide +kernel
theorem dX1_fetchOff_17 : decode cX1_fetchOff 17 = .ok (.getfield 25, 3) := by decide +kernel
theorem dX1_fetchOff_20 : decode cX1_fetchOff 20 = .ok (.getfield 138, 3) := by decide +kernel
theorem dX1_fetchOff_23 : decode cX1_fetchOff 23 = .ok (.getfield 151, 3) := by decide +kernel
theorem dX1_fetchOff_26 : decode cX1_fetchOff 26 = .ok (.iload_n 2, 1) := by decide +kernel
theorem dX1_fetchOff_27 : decode cX1_fetchOff 27 = .ok (.iaload, 1) := by decide +kernel
theorem dX1_fetchOff_28 : decode cX1_fetchOff 28 = .ok (.istore_n 3, 1) := by decide +kernel
theorem dX1_fetchOff_29 : decode cX1_fetchOff 29 = .ok (.iload_n 1, 1) := by decide +kernel
theorem dX1_fetchOff_30 : decode cX1_fetchOff 30 = .ok (.iload_n 2, 1) := by decide +kernel
theorem dX1_fetchOff_31 : decode cX1_fetchOff 31 = .ok (.ishr, 1) := by decide +kernel
theorem dX1_fetchOff_32 : decode cX1_fetchOff 32 = .ok (.iconst 1, 1) := by decide +kernel
theorem dX1_fetchOff_33 : decode cX1_fetchOff 33 = .ok (.iand, 1) := by decide +kernel
theorem dX1_fetchOff_34 : decode cX1_fetchOff 34 = .ok (.iconst 1, 1) := by decide +kernel
theorem dX1_fetchOff_35 : decode cX1_fetchOff 35 = .ok (.if_icmp .ne 56, 3) := by decide +kernel
theorem dX1_fetchOff_38 : decode cX1_fetchOff 38 = .ok (.aload_n 0, 1) := by decide +kernel
theorem dX1_fetchOff_39 : decode cX1_fetchOff 39 = .ok (.getfield 25, 3) := by decide +kernel
theorem dX1_fetchOff_42 : decode cX1_fetchOff 42 = .ok (.iload_n 3, 1) := by decide +kernel
theorem dX1_fetchOff_43 : decode cX1_fetchOff 43 = .ok (.invokevirtual 154, 3) := by decide +kernel
theorem dX1_fetchOff_46 : decode cX1_fetchOff 46 = .ok (.ifCond .eq 45, 3) := by decide +kernel
theorem dX1_fetchOff_49 : decode cX1_fetchOff 49 = .ok (.aload_n 0, 1) := by decide +kernel
theorem dX1_fetchOff_50 : decode cX1_fetchOff 50 = .ok (.getfield 33, 3) := by decide +kernel
theorem dX1_fetchOff_53 : decode cX1_fetchOff 53 = .ok (.iload_n 2, 1) := by decide +kernel
theorem dX1_fetchOff_54 : decode cX1_fetchOff 54 = .ok (.iload_n 3, 1) := by decide +kernel
theorem dX1_fetchOff_55 : decode cX1_fetchOff 55 = .ok (.invokevirtual 158, 3) := by decide +kernel
theorem dX1_fetchOff_58 : decode cX1_fetchOff 58 = .ok (.ifCond .eq 33, 3) := by decide +kernel
theorem dX1_fetchOff_61 : decode cX1_fetchOff 61 = .ok (.aload_n 0, 1) := by decide +kernel
theorem dX1_fetchOff_62 : decode cX1_fetchOff 62 = .ok (.getfield 18, 3) := by decide +kernel
theorem dX1_fetchOff_65 : decode cX1_fetchOff 65 = .ok (.iconst 0, 1) := by decide +kernel
theorem dX1_fetchOff_66 : decode cX1_fetchOff 66 = .ok (.iload_n 2, 1) := by decide +kernel
theorem dX1_fetchOff_67 : decode cX1_fetchOff 67 = .ok (.iastore, 1) := by decide +kernel
theorem dX1_fetchOff_68 : decode cX1_fetchOff 68 = .ok (.aload_n 0, 1) := by decide +kernel
theorem dX1_fetchOff_69 : decode cX1_fetchOff 69 = .ok (.getfield 33, 3) := by decide +kernel
theorem dX1_fetchOff_72 : decode cX1_fetchOff 72 = .ok (.aload_n 0, 1) := by decide +kernel
theorem dX1_fetchOff_73 : decode cX1_fetchOff 73 = .ok (.getfield 18, 3) := by decide +kernel
theorem dX1_fetchOff_76 : decode cX1_fetchOff 76 = .ok (.iconst 1, 1) := by decide +kernel
theorem dX1_fetchOff_77 : decode cX1_fetchOff 77 = .ok (.iload_n 3, 1) := by decide +kernel
theorem dX1_fetchOff_78 : decode cX1_fetchOff 78 = .ok (.invokevirtual 161, 3) := by decide +kernel
theorem dX1_fetchOff_81 : decode cX1_fetchOff 81 = .ok (.aload_n 0, 1) := by decide +kernel
theorem dX1_fetchOff_82 : decode cX1_fetchOff 82 = .ok (.getfield 33, 3) := by decide +kernel
theorem dX1_fetchOff_85 : decode cX1_fetchOff 85 = .ok (.getfield 165, 3) := by decide +kernel
theorem dX1_fetchOff_88 : decode cX1_fetchOff 88 = .ok (.iload_n 2, 1) := by decide +kernel
theorem dX1_fetchOff_89 : decode cX1_fetchOff 89 = .ok (.iconst 1, 1) := by decide +kernel
theorem dX1_fetchOff_90 : decode cX1_fetchOff 90 = .ok (.iastore, 1) := by decide +kernel
theorem dX1_fetchOff_91 : decode cX1_fetchOff 91 = .ok (.iinc 2 1, 3) := by decide +kernel
theorem dX1_fetchOff_94 : decode cX1_fetchOff 94 = .ok (.goto (-92), 3) := by decide +kernel
theorem dX1_fetchOff_97 : decode cX1_fetchOff 97 = .ok (.return_, 1) := by decide +kernel
theorem dX1_arrive_0 : decode cX1_arrive 0 = .ok (.aload_n 0, 1) := by decide +kernel
theorem dX1_arrive_1 : decode cX1_arrive 1 = .ok (.getfield 33, 3) := by decide +kernel
theorem dX1_arrive_4 : decode cX1_arrive 4 = .ok (.iload_n 1, 1) := by decide +kernel
theorem dX1_arrive_5 : decode cX1_arrive 5 = .ok (.iload_n 2, 1) := by decide +kernel
theorem dX1_arrive_6 : decode cX1_arrive 6 = .ok (.iload_n 3, 1) := by decide +kernel
theorem dX1_arrive_7 : decode cX1_arrive 7 = .ok (.invokevirtual 168, 3) := by decide +kernel
theorem dX1_arrive_10 : decode cX1_arrive 10 = .ok (.iload_n 1, 1) := by decide +kernel
theorem dX1_arrive_11 : decode cX1_arrive 11 = .ok (.aload_n 0, 1) := by decide +kernel
theorem dX1_arrive_12 : decode cX1_arrive 12 = .ok (.getfield 54, 3) := by decide +kernel
theorem dX1_arrive_15 : decode cX1_arrive 15 = .ok (.if_icmp .ne 24, 3) := by decide +kernel
theorem dX1_arrive_18 : decode cX1_arrive 18 = .ok (.iload_n 2, 1) := by decide +kernel
theorem dX1_arrive_19 : decode cX1_arrive 19 = .ok (.aload_n 0, 1) := by decide +kernel
theorem dX1_arrive_20 : decode cX1_arrive 20 = .ok (.getfield 57, 3) := by decide +kernel
theorem dX1_arrive_23 : decode cX1_arrive 23 = .ok (.if_icmp .ne 16, 3) := by decide +kernel
theorem dX1_arrive_26 : decode cX1_arrive 26 = .ok (.aload_n 0, 1) := by decide +kernel
theorem dX1_arrive_27 : decode cX1_arrive 27 = .ok (.getfield 60, 3) := by decide +kernel
theorem dX1_arrive_30 : decode cX1_arrive 30 = .ok (.iconst (-1), 1) := by decide +kernel
theorem dX1_arrive_31 : decode cX1_arrive 31 = .ok (.if_icmp .ne 8, 3) := by decide +kernel
theorem dX1_arrive_34 : decode cX1_arrive 34 = .ok (.aload_n 0, 1) := by decide +kernel
theorem dX1_arrive_35 : decode cX1_arrive 35 = .ok (.iload_n 3, 1) := by decide +kernel
theorem dX1_arrive_36 : decode cX1_arrive 36 = .ok (.putfield 60, 3) := by decide +kernel
theorem dX1_arrive_39 : decode cX1_arrive 39 = .ok (.return_, 1) := by decide +kernel
theorem dX1_isToGo_0 : decode cX1_isToGo 0 = .ok (.aload_n 0, 1) := by decide +kernel
theorem dX1_isToGo_1 : decode cX1_isToGo 1 = .ok (.getfield 25, 3) := by decide +kernel
theorem dX1_isToGo_4 : decode cX1_isToGo 4 = .ok (.getfield 94, 3) := by decide +kernel
theorem dX1_isToGo_7 : decode cX1_isToGo 7 = .ok (.astore_n 3, 1) := by decide +kernel
theorem dX1_isToGo_8 : decode cX1_isToGo 8 = .ok (.aload_n 0, 1) := by decide +kernel
theorem dX1_isToGo_9 : decode cX1_isToGo 9 = .ok (.getfield 33, 3) := by decide +kernel
theorem dX1_isToGo_12 : decode cX1_isToGo 12 = .ok (.getfield 171, 3) := by decide +kernel
theorem dX1_isToGo_15 : decode cX1_isToGo 15 = .ok (.iload_n 1, 1) := by decide +kernel
theorem dX1_isToGo_16 : decode cX1_isToGo 16 = .ok (.iaload, 1) := by decide +kernel
theorem dX1_isToGo_17 : decode cX1_isToGo 17 = .ok (.iconst (-1), 1) := by decide +kernel
theorem dX1_isToGo_18 : decode cX1_isToGo 18 = .ok (.if_icmp .eq 5, 3) := by decide +kernel
theorem dX1_isToGo_21 : decode cX1_isToGo 21 = .ok (.iconst 0, 1) := by decide +kernel
theorem dX1_isToGo_22 : decode cX1_isToGo 22 = .ok (.ireturn, 1) := by decide +kernel
theorem dX1_isToGo_23 : decode cX1_isToGo 23 = .ok (.aload_n 3, 1) := by decide +kernel
theorem dX1_isToGo_24 : decode cX1_isToGo 24 = .ok (.getfield 174, 3) := by decide +kernel
theorem dX1_isToGo_27 : decode cX1_isToGo 27 = .ok (.iload_n 1, 1) := by decide +kernel
theorem dX1_isToGo_28 : decode cX1_isToGo 28 = .ok (.iaload, 1) := by decide +kernel
theorem dX1_isToGo_29 : decode cX1_isToGo 29 = .ok (.ifCond .ne 19, 3) := by decide +kernel
theorem dX1_isToGo_32 : decode cX1_isToGo 32 = .ok (.iload_n 2, 1) := by decide +kernel
theorem dX1_isToGo_33 : decode cX1_isToGo 33 = .ok (.aload_n 3, 1) := by decide +kernel
theorem dX1_isToGo_34 : decode cX1_isToGo 34 = .ok (.getfield 177, 3) := by decide +kernel
theorem dX1_isToGo_37 : decode cX1_isToGo 37 = .ok (.iload_n 1, 1) := by decide +kernel
theorem dX1_isToGo_38 : decode cX1_isToGo 38 = .ok (.iaload, 1) := by decide +kernel
theorem dX1_isToGo_39 : decode cX1_isToGo 39 = .ok (.if_icmp .ne 7, 3) := by decide +kernel
theorem dX1_isToGo_42 : decode cX1_isToGo 42 = .ok (.iconst 1, 1) := by decide +kernel
theorem dX1_isToGo_43 : decode cX1_isToGo 43 = .ok (.goto 4, 3) := by decide +kernel
theorem dX1_isToGo_46 : decode cX1_isToGo 46 = .ok (.iconst 0, 1) := by decide +kernel
theorem dX1_isToGo_47 : decode cX1_isToGo 47 = .ok (.ireturn, 1) := by decide +kernel
theorem dX1_isToGo_48 : decode cX1_isToGo 48 = .ok (.aload_n 0, 1) := by decide +kernel
theorem dX1_isToGo_49 : decode cX1_isToGo 49 = .ok (.getfield 33, 3) := by decide +kernel
theorem dX1_isToGo_52 : decode cX1_isToGo 52 = .ok (.getfield 180, 3) := by decide +kernel
theorem dX1_isToGo_55 : decode cX1_isToGo 55 = .ok (.aload_n 3, 1) := by decide +kernel
theorem dX1_isToGo_56 : decode cX1_isToGo 56 = .ok (.getfield 183, 3) := by decide +kernel
theorem dX1_isToGo_59 : decode cX1_isToGo 59 = .ok (.iload_n 1, 1) := by decide +kernel
theorem dX1_isToGo_60 : decode cX1_isToGo 60 = .ok (.iaload, 1) := by decide +kernel
theorem dX1_isToGo_61 : decode cX1_isToGo 61 = .ok (.aload_n 3, 1) := by decide +kernel
theorem dX1_isToGo_62 : decode cX1_isToGo 62 = .ok (.getfield 184, 3) := by decide +kernel
theorem dX1_isToGo_65 : decode cX1_isToGo 65 = .ok (.iload_n 1, 1) := by decide +kernel
theorem dX1_isToGo_66 : decode cX1_isToGo 66 = .ok (.iaload, 1) := by decide +kernel
theorem dX1_isToGo_67 : decode cX1_isToGo 67 = .ok (.iadd, 1) := by decide +kernel
theorem dX1_isToGo_68 : decode cX1_isToGo 68 = .ok (.iaload, 1) := by decide +kernel
theorem dX1_isToGo_69 : decode cX1_isToGo 69 = .ok (.ifCond .ne 7, 3) := by decide +kernel
theorem dX1_isToGo_72 : decode cX1_isToGo 72 = .ok (.iconst 1, 1) := by decide +kernel
theorem dX1_isToGo_73 : decode cX1_isToGo 73 = .ok (.goto 4, 3) := by decide +kernel
theorem dX1_isToGo_76 : decode cX1_isToGo 76 = .ok (.iconst 0, 1) := by decide +kernel
theorem dX1_isToGo_77 : decode cX1_isToGo 77 = .ok (.istore 4, 2) := by decide +kernel
theorem dX1_isToGo_79 : decode cX1_isToGo 79 = .ok (.aload_n 3, 1) := by decide +kernel
theorem dX1_isToGo_80 : decode cX1_isToGo 80 = .ok (.getfield 174, 3) := by decide +kernel
theorem dX1_isToGo_83 : decode cX1_isToGo 83 = .ok (.iload_n 1, 1) := by decide +kernel
theorem dX1_isToGo_84 : decode cX1_isToGo 84 = .ok (.iaload, 1) := by decide +kernel
theorem dX1_isToGo_85 : decode cX1_isToGo 85 = .ok (.iconst 1, 1) := by decide +kernel
theorem dX1_isToGo_86 : decode cX1_isToGo 86 = .ok (.if_icmp .ne 39, 3) := by decide +kernel
theorem dX1_isToGo_89 : decode cX1_isToGo 89 = .ok (.iload_n 2, 1) := by decide +kernel
theorem dX1_isToGo_90 : decode cX1_isToGo 90 = .ok (.aload_n 3, 1) := by decide +kernel
theorem dX1_isToGo_91 : decode cX1_isToGo 91 = .ok (.getfield 177, 3) := by decide +kernel
theorem dX1_isToGo_94 : decode cX1_isToGo 94 = .ok (.iload_n 1, 1) := by decide +kernel
theorem dX1_isToGo_95 : decode cX1_isToGo 95 = .ok (.iaload, 1) := by decide +kernel
theorem dX1_isToGo_96 : decode cX1_isToGo 96 = .ok (.if_icmp .lt 29, 3) := by decide +kernel
theorem dX1_isToGo_99 : decode cX1_isToGo 99 = .ok (.iload 4, 2) := by decide +kernel
theorem dX1_isToGo_101 : decode cX1_isToGo 101 = .ok (.ifCond .ne 20, 3) := by decide +kernel
theorem dX1_isToGo_104 : decode cX1_isToGo 104 = .ok (.iload_n 2, 1) := by decide +kernel
theorem dX1_isToGo_105 : decode cX1_isToGo 105 = .ok (.aload_n 3, 1) := by decide +kernel
theorem dX1_isToGo_106 : decode cX1_isToGo 106 = .ok (.getfield 177, 3) := by decide +kernel
theorem dX1_isToGo_109 : decode cX1_isToGo 109 = .ok (.iload_n 1, 1) := by decide +kernel
theorem dX1_isToGo_110 : decode cX1_isToGo 110 = .ok (.iaload, 1) := by decide +kernel
theorem dX1_isToGo_111 : decode cX1_isToGo 111 = .ok (.aload_n 3, 1) := by decide +kernel
theorem dX1_isToGo_112 : decode cX1_isToGo 112 = .ok (.getfield 185, 3) := by decide +kernel
theorem dX1_isToGo_115 : decode cX1_isToGo 115 = .ok (.iload_n 1, 1) := by decide +kernel
theorem dX1_isToGo_116 : decode cX1_isToGo 116 = .ok (.iaload, 1) := by decide +kernel
theorem dX1_isToGo_117 : decode cX1_isToGo 117 = .ok (.iadd, 1) := by decide +kernel
theorem dX1_isToGo_118 : decode cX1_isToGo 118 = .ok (.if_icmp .lt 7, 3) := by decide +kernel
theorem dX1_isToGo_121 : decode cX1_isToGo 121 = .ok (.iconst 1, 1) := by decide +kernel
theorem dX1_isToGo_122 : decode cX1_isToGo 122 = .ok (.goto 4, 3) := by decide +kernel
theorem dX1_isToGo_125 : decode cX1_isToGo 125 = .ok (.iconst 0, 1) := by decide +kernel
theorem dX1_isToGo_126 : decode cX1_isToGo 126 = .ok (.ireturn, 1) := by decide +kernel
theorem dX1_cross_0 : decode cX1_cross 0 = .ok (.aload_n 0, 1) := by decide +kernel
theorem dX1_cross_1 : decode cX1_cross 1 = .ok (.getfield 25, 3) := by decide +kernel
theorem dX1_cross_4 : decode cX1_cross 4 = .ok (.getfield 94, 3) := by decide +kernel
theorem dX1_cross_7 : decode cX1_cross 7 = .ok (.astore 4, 2) := by decide +kernel
theorem dX1_cross_9 : decode cX1_cross 9 = .ok (.aload 4, 2) := by decide +kernel
theorem dX1_cross_11 : decode cX1_cross 11 = .ok (.getfield 183, 3) := by decide +kernel
theorem dX1_cross_14 : decode cX1_cross 14 = .ok (.iload_n 1, 1) := by decide +kernel
theorem dX1_cross_15 : decode cX1_cross 15 = .ok (.iaload, 1) := by decide +kernel
theorem dX1_cross_16 : decode cX1_cross 16 = .ok (.aload 4, 2) := by decide +kernel
theorem dX1_cross_18 : decode cX1_cross 18 = .ok (.getfield 184, 3) := by decide +kernel
theorem dX1_cross_21 : decode cX1_cross 21 = .ok (.iload_n 1, 1) := by decide +kernel
theorem dX1_cross_22 : decode cX1_cross 22 = .ok (.iaload, 1) := by decide +kernel
theorem dX1_cross_23 : decode cX1_cross 23 = .ok (.iadd, 1) := by decide +kernel
theorem dX1_cross_24 : decode cX1_cross 24 = .ok (.istore 5, 2) := by decide +kernel
theorem dX1_cross_26 : decode cX1_cross 26 = .ok (.aload 4, 2) := by decide +kernel
theorem dX1_cross_28 : decode cX1_cross 28 = .ok (.getfield 183, 3) := by decide +kernel
theorem dX1_cross_31 : decode cX1_cross 31 = .ok (.iload_n 1, 1) := by decide +kernel
theorem dX1_cross_32 : decode cX1_cross 32 = .ok (.iaload, 1) := by decide +kernel
theorem dX1_cross_33 : decode cX1_cross 33 = .ok (.iconst 1, 1) := by decide +kernel
theorem dX1_cross_34 : decode cX1_cross 34 = .ok (.iadd, 1) := by decide +kernel
theorem dX1_cross_35 : decode cX1_cross 35 = .ok (.aload 4, 2) := by decide +kernel
theorem dX1_cross_37 : decode cX1_cross 37 = .ok (.getfield 184, 3) := by decide +kernel
theorem dX1_cross_40 : decode cX1_cross 40 = .ok (.iload_n 1, 1) := by decide +kernel
theorem dX1_cross_41 : decode cX1_cross 41 = .ok (.iaload, 1) := by decide +kernel
theorem dX1_cross_42 : decode cX1_cross 42 = .ok (.isub, 1) := by decide +kernel
theorem dX1_cross_43 : decode cX1_cross 43 = .ok (.istore 6, 2) := by decide +kernel
theorem dX1_cross_45 : decode cX1_cross 45 = .ok (.aload_n 0, 1) := by decide +kernel
theorem dX1_cross_46 : decode cX1_cross 46 = .ok (.iload 5, 2) := by decide +kernel
theorem dX1_cross_48 : decode cX1_cross 48 = .ok (.aload 4, 2) := by decide +kernel
theorem dX1_cross_50 : decode cX1_cross 50 = .ok (.getfield 188, 3) := by decide +kernel
theorem dX1_cross_53 : decode cX1_cross 53 = .ok (.iload_n 1, 1) := by decide +kernel
theorem dX1_cross_54 : decode cX1_cross 54 = .ok (.iaload, 1) := by decide +kernel
theorem dX1_cross_55 : decode cX1_cross 55 = .ok (.aload 4, 2) := by decide +kernel
theorem dX1_cross_57 : decode cX1_cross 57 = .ok (.getfield 189, 3) := by decide +kernel
theorem dX1_cross_60 : decode cX1_cross 60 = .ok (.iload_n 1, 1) := by decide +kernel
theorem dX1_cross_61 : decode cX1_cross 61 = .ok (.iaload, 1) := by decide +kernel
theorem dX1_cross_62 : decode cX1_cross 62 = .ok (.isub, 1) := by decide +kernel
theorem dX1_cross_63 : decode cX1_cross 63 = .ok (.aload 4, 2) := by decide +kernel
theorem dX1_cross_65 : decode cX1_cross 65 = .ok (.getfield 189, 3) := by decide +kernel
theorem dX1_cross_68 : decode cX1_cross 68 = .ok (.iload_n 1, 1) := by decide +kernel
theorem dX1_cross_69 : decode cX1_cross 69 = .ok (.iaload, 1) := by decide +kernel
theorem dX1_cross_70 : decode cX1_cross 70 = .ok (.iload_n 2, 1) := by decide +kernel
theorem dX1_cross_71 : decode cX1_cross 71 = .ok (.invokevirtual 130, 3) := by decide +kernel
theorem dX1_cross_74 : decode cX1_cross 74 = .ok (.istore 7, 2) := by decide +kernel
theorem dX1_cross_76 : decode cX1_cross 76 = .ok (.aload 4, 2) := by decide +kernel
theorem dX1_cross_78 : decode cX1_cross 78 = .ok (.getfield 192, 3) := by decide +kernel
theorem dX1_cross_81 : decode cX1_cross 81 = .ok (.iload_n 1, 1) := by decide +kernel
theorem dX1_cross_82 : decode cX1_cross 82 = .ok (.iaload, 1) := by decide +kernel
theorem dX1_cross_83 : decode cX1_cross 83 = .ok (.iload 7, 2) := by decide +kernel
theorem dX1_cross_85 : decode cX1_cross 85 = .ok (.imul, 1) := by decide +kernel
theorem dX1_cross_86 : decode cX1_cross 86 = .ok (.istore 8, 2) := by decide +kernel
theorem dX1_cross_88 : decode cX1_cross 88 = .ok (.aload_n 0, 1) := by decide +kernel
theorem dX1_cross_89 : decode cX1_cross 89 = .ok (.getfield 33, 3) := by decide +kernel
theorem dX1_cross_92 : decode cX1_cross 92 = .ok (.getfield 171, 3) := by decide +kernel
theorem dX1_cross_95 : decode cX1_cross 95 = .ok (.iload_n 1, 1) := by decide +kernel
theorem dX1_cross_96 : decode cX1_cross 96 = .ok (.iload_n 2, 1) := by decide +kernel
theorem dX1_cross_97 : decode cX1_cross 97 = .ok (.iastore, 1) := by decide +kernel
theorem dX1_cross_98 : decode cX1_cross 98 = .ok (.aload_n 0, 1) := by decide +kernel
theorem dX1_cross_99 : decode cX1_cross 99 = .ok (.getfield 47, 3) := by decide +kernel
theorem dX1_cross_102 : decode cX1_cross 102 = .ok (.iconst (-1), 1) := by decide +kernel
theorem dX1_cross_103 : decode cX1_cross 103 = .ok (.if_icmp .eq 70, 3) := by decide +kernel
theorem dX1_cross_106 : decode cX1_cross 106 = .ok (.iload 8, 2) := by decide +kernel
theorem dX1_cross_108 : decode cX1_cross 108 = .ok (.aload_n 0, 1) := by decide +kernel
theorem dX1_cross_109 : decode cX1_cross 109 = .ok (.getfield 47, 3) := by decide +kernel
theorem dX1_cross_112 : decode cX1_cross 112 = .ok (.if_icmp .le 61, 3) := by decide +kernel
theorem dX1_cross_115 : decode cX1_cross 115 = .ok (.aload_n 0, 1) := by decide +kernel
theorem dX1_cross_116 : decode cX1_cross 116 = .ok (.getfield 33, 3) := by decide +kernel
theorem dX1_cross_119 : decode cX1_cross 119 = .ok (.getfield 195, 3) := by decide +kernel
theorem dX1_cross_122 : decode cX1_cross 122 = .ok (.iload_n 1, 1) := by decide +kernel
theorem dX1_cross_123 : decode cX1_cross 123 = .ok (.aload_n 0, 1) := by decide +kernel
theorem dX1_cross_124 : decode cX1_cross 124 = .ok (.getfield 47, 3) := by decide +kernel
theorem dX1_cross_127 : decode cX1_cross 127 = .ok (.iastore, 1) := by decide +kernel
theorem dX1_cross_128 : decode cX1_cross 128 = .ok (.aload_n 0, 1) := by decide +kernel
theorem dX1_cross_129 : decode cX1_cross 129 = .ok (.getfield 33, 3) := by decide +kernel
theorem dX1_cross_132 : decode cX1_cross 132 = .ok (.dup, 1) := by decide +kernel
theorem dX1_cross_133 : decode cX1_cross 133 = .ok (.getfield 198, 3) := by decide +kernel
theorem dX1_cross_136 : decode cX1_cross 136 = .ok (.aload_n 0, 1) := by decide +kernel
theorem dX1_cross_137 : decode cX1_cross 137 = .ok (.getfield 47, 3) := by decide +kernel
theorem dX1_cross_140 : decode cX1_cross 140 = .ok (.iadd, 1) := by decide +kernel
theorem dX1_cross_141 : decode cX1_cross 141 = .ok (.putfield 198, 3) := by decide +kernel
theorem dX1_cross_144 : decode cX1_cross 144 = .ok (.aload_n 0, 1) := by decide +kernel
theorem dX1_cross_145 : decode cX1_cross 145 = .ok (.aload_n 0, 1) := by decide +kernel
theorem dX1_cross_146 : decode cX1_cross 146 = .ok (.getfield 63, 3) := by decide +kernel
theorem dX1_cross_149 : decode cX1_cross 149 = .ok (.iconst (-1), 1) := by decide +kernel
theorem dX1_cross_150 : decode cX1_cross 150 = .ok (.if_icmp .ne 8, 3) := by decide +kernel
theorem dX1_cross_153 : decode cX1_cross 153 = .ok (.iload 8, 2) := by decide +kernel
theorem dX1_cross_155 : decode cX1_cross 155 = .ok (.goto 12, 3) := by decide +kernel
theorem dX1_cross_158 : decode cX1_cross 158 = .ok (.aload_n 0, 1) := by decide +kernel
theorem dX1_cross_159 : decode cX1_cross 159 = .ok (.getfield 63, 3) := by decide +kernel
theorem dX1_cross_162 : decode cX1_cross 162 = .ok (.iload 8, 2) := by decide +kernel
theorem dX1_cross_164 : decode cX1_cross 164 = .ok (.invokestatic 201, 3) := by decide +kernel
theorem dX1_cross_167 : decode cX1_cross 167 = .ok (.putfield 63, 3) := by decide +kernel
theorem dX1_cross_170 : decode cX1_cross 170 = .ok (.goto 24, 3) := by decide +kernel
theorem dX1_cross_173 : decode cX1_cross 173 = .ok (.aload_n 0, 1) := by decide +kernel
theorem dX1_cross_174 : decode cX1_cross 174 = .ok (.getfield 33, 3) := by decide +kernel
theorem dX1_cross_177 : decode cX1_cross 177 = .ok (.getfield 207, 3) := by decide +kernel
theorem dX1_cross_180 : decode cX1_cross 180 = .ok (.iload_n 1, 1) := by decide +kernel
theorem dX1_cross_181 : decode cX1_cross 181 = .ok (.iload 7, 2) := by decide +kernel
theorem dX1_cross_183 : decode cX1_cross 183 = .ok (.iastore, 1) := by decide +kernel
theorem dX1_cross_184 : decode cX1_cross 184 = .ok (.aload_n 0, 1) := by decide +kernel
theorem dX1_cross_185 : decode cX1_cross 185 = .ok (.iload 5, 2) := by decide +kernel
theorem dX1_cross_187 : decode cX1_cross 187 = .ok (.iload 6, 2) := by decide +kernel
theorem dX1_cross_189 : decode cX1_cross 189 = .ok (.iload_n 2, 1) := by decide +kernel
theorem dX1_cross_190 : decode cX1_cross 190 = .ok (.iload_n 1, 1) := by decide +kernel
theorem dX1_cross_191 : decode cX1_cross 191 = .ok (.invokevirtual 134, 3) := by decide +kernel
theorem dX1_cross_194 : decode cX1_cross 194 = .ok (.iload_n 3, 1) := by decide +kernel
theorem dX1_cross_195 : decode cX1_cross 195 = .ok (.bipush 20, 2) := by decide +kernel
theorem dX1_cross_197 : decode cX1_cross 197 = .ok (.if_icmp .ge 42, 3) := by decide +kernel
theorem dX1_cross_200 : decode cX1_cross 200 = .ok (.iconst 0, 1) := by decide +kernel
theorem dX1_cross_201 : decode cX1_cross 201 = .ok (.istore 9, 2) := by decide +kernel
theorem dX1_cross_203 : decode cX1_cross 203 = .ok (.iload 9, 2) := by decide +kernel
theorem dX1_cross_205 : decode cX1_cross 205 = .ok (.aload 4, 2) := by decide +kernel
theorem dX1_cross_207 : decode cX1_cross 207 = .ok (.getfield 98, 3) := by decide +kernel
theorem dX1_cross_210 : decode cX1_cross 210 = .ok (.if_icmp .ge 29, 3) := by decide +kernel
theorem dX1_cross_213 : decode cX1_cross 213 = .ok (.aload_n 0, 1) := by decide +kernel
theorem dX1_cross_214 : decode cX1_cross 214 = .ok (.iload 9, 2) := by decide +kernel
theorem dX1_cross_216 : decode cX1_cross 216 = .ok (.iload_n 1, 1) := by decide +kernel
theorem dX1_cross_217 : decode cX1_cross 217 = .ok (.invokevirtual 210, 3) := by decide +kernel
theorem dX1_cross_220 : decode cX1_cross 220 = .ok (.ifCond .eq 13, 3) := by decide +kernel
theorem dX1_cross_223 : decode cX1_cross 223 = .ok (.aload_n 0, 1) := by decide +kernel
theorem dX1_cross_224 : decode cX1_cross 224 = .ok (.iload 9, 2) := by decide +kernel
theorem dX1_cross_226 : decode cX1_cross 226 = .ok (.iload_n 2, 1) := by decide +kernel
theorem dX1_cross_227 : decode cX1_cross 227 = .ok (.iload_n 3, 1) := by decide +kernel
theorem dX1_cross_228 : decode cX1_cross 228 = .ok (.iconst 1, 1) := by decide +kernel
theorem dX1_cross_229 : decode cX1_cross 229 = .ok (.iadd, 1) := by decide +kernel
theorem dX1_cross_230 : decode cX1_cross 230 = .ok (.invokevirtual 107, 3) := by decide +kernel
theorem dX1_cross_233 : decode cX1_cross 233 = .ok (.iinc 9 1, 3) := by decide +kernel
theorem dX1_cross_236 : decode cX1_cross 236 = .ok (.goto (-33), 3) := by decide +kernel
theorem dX1_cross_239 : decode cX1_cross 239 = .ok (.return_, 1) := by decide +kernel
theorem dX1_isBehind_0 : decode cX1_isBehind 0 = .ok (.aload_n 0, 1) := by decide +kernel
theorem dX1_isBehind_1 : decode cX1_isBehind 1 = .ok (.getfield 25, 3) := by decide +kernel
theorem dX1_isBehind_4 : decode cX1_isBehind 4 = .ok (.getfield 94, 3) := by decide +kernel
theorem dX1_isBehind_7 : decode cX1_isBehind 7 = .ok (.getfield 174, 3) := by decide +kernel
theorem dX1_isBehind_10 : decode cX1_isBehind 10 = .ok (.iload_n 1, 1) := by decide +kernel
theorem dX1_isBehind_11 : decode cX1_isBehind 11 = .ok (.iaload, 1) := by decide +kernel
theorem dX1_isBehind_12 : decode cX1_isBehind 12 = .ok (.iconst 2, 1) := by decide +kernel
theorem dX1_isBehind_13 : decode cX1_isBehind 13 = .ok (.if_icmp .ne 47, 3) := by decide +kernel
theorem dX1_isBehind_16 : decode cX1_isBehind 16 = .ok (.aload_n 0, 1) := by decide +kernel
theorem dX1_isBehind_17 : decode cX1_isBehind 17 = .ok (.getfield 25, 3) := by decide +kernel
theorem dX1_isBehind_20 : decode cX1_isBehind 20 = .ok (.getfield 94, 3) := by decide +kernel
theorem dX1_isBehind_23 : decode cX1_isBehind 23 = .ok (.getfield 185, 3) := by decide +kernel
theorem dX1_isBehind_26 : decode cX1_isBehind 26 = .ok (.iload_n 1, 1) := by decide +kernel
theorem dX1_isBehind_27 : decode cX1_isBehind 27 = .ok (.iaload, 1) := by decide +kernel
theorem dX1_isBehind_28 : decode cX1_isBehind 28 = .ok (.iload_n 2, 1) := by decide +kernel
theorem dX1_isBehind_29 : decode cX1_isBehind 29 = .ok (.if_icmp .ne 31, 3) := by decide +kernel
theorem dX1_isBehind_32 : decode cX1_isBehind 32 = .ok (.aload_n 0, 1) := by decide +kernel
theorem dX1_isBehind_33 : decode cX1_isBehind 33 = .ok (.getfield 33, 3) := by decide +kernel
theorem dX1_isBehind_36 : decode cX1_isBehind 36 = .ok (.getfield 171, 3) := by decide +kernel
theorem dX1_isBehind_39 : decode cX1_isBehind 39 = .ok (.iload_n 1, 1) := by decide +kernel
theorem dX1_isBehind_40 : decode cX1_isBehind 40 = .ok (.iaload, 1) := by decide +kernel
theorem dX1_isBehind_41 : decode cX1_isBehind 41 = .ok (.iconst (-1), 1) := by decide +kernel
theorem dX1_isBehind_42 : decode cX1_isBehind 42 = .ok (.if_icmp .ne 18, 3) := by decide +kernel
theorem dX1_isBehind_45 : decode cX1_isBehind 45 = .ok (.aload_n 0, 1) := by decide +kernel
theorem dX1_isBehind_46 : decode cX1_isBehind 46 = .ok (.getfield 51, 3) := by decide +kernel
theorem dX1_isBehind_49 : decode cX1_isBehind 49 = .ok (.iload_n 1, 1) := by decide +kernel
theorem dX1_isBehind_50 : decode cX1_isBehind 50 = .ok (.ishr, 1) := by decide +kernel
theorem dX1_isBehind_51 : decode cX1_isBehind 51 = .ok (.iconst 1, 1) := by decide +kernel
theorem dX1_isBehind_52 : decode cX1_isBehind 52 = .ok (.iand, 1) := by decide +kernel
theorem dX1_isBehind_53 : decode cX1_isBehind 53 = .ok (.ifCond .ne 7, 3) := by decide +kernel
theorem dX1_isBehind_56 : decode cX1_isBehind 56 = .ok (.iconst 1, 1) := by decide +kernel
theorem dX1_isBehind_57 : decode cX1_isBehind 57 = .ok (.goto 4, 3) := by decide +kernel
theorem dX1_isBehind_60 : decode cX1_isBehind 60 = .ok (.iconst 0, 1) := by decide +kernel
theorem dX1_isBehind_61 : decode cX1_isBehind 61 = .ok (.ireturn, 1) := by decide +kernel
theorem dX1_choose_0 : decode cX1_choose 0 = .ok (.iload_n 2, 1) := by decide +kernel
theorem dX1_choose_1 : decode cX1_choose 1 = .ok (.istore 5, 2) := by decide +kernel
theorem dX1_choose_3 : decode cX1_choose 3 = .ok (.iconst 0, 1) := by decide +kernel
theorem dX1_choose_4 : decode cX1_choose 4 = .ok (.istore 6, 2) := by decide +kernel
theorem dX1_choose_6 : decode cX1_choose 6 = .ok (.aload_n 0, 1) := by decide +kernel
theorem dX1_choose_7 : decode cX1_choose 7 = .ok (.iconst 0, 1) := by decide +kernel
theorem dX1_choose_8 : decode cX1_choose 8 = .ok (.putfield 213, 3) := by decide +kernel
theorem dX1_choose_11 : decode cX1_choose 11 = .ok (.aload_n 0, 1) := by decide +kernel
theorem dX1_choose_12 : decode cX1_choose 12 = .ok (.getfield 22, 3) := by decide +kernel
theorem dX1_choose_15 : decode cX1_choose 15 = .ok (.iconst 3, 1) := by decide +kernel
theorem dX1_choose_16 : decode cX1_choose 16 = .ok (.aload_n 0, 1) := by decide +kernel
theorem dX1_choose_17 : decode cX1_choose 17 = .ok (.getfield 33, 3) := by decide +kernel
theorem dX1_choose_20 : decode cX1_choose 20 = .ok (.getfield 180, 3) := by decide +kernel
theorem dX1_choose_23 : decode cX1_choose 23 = .ok (.iload_n 1, 1) := by decide +kernel
theorem dX1_choose_24 : decode cX1_choose 24 = .ok (.iaload, 1) := by decide +kernel
theorem dX1_choose_25 : decode cX1_choose 25 = .ok (.iastore, 1) := by decide +kernel
theorem dX1_choose_26 : decode cX1_choose 26 = .ok (.aload_n 0, 1) := by decide +kernel
theorem dX1_choose_27 : decode cX1_choose 27 = .ok (.getfield 22, 3) := by decide +kernel
theorem dX1_choose_30 : decode cX1_choose 30 = .ok (.iconst 4, 1) := by decide +kernel
theorem dX1_choose_31 : decode cX1_choose 31 = .ok (.iload_n 3, 1) := by decide +kernel
theorem dX1_choose_32 : decode cX1_choose 32 = .ok (.iastore, 1) := by decide +kernel
theorem dX1_choose_33 : decode cX1_choose 33 = .ok (.aload_n 0, 1) := by decide +kernel
theorem dX1_choose_34 : decode cX1_choose 34 = .ok (.getfield 22, 3) := by decide +kernel
theorem dX1_choose_37 : decode cX1_choose 37 = .ok (.iconst 5, 1) := by decide +kernel
theorem dX1_choose_38 : decode cX1_choose 38 = .ok (.iload 4, 2) := by decide +kernel
theorem dX1_choose_40 : decode cX1_choose 40 = .ok (.iastore, 1) := by decide +kernel
theorem dX1_choose_41 : decode cX1_choose 41 = .ok (.iconst 0, 1) := by decide +kernel
theorem dX1_choose_42 : decode cX1_choose 42 = .ok (.istore 7, 2) := by decide +kernel
theorem dX1_choose_44 : decode cX1_choose 44 = .ok (.iload 7, 2) := by decide +kernel
theorem dX1_choose_46 : decode cX1_choose 46 = .ok (.aload_n 0, 1) := by decide +kernel
theorem dX1_choose_47 : decode cX1_choose 47 = .ok (.getfield 33, 3) := by decide +kernel
theorem dX1_choose_50 : decode cX1_choose 50 = .ok (.getfield 180, 3) := by decide +kernel
theorem dX1_choose_53 : decode cX1_choose 53 = .ok (.iload_n 1, 1) := by decide +kernel
theorem dX1_choose_54 : decode cX1_choose 54 = .ok (.iaload, 1) := by decide +kernel
theorem dX1_choose_55 : decode cX1_choose 55 = .ok (.if_icmp .ge 166, 3) := by decide +kernel
theorem dX1_choose_58 : decode cX1_choose 58 = .ok (.aload_n 0, 1) := by decide +kernel
theorem dX1_choose_59 : decode cX1_choose 59 = .ok (.getfield 33, 3) := by decide +kernel
theorem dX1_choose_62 : decode cX1_choose 62 = .ok (.getfield 216, 3) := by decide +kernel
theorem dX1_choose_65 : decode cX1_choose 65 = .ok (.iload_n 1, 1) := by decide +kernel
theorem dX1_choose_66 : decode cX1_choose 66 = .ok (.bipush 30, 2) := by decide +kernel
theorem dX1_choose_68 : decode cX1_choose 68 = .ok (.imul, 1) := by decide +kernel
theorem dX1_choose_69 : decode cX1_choose 69 = .ok (.iload 7, 2) := by decide +kernel
theorem dX1_choose_71 : decode cX1_choose 71 = .ok (.iadd, 1) := by decide +kernel
theorem dX1_choose_72 : decode cX1_choose 72 = .ok (.iaload, 1) := by decide +kernel
theorem dX1_choose_73 : decode cX1_choose 73 = .ok (.istore 8, 2) := by decide +kernel
theorem dX1_choose_75 : decode cX1_choose 75 = .ok (.aload_n 0, 1) := by decide +kernel
theorem dX1_choose_76 : decode cX1_choose 76 = .ok (.getfield 25, 3) := by decide +kernel
theorem dX1_choose_79 : decode cX1_choose 79 = .ok (.getfield 138, 3) := by decide +kernel
theorem dX1_choose_82 : decode cX1_choose 82 = .ok (.getfield 219, 3) := by decide +kernel
theorem dX1_choose_85 : decode cX1_choose 85 = .ok (.iload 8, 2) := by decide +kernel
theorem dX1_choose_87 : decode cX1_choose 87 = .ok (.iaload, 1) := by decide +kernel
theorem dX1_choose_88 : decode cX1_choose 88 = .ok (.istore 9, 2) := by decide +kernel
theorem dX1_choose_90 : decode cX1_choose 90 = .ok (.iload 9, 2) := by decide +kernel
theorem dX1_choose_92 : decode cX1_choose 92 = .ok (.iload 5, 2) := by decide +kernel
theorem dX1_choose_94 : decode cX1_choose 94 = .ok (.if_icmp .le 17, 3) := by decide +kernel
theorem dX1_choose_97 : decode cX1_choose 97 = .ok (.aload_n 0, 1) := by decide +kernel
theorem dX1_choose_98 : decode cX1_choose 98 = .ok (.getfield 25, 3) := by decide +kernel
theorem dX1_choose_101 : decode cX1_choose 101 = .ok (.getfield 222, 3) := by decide +kernel
theorem dX1_choose_104 : decode cX1_choose 104 = .ok (.iconst 1, 1) := by decide +kernel
theorem dX1_choose_105 : decode cX1_choose 105 = .ok (.if_icmp .ne 110, 3) := by decide +kernel
theorem dX1_choose_108 : decode cX1_choose 108 = .ok (.goto 113, 3) := by decide +kernel
theorem dX1_choose_111 : decode cX1_choose 111 = .ok (.aload_n 0, 1) := by decide +kernel
theorem dX1_choose_112 : decode cX1_choose 112 = .ok (.getfield 22, 3) := by decide +kernel
theorem dX1_choose_115 : decode cX1_choose 115 = .ok (.iconst 0, 1) := by decide +kernel
theorem dX1_choose_116 : decode cX1_choose 116 = .ok (.iload 9, 2) := by decide +kernel
theorem dX1_choose_118 : decode cX1_choose 118 = .ok (.iastore, 1) := by decide +kernel
theorem dX1_choose_119 : decode cX1_choose 119 = .ok (.aload_n 0, 1) := by decide +kernel
theorem dX1_choose_120 : decode cX1_choose 120 = .ok (.getfield 22, 3) := by decide +kernel
theorem dX1_choose_123 : decode cX1_choose 123 = .ok (.iconst 1, 1) := by decide +kernel
theorem dX1_choose_124 : decode cX1_choose 124 = .ok (.iload 5, 2) := by decide +kernel
theorem dX1_choose_126 : decode cX1_choose 126 = .ok (.iastore, 1) := by decide +kernel
theorem dX1_choose_127 : decode cX1_choose 127 = .ok (.aload_n 0, 1) := by decide +kernel
theorem dX1_choose_128 : decode cX1_choose 128 = .ok (.getfield 22, 3) := by decide +kernel
theorem dX1_choose_131 : decode cX1_choose 131 = .ok (.iconst 2, 1) := by decide +kernel
theorem dX1_choose_132 : decode cX1_choose 132 = .ok (.iload 4, 2) := by decide +kernel
theorem dX1_choose_134 : decode cX1_choose 134 = .ok (.aload_n 0, 1) := by decide +kernel
theorem dX1_choose_135 : decode cX1_choose 135 = .ok (.getfield 33, 3) := by decide +kernel
theorem dX1_choose_138 : decode cX1_choose 138 = .ok (.getfield 225, 3) := by decide +kernel
theorem dX1_choose_141 : decode cX1_choose 141 = .ok (.iload 8, 2) := by decide +kernel
theorem dX1_choose_143 : decode cX1_choose 143 = .ok (.iaload, 1) := by decide +kernel
theorem dX1_choose_144 : decode cX1_choose 144 = .ok (.isub, 1) := by decide +kernel
theorem dX1_choose_145 : decode cX1_choose 145 = .ok (.iastore, 1) := by decide +kernel
theorem dX1_choose_146 : decode cX1_choose 146 = .ok (.aload_n 0, 1) := by decide +kernel
theorem dX1_choose_147 : decode cX1_choose 147 = .ok (.getfield 22, 3) := by decide +kernel
theorem dX1_choose_150 : decode cX1_choose 150 = .ok (.bipush 6, 2) := by decide +kernel
theorem dX1_choose_152 : decode cX1_choose 152 = .ok (.aload_n 0, 1) := by decide +kernel
theorem dX1_choose_153 : decode cX1_choose 153 = .ok (.getfield 33, 3) := by decide +kernel
theorem dX1_choose_156 : decode cX1_choose 156 = .ok (.getfield 228, 3) := by decide +kernel
theorem dX1_choose_159 : decode cX1_choose 159 = .ok (.iload 8, 2) := by decide +kernel
theorem dX1_choose_161 : decode cX1_choose 161 = .ok (.iaload, 1) := by decide +kernel
theorem dX1_choose_162 : decode cX1_choose 162 = .ok (.iastore, 1) := by decide +kernel
theorem dX1_choose_163 : decode cX1_choose 163 = .ok (.aload_n 0, 1) := by decide +kernel
theorem dX1_choose_164 : decode cX1_choose 164 = .ok (.getfield 25, 3) := by decide +kernel
theorem dX1_choose_167 : decode cX1_choose 167 = .ok (.getfield 231, 3) := by decide +kernel
theorem dX1_choose_170 : decode cX1_choose 170 = .ok (.aload_n 0, 1) := by decide +kernel
theorem dX1_choose_171 : decode cX1_choose 171 = .ok (.getfield 22, 3) := by decide +kernel
theorem dX1_choose_174 : decode cX1_choose 174 = .ok (.invokevirtual 235, 3) := by decide +kernel
theorem dX1_choose_177 : decode cX1_choose 177 = .ok (.ifCond .eq 38, 3) := by decide +kernel
theorem dX1_choose_180 : decode cX1_choose 180 = .ok (.aload_n 0, 1) := by decide +kernel
theorem dX1_choose_181 : decode cX1_choose 181 = .ok (.getfield 18, 3) := by decide +kernel
theorem dX1_choose_184 : decode cX1_choose 184 = .ok (.aload_n 0, 1) := by decide +kernel
theorem dX1_choose_185 : decode cX1_choose 185 = .ok (.getfield 213, 3) := by decide +kernel
theorem dX1_choose_188 : decode cX1_choose 188 = .ok (.iload 8, 2) := by decide +kernel
theorem dX1_choose_190 : decode cX1_choose 190 = .ok (.iastore, 1) := by decide +kernel
theorem dX1_choose_191 : decode cX1_choose 191 = .ok (.aload_n 0, 1) := by decide +kernel
theorem dX1_choose_192 : decode cX1_choose 192 = .ok (.dup, 1) := by decide +kernel
theorem dX1_choose_193 : decode cX1_choose 193 = .ok (.getfield 213, 3) := by decide +kernel
theorem dX1_choose_196 : decode cX1_choose 196 = .ok (.iconst 1, 1) := by decide +kernel
theorem dX1_choose_197 : decode cX1_choose 197 = .ok (.iadd, 1) := by decide +kernel
theorem dX1_choose_198 : decode cX1_choose 198 = .ok (.putfield 213, 3) := by decide +kernel
theorem dX1_choose_201 : decode cX1_choose 201 = .ok (.iload 5, 2) := by decide +kernel
theorem dX1_choose_203 : decode cX1_choose 203 = .ok (.iload 9, 2) := by decide +kernel
theorem dX1_choose_205 : decode cX1_choose 205 = .ok (.isub, 1) := by decide +kernel
theorem dX1_choose_206 : decode cX1_choose 206 = .ok (.istore 5, 2) := by decide +kernel
theorem dX1_choose_208 : decode cX1_choose 208 = .ok (.iload 6, 2) := by decide +kernel
theorem dX1_choose_210 : decode cX1_choose 210 = .ok (.iload 9, 2) := by decide +kernel
theorem dX1_choose_212 : decode cX1_choose 212 = .ok (.iadd, 1) := by decide +kernel
theorem dX1_choose_213 : decode cX1_choose 213 = .ok (.istore 6, 2) := by decide +kernel
theorem dX1_choose_215 : decode cX1_choose 215 = .ok (.iinc 7 1, 3) := by decide +kernel
theorem dX1_choose_218 : decode cX1_choose 218 = .ok (.goto (-174), 3) := by decide +kernel
theorem dX1_choose_221 : decode cX1_choose 221 = .ok (.iload 6, 2) := by decide +kernel
theorem dX1_choose_223 : decode cX1_choose 223 = .ok (.ireturn, 1) := by decide +kernel
theorem dX1_carry_0 : decode cX1_carry 0 = .ok (.aload_n 0, 1) := by decide +kernel
theorem dX1_carry_1 : decode cX1_carry 1 = .ok (.getfield 33, 3) := by decide +kernel
theorem dX1_carry_4 : decode cX1_carry 4 = .ok (.aload_n 0, 1) := by decide +kernel
theorem dX1_carry_5 : decode cX1_carry 5 = .ok (.getfield 18, 3) := by decide +kernel
theorem dX1_carry_8 : decode cX1_carry 8 = .ok (.aload_n 0, 1) := by decide +kernel
theorem dX1_carry_9 : decode cX1_carry 9 = .ok (.getfield 213, 3) := by decide +kernel
theorem dX1_carry_12 : decode cX1_carry 12 = .ok (.iload_n 1, 1) := by decide +kernel
theorem dX1_carry_13 : decode cX1_carry 13 = .ok (.invokevirtual 161, 3) := by decide +kernel
theorem dX1_carry_16 : decode cX1_carry 16 = .ok (.iconst 0, 1) := by decide +kernel
theorem dX1_carry_17 : decode cX1_carry 17 = .ok (.istore 5, 2) := by decide +kernel
theorem dX1_carry_19 : decode cX1_carry 19 = .ok (.iload 5, 2) := by decide +kernel
theorem dX1_carry_21 : decode cX1_carry 21 = .ok (.aload_n 0, 1) := by decide +kernel
theorem dX1_carry_22 : decode cX1_carry 22 = .ok (.getfield 213, 3) := by decide +kernel
theorem dX1_carry_25 : decode cX1_carry 25 = .ok (.if_icmp .ge 59, 3) := by decide +kernel
theorem dX1_carry_28 : decode cX1_carry 28 = .ok (.aload_n 0, 1) := by decide +kernel
theorem dX1_carry_29 : decode cX1_carry 29 = .ok (.getfield 18, 3) := by decide +kernel
theorem dX1_carry_32 : decode cX1_carry 32 = .ok (.iload 5, 2) := by decide +kernel
theorem dX1_carry_34 : decode cX1_carry 34 = .ok (.iaload, 1) := by decide +kernel
theorem dX1_carry_35 : decode cX1_carry 35 = .ok (.istore 6, 2) := by decide +kernel
theorem dX1_carry_37 : decode cX1_carry 37 = .ok (.aload_n 0, 1) := by decide +kernel
theorem dX1_carry_38 : decode cX1_carry 38 = .ok (.getfield 33, 3) := by decide +kernel
theorem dX1_carry_41 : decode cX1_carry 41 = .ok (.getfield 228, 3) := by decide +kernel
theorem dX1_carry_44 : decode cX1_carry 44 = .ok (.iload 6, 2) := by decide +kernel
theorem dX1_carry_46 : decode cX1_carry 46 = .ok (.dup2, 1) := by decide +kernel
theorem dX1_carry_47 : decode cX1_carry 47 = .ok (.iaload, 1) := by decide +kernel
theorem dX1_carry_48 : decode cX1_carry 48 = .ok (.iconst 1, 1) := by decide +kernel
theorem dX1_carry_49 : decode cX1_carry 49 = .ok (.iadd, 1) := by decide +kernel
theorem dX1_carry_50 : decode cX1_carry 50 = .ok (.iastore, 1) := by decide +kernel
theorem dX1_carry_51 : decode cX1_carry 51 = .ok (.aload_n 0, 1) := by decide +kernel
theorem dX1_carry_52 : decode cX1_carry 52 = .ok (.iload 6, 2) := by decide +kernel
theorem dX1_carry_54 : decode cX1_carry 54 = .ok (.iload_n 2, 1) := by decide +kernel
theorem dX1_carry_55 : decode cX1_carry 55 = .ok (.iload_n 3, 1) := by decide +kernel
theorem dX1_carry_56 : decode cX1_carry 56 = .ok (.invokevirtual 148, 3) := by decide +kernel
theorem dX1_carry_59 : decode cX1_carry 59 = .ok (.aload_n 0, 1) := by decide +kernel
theorem dX1_carry_60 : decode cX1_carry 60 = .ok (.getfield 37, 3) := by decide +kernel
theorem dX1_carry_63 : decode cX1_carry 63 = .ok (.ifCond .eq 15, 3) := by decide +kernel
theorem dX1_carry_66 : decode cX1_carry 66 = .ok (.aload_n 0, 1) := by decide +kernel
theorem dX1_carry_67 : decode cX1_carry 67 = .ok (.getfield 29, 3) := by decide +kernel
theorem dX1_carry_70 : decode cX1_carry 70 = .ok (.iload 6, 2) := by decide +kernel
theorem dX1_carry_72 : decode cX1_carry 72 = .ok (.iload 4, 2) := by decide +kernel
theorem dX1_carry_74 : decode cX1_carry 74 = .ok (.iload_n 3, 1) := by decide +kernel
theorem dX1_carry_75 : decode cX1_carry 75 = .ok (.invokevirtual 241, 3) := by decide +kernel
theorem dX1_carry_78 : decode cX1_carry 78 = .ok (.iinc 5 1, 3) := by decide +kernel
theorem dX1_carry_81 : decode cX1_carry 81 = .ok (.goto (-62), 3) := by decide +kernel
theorem dX1_carry_84 : decode cX1_carry 84 = .ok (.aload_n 0, 1) := by decide +kernel
theorem dX1_carry_85 : decode cX1_carry 85 = .ok (.dup, 1) := by decide +kernel
theorem dX1_carry_86 : decode cX1_carry 86 = .ok (.getfield 66, 3) := by decide +kernel
theorem dX1_carry_89 : decode cX1_carry 89 = .ok (.aload_n 0, 1) := by decide +kernel
theorem dX1_carry_90 : decode cX1_carry 90 = .ok (.getfield 213, 3) := by decide +kernel
theorem dX1_carry_93 : decode cX1_carry 93 = .ok (.iadd, 1) := by decide +kernel
theorem dX1_carry_94 : decode cX1_carry 94 = .ok (.putfield 66, 3) := by decide +kernel
theorem dX1_carry_97 : decode cX1_carry 97 = .ok (.return_, 1) := by decide +kernel
theorem dX2_init_0 : decode cX2_init 0 = .ok (.aload_n 0, 1) := by decide +kernel
theorem dX2_init_1 : decode cX2_init 1 = .ok (.invokespecial 3, 3) := by decide +kernel
theorem dX2_init_4 : decode cX2_init 4 = .ok (.aload_n 0, 1) := by decide +kernel
theorem dX2_init_5 : decode cX2_init 5 = .ok (.bipush 20, 2) := by decide +kernel
theorem dX2_init_7 : decode cX2_init 7 = .ok (.newarray .int, 2) := by decide +kernel
theorem dX2_init_9 : decode cX2_init 9 = .ok (.putfield 9, 3) := by decide +kernel
theorem dX2_init_12 : decode cX2_init 12 = .ok (.aload_n 0, 1) := by decide +kernel
theorem dX2_init_13 : decode cX2_init 13 = .ok (.bipush 20, 2) := by decide +kernel
theorem dX2_init_15 : decode cX2_init 15 = .ok (.newarray .int, 2) := by decide +kernel
theorem dX2_init_17 : decode cX2_init 17 = .ok (.putfield 15, 3) := by decide +kernel
theorem dX2_init_20 : decode cX2_init 20 = .ok (.aload_n 0, 1) := by decide +kernel
theorem dX2_init_21 : decode cX2_init 21 = .ok (.bipush 20, 2) := by decide +kernel
theorem dX2_init_23 : decode cX2_init 23 = .ok (.newarray .int, 2) := by decide +kernel
theorem dX2_init_25 : decode cX2_init 25 = .ok (.putfield 18, 3) := by decide +kernel
theorem dX2_init_28 : decode cX2_init 28 = .ok (.aload_n 0, 1) := by decide +kernel
theorem dX2_init_29 : decode cX2_init 29 = .ok (.bipush 20, 2) := by decide +kernel
theorem dX2_init_31 : decode cX2_init 31 = .ok (.newarray .int, 2) := by decide +kernel
theorem dX2_init_33 : decode cX2_init 33 = .ok (.putfield 21, 3) := by decide +kernel
theorem dX2_init_36 : decode cX2_init 36 = .ok (.aload_n 0, 1) := by decide +kernel
theorem dX2_init_37 : decode cX2_init 37 = .ok (.bipush 20, 2) := by decide +kernel
theorem dX2_init_39 : decode cX2_init 39 = .ok (.newarray .int, 2) := by decide +kernel
theorem dX2_init_41 : decode cX2_init 41 = .ok (.putfield 24, 3) := by decide +kernel
theorem dX2_init_44 : decode cX2_init 44 = .ok (.aload_n 0, 1) := by decide +kernel
theorem dX2_init_45 : decode cX2_init 45 = .ok (.bipush 20, 2) := by decide +kernel
theorem dX2_init_47 : decode cX2_init 47 = .ok (.newarray .int, 2) := by decide +kernel
theorem dX2_init_49 : decode cX2_init 49 = .ok (.putfield 27, 3) := by decide +kernel
theorem dX2_init_52 : decode cX2_init 52 = .ok (.aload_n 0, 1) := by decide +kernel
theorem dX2_init_53 : decode cX2_init 53 = .ok (.bipush 20, 2) := by decide +kernel
theorem dX2_init_55 : decode cX2_init 55 = .ok (.newarray .int, 2) := by decide +kernel
theorem dX2_init_57 : decode cX2_init 57 = .ok (.putfield 30, 3) := by decide +kernel
theorem dX2_init_60 : decode cX2_init 60 = .ok (.aload_n 0, 1) := by decide +kernel
theorem dX2_init_61 : decode cX2_init 61 = .ok (.bipush 20, 2) := by decide +kernel
theorem dX2_init_63 : decode cX2_init 63 = .ok (.newarray .int, 2) := by decide +kernel
theorem dX2_init_65 : decode cX2_init 65 = .ok (.putfield 33, 3) := by decide +kernel
theorem dX2_init_68 : decode cX2_init 68 = .ok (.aload_n 0, 1) := by decide +kernel
theorem dX2_init_69 : decode cX2_init 69 = .ok (.bipush 20, 2) := by decide +kernel
theorem dX2_init_71 : decode cX2_init 71 = .ok (.newarray .int, 2) := by decide +kernel
theorem dX2_init_73 : decode cX2_init 73 = .ok (.putfield 36, 3) := by decide +kernel
theorem dX2_init_76 : decode cX2_init 76 = .ok (.return_, 1) := by decide +kernel
theorem dX2_add_0 : decode cX2_add 0 = .ok (.aload_n 0, 1) := by decide +kernel
theorem dX2_add_1 : decode cX2_add 1 = .ok (.getfield 39, 3) := by decide +kernel
theorem dX2_add_4 : decode cX2_add 4 = .ok (.bipush 20, 2) := by decide +kernel
theorem dX2_add_6 : decode cX2_add 6 = .ok (.if_icmp .lt 5, 3) := by decide +kernel
theorem dX2_add_9 : decode cX2_add 9 = .ok (.iconst (-1), 1) := by decide +kernel
theorem dX2_add_10 : decode cX2_add 10 = .ok (.ireturn, 1) := by decide +kernel
theorem dX2_add_11 : decode cX2_add 11 = .ok (.aload_n 0, 1) := by decide +kernel
theorem dX2_add_12 : decode cX2_add 12 = .ok (.getfield 9, 3) := by decide +kernel
theorem dX2_add_15 : decode cX2_add 15 = .ok (.aload_n 0, 1) := by decide +kernel
theorem dX2_add_16 : decode cX2_add 16 = .ok (.getfield 39, 3) := by decide +kernel
theorem dX2_add_19 : decode cX2_add 19 = .ok (.iload_n 1, 1) := by decide +kernel
theorem dX2_add_20 : decode cX2_add 20 = .ok (.iastore, 1) := by decide +kernel
theorem dX2_add_21 : decode cX2_add 21 = .ok (.aload_n 0, 1) := by decide +kernel
theorem dX2_add_22 : decode cX2_add 22 = .ok (.getfield 15, 3) := by decide +kernel
theorem dX2_add_25 : decode cX2_add 25 = .ok (.aload_n 0, 1) := by decide +kernel
theorem dX2_add_26 : decode cX2_add 26 = .ok (.getfield 39, 3) := by decide +kernel
theorem dX2_add_29 : decode cX2_add 29 = .ok (.iload_n 2, 1) := by decide +kernel
theorem dX2_add_30 : decode cX2_add 30 = .ok (.iastore, 1) := by decide +kernel
theorem dX2_add_31 : decode cX2_add 31 = .ok (.aload_n 0, 1) := by decide +kernel
theorem dX2_add_32 : decode cX2_add 32 = .ok (.getfield 18, 3) := by decide +kernel
theorem dX2_add_35 : decode cX2_add 35 = .ok (.aload_n 0, 1) := by decide +kernel
theorem dX2_add_36 : decode cX2_add 36 = .ok (.getfield 39, 3) := by decide +kernel
theorem dX2_add_39 : decode cX2_add 39 = .ok (.iload_n 3, 1) := by decide +kernel
theorem dX2_add_40 : decode cX2_add 40 = .ok (.iastore, 1) := by decide +kernel
theorem dX2_add_41 : decode cX2_add 41 = .ok (.aload_n 0, 1) := by decide +kernel
theorem dX2_add_42 : decode cX2_add 42 = .ok (.getfield 21, 3) := by decide +kernel
theorem dX2_add_45 : decode cX2_add 45 = .ok (.aload_n 0, 1) := by decide +kernel
theorem dX2_add_46 : decode cX2_add 46 = .ok (.getfield 39, 3) := by decide +kernel
theorem dX2_add_49 : decode cX2_add 49 = .ok (.iload 4, 2) := by decide +kernel
theorem dX2_add_51 : decode cX2_add 51 = .ok (.iastore, 1) := by decide +kernel
theorem dX2_add_52 : decode cX2_add 52 = .ok (.aload_n 0, 1) := by decide +kernel
theorem dX2_add_53 : decode cX2_add 53 = .ok (.getfield 24, 3) := by decide +kernel
theorem dX2_add_56 : decode cX2_add 56 = .ok (.aload_n 0, 1) := by decide +kernel
theorem dX2_add_57 : decode cX2_add 57 = .ok (.getfield 39, 3) := by decide +kernel
theorem dX2_add_60 : decode cX2_add 60 = .ok (.iload 5, 2) := by decide +kernel
theorem dX2_add_62 : decode cX2_add 62 = .ok (.iastore, 1) := by decide +kernel
theorem dX2_add_63 : decode cX2_add 63 = .ok (.aload_n 0, 1) := by decide +kernel
theorem dX2_add_64 : decode cX2_add 64 = .ok (.getfield 27, 3) := by decide +kernel
theorem dX2_add_67 : decode cX2_add 67 = .ok (.aload_n 0, 1) := by decide +kernel
theorem dX2_add_68 : decode cX2_add 68 = .ok (.getfield 39, 3) := by decide +kernel
theorem dX2_add_71 : decode cX2_add 71 = .ok (.iload 6, 2) := by decide +kernel
theorem dX2_add_73 : decode cX2_add 73 = .ok (.iastore, 1) := by decide +kernel
theorem dX2_add_74 : decode cX2_add 74 = .ok (.aload_n 0, 1) := by decide +kernel
theorem dX2_add_75 : decode cX2_add 75 = .ok (.getfield 30, 3) := by decide +kernel
theorem dX2_add_78 : decode cX2_add 78 = .ok (.aload_n 0, 1) := by decide +kernel
theorem dX2_add_79 : decode cX2_add 79 = .ok (.getfield 39, 3) := by decide +kernel
theorem dX2_add_82 : decode cX2_add 82 = .ok (.iconst 0, 1) := by decide +kernel
theorem dX2_add_83 : decode cX2_add 83 = .ok (.iastore, 1) := by decide +kernel
theorem dX2_add_84 : decode cX2_add 84 = .ok (.aload_n 0, 1) := by decide +kernel
theorem dX2_add_85 : decode cX2_add 85 = .ok (.getfield 33, 3) := by decide +kernel
theorem dX2_add_88 : decode cX2_add 88 = .ok (.aload_n 0, 1) := by decide +kernel
theorem dX2_add_89 : decode cX2_add 89 = .ok (.getfield 39, 3) := by decide +kernel
theorem dX2_add_92 : decode cX2_add 92 = .ok (.iconst 0, 1) := by decide +kernel
theorem dX2_add_93 : decode cX2_add 93 = .ok (.iastore, 1) := by decide +kernel
theorem dX2_add_94 : decode cX2_add 94 = .ok (.aload_n 0, 1) := by decide +kernel
theorem dX2_add_95 : decode cX2_add 95 = .ok (.getfield 36, 3) := by decide +kernel
theorem dX2_add_98 : decode cX2_add 98 = .ok (.aload_n 0, 1) := by decide +kernel
theorem dX2_add_99 : decode cX2_add 99 = .ok (.getfield 39, 3) := by decide +kernel
theorem dX2_add_102 : decode cX2_add 102 = .ok (.iconst 0, 1) := by decide +kernel
theorem dX2_add_103 : decode cX2_add 103 = .ok (.iastore, 1) := by decide +kernel
theorem dX2_add_104 : decode cX2_add 104 = .ok (.aload_n 0, 1) := by decide +kernel
theorem dX2_add_105 : decode cX2_add 105 = .ok (.dup, 1) := by decide +kernel
theorem dX2_add_106 : decode cX2_add 106 = .ok (.getfield 39, 3) := by decide +kernel
theorem dX2_add_109 : decode cX2_add 109 = .ok (.iconst 1, 1) := by decide +kernel
theorem dX2_add_110 : decode cX2_add 110 = .ok (.iadd, 1) := by decide +kernel
theorem dX2_add_111 : decode cX2_add 111 = .ok (.putfield 39, 3) := by decide +kernel
theorem dX2_add_114 : decode cX2_add 114 = .ok (.aload_n 0, 1) := by decide +kernel
theorem dX2_add_115 : decode cX2_add 115 = .ok (.getfield 39, 3) := by decide +kernel
theorem dX2_add_118 : decode cX2_add 118 = .ok (.iconst 1, 1) := by decide +kernel
theorem dX2_add_119 : decode cX2_add 119 = .ok (.isub, 1) := by decide +kernel
theorem dX2_add_120 : decode cX2_add 120 = .ok (.ireturn, 1) := by decide +kernel
theorem dX2_has_0 : decode cX2_has 0 = .ok (.iload_n 1, 1) := by decide +kernel
theorem dX2_has_1 : decode cX2_has 1 = .ok (.ifCond .lt 15, 3) := by decide +kernel
theorem dX2_has_4 : decode cX2_has 4 = .ok (.iload_n 1, 1) := by decide +kernel
theorem dX2_has_5 : decode cX2_has 5 = .ok (.aload_n 0, 1) := by decide +kernel
theorem dX2_has_6 : decode cX2_has 6 = .ok (.getfield 39, 3) := by decide +kernel
theorem dX2_has_9 : decode cX2_has 9 = .ok (.if_icmp .ge 7, 3) := by decide +kernel
theorem dX2_has_12 : decode cX2_has 12 = .ok (.iconst 1, 1) := by decide +kernel
theorem dX2_has_13 : decode cX2_has 13 = .ok (.goto 4, 3) := by decide +kernel
theorem dX2_has_16 : decode cX2_has 16 = .ok (.iconst 0, 1) := by decide +kernel
theorem dX2_has_17 : decode cX2_has 17 = .ok (.ireturn, 1) := by decide +kernel
theorem dX2_canFollow_0 : decode cX2_canFollow 0 = .ok (.aload_n 0, 1) := by decide +kernel
theorem dX2_canFollow_1 : decode cX2_canFollow 1 = .ok (.iload_n 1, 1) := by decide +kernel
theorem dX2_canFollow_2 : decode cX2_canFollow 2 = .ok (.invokevirtual 43, 3) := by decide +kernel
theorem dX2_canFollow_5 : decode cX2_canFollow 5 = .ok (.ifCond .eq 50, 3) := by decide +kernel
theorem dX2_canFollow_8 : decode cX2_canFollow 8 = .ok (.aload_n 0, 1) := by decide +kernel
theorem dX2_canFollow_9 : decode cX2_canFollow 9 = .ok (.iload_n 2, 1) := by decide +kernel
theorem dX2_canFollow_10 : decode cX2_canFollow 10 = .ok (.invokevirtual 43, 3) := by decide +kernel
theorem dX2_canFollow_13 : decode cX2_canFollow 13 = .ok (.ifCond .eq 42, 3) := by decide +kernel
theorem dX2_canFollow_16 : decode cX2_canFollow 16 = .ok (.iload_n 1, 1) := by decide +kernel
theorem dX2_canFollow_17 : decode cX2_canFollow 17 = .ok (.iload_n 2, 1) := by decide +kernel
theorem dX2_canFollow_18 : decode cX2_canFollow 18 = .ok (.if_icmp .eq 37, 3) := by decide +kernel
theorem dX2_canFollow_21 : decode cX2_canFollow 21 = .ok (.aload_n 0, 1) := by decide +kernel
theorem dX2_canFollow_22 : decode cX2_canFollow 22 = .ok (.getfield 15, 3) := by decide +kernel
theorem dX2_canFollow_25 : decode cX2_canFollow 25 = .ok (.iload_n 1, 1) := by decide +kernel
theorem dX2_canFollow_26 : decode cX2_canFollow 26 = .ok (.iaload, 1) := by decide +kernel
theorem dX2_canFollow_27 : decode cX2_canFollow 27 = .ok (.aload_n 0, 1) := by decide +kernel
theorem dX2_canFollow_28 : decode cX2_canFollow 28 = .ok (.getfield 15, 3) := by decide +kernel
theorem dX2_canFollow_31 : decode cX2_canFollow 31 = .ok (.iload_n 2, 1) := by decide +kernel
theorem dX2_canFollow_32 : decode cX2_canFollow 32 = .ok (.iaload, 1) := by decide +kernel
theorem dX2_canFollow_33 : decode cX2_canFollow 33 = .ok (.if_icmp .ne 22, 3) := by decide +kernel
theorem dX2_canFollow_36 : decode cX2_canFollow 36 = .ok (.aload_n 0, 1) := by decide +kernel
theorem dX2_canFollow_37 : decode cX2_canFollow 37 = .ok (.getfield 18, 3) := by decide +kernel
theorem dX2_canFollow_40 : decode cX2_canFollow 40 = .ok (.iload_n 1, 1) := by decide +kernel
theorem dX2_canFollow_41 : decode cX2_canFollow 41 = .ok (.iaload, 1) := by decide +kernel
theorem dX2_canFollow_42 : decode cX2_canFollow 42 = .ok (.aload_n 0, 1) := by decide +kernel
theorem dX2_canFollow_43 : decode cX2_canFollow 43 = .ok (.getfield 18, 3) := by decide +kernel
theorem dX2_canFollow_46 : decode cX2_canFollow 46 = .ok (.iload_n 2, 1) := by decide +kernel
theorem dX2_canFollow_47 : decode cX2_canFollow 47 = .ok (.iaload, 1) := by decide +kernel
theorem dX2_canFollow_48 : decode cX2_canFollow 48 = .ok (.if_icmp .ne 7, 3) := by decide +kernel
theorem dX2_canFollow_51 : decode cX2_canFollow 51 = .ok (.iconst 1, 1) := by decide +kernel
theorem dX2_canFollow_52 : decode cX2_canFollow 52 = .ok (.goto 4, 3) := by decide +kernel
theorem dX2_canFollow_55 : decode cX2_canFollow 55 = .ok (.iconst 0, 1) := by decide +kernel
theorem dX2_canFollow_56 : decode cX2_canFollow 56 = .ok (.ireturn, 1) := by decide +kernel
theorem dX2_tellKind_0 : decode cX2_tellKind 0 = .ok (.aload_n 0, 1) := by decide +kernel
theorem dX2_tellKind_1 : decode cX2_tellKind 1 = .ok (.iload_n 1, 1) := by decide +kernel
theorem dX2_tellKind_2 : decode cX2_tellKind 2 = .ok (.invokevirtual 43, 3) := by decide +kernel
theorem dX2_tellKind_5 : decode cX2_tellKind 5 = .ok (.ifCond .eq 17, 3) := by decide +kernel
theorem dX2_tellKind_8 : decode cX2_tellKind 8 = .ok (.aload_n 0, 1) := by decide +kernel
theorem dX2_tellKind_9 : decode cX2_tellKind 9 = .ok (.getfield 30, 3) := by decide +kernel
theorem dX2_tellKind_12 : decode cX2_tellKind 12 = .ok (.iload_n 1, 1) := by decide +kernel
theorem dX2_tellKind_13 : decode cX2_tellKind 13 = .ok (.iload_n 2, 1) := by decide +kernel
theorem dX2_tellKind_14 : decode cX2_tellKind 14 = .ok (.iastore, 1) := by decide +kernel
theorem dX2_tellKind_15 : decode cX2_tellKind 15 = .ok (.aload_n 0, 1) := by decide +kernel
theorem dX2_tellKind_16 : decode cX2_tellKind 16 = .ok (.getfield 33, 3) := by decide +kernel
theorem dX2_tellKind_19 : decode cX2_tellKind 19 = .ok (.iload_n 1, 1) := by decide +kernel
theorem dX2_tellKind_20 : decode cX2_tellKind 20 = .ok (.iload_n 3, 1) := by decide +kernel
theorem dX2_tellKind_21 : decode cX2_tellKind 21 = .ok (.iastore, 1) := by decide +kernel
theorem dX2_tellKind_22 : decode cX2_tellKind 22 = .ok (.return_, 1) := by decide +kernel
theorem dX2_maybeSet_0 : decode cX2_maybeSet 0 = .ok (.iconst 0, 1) := by decide +kernel
theorem dX2_maybeSet_1 : decode cX2_maybeSet 1 = .ok (.istore_n 1, 1) := by decide +kernel
theorem dX2_maybeSet_2 : decode cX2_maybeSet 2 = .ok (.iconst 0, 1) := by decide +kernel
theorem dX2_maybeSet_3 : decode cX2_maybeSet 3 = .ok (.istore_n 2, 1) := by decide +kernel
theorem dX2_maybeSet_4 : decode cX2_maybeSet 4 = .ok (.iload_n 2, 1) := by decide +kernel
theorem dX2_maybeSet_5 : decode cX2_maybeSet 5 = .ok (.aload_n 0, 1) := by decide +kernel
theorem dX2_maybeSet_6 : decode cX2_maybeSet 6 = .ok (.getfield 39, 3) := by decide +kernel
theorem dX2_maybeSet_9 : decode cX2_maybeSet 9 = .ok (.if_icmp .ge 20, 3) := by decide +kernel
theorem dX2_maybeSet_12 : decode cX2_maybeSet 12 = .ok (.iload_n 1, 1) := by decide +kernel
theorem dX2_maybeSet_13 : decode cX2_maybeSet 13 = .ok (.aload_n 0, 1) := by decide +kernel
theorem dX2_maybeSet_14 : decode cX2_maybeSet 14 = .ok (.getfield 36, 3) := by decide +kernel
theorem dX2_maybeSet_17 : decode cX2_maybeSet 17 = .ok (.iload_n 2, 1) := by decide +kernel
theorem dX2_maybeSet_18 : decode cX2_maybeSet 18 = .ok (.iaload, 1) := by decide +kernel
theorem dX2_maybeSet_19 : decode cX2_maybeSet 19 = .ok (.iload_n 2, 1) := by decide +kernel
theorem dX2_maybeSet_20 : decode cX2_maybeSet 20 = .ok (.ishl, 1) := by decide +kernel
theorem dX2_maybeSet_21 : decode cX2_maybeSet 21 = .ok (.ior, 1) := by decide +kernel
theorem dX2_maybeSet_22 : decode cX2_maybeSet 22 = .ok (.istore_n 1, 1) := by decide +kernel
theorem dX2_maybeSet_23 : decode cX2_maybeSet 23 = .ok (.iinc 2 1, 3) := by decide +kernel
theorem dX2_maybeSet_26 : decode cX2_maybeSet 26 = .ok (.goto (-22), 3) := by decide +kernel
theorem dX2_maybeSet_29 : decode cX2_maybeSet 29 = .ok (.iload_n 1, 1) := by decide +kernel
theorem dX2_maybeSet_30 : decode cX2_maybeSet 30 = .ok (.ireturn, 1) := by decide +kernel
theorem dX2_tell_0 : decode cX2_tell 0 = .ok (.aload_n 0, 1) := by decide +kernel
theorem dX2_tell_1 : decode cX2_tell 1 = .ok (.iload_n 1, 1) := by decide +kernel
theorem dX2_tell_2 : decode cX2_tell 2 = .ok (.invokevirtual 43, 3) := by decide +kernel
theorem dX2_tell_5 : decode cX2_tell 5 = .ok (.ifCond .ne 6, 3) := by decide +kernel
theorem dX2_tell_8 : decode cX2_tell 8 = .ok (.bipush (-2), 2) := by decide +kernel
theorem dX2_tell_10 : decode cX2_tell 10 = .ok (.ireturn, 1) := by decide +kernel
theorem dX2_tell_11 : decode cX2_tell 11 = .ok (.iload_n 2, 1) := by decide +kernel
theorem dX2_tell_12 : decode cX2_tell 12 = .ok (.tableswitch 127 0 11 #[64, 71, 78, 85, 92, 99, 106, 113, 127, 127, 127, 120], 64) := by decide +kernel
theorem dX2_tell_76 : decode cX2_tell 76 = .ok (.aload_n 0, 1) := by decide +kernel
theorem dX2_tell_77 : decode cX2_tell 77 = .ok (.getfield 9, 3) := by decide +kernel
theorem dX2_tell_80 : decode cX2_tell 80 = .ok (.iload_n 1, 1) := by decide +kernel
theorem dX2_tell_81 : decode cX2_tell 81 = .ok (.iaload, 1) := by decide +kernel
theorem dX2_tell_82 : decode cX2_tell 82 = .ok (.ireturn, 1) := by decide +kernel
theorem dX2_tell_83 : decode cX2_tell 83 = .ok (.aload_n 0, 1) := by decide +kernel
theorem dX2_tell_84 : decode cX2_tell 84 = .ok (.getfield 15, 3) := by decide +kernel
theorem dX2_tell_87 : decode cX2_tell 87 = .ok (.iload_n 1, 1) := by decide +kernel
theorem dX2_tell_88 : decode cX2_tell 88 = .ok (.iaload, 1) := by decide +kernel
theorem dX2_tell_89 : decode cX2_tell 89 = .ok (.ireturn, 1) := by decide +kernel
theorem dX2_tell_90 : decode cX2_tell 90 = .ok (.aload_n 0, 1) := by decide +kernel
theorem dX2_tell_91 : decode cX2_tell 91 = .ok (.getfield 18, 3) := by decide +kernel
theorem dX2_tell_94 : decode cX2_tell 94 = .ok (.iload_n 1, 1) := by decide +kernel
theorem dX2_tell_95 : decode cX2_tell 95 = .ok (.iaload, 1) := by decide +kernel
theorem dX2_tell_96 : decode cX2_tell 96 = .ok (.ireturn, 1) := by decide +kernel
theorem dX2_tell_97 : decode cX2_tell 97 = .ok (.aload_n 0, 1) := by decide +kernel
theorem dX2_tell_98 : decode cX2_tell 98 = .ok (.getfield 21, 3) := by decide +kernel
theorem dX2_tell_101 : decode cX2_tell 101 = .ok (.iload_n 1, 1) := by decide +kernel
theorem dX2_tell_102 : decode cX2_tell 102 = .ok (.iaload, 1) := by decide +kernel
theorem dX2_tell_103 : decode cX2_tell 103 = .ok (.ireturn, 1) := by decide +kernel
theorem dX2_tell_104 : decode cX2_tell 104 = .ok (.aload_n 0, 1) := by decide +kernel
theorem dX2_tell_105 : decode cX2_tell 105 = .ok (.getfield 24, 3) := by decide +kernel
theorem dX2_tell_108 : decode cX2_tell 108 = .ok (.iload_n 1, 1) := by decide +kernel
theorem dX2_tell_109 : decode cX2_tell 109 = .ok (.iaload, 1) := by decide +kernel
theorem dX2_tell_110 : decode cX2_tell 110 = .ok (.ireturn, 1) := by decide +kernel
theorem dX2_tell_111 : decode cX2_tell 111 = .ok (.aload_n 0, 1) := by decide +kernel
theorem dX2_tell_112 : decode cX2_tell 112 = .ok (.getfield 27, 3) := by decide +kernel
theorem dX2_tell_115 : decode cX2_tell 115 = .ok (.iload_n 1, 1) := by decide +kernel
theorem dX2_tell_116 : decode cX2_tell 116 = .ok (.iaload, 1) := by decide +kernel
theorem dX2_tell_117 : decode cX2_tell 117 = .ok (.ireturn, 1) := by decide +kernel
theorem dX2_tell_118 : decode cX2_tell 118 = .ok (.aload_n 0, 1) := by decide +kernel
theorem dX2_tell_119 : decode cX2_tell 119 = .ok (.getfield 30, 3) := by decide +kernel
theorem dX2_tell_122 : decode cX2_tell 122 = .ok (.iload_n 1, 1) := by decide +kernel
theorem dX2_tell_123 : decode cX2_tell 123 = .ok (.iaload, 1) := by decide +kernel
theorem dX2_tell_124 : decode cX2_tell 124 = .ok (.ireturn, 1) := by decide +kernel
theorem dX2_tell_125 : decode cX2_tell 125 = .ok (.aload_n 0, 1) := by decide +kernel
theorem dX2_tell_126 : decode cX2_tell 126 = .ok (.getfield 33, 3) := by decide +kernel
theorem dX2_tell_129 : decode cX2_tell 129 = .ok (.iload_n 1, 1) := by decide +kernel
theorem dX2_tell_130 : decode cX2_tell 130 = .ok (.iaload, 1) := by decide +kernel
theorem dX2_tell_131 : decode cX2_tell 131 = .ok (.ireturn, 1) := by decide +kernel
theorem dX2_tell_132 : decode cX2_tell 132 = .ok (.aload_n 0, 1) := by decide +kernel
theorem dX2_tell_133 : decode cX2_tell 133 = .ok (.getfield 36, 3) := by decide +kernel
theorem dX2_tell_136 : decode cX2_tell 136 = .ok (.iload_n 1, 1) := by decide +kernel
theorem dX2_tell_137 : decode cX2_tell 137 = .ok (.iaload, 1) := by decide +kernel
theorem dX2_tell_138 : decode cX2_tell 138 = .ok (.ireturn, 1) := by decide +kernel
theorem dX2_tell_139 : decode cX2_tell 139 = .ok (.bipush (-2), 2) := by decide +kernel
theorem dX2_tell_141 : decode cX2_tell 141 = .ok (.ireturn, 1) := by decide +kernel
theorem dX2_copyFrom_0 : decode cX2_copyFrom 0 = .ok (.aload_n 1, 1) := by decide +kernel
theorem dX2_copyFrom_1 : decode cX2_copyFrom 1 = .ok (.getfield 9, 3) := by decide +kernel
theorem dX2_copyFrom_4 : decode cX2_copyFrom 4 = .ok (.iconst 0, 1) := by decide +kernel
theorem dX2_copyFrom_5 : decode cX2_copyFrom 5 = .ok (.aload_n 0, 1) := by decide +kernel
theorem dX2_copyFrom_6 : decode cX2_copyFrom 6 = .ok (.getfield 9, 3) := by decide +kernel
theorem dX2_copyFrom_9 : decode cX2_copyFrom 9 = .ok (.iconst 0, 1) := by decide +kernel
theorem dX2_copyFrom_10 : decode cX2_copyFrom 10 = .ok (.bipush 20, 2) := by decide +kernel
theorem dX2_copyFrom_12 : decode cX2_copyFrom 12 = .ok (.invokestatic 47, 3) := by decide +kernel
theorem dX2_copyFrom_15 : decode cX2_copyFrom 15 = .ok (.aload_n 1, 1) := by decide +kernel
theorem dX2_copyFrom_16 : decode cX2_copyFrom 16 = .ok (.getfield 15, 3) := by decide +kernel
theorem dX2_copyFrom_19 : decode cX2_copyFrom 19 = .ok (.iconst 0, 1) := by decide +kernel
theorem dX2_copyFrom_20 : decode cX2_copyFrom 20 = .ok (.aload_n 0, 1) := by decide +kernel
theorem dX2_copyFrom_21 : decode cX2_copyFrom 21 = .ok (.getfield 15, 3) := by decide +kernel
theorem dX2_copyFrom_24 : decode cX2_copyFrom 24 = .ok (.iconst 0, 1) := by decide +kernel
theorem dX2_copyFrom_25 : decode cX2_copyFrom 25 = .ok (.bipush 20, 2) := by decide +kernel
theorem dX2_copyFrom_27 : decode cX2_copyFrom 27 = .ok (.invokestatic 47, 3) := by decide +kernel
theorem dX2_copyFrom_30 : decode cX2_copyFrom 30 = .ok (.aload_n 1, 1) := by decide +kernel
theorem dX2_copyFrom_31 : decode cX2_copyFrom 31 = .ok (.getfield 18, 3) := by decide +kernel
theorem dX2_copyFrom_34 : decode cX2_copyFrom 34 = .ok (.iconst 0, 1) := by decide +kernel
theorem dX2_copyFrom_35 : decode cX2_copyFrom 35 = .ok (.aload_n 0, 1) := by decide +kernel
theorem dX2_copyFrom_36 : decode cX2_copyFrom 36 = .ok (.getfield 18, 3) := by decide +kernel
theorem dX2_copyFrom_39 : decode cX2_copyFrom 39 = .ok (.iconst 0, 1) := by decide +kernel
theorem dX2_copyFrom_40 : decode cX2_copyFrom 40 = .ok (.bipush 20, 2) := by decide +kernel
theorem dX2_copyFrom_42 : decode cX2_copyFrom 42 = .ok (.invokestatic 47, 3) := by decide +kernel
theorem dX2_copyFrom_45 : decode cX2_copyFrom 45 = .ok (.aload_n 1, 1) := by decide +kernel
theorem dX2_copyFrom_46 : decode cX2_copyFrom 46 = .ok (.getfield 21, 3) := by decide +kernel
theorem dX2_copyFrom_49 : decode cX2_copyFrom 49 = .ok (.iconst 0, 1) := by decide +kernel
theorem dX2_copyFrom_50 : decode cX2_copyFrom 50 = .ok (.aload_n 0, 1) := by decide +kernel
theorem dX2_copyFrom_51 : decode cX2_copyFrom 51 = .ok (.getfield 21, 3) := by decide +kernel
theorem dX2_copyFrom_54 : decode cX2_copyFrom 54 = .ok (.iconst 0, 1) := by decide +kernel
theorem dX2_copyFrom_55 : decode cX2_copyFrom 55 = .ok (.bipush 20, 2) := by decide +kernel
theorem dX2_copyFrom_57 : decode cX2_copyFrom 57 = .ok (.invokestatic 47, 3) := by decide +kernel
theorem dX2_copyFrom_60 : decode cX2_copyFrom 60 = .ok (.aload_n 1, 1) := by decide +kernel
theorem dX2_copyFrom_61 : decode cX2_copyFrom 61 = .ok (.getfield 24, 3) := by decide +kernel
theorem dX2_copyFrom_64 : decode cX2_copyFrom 64 = .ok (.iconst 0, 1) := by decide +kernel
theorem dX2_copyFrom_65 : decode cX2_copyFrom 65 = .ok (.aload_n 0, 1) := by decide +kernel
theorem dX2_copyFrom_66 : decode cX2_copyFrom 66 = .ok (.getfield 24, 3) := by decide +kernel
theorem dX2_copyFrom_69 : decode cX2_copyFrom 69 = .ok (.iconst 0, 1) := by decide +kernel
theorem dX2_copyFrom_70 : decode cX2_copyFrom 70 = .ok (.bipush 20, 2) := by decide +kernel
theorem dX2_copyFrom_72 : decode cX2_copyFrom 72 = .ok (.invokestatic 47, 3) := by decide +kernel
theorem dX2_copyFrom_75 : decode cX2_copyFrom 75 = .ok (.aload_n 1, 1) := by decide +kernel
theorem dX2_copyFrom_76 : decode cX2_copyFrom 76 = .ok (.getfield 27, 3) := by decide +kernel
theorem dX2_copyFrom_79 : decode cX2_copyFrom 79 = .ok (.iconst 0, 1) := by decide +kernel
theorem dX2_copyFrom_80 : decode cX2_copyFrom 80 = .ok (.aload_n 0, 1) := by decide +kernel
theorem dX2_copyFrom_81 : decode cX2_copyFrom 81 = .ok (.getfield 27, 3) := by decide +kernel
theorem dX2_copyFrom_84 : decode cX2_copyFrom 84 = .ok (.iconst 0, 1) := by decide +kernel
theorem dX2_copyFrom_85 : decode cX2_copyFrom 85 = .ok (.bipush 20, 2) := by decide +kernel
theorem dX2_copyFrom_87 : decode cX2_copyFrom 87 = .ok (.invokestatic 47, 3) := by decide +kernel
theorem dX2_copyFrom_90 : decode cX2_copyFrom 90 = .ok (.aload_n 1, 1) := by decide +kernel
theorem dX2_copyFrom_91 : decode cX2_copyFrom 91 = .ok (.getfield 30, 3) := by decide +kernel
theorem dX2_copyFrom_94 : decode cX2_copyFrom 94 = .ok (.iconst 0, 1) := by decide +kernel
theorem dX2_copyFrom_95 : decode cX2_copyFrom 95 = .ok (.aload_n 0, 1) := by decide +kernel
theorem dX2_copyFrom_96 : decode cX2_copyFrom 96 = .ok (.getfield 30, 3) := by decide +kernel
theorem dX2_copyFrom_99 : decode cX2_copyFrom 99 = .ok (.iconst 0, 1) := by decide +kernel
theorem dX2_copyFrom_100 : decode cX2_copyFrom 100 = .ok (.bipush 20, 2) := by decide +kernel
theorem dX2_copyFrom_102 : decode cX2_copyFrom 102 = .ok (.invokestatic 47, 3) := by decide +kernel
theorem dX2_copyFrom_105 : decode cX2_copyFrom 105 = .ok (.aload_n 1, 1) := by decide +kernel
theorem dX2_copyFrom_106 : decode cX2_copyFrom 106 = .ok (.getfield 33, 3) := by decide +kernel
theorem dX2_copyFrom_109 : decode cX2_copyFrom 109 = .ok (.iconst 0, 1) := by decide +kernel
theorem dX2_copyFrom_110 : decode cX2_copyFrom 110 = .ok (.aload_n 0, 1) := by decide +kernel
theorem dX2_copyFrom_111 : decode cX2_copyFrom 111 = .ok (.getfield 33, 3) := by decide +kernel
theorem dX2_copyFrom_114 : decode cX2_copyFrom 114 = .ok (.iconst 0, 1) := by decide +kernel
theorem dX2_copyFrom_115 : decode cX2_copyFrom 115 = .ok (.bipush 20, 2) := by decide +kernel
theorem dX2_copyFrom_117 : decode cX2_copyFrom 117 = .ok (.invokestatic 47, 3) := by decide +kernel
theorem dX2_copyFrom_120 : decode cX2_copyFrom 120 = .ok (.aload_n 1, 1) := by decide +kernel
theorem dX2_copyFrom_121 : decode cX2_copyFrom 121 = .ok (.getfield 36, 3) := by decide +kernel
theorem dX2_copyFrom_124 : decode cX2_copyFrom 124 = .ok (.iconst 0, 1) := by decide +kernel
theorem dX2_copyFrom_125 : decode cX2_copyFrom 125 = .ok (.aload_n 0, 1) := by decide +kernel
theorem dX2_copyFrom_126 : decode cX2_copyFrom 126 = .ok (.getfield 36, 3) := by decide +kernel
theorem dX2_copyFrom_129 : decode cX2_copyFrom 129 = .ok (.iconst 0, 1) := by decide +kernel
theorem dX2_copyFrom_130 : decode cX2_copyFrom 130 = .ok (.bipush 20, 2) := by decide +kernel
theorem dX2_copyFrom_132 : decode cX2_copyFrom 132 = .ok (.invokestatic 47, 3) := by decide +kernel
theorem dX2_copyFrom_135 : decode cX2_copyFrom 135 = .ok (.aload_n 0, 1) := by decide +kernel
theorem dX2_copyFrom_136 : decode cX2_copyFrom 136 = .ok (.aload_n 1, 1) := by decide +kernel
theorem dX2_copyFrom_137 : decode cX2_copyFrom 137 = .ok (.getfield 39, 3) := by decide +kernel
theorem dX2_copyFrom_140 : decode cX2_copyFrom 140 = .ok (.putfield 39, 3) := by decide +kernel
theorem dX2_copyFrom_143 : decode cX2_copyFrom 143 = .ok (.return_, 1) := by decide +kernel
theorem dX3_init_0 : decode cX3_init 0 = .ok (.aload_n 0, 1) := by decide +kernel
theorem dX3_init_1 : decode cX3_init 1 = .ok (.invokespecial 3, 3) := by decide +kernel
theorem dX3_init_4 : decode cX3_init 4 = .ok (.aload_n 0, 1) := by decide +kernel
theorem dX3_init_5 : decode cX3_init 5 = .ok (.sipush 400, 3) := by decide +kernel
theorem dX3_init_8 : decode cX3_init 8 = .ok (.newarray .int, 2) := by decide +kernel
theorem dX3_init_10 : decode cX3_init 10 = .ok (.putfield 9, 3) := by decide +kernel
theorem dX3_init_13 : decode cX3_init 13 = .ok (.aload_n 0, 1) := by decide +kernel
theorem dX3_init_14 : decode cX3_init 14 = .ok (.bipush 17, 2) := by decide +kernel
theorem dX3_init_16 : decode cX3_init 16 = .ok (.newarray .int, 2) := by decide +kernel
theorem dX3_init_18 : decode cX3_init 18 = .ok (.putfield 15, 3) := by decide +kernel
theorem dX3_init_21 : decode cX3_init 21 = .ok (.aload_n 0, 1) := by decide +kernel
theorem dX3_init_22 : decode cX3_init 22 = .ok (.bipush 16, 2) := by decide +kernel
theorem dX3_init_24 : decode cX3_init 24 = .ok (.newarray .int, 2) := by decide +kernel
theorem dX3_init_26 : decode cX3_init 26 = .ok (.putfield 18, 3) := by decide +kernel
theorem dX3_init_29 : decode cX3_init 29 = .ok (.aload_n 0, 1) := by decide +kernel
theorem dX3_init_30 : decode cX3_init 30 = .ok (.bipush 64, 2) := by decide +kernel
theorem dX3_init_32 : decode cX3_init 32 = .ok (.newarray .int, 2) := by decide +kernel
theorem dX3_init_34 : decode cX3_init 34 = .ok (.putfield 21, 3) := by decide +kernel
theorem dX3_init_37 : decode cX3_init 37 = .ok (.return_, 1) := by decide +kernel
theorem dX3_clear_0 : decode cX3_clear 0 = .ok (.aload_n 0, 1) := by decide +kernel
theorem dX3_clear_1 : decode cX3_clear 1 = .ok (.iconst 0, 1) := by decide +kernel
theorem dX3_clear_2 : decode cX3_clear 2 = .ok (.putfield 24, 3) := by decide +kernel
theorem dX3_clear_5 : decode cX3_clear 5 = .ok (.aload_n 0, 1) := by decide +kernel
theorem dX3_clear_6 : decode cX3_clear 6 = .ok (.iconst 0, 1) := by decide +kernel
theorem dX3_clear_7 : decode cX3_clear 7 = .ok (.putfield 28, 3) := by decide +kernel
theorem dX3_clear_10 : decode cX3_clear 10 = .ok (.aload_n 0, 1) := by decide +kernel
theorem dX3_clear_11 : decode cX3_clear 11 = .ok (.getfield 15, 3) := by decide +kernel
theorem dX3_clear_14 : decode cX3_clear 14 = .ok (.iconst 0, 1) := by decide +kernel
theorem dX3_clear_15 : decode cX3_clear 15 = .ok (.iconst 0, 1) := by decide +kernel
theorem dX3_clear_16 : decode cX3_clear 16 = .ok (.iastore, 1) := by decide +kernel
theorem dX3_clear_17 : decode cX3_clear 17 = .ok (.return_, 1) := by decide +kernel
theorem dX3_beginLine_0 : decode cX3_beginLine 0 = .ok (.aload_n 0, 1) := by decide +kernel
theorem dX3_beginLine_1 : decode cX3_beginLine 1 = .ok (.getfield 24, 3) := by decide +kernel
theorem dX3_beginLine_4 : decode cX3_beginLine 4 = .ok (.bipush 16, 2) := by decide +kernel
theorem dX3_beginLine_6 : decode cX3_beginLine 6 = .ok (.if_icmp .lt 5, 3) := by decide +kernel
theorem dX3_beginLine_9 : decode cX3_beginLine 9 = .ok (.iconst 0, 1) := by decide +kernel
theorem dX3_beginLine_10 : decode cX3_beginLine 10 = .ok (.ireturn, 1) := by decide +kernel
theorem dX3_beginLine_11 : decode cX3_beginLine 11 = .ok (.aload_n 0, 1) := by decide +kernel
theorem dX3_beginLine_12 : decode cX3_beginLine 12 = .ok (.getfield 18, 3) := by decide +kernel
theorem dX3_beginLine_15 : decode cX3_beginLine 15 = .ok (.aload_n 0, 1) := by decide +kernel
theorem dX3_beginLine_16 : decode cX3_beginLine 16 = .ok (.getfield 24, 3) := by decide +kernel
theorem dX3_beginLine_19 : decode cX3_beginLine 19 = .ok (.iload_n 1, 1) := by decide +kernel
theorem dX3_beginLine_20 : decode cX3_beginLine 20 = .ok (.ifCond .eq 7, 3) := by decide +kernel
theorem dX3_beginLine_23 : decode cX3_beginLine 23 = .ok (.iconst 1, 1) := by decide +kernel
theorem dX3_beginLine_24 : decode cX3_beginLine 24 = .ok (.goto 4, 3) := by decide +kernel
theorem dX3_beginLine_27 : decode cX3_beginLine 27 = .ok (.iconst 0, 1) := by decide +kernel
theorem dX3_beginLine_28 : decode cX3_beginLine 28 = .ok (.iastore, 1) := by decide +kernel
theorem dX3_beginLine_29 : decode cX3_beginLine 29 = .ok (.iconst 1, 1) := by decide +kernel
theorem dX3_beginLine_30 : decode cX3_beginLine 30 = .ok (.ireturn, 1) := by decide +kernel
theorem dX3_closeLine_0 : decode cX3_closeLine 0 = .ok (.aload_n 0, 1) := by decide +kernel
theorem dX3_closeLine_1 : decode cX3_closeLine 1 = .ok (.getfield 24, 3) := by decide +kernel
theorem dX3_closeLine_4 : decode cX3_closeLine 4 = .ok (.bipush 16, 2) := by decide +kernel
theorem dX3_closeLine_6 : decode cX3_closeLine 6 = .ok (.if_icmp .ge 26, 3) := by decide +kernel
theorem dX3_closeLine_9 : decode cX3_closeLine 9 = .ok (.aload_n 0, 1) := by decide +kernel
theorem dX3_closeLine_10 : decode cX3_closeLine 10 = .ok (.dup, 1) := by decide +kernel
theorem dX3_closeLine_11 : decode cX3_closeLine 11 = .ok (.getfield 24, 3) := by decide +kernel
theorem dX3_closeLine_14 : decode cX3_closeLine 14 = .ok (.iconst 1, 1) := by decide +kernel
theorem dX3_closeLine_15 : decode cX3_closeLine 15 = .ok (.iadd, 1) := by decide +kernel
theorem dX3_closeLine_16 : decode cX3_closeLine 16 = .ok (.putfield 24, 3) := by decide +kernel
theorem dX3_closeLine_19 : decode cX3_closeLine 19 = .ok (.aload_n 0, 1) := by decide +kernel
theorem dX3_closeLine_20 : decode cX3_closeLine 20 = .ok (.getfield 15, 3) := by decide +kernel
theorem dX3_closeLine_23 : decode cX3_closeLine 23 = .ok (.aload_n 0, 1) := by decide +kernel
theorem dX3_closeLine_24 : decode cX3_closeLine 24 = .ok (.getfield 24, 3) := by decide +kernel
theorem dX3_closeLine_27 : decode cX3_closeLine 27 = .ok (.aload_n 0, 1) := by decide +kernel
theorem dX3_closeLine_28 : decode cX3_closeLine 28 = .ok (.getfield 28, 3) := by decide +kernel
theorem dX3_closeLine_31 : decode cX3_closeLine 31 = .ok (.iastore, 1) := by decide +kernel
theorem dX3_closeLine_32 : decode cX3_closeLine 32 = .ok (.return_, 1) := by decide +kernel
theorem dX3_put_0 : decode cX3_put 0 = .ok (.aload_n 0, 1) := by decide +kernel
theorem dX3_put_1 : decode cX3_put 1 = .ok (.getfield 28, 3) := by decide +kernel
theorem dX3_put_4 : decode cX3_put 4 = .ok (.sipush 400, 3) := by decide +kernel
theorem dX3_put_7 : decode cX3_put 7 = .ok (.if_icmp .ge 23, 3) := by decide +kernel
theorem dX3_put_10 : decode cX3_put 10 = .ok (.aload_n 0, 1) := by decide +kernel
theorem dX3_put_11 : decode cX3_put 11 = .ok (.getfield 9, 3) := by decide +kernel
theorem dX3_put_14 : decode cX3_put 14 = .ok (.aload_n 0, 1) := by decide +kernel
theorem dX3_put_15 : decode cX3_put 15 = .ok (.getfield 28, 3) := by decide +kernel
theorem dX3_put_18 : decode cX3_put 18 = .ok (.iload_n 1, 1) := by decide +kernel
theorem dX3_put_19 : decode cX3_put 19 = .ok (.iastore, 1) := by decide +kernel
theorem dX3_put_20 : decode cX3_put 20 = .ok (.aload_n 0, 1) := by decide +kernel
theorem dX3_put_21 : decode cX3_put 21 = .ok (.dup, 1) := by decide +kernel
theorem dX3_put_22 : decode cX3_put 22 = .ok (.getfield 28, 3) := by decide +kernel
theorem dX3_put_25 : decode cX3_put 25 = .ok (.iconst 1, 1) := by decide +kernel
theorem dX3_put_26 : decode cX3_put 26 = .ok (.iadd, 1) := by decide +kernel
theorem dX3_put_27 : decode cX3_put 27 = .ok (.putfield 28, 3) := by decide +kernel
theorem dX3_put_30 : decode cX3_put 30 = .ok (.return_, 1) := by decide +kernel
theorem dX3_lets_0 : decode cX3_lets 0 = .ok (.iconst 0, 1) := by decide +kernel
theorem dX3_lets_1 : decode cX3_lets 1 = .ok (.istore_n 2, 1) := by decide +kernel
theorem dX3_lets_2 : decode cX3_lets 2 = .ok (.iload_n 2, 1) := by decide +kernel
theorem dX3_lets_3 : decode cX3_lets 3 = .ok (.aload_n 0, 1) := by decide +kernel
theorem dX3_lets_4 : decode cX3_lets 4 = .ok (.getfield 24, 3) := by decide +kernel
theorem dX3_lets_7 : decode cX3_lets 7 = .ok (.if_icmp .ge 34, 3) := by decide +kernel
theorem dX3_lets_10 : decode cX3_lets 10 = .ok (.aload_n 0, 1) := by decide +kernel
theorem dX3_lets_11 : decode cX3_lets 11 = .ok (.iload_n 2, 1) := by decide +kernel
theorem dX3_lets_12 : decode cX3_lets 12 = .ok (.aload_n 1, 1) := by decide +kernel
theorem dX3_lets_13 : decode cX3_lets 13 = .ok (.invokevirtual 31, 3) := by decide +kernel
theorem dX3_lets_16 : decode cX3_lets 16 = .ok (.ifCond .eq 19, 3) := by decide +kernel
theorem dX3_lets_19 : decode cX3_lets 19 = .ok (.aload_n 0, 1) := by decide +kernel
theorem dX3_lets_20 : decode cX3_lets 20 = .ok (.getfield 18, 3) := by decide +kernel
theorem dX3_lets_23 : decode cX3_lets 23 = .ok (.iload_n 2, 1) := by decide +kernel
theorem dX3_lets_24 : decode cX3_lets 24 = .ok (.iaload, 1) := by decide +kernel
theorem dX3_lets_25 : decode cX3_lets 25 = .ok (.iconst 1, 1) := by decide +kernel
theorem dX3_lets_26 : decode cX3_lets 26 = .ok (.if_icmp .ne 7, 3) := by decide +kernel
theorem dX3_lets_29 : decode cX3_lets 29 = .ok (.iconst 1, 1) := by decide +kernel
theorem dX3_lets_30 : decode cX3_lets 30 = .ok (.goto 4, 3) := by decide +kernel
theorem dX3_lets_33 : decode cX3_lets 33 = .ok (.iconst 0, 1) := by decide +kernel
theorem dX3_lets_34 : decode cX3_lets 34 = .ok (.ireturn, 1) := by decide +kernel
theorem dX3_lets_35 : decode cX3_lets 35 = .ok (.iinc 2 1, 3) := by decide +kernel
theorem dX3_lets_38 : decode cX3_lets 38 = .ok (.goto (-36), 3) := by decide +kernel
theorem dX3_lets_41 : decode cX3_lets 41 = .ok (.iconst 1, 1) := by decide +kernel
theorem dX3_lets_42 : decode cX3_lets 42 = .ok (.ireturn, 1) := by decide +kernel
theorem dX3_holds_0 : decode cX3_holds 0 = .ok (.iconst 0, 1) := by decide +kernel
theorem dX3_holds_1 : decode cX3_holds 1 = .ok (.istore_n 3, 1) := by decide +kernel
theorem dX3_holds_2 : decode cX3_holds 2 = .ok (.aload_n 0, 1) := by decide +kernel
theorem dX3_holds_3 : decode cX3_holds 3 = .ok (.getfield 15, 3) := by decide +kernel
theorem dX3_holds_6 : decode cX3_holds 6 = .ok (.iload_n 1, 1) := by decide +kernel
theorem dX3_holds_7 : decode cX3_holds 7 = .ok (.iaload, 1) := by decide +kernel
theorem dX3_holds_8 : decode cX3_holds 8 = .ok (.istore 4, 2) := by decide +kernel
theorem dX3_holds_10 : decode cX3_holds 10 = .ok (.iload 4, 2) := by decide +kernel
theorem dX3_holds_12 : decode cX3_holds 12 = .ok (.aload_n 0, 1) := by decide +kernel
theorem dX3_holds_13 : decode cX3_holds 13 = .ok (.getfield 15, 3) := by decide +kernel
theorem dX3_holds_16 : decode cX3_holds 16 = .ok (.iload_n 1, 1) := by decide +kernel
theorem dX3_holds_17 : decode cX3_holds 17 = .ok (.iconst 1, 1) := by decide +kernel
theorem dX3_holds_18 : decode cX3_holds 18 = .ok (.iadd, 1) := by decide +kernel
theorem dX3_holds_19 : decode cX3_holds 19 = .ok (.iaload, 1) := by decide +kernel
theorem dX3_holds_20 : decode cX3_holds 20 = .ok (.if_icmp .ge 353, 3) := by decide +kernel
theorem dX3_holds_23 : decode cX3_holds 23 = .ok (.aload_n 0, 1) := by decide +kernel
theorem dX3_holds_24 : decode cX3_holds 24 = .ok (.getfield 9, 3) := by decide +kernel
theorem dX3_holds_27 : decode cX3_holds 27 = .ok (.iload 4, 2) := by decide +kernel
theorem dX3_holds_29 : decode cX3_holds 29 = .ok (.iaload, 1) := by decide +kernel
theorem dX3_holds_30 : decode cX3_holds 30 = .ok (.istore 5, 2) := by decide +kernel
theorem dX3_holds_32 : decode cX3_holds 32 = .ok (.iload 5, 2) := by decide +kernel
theorem dX3_holds_34 : decode cX3_holds 34 = .ok (.ineg, 1) := by decide +kernel
theorem dX3_holds_35 : decode cX3_holds 35 = .ok (.bipush 8, 2) := by decide +kernel
theorem dX3_holds_37 : decode cX3_holds 37 = .ok (.isub, 1) := by decide +kernel
theorem dX3_holds_38 : decode cX3_holds 38 = .ok (.istore 6, 2) := by decide +kernel
theorem dX3_holds_40 : decode cX3_holds 40 = .ok (.iload 5, 2) := by decide +kernel
theorem dX3_holds_42 : decode cX3_holds 42 = .ok (.ifCond .ge 15, 3) := by decide +kernel
theorem dX3_holds_45 : decode cX3_holds 45 = .ok (.iload 6, 2) := by decide +kernel
theorem dX3_holds_47 : decode cX3_holds 47 = .ok (.ifCond .lt 42, 3) := by decide +kernel
theorem dX3_holds_50 : decode cX3_holds 50 = .ok (.iload 6, 2) := by decide +kernel
theorem dX3_holds_52 : decode cX3_holds 52 = .ok (.bipush 7, 2) := by decide +kernel
theorem dX3_holds_54 : decode cX3_holds 54 = .ok (.if_icmp .ge 35, 3) := by decide +kernel
theorem dX3_holds_57 : decode cX3_holds 57 = .ok (.iload_n 3, 1) := by decide +kernel
theorem dX3_holds_58 : decode cX3_holds 58 = .ok (.bipush 64, 2) := by decide +kernel
theorem dX3_holds_60 : decode cX3_holds 60 = .ok (.if_icmp .ge 307, 3) := by decide +kernel
theorem dX3_holds_63 : decode cX3_holds 63 = .ok (.aload_n 0, 1) := by decide +kernel
theorem dX3_holds_64 : decode cX3_holds 64 = .ok (.getfield 21, 3) := by decide +kernel
theorem dX3_holds_67 : decode cX3_holds 67 = .ok (.iload_n 3, 1) := by decide +kernel
theorem dX3_holds_68 : decode cX3_holds 68 = .ok (.iload 5, 2) := by decide +kernel
theorem dX3_holds_70 : decode cX3_holds 70 = .ok (.ifCond .lt 8, 3) := by decide +kernel
theorem dX3_holds_73 : decode cX3_holds 73 = .ok (.iload 5, 2) := by decide +kernel
theorem dX3_holds_75 : decode cX3_holds 75 = .ok (.goto 7, 3) := by decide +kernel
theorem dX3_holds_78 : decode cX3_holds 78 = .ok (.aload_n 2, 1) := by decide +kernel
theorem dX3_holds_79 : decode cX3_holds 79 = .ok (.iload 6, 2) := by decide +kernel
theorem dX3_holds_81 : decode cX3_holds 81 = .ok (.iaload, 1) := by decide +kernel
theorem dX3_holds_82 : decode cX3_holds 82 = .ok (.iastore, 1) := by decide +kernel
theorem dX3_holds_83 : decode cX3_holds 83 = .ok (.iinc 3 1, 3) := by decide +kernel
theorem dX3_holds_86 : decode cX3_holds 86 = .ok (.goto 281, 3) := by decide +kernel
theorem dX3_holds_89 : decode cX3_holds 89 = .ok (.iload 5, 2) := by decide +kernel
theorem dX3_holds_91 : decode cX3_holds 91 = .ok (.bipush (-7), 2) := by decide +kernel
theorem dX3_holds_93 : decode cX3_holds 93 = .ok (.if_icmp .ne 28, 3) := by decide +kernel
theorem dX3_holds_96 : decode cX3_holds 96 = .ok (.iload_n 3, 1) := by decide +kernel
theorem dX3_holds_97 : decode cX3_holds 97 = .ok (.ifCond .le 270, 3) := by decide +kernel
theorem dX3_holds_100 : decode cX3_holds 100 = .ok (.aload_n 0, 1) := by decide +kernel
theorem dX3_holds_101 : decode cX3_holds 101 = .ok (.getfield 21, 3) := by decide +kernel
theorem dX3_holds_104 : decode cX3_holds 104 = .ok (.iload_n 3, 1) := by decide +kernel
theorem dX3_holds_105 : decode cX3_holds 105 = .ok (.iconst 1, 1) := by decide +kernel
theorem dX3_holds_106 : decode cX3_holds 106 = .ok (.isub, 1) := by decide +kernel
theorem dX3_holds_107 : decode cX3_holds 107 = .ok (.iconst 1, 1) := by decide +kernel
theorem dX3_holds_108 : decode cX3_holds 108 = .ok (.aload_n 0, 1) := by decide +kernel
theorem dX3_holds_109 : decode cX3_holds 109 = .ok (.getfield 21, 3) := by decide +kernel
theorem dX3_holds_112 : decode cX3_holds 112 = .ok (.iload_n 3, 1) := by decide +kernel
theorem dX3_holds_113 : decode cX3_holds 113 = .ok (.iconst 1, 1) := by decide +kernel
theorem dX3_holds_114 : decode cX3_holds 114 = .ok (.isub, 1) := by decide +kernel
theorem dX3_holds_115 : decode cX3_holds 115 = .ok (.iaload, 1) := by decide +kernel
theorem dX3_holds_116 : decode cX3_holds 116 = .ok (.isub, 1) := by decide +kernel
theorem dX3_holds_117 : decode cX3_holds 117 = .ok (.iastore, 1) := by decide +kernel
theorem dX3_holds_118 : decode cX3_holds 118 = .ok (.goto 249, 3) := by decide +kernel
theorem dX3_holds_121 : decode cX3_holds 121 = .ok (.iload_n 3, 1) := by decide +kernel
theorem dX3_holds_122 : decode cX3_holds 122 = .ok (.iconst 1, 1) := by decide +kernel
theorem dX3_holds_123 : decode cX3_holds 123 = .ok (.if_icmp .le 244, 3) := by decide +kernel
theorem dX3_holds_126 : decode cX3_holds 126 = .ok (.iinc 3 (-1), 3) := by decide +kernel
theorem dX3_holds_129 : decode cX3_holds 129 = .ok (.aload_n 0, 1) := by decide +kernel
theorem dX3_holds_130 : decode cX3_holds 130 = .ok (.getfield 21, 3) := by decide +kernel
theorem dX3_holds_133 : decode cX3_holds 133 = .ok (.iload_n 3, 1) := by decide +kernel
theorem dX3_holds_134 : decode cX3_holds 134 = .ok (.iaload, 1) := by decide +kernel
theorem dX3_holds_135 : decode cX3_holds 135 = .ok (.istore 7, 2) := by decide +kernel
theorem dX3_holds_137 : decode cX3_holds 137 = .ok (.aload_n 0, 1) := by decide +kernel
theorem dX3_holds_138 : decode cX3_holds 138 = .ok (.getfield 21, 3) := by decide +kernel
theorem dX3_holds_141 : decode cX3_holds 141 = .ok (.iload_n 3, 1) := by decide +kernel
theorem dX3_holds_142 : decode cX3_holds 142 = .ok (.iconst 1, 1) := by decide +kernel
theorem dX3_holds_143 : decode cX3_holds 143 = .ok (.isub, 1) := by decide +kernel
theorem dX3_holds_144 : decode cX3_holds 144 = .ok (.iaload, 1) := by decide +kernel
theorem dX3_holds_145 : decode cX3_holds 145 = .ok (.istore 8, 2) := by decide +kernel
theorem dX3_holds_147 : decode cX3_holds 147 = .ok (.iload 5, 2) := by decide +kernel
theorem dX3_holds_149 : decode cX3_holds 149 = .ok (.ineg, 1) := by decide +kernel
theorem dX3_holds_150 : decode cX3_holds 150 = .ok (.tableswitch 200 6 24 #[190, 200, 200, 200, 200, 200, 200, 200, 200, 200, 90, 100, 110, 120, 200, 200, 139, 156, 173], 90) := by decide +kernel
theorem dX3_holds_240 : decode cX3_holds 240 = .ok (.iload 8, 2) := by decide +kernel
theorem dX3_holds_242 : decode cX3_holds 242 = .ok (.iload 7, 2) := by decide +kernel
theorem dX3_holds_244 : decode cX3_holds 244 = .ok (.iadd, 1) := by decide +kernel
theorem dX3_holds_245 : decode cX3_holds 245 = .ok (.istore 8, 2) := by decide +kernel
theorem dX3_holds_247 : decode cX3_holds 247 = .ok (.goto 110, 3) := by decide +kernel
theorem dX3_holds_250 : decode cX3_holds 250 = .ok (.iload 8, 2) := by decide +kernel
theorem dX3_holds_252 : decode cX3_holds 252 = .ok (.iload 7, 2) := by decide +kernel
theorem dX3_holds_254 : decode cX3_holds 254 = .ok (.isub, 1) := by decide +kernel
theorem dX3_holds_255 : decode cX3_holds 255 = .ok (.istore 8, 2) := by decide +kernel
theorem dX3_holds_257 : decode cX3_holds 257 = .ok (.goto 100, 3) := by decide +kernel
theorem dX3_holds_260 : decode cX3_holds 260 = .ok (.iload 8, 2) := by decide +kernel
theorem dX3_holds_262 : decode cX3_holds 262 = .ok (.iload 7, 2) := by decide +kernel
theorem dX3_holds_264 : decode cX3_holds 264 = .ok (.imul, 1) := by decide +kernel
theorem dX3_holds_265 : decode cX3_holds 265 = .ok (.istore 8, 2) := by decide +kernel
theorem dX3_holds_267 : decode cX3_holds 267 = .ok (.goto 90, 3) := by decide +kernel
theorem dX3_holds_270 : decode cX3_holds 270 = .ok (.iload 7, 2) := by decide +kernel
theorem dX3_holds_272 : decode cX3_holds 272 = .ok (.ifCond .ne 7, 3) := by decide +kernel
theorem dX3_holds_275 : decode cX3_holds 275 = .ok (.iconst 0, 1) := by decide +kernel
theorem dX3_holds_276 : decode cX3_holds 276 = .ok (.goto 8, 3) := by decide +kernel
theorem dX3_holds_279 : decode cX3_holds 279 = .ok (.iload 8, 2) := by decide +kernel
theorem dX3_holds_281 : decode cX3_holds 281 = .ok (.iload 7, 2) := by decide +kernel
theorem dX3_holds_283 : decode cX3_holds 283 = .ok (.idiv, 1) := by decide +kernel
theorem dX3_holds_284 : decode cX3_holds 284 = .ok (.istore 8, 2) := by decide +kernel
theorem dX3_holds_286 : decode cX3_holds 286 = .ok (.goto 71, 3) := by decide +kernel
theorem dX3_holds_289 : decode cX3_holds 289 = .ok (.iload 8, 2) := by decide +kernel
theorem dX3_holds_291 : decode cX3_holds 291 = .ok (.iload 7, 2) := by decide +kernel
theorem dX3_holds_293 : decode cX3_holds 293 = .ok (.if_icmp .ge 7, 3) := by decide +kernel
theorem dX3_holds_296 : decode cX3_holds 296 = .ok (.iconst 1, 1) := by decide +kernel
theorem dX3_holds_297 : decode cX3_holds 297 = .ok (.goto 4, 3) := by decide +kernel
theorem dX3_holds_300 : decode cX3_holds 300 = .ok (.iconst 0, 1) := by decide +kernel
theorem dX3_holds_301 : decode cX3_holds 301 = .ok (.istore 8, 2) := by decide +kernel
theorem dX3_holds_303 : decode cX3_holds 303 = .ok (.goto 54, 3) := by decide +kernel
theorem dX3_holds_306 : decode cX3_holds 306 = .ok (.iload 8, 2) := by decide +kernel
theorem dX3_holds_308 : decode cX3_holds 308 = .ok (.iload 7, 2) := by decide +kernel
theorem dX3_holds_310 : decode cX3_holds 310 = .ok (.if_icmp .ne 7, 3) := by decide +kernel
theorem dX3_holds_313 : decode cX3_holds 313 = .ok (.iconst 1, 1) := by decide +kernel
theorem dX3_holds_314 : decode cX3_holds 314 = .ok (.goto 4, 3) := by decide +kernel
theorem dX3_holds_317 : decode cX3_holds 317 = .ok (.iconst 0, 1) := by decide +kernel
theorem dX3_holds_318 : decode cX3_holds 318 = .ok (.istore 8, 2) := by decide +kernel
theorem dX3_holds_320 : decode cX3_holds 320 = .ok (.goto 37, 3) := by decide +kernel
theorem dX3_holds_323 : decode cX3_holds 323 = .ok (.iload 8, 2) := by decide +kernel
theorem dX3_holds_325 : decode cX3_holds 325 = .ok (.iload 7, 2) := by decide +kernel
theorem dX3_holds_327 : decode cX3_holds 327 = .ok (.if_icmp .le 7, 3) := by decide +kernel
theorem dX3_holds_330 : decode cX3_holds 330 = .ok (.iconst 1, 1) := by decide +kernel
theorem dX3_holds_331 : decode cX3_holds 331 = .ok (.goto 4, 3) := by decide +kernel
theorem dX3_holds_334 : decode cX3_holds 334 = .ok (.iconst 0, 1) := by decide +kernel
theorem dX3_holds_335 : decode cX3_holds 335 = .ok (.istore 8, 2) := by decide +kernel
theorem dX3_holds_337 : decode cX3_holds 337 = .ok (.goto 20, 3) := by decide +kernel
theorem dX3_holds_340 : decode cX3_holds 340 = .ok (.iload 8, 2) := by decide +kernel
theorem dX3_holds_342 : decode cX3_holds 342 = .ok (.iload 7, 2) := by decide +kernel
theorem dX3_holds_344 : decode cX3_holds 344 = .ok (.iand, 1) := by decide +kernel
theorem dX3_holds_345 : decode cX3_holds 345 = .ok (.istore 8, 2) := by decide +kernel
theorem dX3_holds_347 : decode cX3_holds 347 = .ok (.goto 10, 3) := by decide +kernel
theorem dX3_holds_350 : decode cX3_holds 350 = .ok (.iload 8, 2) := by decide +kernel
theorem dX3_holds_352 : decode cX3_holds 352 = .ok (.iload 7, 2) := by decide +kernel
theorem dX3_holds_354 : decode cX3_holds 354 = .ok (.ior, 1) := by decide +kernel
theorem dX3_holds_355 : decode cX3_holds 355 = .ok (.istore 8, 2) := by decide +kernel
theorem dX3_holds_357 : decode cX3_holds 357 = .ok (.aload_n 0, 1) := by decide +kernel
theorem dX3_holds_358 : decode cX3_holds 358 = .ok (.getfield 21, 3) := by decide +kernel
theorem dX3_holds_361 : decode cX3_holds 361 = .ok (.iload_n 3, 1) := by decide +kernel
theorem dX3_holds_362 : decode cX3_holds 362 = .ok (.iconst 1, 1) := by decide +kernel
theorem dX3_holds_363 : decode cX3_holds 363 = .ok (.isub, 1) := by decide +kernel
theorem dX3_holds_364 : decode cX3_holds 364 = .ok (.iload 8, 2) := by decide +kernel
theorem dX3_holds_366 : decode cX3_holds 366 = .ok (.iastore, 1) := by decide +kernel
theorem dX3_holds_367 : decode cX3_holds 367 = .ok (.iinc 4 1, 3) := by decide +kernel
theorem dX3_holds_370 : decode cX3_holds 370 = .ok (.goto (-360), 3) := by decide +kernel
theorem dX3_holds_373 : decode cX3_holds 373 = .ok (.iload_n 3, 1) := by decide +kernel
theorem dX3_holds_374 : decode cX3_holds 374 = .ok (.ifCond .eq 12, 3) := by decide +kernel
theorem dX3_holds_377 : decode cX3_holds 377 = .ok (.aload_n 0, 1) := by decide +kernel
theorem dX3_holds_378 : decode cX3_holds 378 = .ok (.getfield 21, 3) := by decide +kernel
theorem dX3_holds_381 : decode cX3_holds 381 = .ok (.iconst 0, 1) := by decide +kernel
theorem dX3_holds_382 : decode cX3_holds 382 = .ok (.iaload, 1) := by decide +kernel
theorem dX3_holds_383 : decode cX3_holds 383 = .ok (.ifCond .eq 7, 3) := by decide +kernel
theorem dX3_holds_386 : decode cX3_holds 386 = .ok (.iconst 1, 1) := by decide +kernel
theorem dX3_holds_387 : decode cX3_holds 387 = .ok (.goto 4, 3) := by decide +kernel
theorem dX3_holds_390 : decode cX3_holds 390 = .ok (.iconst 0, 1) := by decide +kernel
theorem dX3_holds_391 : decode cX3_holds 391 = .ok (.ireturn, 1) := by decide +kernel
theorem dX3_copyFrom_0 : decode cX3_copyFrom 0 = .ok (.aload_n 1, 1) := by decide +kernel
theorem dX3_copyFrom_1 : decode cX3_copyFrom 1 = .ok (.getfield 9, 3) := by decide +kernel
theorem dX3_copyFrom_4 : decode cX3_copyFrom 4 = .ok (.iconst 0, 1) := by decide +kernel
theorem dX3_copyFrom_5 : decode cX3_copyFrom 5 = .ok (.aload_n 0, 1) := by decide +kernel
theorem dX3_copyFrom_6 : decode cX3_copyFrom 6 = .ok (.getfield 9, 3) := by decide +kernel
theorem dX3_copyFrom_9 : decode cX3_copyFrom 9 = .ok (.iconst 0, 1) := by decide +kernel
theorem dX3_copyFrom_10 : decode cX3_copyFrom 10 = .ok (.sipush 400, 3) := by decide +kernel
theorem dX3_copyFrom_13 : decode cX3_copyFrom 13 = .ok (.invokestatic 35, 3) := by decide +kernel
theorem dX3_copyFrom_16 : decode cX3_copyFrom 16 = .ok (.aload_n 1, 1) := by decide +kernel
theorem dX3_copyFrom_17 : decode cX3_copyFrom 17 = .ok (.getfield 15, 3) := by decide +kernel
theorem dX3_copyFrom_20 : decode cX3_copyFrom 20 = .ok (.iconst 0, 1) := by decide +kernel
theorem dX3_copyFrom_21 : decode cX3_copyFrom 21 = .ok (.aload_n 0, 1) := by decide +kernel
theorem dX3_copyFrom_22 : decode cX3_copyFrom 22 = .ok (.getfield 15, 3) := by decide +kernel
theorem dX3_copyFrom_25 : decode cX3_copyFrom 25 = .ok (.iconst 0, 1) := by decide +kernel
theorem dX3_copyFrom_26 : decode cX3_copyFrom 26 = .ok (.bipush 17, 2) := by decide +kernel
theorem dX3_copyFrom_28 : decode cX3_copyFrom 28 = .ok (.invokestatic 35, 3) := by decide +kernel
theorem dX3_copyFrom_31 : decode cX3_copyFrom 31 = .ok (.aload_n 1, 1) := by decide +kernel
theorem dX3_copyFrom_32 : decode cX3_copyFrom 32 = .ok (.getfield 18, 3) := by decide +kernel
theorem dX3_copyFrom_35 : decode cX3_copyFrom 35 = .ok (.iconst 0, 1) := by decide +kernel
theorem dX3_copyFrom_36 : decode cX3_copyFrom 36 = .ok (.aload_n 0, 1) := by decide +kernel
theorem dX3_copyFrom_37 : decode cX3_copyFrom 37 = .ok (.getfield 18, 3) := by decide +kernel
theorem dX3_copyFrom_40 : decode cX3_copyFrom 40 = .ok (.iconst 0, 1) := by decide +kernel
theorem dX3_copyFrom_41 : decode cX3_copyFrom 41 = .ok (.bipush 16, 2) := by decide +kernel
theorem dX3_copyFrom_43 : decode cX3_copyFrom 43 = .ok (.invokestatic 35, 3) := by decide +kernel
theorem dX3_copyFrom_46 : decode cX3_copyFrom 46 = .ok (.aload_n 0, 1) := by decide +kernel
theorem dX3_copyFrom_47 : decode cX3_copyFrom 47 = .ok (.aload_n 1, 1) := by decide +kernel
theorem dX3_copyFrom_48 : decode cX3_copyFrom 48 = .ok (.getfield 24, 3) := by decide +kernel
theorem dX3_copyFrom_51 : decode cX3_copyFrom 51 = .ok (.putfield 24, 3) := by decide +kernel
theorem dX3_copyFrom_54 : decode cX3_copyFrom 54 = .ok (.aload_n 0, 1) := by decide +kernel
theorem dX3_copyFrom_55 : decode cX3_copyFrom 55 = .ok (.aload_n 1, 1) := by decide +kernel
theorem dX3_copyFrom_56 : decode cX3_copyFrom 56 = .ok (.getfield 28, 3) := by decide +kernel
theorem dX3_copyFrom_59 : decode cX3_copyFrom 59 = .ok (.putfield 28, 3) := by decide +kernel
theorem dX3_copyFrom_62 : decode cX3_copyFrom 62 = .ok (.return_, 1) := by decide +kernel
theorem dX4_init_0 : decode cX4_init 0 = .ok (.aload_n 0, 1) := by decide +kernel
theorem dX4_init_1 : decode cX4_init 1 = .ok (.invokespecial 3, 3) := by decide +kernel
theorem dX4_init_4 : decode cX4_init 4 = .ok (.aload_n 0, 1) := by decide +kernel
theorem dX4_init_5 : decode cX4_init 5 = .ok (.bipush 20, 2) := by decide +kernel
theorem dX4_init_7 : decode cX4_init 7 = .ok (.newarray .int, 2) := by decide +kernel
theorem dX4_init_9 : decode cX4_init 9 = .ok (.putfield 9, 3) := by decide +kernel
theorem dX4_init_12 : decode cX4_init 12 = .ok (.aload_n 0, 1) := by decide +kernel
theorem dX4_init_13 : decode cX4_init 13 = .ok (.bipush 20, 2) := by decide +kernel
theorem dX4_init_15 : decode cX4_init 15 = .ok (.newarray .int, 2) := by decide +kernel
theorem dX4_init_17 : decode cX4_init 17 = .ok (.putfield 15, 3) := by decide +kernel
theorem dX4_init_20 : decode cX4_init 20 = .ok (.aload_n 0, 1) := by decide +kernel
theorem dX4_init_21 : decode cX4_init 21 = .ok (.bipush 20, 2) := by decide +kernel
theorem dX4_init_23 : decode cX4_init 23 = .ok (.newarray .int, 2) := by decide +kernel
theorem dX4_init_25 : decode cX4_init 25 = .ok (.putfield 18, 3) := by decide +kernel
theorem dX4_init_28 : decode cX4_init 28 = .ok (.return_, 1) := by decide +kernel
theorem dX4_add_0 : decode cX4_add 0 = .ok (.aload_n 0, 1) := by decide +kernel
theorem dX4_add_1 : decode cX4_add 1 = .ok (.getfield 21, 3) := by decide +kernel
theorem dX4_add_4 : decode cX4_add 4 = .ok (.bipush 20, 2) := by decide +kernel
theorem dX4_add_6 : decode cX4_add 6 = .ok (.if_icmp .lt 5, 3) := by decide +kernel
theorem dX4_add_9 : decode cX4_add 9 = .ok (.iconst 0, 1) := by decide +kernel
theorem dX4_add_10 : decode cX4_add 10 = .ok (.ireturn, 1) := by decide +kernel
theorem dX4_add_11 : decode cX4_add 11 = .ok (.aload_n 0, 1) := by decide +kernel
theorem dX4_add_12 : decode cX4_add 12 = .ok (.getfield 9, 3) := by decide +kernel
theorem dX4_add_15 : decode cX4_add 15 = .ok (.aload_n 0, 1) := by decide +kernel
theorem dX4_add_16 : decode cX4_add 16 = .ok (.getfield 21, 3) := by decide +kernel
theorem dX4_add_19 : decode cX4_add 19 = .ok (.iload_n 1, 1) := by decide +kernel
theorem dX4_add_20 : decode cX4_add 20 = .ok (.iastore, 1) := by decide +kernel
theorem dX4_add_21 : decode cX4_add 21 = .ok (.aload_n 0, 1) := by decide +kernel
theorem dX4_add_22 : decode cX4_add 22 = .ok (.getfield 15, 3) := by decide +kernel
theorem dX4_add_25 : decode cX4_add 25 = .ok (.aload_n 0, 1) := by decide +kernel
theorem dX4_add_26 : decode cX4_add 26 = .ok (.getfield 21, 3) := by decide +kernel
theorem dX4_add_29 : decode cX4_add 29 = .ok (.iload_n 2, 1) := by decide +kernel
theorem dX4_add_30 : decode cX4_add 30 = .ok (.iastore, 1) := by decide +kernel
theorem dX4_add_31 : decode cX4_add 31 = .ok (.aload_n 0, 1) := by decide +kernel
theorem dX4_add_32 : decode cX4_add 32 = .ok (.getfield 18, 3) := by decide +kernel
theorem dX4_add_35 : decode cX4_add 35 = .ok (.aload_n 0, 1) := by decide +kernel
theorem dX4_add_36 : decode cX4_add 36 = .ok (.getfield 21, 3) := by decide +kernel
theorem dX4_add_39 : decode cX4_add 39 = .ok (.iload_n 3, 1) := by decide +kernel
theorem dX4_add_40 : decode cX4_add 40 = .ok (.iastore, 1) := by decide +kernel
theorem dX4_add_41 : decode cX4_add 41 = .ok (.aload_n 0, 1) := by decide +kernel
theorem dX4_add_42 : decode cX4_add 42 = .ok (.dup, 1) := by decide +kernel
theorem dX4_add_43 : decode cX4_add 43 = .ok (.getfield 21, 3) := by decide +kernel
theorem dX4_add_46 : decode cX4_add 46 = .ok (.iconst 1, 1) := by decide +kernel
theorem dX4_add_47 : decode cX4_add 47 = .ok (.iadd, 1) := by decide +kernel
theorem dX4_add_48 : decode cX4_add 48 = .ok (.putfield 21, 3) := by decide +kernel
theorem dX4_add_51 : decode cX4_add 51 = .ok (.iconst 1, 1) := by decide +kernel
theorem dX4_add_52 : decode cX4_add 52 = .ok (.ireturn, 1) := by decide +kernel
theorem dX4_lastHour_0 : decode cX4_lastHour 0 = .ok (.iconst (-1), 1) := by decide +kernel
theorem dX4_lastHour_1 : decode cX4_lastHour 1 = .ok (.istore_n 1, 1) := by decide +kernel
theorem dX4_lastHour_2 : decode cX4_lastHour 2 = .ok (.iconst 0, 1) := by decide +kernel
theorem dX4_lastHour_3 : decode cX4_lastHour 3 = .ok (.istore_n 2, 1) := by decide +kernel
theorem dX4_lastHour_4 : decode cX4_lastHour 4 = .ok (.iload_n 2, 1) := by decide +kernel
theorem dX4_lastHour_5 : decode cX4_lastHour 5 = .ok (.aload_n 0, 1) := by decide +kernel
theorem dX4_lastHour_6 : decode cX4_lastHour 6 = .ok (.getfield 21, 3) := by decide +kernel
theorem dX4_lastHour_9 : decode cX4_lastHour 9 = .ok (.if_icmp .ge 20, 3) := by decide +kernel
theorem dX4_lastHour_12 : decode cX4_lastHour 12 = .ok (.iload_n 1, 1) := by decide +kernel
theorem dX4_lastHour_13 : decode cX4_lastHour 13 = .ok (.aload_n 0, 1) := by decide +kernel
theorem dX4_lastHour_14 : decode cX4_lastHour 14 = .ok (.getfield 9, 3) := by decide +kernel
theorem dX4_lastHour_17 : decode cX4_lastHour 17 = .ok (.iload_n 2, 1) := by decide +kernel
theorem dX4_lastHour_18 : decode cX4_lastHour 18 = .ok (.iaload, 1) := by decide +kernel
theorem dX4_lastHour_19 : decode cX4_lastHour 19 = .ok (.invokestatic 25, 3) := by decide +kernel
theorem dX4_lastHour_22 : decode cX4_lastHour 22 = .ok (.istore_n 1, 1) := by decide +kernel
theorem dX4_lastHour_23 : decode cX4_lastHour 23 = .ok (.iinc 2 1, 3) := by decide +kernel
theorem dX4_lastHour_26 : decode cX4_lastHour 26 = .ok (.goto (-22), 3) := by decide +kernel
theorem dX4_lastHour_29 : decode cX4_lastHour 29 = .ok (.iload_n 1, 1) := by decide +kernel
theorem dX4_lastHour_30 : decode cX4_lastHour 30 = .ok (.ireturn, 1) := by decide +kernel
theorem dX4_agree_0 : decode cX4_agree 0 = .ok (.iconst 0, 1) := by decide +kernel
theorem dX4_agree_1 : decode cX4_agree 1 = .ok (.istore_n 3, 1) := by decide +kernel
theorem dX4_agree_2 : decode cX4_agree 2 = .ok (.iload_n 3, 1) := by decide +kernel
theorem dX4_agree_3 : decode cX4_agree 3 = .ok (.aload_n 0, 1) := by decide +kernel
theorem dX4_agree_4 : decode cX4_agree 4 = .ok (.getfield 21, 3) := by decide +kernel
theorem dX4_agree_7 : decode cX4_agree 7 = .ok (.if_icmp .ge 40, 3) := by decide +kernel
theorem dX4_agree_10 : decode cX4_agree 10 = .ok (.aload_n 0, 1) := by decide +kernel
theorem dX4_agree_11 : decode cX4_agree 11 = .ok (.getfield 9, 3) := by decide +kernel
theorem dX4_agree_14 : decode cX4_agree 14 = .ok (.iload_n 3, 1) := by decide +kernel
theorem dX4_agree_15 : decode cX4_agree 15 = .ok (.iaload, 1) := by decide +kernel
theorem dX4_agree_16 : decode cX4_agree 16 = .ok (.iload_n 1, 1) := by decide +kernel
theorem dX4_agree_17 : decode cX4_agree 17 = .ok (.if_icmp .ne 24, 3) := by decide +kernel
theorem dX4_agree_20 : decode cX4_agree 20 = .ok (.aload_n 2, 1) := by decide +kernel
theorem dX4_agree_21 : decode cX4_agree 21 = .ok (.aload_n 0, 1) := by decide +kernel
theorem dX4_agree_22 : decode cX4_agree 22 = .ok (.getfield 15, 3) := by decide +kernel
theorem dX4_agree_25 : decode cX4_agree 25 = .ok (.iload_n 3, 1) := by decide +kernel
theorem dX4_agree_26 : decode cX4_agree 26 = .ok (.iaload, 1) := by decide +kernel
theorem dX4_agree_27 : decode cX4_agree 27 = .ok (.invokevirtual 31, 3) := by decide +kernel
theorem dX4_agree_30 : decode cX4_agree 30 = .ok (.aload_n 0, 1) := by decide +kernel
theorem dX4_agree_31 : decode cX4_agree 31 = .ok (.getfield 18, 3) := by decide +kernel
theorem dX4_agree_34 : decode cX4_agree 34 = .ok (.iload_n 3, 1) := by decide +kernel
theorem dX4_agree_35 : decode cX4_agree 35 = .ok (.iaload, 1) := by decide +kernel
theorem dX4_agree_36 : decode cX4_agree 36 = .ok (.if_icmp .eq 5, 3) := by decide +kernel
theorem dX4_agree_39 : decode cX4_agree 39 = .ok (.iconst 0, 1) := by decide +kernel
theorem dX4_agree_40 : decode cX4_agree 40 = .ok (.ireturn, 1) := by decide +kernel
theorem dX4_agree_41 : decode cX4_agree 41 = .ok (.iinc 3 1, 3) := by decide +kernel
theorem dX4_agree_44 : decode cX4_agree 44 = .ok (.goto (-42), 3) := by decide +kernel
theorem dX4_agree_47 : decode cX4_agree 47 = .ok (.iconst 1, 1) := by decide +kernel
theorem dX4_agree_48 : decode cX4_agree 48 = .ok (.ireturn, 1) := by decide +kernel
theorem dX4_copyFrom_0 : decode cX4_copyFrom 0 = .ok (.aload_n 1, 1) := by decide +kernel
theorem dX4_copyFrom_1 : decode cX4_copyFrom 1 = .ok (.getfield 9, 3) := by decide +kernel
theorem dX4_copyFrom_4 : decode cX4_copyFrom 4 = .ok (.iconst 0, 1) := by decide +kernel
theorem dX4_copyFrom_5 : decode cX4_copyFrom 5 = .ok (.aload_n 0, 1) := by decide +kernel
theorem dX4_copyFrom_6 : decode cX4_copyFrom 6 = .ok (.getfield 9, 3) := by decide +kernel
theorem dX4_copyFrom_9 : decode cX4_copyFrom 9 = .ok (.iconst 0, 1) := by decide +kernel
theorem dX4_copyFrom_10 : decode cX4_copyFrom 10 = .ok (.bipush 20, 2) := by decide +kernel
theorem dX4_copyFrom_12 : decode cX4_copyFrom 12 = .ok (.invokestatic 37, 3) := by decide +kernel
theorem dX4_copyFrom_15 : decode cX4_copyFrom 15 = .ok (.aload_n 1, 1) := by decide +kernel
theorem dX4_copyFrom_16 : decode cX4_copyFrom 16 = .ok (.getfield 15, 3) := by decide +kernel
theorem dX4_copyFrom_19 : decode cX4_copyFrom 19 = .ok (.iconst 0, 1) := by decide +kernel
theorem dX4_copyFrom_20 : decode cX4_copyFrom 20 = .ok (.aload_n 0, 1) := by decide +kernel
theorem dX4_copyFrom_21 : decode cX4_copyFrom 21 = .ok (.getfield 15, 3) := by decide +kernel
theorem dX4_copyFrom_24 : decode cX4_copyFrom 24 = .ok (.iconst 0, 1) := by decide +kernel
theorem dX4_copyFrom_25 : decode cX4_copyFrom 25 = .ok (.bipush 20, 2) := by decide +kernel
theorem dX4_copyFrom_27 : decode cX4_copyFrom 27 = .ok (.invokestatic 37, 3) := by decide +kernel
theorem dX4_copyFrom_30 : decode cX4_copyFrom 30 = .ok (.aload_n 1, 1) := by decide +kernel
theorem dX4_copyFrom_31 : decode cX4_copyFrom 31 = .ok (.getfield 18, 3) := by decide +kernel
theorem dX4_copyFrom_34 : decode cX4_copyFrom 34 = .ok (.iconst 0, 1) := by decide +kernel
theorem dX4_copyFrom_35 : decode cX4_copyFrom 35 = .ok (.aload_n 0, 1) := by decide +kernel
theorem dX4_copyFrom_36 : decode cX4_copyFrom 36 = .ok (.getfield 18, 3) := by decide +kernel
theorem dX4_copyFrom_39 : decode cX4_copyFrom 39 = .ok (.iconst 0, 1) := by decide +kernel
theorem dX4_copyFrom_40 : decode cX4_copyFrom 40 = .ok (.bipush 20, 2) := by decide +kernel
theorem dX4_copyFrom_42 : decode cX4_copyFrom 42 = .ok (.invokestatic 37, 3) := by decide +kernel
theorem dX4_copyFrom_45 : decode cX4_copyFrom 45 = .ok (.aload_n 0, 1) := by decide +kernel
theorem dX4_copyFrom_46 : decode cX4_copyFrom 46 = .ok (.aload_n 1, 1) := by decide +kernel
theorem dX4_copyFrom_47 : decode cX4_copyFrom 47 = .ok (.getfield 21, 3) := by decide +kernel
theorem dX4_copyFrom_50 : decode cX4_copyFrom 50 = .ok (.putfield 21, 3) := by decide +kernel
theorem dX4_copyFrom_53 : decode cX4_copyFrom 53 = .ok (.return_, 1) := by decide +kernel
theorem dX5_init_0 : decode cX5_init 0 = .ok (.aload_n 0, 1) := by decide +kernel
theorem dX5_init_1 : decode cX5_init 1 = .ok (.invokespecial 3, 3) := by decide +kernel
theorem dX5_init_4 : decode cX5_init 4 = .ok (.aload_n 0, 1) := by decide +kernel
theorem dX5_init_5 : decode cX5_init 5 = .ok (.bipush 30, 2) := by decide +kernel
theorem dX5_init_7 : decode cX5_init 7 = .ok (.newarray .int, 2) := by decide +kernel
theorem dX5_init_9 : decode cX5_init 9 = .ok (.putfield 9, 3) := by decide +kernel
theorem dX5_init_12 : decode cX5_init 12 = .ok (.aload_n 0, 1) := by decide +kernel
theorem dX5_init_13 : decode cX5_init 13 = .ok (.bipush 30, 2) := by decide +kernel
theorem dX5_init_15 : decode cX5_init 15 = .ok (.newarray .int, 2) := by decide +kernel
theorem dX5_init_17 : decode cX5_init 17 = .ok (.putfield 15, 3) := by decide +kernel
theorem dX5_init_20 : decode cX5_init 20 = .ok (.aload_n 0, 1) := by decide +kernel
theorem dX5_init_21 : decode cX5_init 21 = .ok (.bipush 30, 2) := by decide +kernel
theorem dX5_init_23 : decode cX5_init 23 = .ok (.newarray .int, 2) := by decide +kernel
theorem dX5_init_25 : decode cX5_init 25 = .ok (.putfield 18, 3) := by decide +kernel
theorem dX5_init_28 : decode cX5_init 28 = .ok (.aload_n 0, 1) := by decide +kernel
theorem dX5_init_29 : decode cX5_init 29 = .ok (.bipush 30, 2) := by decide +kernel
theorem dX5_init_31 : decode cX5_init 31 = .ok (.newarray .int, 2) := by decide +kernel
theorem dX5_init_33 : decode cX5_init 33 = .ok (.putfield 21, 3) := by decide +kernel
theorem dX5_init_36 : decode cX5_init 36 = .ok (.aload_n 0, 1) := by decide +kernel
theorem dX5_init_37 : decode cX5_init 37 = .ok (.bipush 30, 2) := by decide +kernel
theorem dX5_init_39 : decode cX5_init 39 = .ok (.newarray .int, 2) := by decide +kernel
theorem dX5_init_41 : decode cX5_init 41 = .ok (.putfield 24, 3) := by decide +kernel
theorem dX5_init_44 : decode cX5_init 44 = .ok (.return_, 1) := by decide +kernel
theorem dX5_add_0 : decode cX5_add 0 = .ok (.aload_n 0, 1) := by decide +kernel
theorem dX5_add_1 : decode cX5_add 1 = .ok (.getfield 27, 3) := by decide +kernel
theorem dX5_add_4 : decode cX5_add 4 = .ok (.bipush 30, 2) := by decide +kernel
theorem dX5_add_6 : decode cX5_add 6 = .ok (.if_icmp .lt 5, 3) := by decide +kernel
theorem dX5_add_9 : decode cX5_add 9 = .ok (.iconst (-1), 1) := by decide +kernel
theorem dX5_add_10 : decode cX5_add 10 = .ok (.ireturn, 1) := by decide +kernel
theorem dX5_add_11 : decode cX5_add 11 = .ok (.aload_n 0, 1) := by decide +kernel
theorem dX5_add_12 : decode cX5_add 12 = .ok (.getfield 9, 3) := by decide +kernel
theorem dX5_add_15 : decode cX5_add 15 = .ok (.aload_n 0, 1) := by decide +kernel
theorem dX5_add_16 : decode cX5_add 16 = .ok (.getfield 27, 3) := by decide +kernel
theorem dX5_add_19 : decode cX5_add 19 = .ok (.iload_n 1, 1) := by decide +kernel
theorem dX5_add_20 : decode cX5_add 20 = .ok (.iastore, 1) := by decide +kernel
theorem dX5_add_21 : decode cX5_add 21 = .ok (.aload_n 0, 1) := by decide +kernel
theorem dX5_add_22 : decode cX5_add 22 = .ok (.getfield 15, 3) := by decide +kernel
theorem dX5_add_25 : decode cX5_add 25 = .ok (.aload_n 0, 1) := by decide +kernel
theorem dX5_add_26 : decode cX5_add 26 = .ok (.getfield 27, 3) := by decide +kernel
theorem dX5_add_29 : decode cX5_add 29 = .ok (.iload_n 2, 1) := by decide +kernel
theorem dX5_add_30 : decode cX5_add 30 = .ok (.iastore, 1) := by decide +kernel
theorem dX5_add_31 : decode cX5_add 31 = .ok (.aload_n 0, 1) := by decide +kernel
theorem dX5_add_32 : decode cX5_add 32 = .ok (.getfield 18, 3) := by decide +kernel
theorem dX5_add_35 : decode cX5_add 35 = .ok (.aload_n 0, 1) := by decide +kernel
theorem dX5_add_36 : decode cX5_add 36 = .ok (.getfield 27, 3) := by decide +kernel
theorem dX5_add_39 : decode cX5_add 39 = .ok (.iload_n 3, 1) := by decide +kernel
theorem dX5_add_40 : decode cX5_add 40 = .ok (.iastore, 1) := by decide +kernel
theorem dX5_add_41 : decode cX5_add 41 = .ok (.aload_n 0, 1) := by decide +kernel
theorem dX5_add_42 : decode cX5_add 42 = .ok (.getfield 21, 3) := by decide +kernel
theorem dX5_add_45 : decode cX5_add 45 = .ok (.aload_n 0, 1) := by decide +kernel
theorem dX5_add_46 : decode cX5_add 46 = .ok (.getfield 27, 3) := by decide +kernel
theorem dX5_add_49 : decode cX5_add 49 = .ok (.iconst (-1), 1) := by decide +kernel
theorem dX5_add_50 : decode cX5_add 50 = .ok (.iastore, 1) := by decide +kernel
theorem dX5_add_51 : decode cX5_add 51 = .ok (.aload_n 0, 1) := by decide +kernel
theorem dX5_add_52 : decode cX5_add 52 = .ok (.getfield 24, 3) := by decide +kernel
theorem dX5_add_55 : decode cX5_add 55 = .ok (.aload_n 0, 1) := by decide +kernel
theorem dX5_add_56 : decode cX5_add 56 = .ok (.getfield 27, 3) := by decide +kernel
theorem dX5_add_59 : decode cX5_add 59 = .ok (.iconst 0, 1) := by decide +kernel
theorem dX5_add_60 : decode cX5_add 60 = .ok (.iastore, 1) := by decide +kernel
theorem dX5_add_61 : decode cX5_add 61 = .ok (.aload_n 0, 1) := by decide +kernel
theorem dX5_add_62 : decode cX5_add 62 = .ok (.dup, 1) := by decide +kernel
theorem dX5_add_63 : decode cX5_add 63 = .ok (.getfield 27, 3) := by decide +kernel
theorem dX5_add_66 : decode cX5_add 66 = .ok (.iconst 1, 1) := by decide +kernel
theorem dX5_add_67 : decode cX5_add 67 = .ok (.iadd, 1) := by decide +kernel
theorem dX5_add_68 : decode cX5_add 68 = .ok (.putfield 27, 3) := by decide +kernel
theorem dX5_add_71 : decode cX5_add 71 = .ok (.aload_n 0, 1) := by decide +kernel
theorem dX5_add_72 : decode cX5_add 72 = .ok (.getfield 27, 3) := by decide +kernel
theorem dX5_add_75 : decode cX5_add 75 = .ok (.iconst 1, 1) := by decide +kernel
theorem dX5_add_76 : decode cX5_add 76 = .ok (.isub, 1) := by decide +kernel
theorem dX5_add_77 : decode cX5_add 77 = .ok (.ireturn, 1) := by decide +kernel
theorem dX5_dropLast_0 : decode cX5_dropLast 0 = .ok (.aload_n 0, 1) := by decide +kernel
theorem dX5_dropLast_1 : decode cX5_dropLast 1 = .ok (.getfield 27, 3) := by decide +kernel
theorem dX5_dropLast_4 : decode cX5_dropLast 4 = .ok (.ifCond .le 13, 3) := by decide +kernel
theorem dX5_dropLast_7 : decode cX5_dropLast 7 = .ok (.aload_n 0, 1) := by decide +kernel
theorem dX5_dropLast_8 : decode cX5_dropLast 8 = .ok (.dup, 1) := by decide +kernel
theorem dX5_dropLast_9 : decode cX5_dropLast 9 = .ok (.getfield 27, 3) := by decide +kernel
theorem dX5_dropLast_12 : decode cX5_dropLast 12 = .ok (.iconst 1, 1) := by decide +kernel
theorem dX5_dropLast_13 : decode cX5_dropLast 13 = .ok (.isub, 1) := by decide +kernel
theorem dX5_dropLast_14 : decode cX5_dropLast 14 = .ok (.putfield 27, 3) := by decide +kernel
theorem dX5_dropLast_17 : decode cX5_dropLast 17 = .ok (.return_, 1) := by decide +kernel
theorem dX5_has_0 : decode cX5_has 0 = .ok (.iload_n 1, 1) := by decide +kernel
theorem dX5_has_1 : decode cX5_has 1 = .ok (.ifCond .lt 15, 3) := by decide +kernel
theorem dX5_has_4 : decode cX5_has 4 = .ok (.iload_n 1, 1) := by decide +kernel
theorem dX5_has_5 : decode cX5_has 5 = .ok (.aload_n 0, 1) := by decide +kernel
theorem dX5_has_6 : decode cX5_has 6 = .ok (.getfield 27, 3) := by decide +kernel
theorem dX5_has_9 : decode cX5_has 9 = .ok (.if_icmp .ge 7, 3) := by decide +kernel
theorem dX5_has_12 : decode cX5_has 12 = .ok (.iconst 1, 1) := by decide +kernel
theorem dX5_has_13 : decode cX5_has 13 = .ok (.goto 4, 3) := by decide +kernel
theorem dX5_has_16 : decode cX5_has 16 = .ok (.iconst 0, 1) := by decide +kernel
theorem dX5_has_17 : decode cX5_has 17 = .ok (.ireturn, 1) := by decide +kernel
theorem dX5_hasAll_0 : decode cX5_hasAll 0 = .ok (.iload_n 1, 1) := by decide +kernel
theorem dX5_hasAll_1 : decode cX5_hasAll 1 = .ok (.ifCond .lt 16, 3) := by decide +kernel
theorem dX5_hasAll_4 : decode cX5_hasAll 4 = .ok (.iload_n 1, 1) := by decide +kernel
theorem dX5_hasAll_5 : decode cX5_hasAll 5 = .ok (.aload_n 0, 1) := by decide +kernel
theorem dX5_hasAll_6 : decode cX5_hasAll 6 = .ok (.getfield 27, 3) := by decide +kernel
theorem dX5_hasAll_9 : decode cX5_hasAll 9 = .ok (.ishr, 1) := by decide +kernel
theorem dX5_hasAll_10 : decode cX5_hasAll 10 = .ok (.ifCond .ne 7, 3) := by decide +kernel
theorem dX5_hasAll_13 : decode cX5_hasAll 13 = .ok (.iconst 1, 1) := by decide +kernel
theorem dX5_hasAll_14 : decode cX5_hasAll 14 = .ok (.goto 4, 3) := by decide +kernel
theorem dX5_hasAll_17 : decode cX5_hasAll 17 = .ok (.iconst 0, 1) := by decide +kernel
theorem dX5_hasAll_18 : decode cX5_hasAll 18 = .ok (.ireturn, 1) := by decide +kernel
theorem dX5_copyFrom_0 : decode cX5_copyFrom 0 = .ok (.aload_n 1, 1) := by decide +kernel
theorem dX5_copyFrom_1 : decode cX5_copyFrom 1 = .ok (.getfield 9, 3) := by decide +kernel
theorem dX5_copyFrom_4 : decode cX5_copyFrom 4 = .ok (.iconst 0, 1) := by decide +kernel
theorem dX5_copyFrom_5 : decode cX5_copyFrom 5 = .ok (.aload_n 0, 1) := by decide +kernel
theorem dX5_copyFrom_6 : decode cX5_copyFrom 6 = .ok (.getfield 9, 3) := by decide +kernel
theorem dX5_copyFrom_9 : decode cX5_copyFrom 9 = .ok (.iconst 0, 1) := by decide +kernel
theorem dX5_copyFrom_10 : decode cX5_copyFrom 10 = .ok (.bipush 30, 2) := by decide +kernel
theorem dX5_copyFrom_12 : decode cX5_copyFrom 12 = .ok (.invokestatic 31, 3) := by decide +kernel
theorem dX5_copyFrom_15 : decode cX5_copyFrom 15 = .ok (.aload_n 1, 1) := by decide +kernel
theorem dX5_copyFrom_16 : decode cX5_copyFrom 16 = .ok (.getfield 15, 3) := by decide +kernel
theorem dX5_copyFrom_19 : decode cX5_copyFrom 19 = .ok (.iconst 0, 1) := by decide +kernel
theorem dX5_copyFrom_20 : decode cX5_copyFrom 20 = .ok (.aload_n 0, 1) := by decide +kernel
theorem dX5_copyFrom_21 : decode cX5_copyFrom 21 = .ok (.getfield 15, 3) := by decide +kernel
theorem dX5_copyFrom_24 : decode cX5_copyFrom 24 = .ok (.iconst 0, 1) := by decide +kernel
theorem dX5_copyFrom_25 : decode cX5_copyFrom 25 = .ok (.bipush 30, 2) := by decide +kernel
theorem dX5_copyFrom_27 : decode cX5_copyFrom 27 = .ok (.invokestatic 31, 3) := by decide +kernel
theorem dX5_copyFrom_30 : decode cX5_copyFrom 30 = .ok (.aload_n 1, 1) := by decide +kernel
theorem dX5_copyFrom_31 : decode cX5_copyFrom 31 = .ok (.getfield 18, 3) := by decide +kernel
theorem dX5_copyFrom_34 : decode cX5_copyFrom 34 = .ok (.iconst 0, 1) := by decide +kernel
theorem dX5_copyFrom_35 : decode cX5_copyFrom 35 = .ok (.aload_n 0, 1) := by decide +kernel
theorem dX5_copyFrom_36 : decode cX5_copyFrom 36 = .ok (.getfield 18, 3) := by decide +kernel
theorem dX5_copyFrom_39 : decode cX5_copyFrom 39 = .ok (.iconst 0, 1) := by decide +kernel
theorem dX5_copyFrom_40 : decode cX5_copyFrom 40 = .ok (.bipush 30, 2) := by decide +kernel
theorem dX5_copyFrom_42 : decode cX5_copyFrom 42 = .ok (.invokestatic 31, 3) := by decide +kernel
theorem dX5_copyFrom_45 : decode cX5_copyFrom 45 = .ok (.aload_n 1, 1) := by decide +kernel
theorem dX5_copyFrom_46 : decode cX5_copyFrom 46 = .ok (.getfield 21, 3) := by decide +kernel
theorem dX5_copyFrom_49 : decode cX5_copyFrom 49 = .ok (.iconst 0, 1) := by decide +kernel
theorem dX5_copyFrom_50 : decode cX5_copyFrom 50 = .ok (.aload_n 0, 1) := by decide +kernel
theorem dX5_copyFrom_51 : decode cX5_copyFrom 51 = .ok (.getfield 21, 3) := by decide +kernel
theorem dX5_copyFrom_54 : decode cX5_copyFrom 54 = .ok (.iconst 0, 1) := by decide +kernel
theorem dX5_copyFrom_55 : decode cX5_copyFrom 55 = .ok (.bipush 30, 2) := by decide +kernel
theorem dX5_copyFrom_57 : decode cX5_copyFrom 57 = .ok (.invokestatic 31, 3) := by decide +kernel
theorem dX5_copyFrom_60 : decode cX5_copyFrom 60 = .ok (.aload_n 1, 1) := by decide +kernel
theorem dX5_copyFrom_61 : decode cX5_copyFrom 61 = .ok (.getfield 24, 3) := by decide +kernel
theorem dX5_copyFrom_64 : decode cX5_copyFrom 64 = .ok (.iconst 0, 1) := by decide +kernel
theorem dX5_copyFrom_65 : decode cX5_copyFrom 65 = .ok (.aload_n 0, 1) := by decide +kernel
theorem dX5_copyFrom_66 : decode cX5_copyFrom 66 = .ok (.getfield 24, 3) := by decide +kernel
theorem dX5_copyFrom_69 : decode cX5_copyFrom 69 = .ok (.iconst 0, 1) := by decide +kernel
theorem dX5_copyFrom_70 : decode cX5_copyFrom 70 = .ok (.bipush 30, 2) := by decide +kernel
theorem dX5_copyFrom_72 : decode cX5_copyFrom 72 = .ok (.invokestatic 31, 3) := by decide +kernel
theorem dX5_copyFrom_75 : decode cX5_copyFrom 75 = .ok (.aload_n 0, 1) := by decide +kernel
theorem dX5_copyFrom_76 : decode cX5_copyFrom 76 = .ok (.aload_n 1, 1) := by decide +kernel
theorem dX5_copyFrom_77 : decode cX5_copyFrom 77 = .ok (.getfield 27, 3) := by decide +kernel
theorem dX5_copyFrom_80 : decode cX5_copyFrom 80 = .ok (.putfield 27, 3) := by decide +kernel
theorem dX5_copyFrom_83 : decode cX5_copyFrom 83 = .ok (.return_, 1) := by decide +kernel
theorem dX6_init_0 : decode cX6_init 0 = .ok (.aload_n 0, 1) := by decide +kernel
theorem dX6_init_1 : decode cX6_init 1 = .ok (.invokespecial 3, 3) := by decide +kernel
theorem dX6_init_4 : decode cX6_init 4 = .ok (.aload_n 0, 1) := by decide +kernel
theorem dX6_init_5 : decode cX6_init 5 = .ok (.bipush 8, 2) := by decide +kernel
theorem dX6_init_7 : decode cX6_init 7 = .ok (.newarray .int, 2) := by decide +kernel
theorem dX6_init_9 : decode cX6_init 9 = .ok (.putfield 9, 3) := by decide +kernel
theorem dX6_init_12 : decode cX6_init 12 = .ok (.aload_n 0, 1) := by decide +kernel
theorem dX6_init_13 : decode cX6_init 13 = .ok (.bipush 8, 2) := by decide +kernel
theorem dX6_init_15 : decode cX6_init 15 = .ok (.newarray .int, 2) := by decide +kernel
theorem dX6_init_17 : decode cX6_init 17 = .ok (.putfield 15, 3) := by decide +kernel
theorem dX6_init_20 : decode cX6_init 20 = .ok (.aload_n 0, 1) := by decide +kernel
theorem dX6_init_21 : decode cX6_init 21 = .ok (.bipush 8, 2) := by decide +kernel
theorem dX6_init_23 : decode cX6_init 23 = .ok (.newarray .int, 2) := by decide +kernel
theorem dX6_init_25 : decode cX6_init 25 = .ok (.putfield 18, 3) := by decide +kernel
theorem dX6_init_28 : decode cX6_init 28 = .ok (.aload_n 0, 1) := by decide +kernel
theorem dX6_init_29 : decode cX6_init 29 = .ok (.bipush 8, 2) := by decide +kernel
theorem dX6_init_31 : decode cX6_init 31 = .ok (.newarray .int, 2) := by decide +kernel
theorem dX6_init_33 : decode cX6_init 33 = .ok (.putfield 21, 3) := by decide +kernel
theorem dX6_init_36 : decode cX6_init 36 = .ok (.aload_n 0, 1) := by decide +kernel
theorem dX6_init_37 : decode cX6_init 37 = .ok (.bipush 8, 2) := by decide +kernel
theorem dX6_init_39 : decode cX6_init 39 = .ok (.newarray .int, 2) := by decide +kernel
theorem dX6_init_41 : decode cX6_init 41 = .ok (.putfield 24, 3) := by decide +kernel
theorem dX6_init_44 : decode cX6_init 44 = .ok (.return_, 1) := by decide +kernel
theorem dX6_add_0 : decode cX6_add 0 = .ok (.aload_n 0, 1) := by decide +kernel
theorem dX6_add_1 : decode cX6_add 1 = .ok (.getfield 27, 3) := by decide +kernel
theorem dX6_add_4 : decode cX6_add 4 = .ok (.bipush 8, 2) := by decide +kernel
theorem dX6_add_6 : decode cX6_add 6 = .ok (.if_icmp .lt 5, 3) := by decide +kernel
theorem dX6_add_9 : decode cX6_add 9 = .ok (.iconst (-1), 1) := by decide +kernel
theorem dX6_add_10 : decode cX6_add 10 = .ok (.ireturn, 1) := by decide +kernel
theorem dX6_add_11 : decode cX6_add 11 = .ok (.aload_n 0, 1) := by decide +kernel
theorem dX6_add_12 : decode cX6_add 12 = .ok (.getfield 9, 3) := by decide +kernel
theorem dX6_add_15 : decode cX6_add 15 = .ok (.aload_n 0, 1) := by decide +kernel
theorem dX6_add_16 : decode cX6_add 16 = .ok (.getfield 27, 3) := by decide +kernel
theorem dX6_add_19 : decode cX6_add 19 = .ok (.iload_n 1, 1) := by decide +kernel
theorem dX6_add_20 : decode cX6_add 20 = .ok (.iastore, 1) := by decide +kernel
theorem dX6_add_21 : decode cX6_add 21 = .ok (.aload_n 0, 1) := by decide +kernel
theorem dX6_add_22 : decode cX6_add 22 = .ok (.getfield 15, 3) := by decide +kernel
theorem dX6_add_25 : decode cX6_add 25 = .ok (.aload_n 0, 1) := by decide +kernel
theorem dX6_add_26 : decode cX6_add 26 = .ok (.getfield 27, 3) := by decide +kernel
theorem dX6_add_29 : decode cX6_add 29 = .ok (.iload_n 2, 1) := by decide +kernel
theorem dX6_add_30 : decode cX6_add 30 = .ok (.iastore, 1) := by decide +kernel
theorem dX6_add_31 : decode cX6_add 31 = .ok (.aload_n 0, 1) := by decide +kernel
theorem dX6_add_32 : decode cX6_add 32 = .ok (.getfield 18, 3) := by decide +kernel
theorem dX6_add_35 : decode cX6_add 35 = .ok (.aload_n 0, 1) := by decide +kernel
theorem dX6_add_36 : decode cX6_add 36 = .ok (.getfield 27, 3) := by decide +kernel
theorem dX6_add_39 : decode cX6_add 39 = .ok (.iload_n 3, 1) := by decide +kernel
theorem dX6_add_40 : decode cX6_add 40 = .ok (.iastore, 1) := by decide +kernel
theorem dX6_add_41 : decode cX6_add 41 = .ok (.aload_n 0, 1) := by decide +kernel
theorem dX6_add_42 : decode cX6_add 42 = .ok (.getfield 21, 3) := by decide +kernel
theorem dX6_add_45 : decode cX6_add 45 = .ok (.aload_n 0, 1) := by decide +kernel
theorem dX6_add_46 : decode cX6_add 46 = .ok (.getfield 27, 3) := by decide +kernel
theorem dX6_add_49 : decode cX6_add 49 = .ok (.iload 4, 2) := by decide +kernel
theorem dX6_add_51 : decode cX6_add 51 = .ok (.iastore, 1) := by decide +kernel
theorem dX6_add_52 : decode cX6_add 52 = .ok (.aload_n 0, 1) := by decide +kernel
theorem dX6_add_53 : decode cX6_add 53 = .ok (.getfield 24, 3) := by decide +kernel
theorem dX6_add_56 : decode cX6_add 56 = .ok (.aload_n 0, 1) := by decide +kernel
theorem dX6_add_57 : decode cX6_add 57 = .ok (.getfield 27, 3) := by decide +kernel
theorem dX6_add_60 : decode cX6_add 60 = .ok (.iload 5, 2) := by decide +kernel
theorem dX6_add_62 : decode cX6_add 62 = .ok (.iastore, 1) := by decide +kernel
theorem dX6_add_63 : decode cX6_add 63 = .ok (.aload_n 0, 1) := by decide +kernel
theorem dX6_add_64 : decode cX6_add 64 = .ok (.dup, 1) := by decide +kernel
theorem dX6_add_65 : decode cX6_add 65 = .ok (.getfield 27, 3) := by decide +kernel
theorem dX6_add_68 : decode cX6_add 68 = .ok (.iconst 1, 1) := by decide +kernel
theorem dX6_add_69 : decode cX6_add 69 = .ok (.iadd, 1) := by decide +kernel
theorem dX6_add_70 : decode cX6_add 70 = .ok (.putfield 27, 3) := by decide +kernel
theorem dX6_add_73 : decode cX6_add 73 = .ok (.aload_n 0, 1) := by decide +kernel
theorem dX6_add_74 : decode cX6_add 74 = .ok (.getfield 27, 3) := by decide +kernel
theorem dX6_add_77 : decode cX6_add 77 = .ok (.iconst 1, 1) := by decide +kernel
theorem dX6_add_78 : decode cX6_add 78 = .ok (.isub, 1) := by decide +kernel
theorem dX6_add_79 : decode cX6_add 79 = .ok (.ireturn, 1) := by decide +kernel
theorem dX6_priceOf_0 : decode cX6_priceOf 0 = .ok (.iconst 0, 1) := by decide +kernel
theorem dX6_priceOf_1 : decode cX6_priceOf 1 = .ok (.istore_n 2, 1) := by decide +kernel
theorem dX6_priceOf_2 : decode cX6_priceOf 2 = .ok (.iconst 0, 1) := by decide +kernel
theorem dX6_priceOf_3 : decode cX6_priceOf 3 = .ok (.istore_n 3, 1) := by decide +kernel
theorem dX6_priceOf_4 : decode cX6_priceOf 4 = .ok (.iload_n 3, 1) := by decide +kernel
theorem dX6_priceOf_5 : decode cX6_priceOf 5 = .ok (.aload_n 0, 1) := by decide +kernel
theorem dX6_priceOf_6 : decode cX6_priceOf 6 = .ok (.getfield 27, 3) := by decide +kernel
theorem dX6_priceOf_9 : decode cX6_priceOf 9 = .ok (.if_icmp .ge 24, 3) := by decide +kernel
theorem dX6_priceOf_12 : decode cX6_priceOf 12 = .ok (.iload_n 2, 1) := by decide +kernel
theorem dX6_priceOf_13 : decode cX6_priceOf 13 = .ok (.iload_n 1, 1) := by decide +kernel
theorem dX6_priceOf_14 : decode cX6_priceOf 14 = .ok (.iload_n 3, 1) := by decide +kernel
theorem dX6_priceOf_15 : decode cX6_priceOf 15 = .ok (.ishr, 1) := by decide +kernel
theorem dX6_priceOf_16 : decode cX6_priceOf 16 = .ok (.iconst 1, 1) := by decide +kernel
theorem dX6_priceOf_17 : decode cX6_priceOf 17 = .ok (.iand, 1) := by decide +kernel
theorem dX6_priceOf_18 : decode cX6_priceOf 18 = .ok (.aload_n 0, 1) := by decide +kernel
theorem dX6_priceOf_19 : decode cX6_priceOf 19 = .ok (.getfield 24, 3) := by decide +kernel
theorem dX6_priceOf_22 : decode cX6_priceOf 22 = .ok (.iload_n 3, 1) := by decide +kernel
theorem dX6_priceOf_23 : decode cX6_priceOf 23 = .ok (.iaload, 1) := by decide +kernel
theorem dX6_priceOf_24 : decode cX6_priceOf 24 = .ok (.imul, 1) := by decide +kernel
theorem dX6_priceOf_25 : decode cX6_priceOf 25 = .ok (.iadd, 1) := by decide +kernel
theorem dX6_priceOf_26 : decode cX6_priceOf 26 = .ok (.istore_n 2, 1) := by decide +kernel
theorem dX6_priceOf_27 : decode cX6_priceOf 27 = .ok (.iinc 3 1, 3) := by decide +kernel
theorem dX6_priceOf_30 : decode cX6_priceOf 30 = .ok (.goto (-26), 3) := by decide +kernel
theorem dX6_priceOf_33 : decode cX6_priceOf 33 = .ok (.iload_n 2, 1) := by decide +kernel
theorem dX6_priceOf_34 : decode cX6_priceOf 34 = .ok (.ireturn, 1) := by decide +kernel
theorem dX6_copyFrom_0 : decode cX6_copyFrom 0 = .ok (.aload_n 1, 1) := by decide +kernel
theorem dX6_copyFrom_1 : decode cX6_copyFrom 1 = .ok (.getfield 9, 3) := by decide +kernel
theorem dX6_copyFrom_4 : decode cX6_copyFrom 4 = .ok (.iconst 0, 1) := by decide +kernel
theorem dX6_copyFrom_5 : decode cX6_copyFrom 5 = .ok (.aload_n 0, 1) := by decide +kernel
theorem dX6_copyFrom_6 : decode cX6_copyFrom 6 = .ok (.getfield 9, 3) := by decide +kernel
theorem dX6_copyFrom_9 : decode cX6_copyFrom 9 = .ok (.iconst 0, 1) := by decide +kernel
theorem dX6_copyFrom_10 : decode cX6_copyFrom 10 = .ok (.bipush 8, 2) := by decide +kernel
theorem dX6_copyFrom_12 : decode cX6_copyFrom 12 = .ok (.invokestatic 31, 3) := by decide +kernel
theorem dX6_copyFrom_15 : decode cX6_copyFrom 15 = .ok (.aload_n 1, 1) := by decide +kernel
theorem dX6_copyFrom_16 : decode cX6_copyFrom 16 = .ok (.getfield 15, 3) := by decide +kernel
theorem dX6_copyFrom_19 : decode cX6_copyFrom 19 = .ok (.iconst 0, 1) := by decide +kernel
theorem dX6_copyFrom_20 : decode cX6_copyFrom 20 = .ok (.aload_n 0, 1) := by decide +kernel
theorem dX6_copyFrom_21 : decode cX6_copyFrom 21 = .ok (.getfield 15, 3) := by decide +kernel
theorem dX6_copyFrom_24 : decode cX6_copyFrom 24 = .ok (.iconst 0, 1) := by decide +kernel
theorem dX6_copyFrom_25 : decode cX6_copyFrom 25 = .ok (.bipush 8, 2) := by decide +kernel
theorem dX6_copyFrom_27 : decode cX6_copyFrom 27 = .ok (.invokestatic 31, 3) := by decide +kernel
theorem dX6_copyFrom_30 : decode cX6_copyFrom 30 = .ok (.aload_n 1, 1) := by decide +kernel
theorem dX6_copyFrom_31 : decode cX6_copyFrom 31 = .ok (.getfield 18, 3) := by decide +kernel
theorem dX6_copyFrom_34 : decode cX6_copyFrom 34 = .ok (.iconst 0, 1) := by decide +kernel
theorem dX6_copyFrom_35 : decode cX6_copyFrom 35 = .ok (.aload_n 0, 1) := by decide +kernel
theorem dX6_copyFrom_36 : decode cX6_copyFrom 36 = .ok (.getfield 18, 3) := by decide +kernel
theorem dX6_copyFrom_39 : decode cX6_copyFrom 39 = .ok (.iconst 0, 1) := by decide +kernel
theorem dX6_copyFrom_40 : decode cX6_copyFrom 40 = .ok (.bipush 8, 2) := by decide +kernel
theorem dX6_copyFrom_42 : decode cX6_copyFrom 42 = .ok (.invokestatic 31, 3) := by decide +kernel
theorem dX6_copyFrom_45 : decode cX6_copyFrom 45 = .ok (.aload_n 1, 1) := by decide +kernel
theorem dX6_copyFrom_46 : decode cX6_copyFrom 46 = .ok (.getfield 21, 3) := by decide +kernel
theorem dX6_copyFrom_49 : decode cX6_copyFrom 49 = .ok (.iconst 0, 1) := by decide +kernel
theorem dX6_copyFrom_50 : decode cX6_copyFrom 50 = .ok (.aload_n 0, 1) := by decide +kernel
theorem dX6_copyFrom_51 : decode cX6_copyFrom 51 = .ok (.getfield 21, 3) := by decide +kernel
theorem dX6_copyFrom_54 : decode cX6_copyFrom 54 = .ok (.iconst 0, 1) := by decide +kernel
theorem dX6_copyFrom_55 : decode cX6_copyFrom 55 = .ok (.bipush 8, 2) := by decide +kernel
theorem dX6_copyFrom_57 : decode cX6_copyFrom 57 = .ok (.invokestatic 31, 3) := by decide +kernel
theorem dX6_copyFrom_60 : decode cX6_copyFrom 60 = .ok (.aload_n 1, 1) := by decide +kernel
theorem dX6_copyFrom_61 : decode cX6_copyFrom 61 = .ok (.getfield 24, 3) := by decide +kernel
theorem dX6_copyFrom_64 : decode cX6_copyFrom 64 = .ok (.iconst 0, 1) := by decide +kernel
theorem dX6_copyFrom_65 : decode cX6_copyFrom 65 = .ok (.aload_n 0, 1) := by decide +kernel
theorem dX6_copyFrom_66 : decode cX6_copyFrom 66 = .ok (.getfield 24, 3) := by decide +kernel
theorem dX6_copyFrom_69 : decode cX6_copyFrom 69 = .ok (.iconst 0, 1) := by decide +kernel
theorem dX6_copyFrom_70 : decode cX6_copyFrom 70 = .ok (.bipush 8, 2) := by decide +kernel
theorem dX6_copyFrom_72 : decode cX6_copyFrom 72 = .ok (.invokestatic 31, 3) := by decide +kernel
theorem dX6_copyFrom_75 : decode cX6_copyFrom 75 = .ok (.aload_n 0, 1) := by decide +kernel
theorem dX6_copyFrom_76 : decode cX6_copyFrom 76 = .ok (.aload_n 1, 1) := by decide +kernel
theorem dX6_copyFrom_77 : decode cX6_copyFrom 77 = .ok (.getfield 27, 3) := by decide +kernel
theorem dX6_copyFrom_80 : decode cX6_copyFrom 80 = .ok (.putfield 27, 3) := by decide +kernel
theorem dX6_copyFrom_83 : decode cX6_copyFrom 83 = .ok (.return_, 1) := by decide +kernel
theorem dX7_init_0 : decode cX7_init 0 = .ok (.aload_n 0, 1) := by decide +kernel
theorem dX7_init_1 : decode cX7_init 1 = .ok (.invokespecial 3, 3) := by decide +kernel
theorem dX7_init_4 : decode cX7_init 4 = .ok (.aload_n 0, 1) := by decide +kernel
theorem dX7_init_5 : decode cX7_init 5 = .ok (.sipush 168, 3) := by decide +kernel
theorem dX7_init_8 : decode cX7_init 8 = .ok (.newarray .int, 2) := by decide +kernel
theorem dX7_init_10 : decode cX7_init 10 = .ok (.putfield 9, 3) := by decide +kernel
theorem dX7_init_13 : decode cX7_init 13 = .ok (.aload_n 0, 1) := by decide +kernel
theorem dX7_init_14 : decode cX7_init 14 = .ok (.sipush 168, 3) := by decide +kernel
theorem dX7_init_17 : decode cX7_init 17 = .ok (.newarray .int, 2) := by decide +kernel
theorem dX7_init_19 : decode cX7_init 19 = .ok (.putfield 15, 3) := by decide +kernel
theorem dX7_init_22 : decode cX7_init 22 = .ok (.aload_n 0, 1) := by decide +kernel
theorem dX7_init_23 : decode cX7_init 23 = .ok (.sipush 168, 3) := by decide +kernel
theorem dX7_init_26 : decode cX7_init 26 = .ok (.newarray .int, 2) := by decide +kernel
theorem dX7_init_28 : decode cX7_init 28 = .ok (.putfield 18, 3) := by decide +kernel
theorem dX7_init_31 : decode cX7_init 31 = .ok (.aload_n 0, 1) := by decide +kernel
theorem dX7_init_32 : decode cX7_init 32 = .ok (.sipush 168, 3) := by decide +kernel
theorem dX7_init_35 : decode cX7_init 35 = .ok (.newarray .int, 2) := by decide +kernel
theorem dX7_init_37 : decode cX7_init 37 = .ok (.putfield 21, 3) := by decide +kernel
theorem dX7_init_40 : decode cX7_init 40 = .ok (.aload_n 0, 1) := by decide +kernel
theorem dX7_init_41 : decode cX7_init 41 = .ok (.sipush 168, 3) := by decide +kernel
theorem dX7_init_44 : decode cX7_init 44 = .ok (.newarray .int, 2) := by decide +kernel
theorem dX7_init_46 : decode cX7_init 46 = .ok (.putfield 24, 3) := by decide +kernel
theorem dX7_init_49 : decode cX7_init 49 = .ok (.return_, 1) := by decide +kernel
theorem dX7_make_0 : decode cX7_make 0 = .ok (.aload_n 0, 1) := by decide +kernel
theorem dX7_make_1 : decode cX7_make 1 = .ok (.getfield 9, 3) := by decide +kernel
theorem dX7_make_4 : decode cX7_make 4 = .ok (.iconst 0, 1) := by decide +kernel
theorem dX7_make_5 : decode cX7_make 5 = .ok (.invokestatic 27, 3) := by decide +kernel
theorem dX7_make_8 : decode cX7_make 8 = .ok (.aload_n 0, 1) := by decide +kernel
theorem dX7_make_9 : decode cX7_make 9 = .ok (.getfield 15, 3) := by decide +kernel
theorem dX7_make_12 : decode cX7_make 12 = .ok (.iconst 0, 1) := by decide +kernel
theorem dX7_make_13 : decode cX7_make 13 = .ok (.invokestatic 27, 3) := by decide +kernel
theorem dX7_make_16 : decode cX7_make 16 = .ok (.aload_n 0, 1) := by decide +kernel
theorem dX7_make_17 : decode cX7_make 17 = .ok (.getfield 18, 3) := by decide +kernel
theorem dX7_make_20 : decode cX7_make 20 = .ok (.iconst 0, 1) := by decide +kernel
theorem dX7_make_21 : decode cX7_make 21 = .ok (.invokestatic 27, 3) := by decide +kernel
theorem dX7_make_24 : decode cX7_make 24 = .ok (.aload_n 0, 1) := by decide +kernel
theorem dX7_make_25 : decode cX7_make 25 = .ok (.getfield 21, 3) := by decide +kernel
theorem dX7_make_28 : decode cX7_make 28 = .ok (.iconst 0, 1) := by decide +kernel
theorem dX7_make_29 : decode cX7_make 29 = .ok (.invokestatic 27, 3) := by decide +kernel
theorem dX7_make_32 : decode cX7_make 32 = .ok (.aload_n 0, 1) := by decide +kernel
theorem dX7_make_33 : decode cX7_make 33 = .ok (.getfield 24, 3) := by decide +kernel
theorem dX7_make_36 : decode cX7_make 36 = .ok (.iconst 0, 1) := by decide +kernel
theorem dX7_make_37 : decode cX7_make 37 = .ok (.invokestatic 27, 3) := by decide +kernel
theorem dX7_make_40 : decode cX7_make 40 = .ok (.iconst 0, 1) := by decide +kernel
theorem dX7_make_41 : decode cX7_make 41 = .ok (.istore_n 3, 1) := by decide +kernel
theorem dX7_make_42 : decode cX7_make 42 = .ok (.iload_n 3, 1) := by decide +kernel
theorem dX7_make_43 : decode cX7_make 43 = .ok (.aload_n 1, 1) := by decide +kernel
theorem dX7_make_44 : decode cX7_make 44 = .ok (.getfield 33, 3) := by decide +kernel
theorem dX7_make_47 : decode cX7_make 47 = .ok (.getfield 39, 3) := by decide +kernel
theorem dX7_make_50 : decode cX7_make 50 = .ok (.if_icmp .ge 62, 3) := by decide +kernel
theorem dX7_make_53 : decode cX7_make 53 = .ok (.aload_n 0, 1) := by decide +kernel
theorem dX7_make_54 : decode cX7_make 54 = .ok (.getfield 9, 3) := by decide +kernel
theorem dX7_make_57 : decode cX7_make 57 = .ok (.aload_n 1, 1) := by decide +kernel
theorem dX7_make_58 : decode cX7_make 58 = .ok (.getfield 33, 3) := by decide +kernel
theorem dX7_make_61 : decode cX7_make 61 = .ok (.getfield 45, 3) := by decide +kernel
theorem dX7_make_64 : decode cX7_make 64 = .ok (.iload_n 3, 1) := by decide +kernel
theorem dX7_make_65 : decode cX7_make 65 = .ok (.iaload, 1) := by decide +kernel
theorem dX7_make_66 : decode cX7_make 66 = .ok (.dup2, 1) := by decide +kernel
theorem dX7_make_67 : decode cX7_make 67 = .ok (.iaload, 1) := by decide +kernel
theorem dX7_make_68 : decode cX7_make 68 = .ok (.iconst 1, 1) := by decide +kernel
theorem dX7_make_69 : decode cX7_make 69 = .ok (.iload_n 3, 1) := by decide +kernel
theorem dX7_make_70 : decode cX7_make 70 = .ok (.ishl, 1) := by decide +kernel
theorem dX7_make_71 : decode cX7_make 71 = .ok (.ior, 1) := by decide +kernel
theorem dX7_make_72 : decode cX7_make 72 = .ok (.iastore, 1) := by decide +kernel
theorem dX7_make_73 : decode cX7_make 73 = .ok (.aload_n 1, 1) := by decide +kernel
theorem dX7_make_74 : decode cX7_make 74 = .ok (.getfield 33, 3) := by decide +kernel
theorem dX7_make_77 : decode cX7_make 77 = .ok (.getfield 48, 3) := by decide +kernel
theorem dX7_make_80 : decode cX7_make 80 = .ok (.iload_n 3, 1) := by decide +kernel
theorem dX7_make_81 : decode cX7_make 81 = .ok (.iaload, 1) := by decide +kernel
theorem dX7_make_82 : decode cX7_make 82 = .ok (.iconst (-1), 1) := by decide +kernel
theorem dX7_make_83 : decode cX7_make 83 = .ok (.if_icmp .eq 23, 3) := by decide +kernel
theorem dX7_make_86 : decode cX7_make 86 = .ok (.aload_n 0, 1) := by decide +kernel
theorem dX7_make_87 : decode cX7_make 87 = .ok (.getfield 15, 3) := by decide +kernel
theorem dX7_make_90 : decode cX7_make 90 = .ok (.aload_n 1, 1) := by decide +kernel
theorem dX7_make_91 : decode cX7_make 91 = .ok (.getfield 33, 3) := by decide +kernel
theorem dX7_make_94 : decode cX7_make 94 = .ok (.getfield 51, 3) := by decide +kernel
theorem dX7_make_97 : decode cX7_make 97 = .ok (.iload_n 3, 1) := by decide +kernel
theorem dX7_make_98 : decode cX7_make 98 = .ok (.iaload, 1) := by decide +kernel
theorem dX7_make_99 : decode cX7_make 99 = .ok (.dup2, 1) := by decide +kernel
theorem dX7_make_100 : decode cX7_make 100 = .ok (.iaload, 1) := by decide +kernel
theorem dX7_make_101 : decode cX7_make 101 = .ok (.iconst 1, 1) := by decide +kernel
theorem dX7_make_102 : decode cX7_make 102 = .ok (.iload_n 3, 1) := by decide +kernel
theorem dX7_make_103 : decode cX7_make 103 = .ok (.ishl, 1) := by decide +kernel
theorem dX7_make_104 : decode cX7_make 104 = .ok (.ior, 1) := by decide +kernel
theorem dX7_make_105 : decode cX7_make 105 = .ok (.iastore, 1) := by decide +kernel
theorem dX7_make_106 : decode cX7_make 106 = .ok (.iinc 3 1, 3) := by decide +kernel
theorem dX7_make_109 : decode cX7_make 109 = .ok (.goto (-67), 3) := by decide +kernel
theorem dX7_make_112 : decode cX7_make 112 = .ok (.iconst 0, 1) := by decide +kernel
theorem dX7_make_113 : decode cX7_make 113 = .ok (.istore_n 3, 1) := by decide +kernel
theorem dX7_make_114 : decode cX7_make 114 = .ok (.iload_n 3, 1) := by decide +kernel
theorem dX7_make_115 : decode cX7_make 115 = .ok (.aload_n 1, 1) := by decide +kernel
theorem dX7_make_116 : decode cX7_make 116 = .ok (.getfield 54, 3) := by decide +kernel
theorem dX7_make_119 : decode cX7_make 119 = .ok (.getfield 58, 3) := by decide +kernel
theorem dX7_make_122 : decode cX7_make 122 = .ok (.if_icmp .ge 19, 3) := by decide +kernel
theorem dX7_make_125 : decode cX7_make 125 = .ok (.aload_n 0, 1) := by decide +kernel
theorem dX7_make_126 : decode cX7_make 126 = .ok (.aload_n 1, 1) := by decide +kernel
theorem dX7_make_127 : decode cX7_make 127 = .ok (.getfield 54, 3) := by decide +kernel
theorem dX7_make_130 : decode cX7_make 130 = .ok (.iload_n 3, 1) := by decide +kernel
theorem dX7_make_131 : decode cX7_make 131 = .ok (.iload_n 2, 1) := by decide +kernel
theorem dX7_make_132 : decode cX7_make 132 = .ok (.invokevirtual 61, 3) := by decide +kernel
theorem dX7_make_135 : decode cX7_make 135 = .ok (.iinc 3 1, 3) := by decide +kernel
theorem dX7_make_138 : decode cX7_make 138 = .ok (.goto (-24), 3) := by decide +kernel
theorem dX7_make_141 : decode cX7_make 141 = .ok (.iconst 0, 1) := by decide +kernel
theorem dX7_make_142 : decode cX7_make 142 = .ok (.istore_n 3, 1) := by decide +kernel
theorem dX7_make_143 : decode cX7_make 143 = .ok (.iload_n 3, 1) := by decide +kernel
theorem dX7_make_144 : decode cX7_make 144 = .ok (.aload_n 1, 1) := by decide +kernel
theorem dX7_make_145 : decode cX7_make 145 = .ok (.getfield 65, 3) := by decide +kernel
theorem dX7_make_148 : decode cX7_make 148 = .ok (.getfield 69, 3) := by decide +kernel
theorem dX7_make_151 : decode cX7_make 151 = .ok (.if_icmp .ge 29, 3) := by decide +kernel
theorem dX7_make_154 : decode cX7_make 154 = .ok (.aload_n 0, 1) := by decide +kernel
theorem dX7_make_155 : decode cX7_make 155 = .ok (.getfield 21, 3) := by decide +kernel
theorem dX7_make_158 : decode cX7_make 158 = .ok (.aload_n 1, 1) := by decide +kernel
theorem dX7_make_159 : decode cX7_make 159 = .ok (.getfield 65, 3) := by decide +kernel
theorem dX7_make_162 : decode cX7_make 162 = .ok (.getfield 72, 3) := by decide +kernel
theorem dX7_make_165 : decode cX7_make 165 = .ok (.iload_n 3, 1) := by decide +kernel
theorem dX7_make_166 : decode cX7_make 166 = .ok (.iaload, 1) := by decide +kernel
theorem dX7_make_167 : decode cX7_make 167 = .ok (.dup2, 1) := by decide +kernel
theorem dX7_make_168 : decode cX7_make 168 = .ok (.iaload, 1) := by decide +kernel
theorem dX7_make_169 : decode cX7_make 169 = .ok (.iconst 1, 1) := by decide +kernel
theorem dX7_make_170 : decode cX7_make 170 = .ok (.iload_n 3, 1) := by decide +kernel
theorem dX7_make_171 : decode cX7_make 171 = .ok (.ishl, 1) := by decide +kernel
theorem dX7_make_172 : decode cX7_make 172 = .ok (.ior, 1) := by decide +kernel
theorem dX7_make_173 : decode cX7_make 173 = .ok (.iastore, 1) := by decide +kernel
theorem dX7_make_174 : decode cX7_make 174 = .ok (.iinc 3 1, 3) := by decide +kernel
theorem dX7_make_177 : decode cX7_make 177 = .ok (.goto (-34), 3) := by decide +kernel
theorem dX7_make_180 : decode cX7_make 180 = .ok (.iconst 0, 1) := by decide +kernel
theorem dX7_make_181 : decode cX7_make 181 = .ok (.istore_n 3, 1) := by decide +kernel
theorem dX7_make_182 : decode cX7_make 182 = .ok (.iload_n 3, 1) := by decide +kernel
theorem dX7_make_183 : decode cX7_make 183 = .ok (.aload_n 1, 1) := by decide +kernel
theorem dX7_make_184 : decode cX7_make 184 = .ok (.getfield 73, 3) := by decide +kernel
theorem dX7_make_187 : decode cX7_make 187 = .ok (.getfield 77, 3) := by decide +kernel
theorem dX7_make_190 : decode cX7_make 190 = .ok (.if_icmp .ge 29, 3) := by decide +kernel
theorem dX7_make_193 : decode cX7_make 193 = .ok (.aload_n 0, 1) := by decide +kernel
theorem dX7_make_194 : decode cX7_make 194 = .ok (.getfield 24, 3) := by decide +kernel
theorem dX7_make_197 : decode cX7_make 197 = .ok (.aload_n 1, 1) := by decide +kernel
theorem dX7_make_198 : decode cX7_make 198 = .ok (.getfield 73, 3) := by decide +kernel
theorem dX7_make_201 : decode cX7_make 201 = .ok (.getfield 80, 3) := by decide +kernel
theorem dX7_make_204 : decode cX7_make 204 = .ok (.iload_n 3, 1) := by decide +kernel
theorem dX7_make_205 : decode cX7_make 205 = .ok (.iaload, 1) := by decide +kernel
theorem dX7_make_206 : decode cX7_make 206 = .ok (.dup2, 1) := by decide +kernel
theorem dX7_make_207 : decode cX7_make 207 = .ok (.iaload, 1) := by decide +kernel
theorem dX7_make_208 : decode cX7_make 208 = .ok (.iconst 1, 1) := by decide +kernel
theorem dX7_make_209 : decode cX7_make 209 = .ok (.iload_n 3, 1) := by decide +kernel
theorem dX7_make_210 : decode cX7_make 210 = .ok (.ishl, 1) := by decide +kernel
theorem dX7_make_211 : decode cX7_make 211 = .ok (.ior, 1) := by decide +kernel
theorem dX7_make_212 : decode cX7_make 212 = .ok (.iastore, 1) := by decide +kernel
theorem dX7_make_213 : decode cX7_make 213 = .ok (.iinc 3 1, 3) := by decide +kernel
theorem dX7_make_216 : decode cX7_make 216 = .ok (.goto (-34), 3) := by decide +kernel
theorem dX7_make_219 : decode cX7_make 219 = .ok (.return_, 1) := by decide +kernel
theorem dX7_planCrosser_0 : decode cX7_planCrosser 0 = .ok (.aload_n 1, 1) := by decide +kernel
theorem dX7_planCrosser_1 : decode cX7_planCrosser 1 = .ok (.getfield 81, 3) := by decide +kernel
theorem dX7_planCrosser_4 : decode cX7_planCrosser 4 = .ok (.iload_n 2, 1) := by decide +kernel
theorem dX7_planCrosser_5 : decode cX7_planCrosser 5 = .ok (.iaload, 1) := by decide +kernel
theorem dX7_planCrosser_6 : decode cX7_planCrosser 6 = .ok (.istore 4, 2) := by decide +kernel
theorem dX7_planCrosser_8 : decode cX7_planCrosser 8 = .ok (.aload_n 1, 1) := by decide +kernel
theorem dX7_planCrosser_9 : decode cX7_planCrosser 9 = .ok (.getfield 82, 3) := by decide +kernel
theorem dX7_planCrosser_12 : decode cX7_planCrosser 12 = .ok (.iload_n 2, 1) := by decide +kernel
theorem dX7_planCrosser_13 : decode cX7_planCrosser 13 = .ok (.iaload, 1) := by decide +kernel
theorem dX7_planCrosser_14 : decode cX7_planCrosser 14 = .ok (.ifCond .ne 16, 3) := by decide +kernel
theorem dX7_planCrosser_17 : decode cX7_planCrosser 17 = .ok (.aload_n 0, 1) := by decide +kernel
theorem dX7_planCrosser_18 : decode cX7_planCrosser 18 = .ok (.getfield 18, 3) := by decide +kernel
theorem dX7_planCrosser_21 : decode cX7_planCrosser 21 = .ok (.iload 4, 2) := by decide +kernel
theorem dX7_planCrosser_23 : decode cX7_planCrosser 23 = .ok (.dup2, 1) := by decide +kernel
theorem dX7_planCrosser_24 : decode cX7_planCrosser 24 = .ok (.iaload, 1) := by decide +kernel
theorem dX7_planCrosser_25 : decode cX7_planCrosser 25 = .ok (.iconst 1, 1) := by decide +kernel
theorem dX7_planCrosser_26 : decode cX7_planCrosser 26 = .ok (.iload_n 2, 1) := by decide +kernel
theorem dX7_planCrosser_27 : decode cX7_planCrosser 27 = .ok (.ishl, 1) := by decide +kernel
theorem dX7_planCrosser_28 : decode cX7_planCrosser 28 = .ok (.ior, 1) := by decide +kernel
theorem dX7_planCrosser_29 : decode cX7_planCrosser 29 = .ok (.iastore, 1) := by decide +kernel
theorem dX7_planCrosser_30 : decode cX7_planCrosser 30 = .ok (.aload_n 1, 1) := by decide +kernel
theorem dX7_planCrosser_31 : decode cX7_planCrosser 31 = .ok (.getfield 82, 3) := by decide +kernel
theorem dX7_planCrosser_34 : decode cX7_planCrosser 34 = .ok (.iload_n 2, 1) := by decide +kernel
theorem dX7_planCrosser_35 : decode cX7_planCrosser 35 = .ok (.iaload, 1) := by decide +kernel
theorem dX7_planCrosser_36 : decode cX7_planCrosser 36 = .ok (.iconst 1, 1) := by decide +kernel
theorem dX7_planCrosser_37 : decode cX7_planCrosser 37 = .ok (.if_icmp .ne 54, 3) := by decide +kernel
theorem dX7_planCrosser_40 : decode cX7_planCrosser 40 = .ok (.sipush 167, 3) := by decide +kernel
theorem dX7_planCrosser_43 : decode cX7_planCrosser 43 = .ok (.iload 4, 2) := by decide +kernel
theorem dX7_planCrosser_45 : decode cX7_planCrosser 45 = .ok (.aload_n 1, 1) := by decide +kernel
theorem dX7_planCrosser_46 : decode cX7_planCrosser 46 = .ok (.getfield 85, 3) := by decide +kernel
theorem dX7_planCrosser_49 : decode cX7_planCrosser 49 = .ok (.iload_n 2, 1) := by decide +kernel
theorem dX7_planCrosser_50 : decode cX7_planCrosser 50 = .ok (.iaload, 1) := by decide +kernel
theorem dX7_planCrosser_51 : decode cX7_planCrosser 51 = .ok (.iadd, 1) := by decide +kernel
theorem dX7_planCrosser_52 : decode cX7_planCrosser 52 = .ok (.iload_n 3, 1) := by decide +kernel
theorem dX7_planCrosser_53 : decode cX7_planCrosser 53 = .ok (.invokestatic 88, 3) := by decide +kernel
theorem dX7_planCrosser_56 : decode cX7_planCrosser 56 = .ok (.invokestatic 94, 3) := by decide +kernel
theorem dX7_planCrosser_59 : decode cX7_planCrosser 59 = .ok (.istore 5, 2) := by decide +kernel
theorem dX7_planCrosser_61 : decode cX7_planCrosser 61 = .ok (.iload 4, 2) := by decide +kernel
theorem dX7_planCrosser_63 : decode cX7_planCrosser 63 = .ok (.istore 6, 2) := by decide +kernel
theorem dX7_planCrosser_65 : decode cX7_planCrosser 65 = .ok (.iload 6, 2) := by decide +kernel
theorem dX7_planCrosser_67 : decode cX7_planCrosser 67 = .ok (.iload 5, 2) := by decide +kernel
theorem dX7_planCrosser_69 : decode cX7_planCrosser 69 = .ok (.if_icmp .gt 22, 3) := by decide +kernel
theorem dX7_planCrosser_72 : decode cX7_planCrosser 72 = .ok (.aload_n 0, 1) := by decide +kernel
theorem dX7_planCrosser_73 : decode cX7_planCrosser 73 = .ok (.getfield 18, 3) := by decide +kernel
theorem dX7_planCrosser_76 : decode cX7_planCrosser 76 = .ok (.iload 6, 2) := by decide +kernel
theorem dX7_planCrosser_78 : decode cX7_planCrosser 78 = .ok (.dup2, 1) := by decide +kernel
theorem dX7_planCrosser_79 : decode cX7_planCrosser 79 = .ok (.iaload, 1) := by decide +kernel
theorem dX7_planCrosser_80 : decode cX7_planCrosser 80 = .ok (.iconst 1, 1) := by decide +kernel
theorem dX7_planCrosser_81 : decode cX7_planCrosser 81 = .ok (.iload_n 2, 1) := by decide +kernel
theorem dX7_planCrosser_82 : decode cX7_planCrosser 82 = .ok (.ishl, 1) := by decide +kernel
theorem dX7_planCrosser_83 : decode cX7_planCrosser 83 = .ok (.ior, 1) := by decide +kernel
theorem dX7_planCrosser_84 : decode cX7_planCrosser 84 = .ok (.iastore, 1) := by decide +kernel
theorem dX7_planCrosser_85 : decode cX7_planCrosser 85 = .ok (.iinc 6 1, 3) := by decide +kernel
theorem dX7_planCrosser_88 : decode cX7_planCrosser 88 = .ok (.goto (-23), 3) := by decide +kernel
theorem dX7_planCrosser_91 : decode cX7_planCrosser 91 = .ok (.return_, 1) := by decide +kernel
theorem dX8_init_0 : decode cX8_init 0 = .ok (.aload_n 0, 1) := by decide +kernel
theorem dX8_init_1 : decode cX8_init 1 = .ok (.invokespecial 3, 3) := by decide +kernel
theorem dX8_init_4 : decode cX8_init 4 = .ok (.aload_n 0, 1) := by decide +kernel
theorem dX8_init_5 : decode cX8_init 5 = .ok (.sipush 400, 3) := by decide +kernel
theorem dX8_init_8 : decode cX8_init 8 = .ok (.newarray .int, 2) := by decide +kernel
theorem dX8_init_10 : decode cX8_init 10 = .ok (.putfield 9, 3) := by decide +kernel
theorem dX8_init_13 : decode cX8_init 13 = .ok (.aload_n 0, 1) := by decide +kernel
theorem dX8_init_14 : decode cX8_init 14 = .ok (.new 15, 3) := by decide +kernel
theorem dX8_init_17 : decode cX8_init 17 = .ok (.dup, 1) := by decide +kernel
theorem dX8_init_18 : decode cX8_init 18 = .ok (.invokespecial 17, 3) := by decide +kernel
theorem dX8_init_21 : decode cX8_init 21 = .ok (.putfield 18, 3) := by decide +kernel
theorem dX8_init_24 : decode cX8_init 24 = .ok (.aload_n 0, 1) := by decide +kernel
theorem dX8_init_25 : decode cX8_init 25 = .ok (.bipush 64, 2) := by decide +kernel
theorem dX8_init_27 : decode cX8_init 27 = .ok (.newarray .int, 2) := by decide +kernel
theorem dX8_init_29 : decode cX8_init 29 = .ok (.putfield 22, 3) := by decide +kernel
theorem dX8_init_32 : decode cX8_init 32 = .ok (.aload_n 0, 1) := by decide +kernel
theorem dX8_init_33 : decode cX8_init 33 = .ok (.iconst (-1), 1) := by decide +kernel
theorem dX8_init_34 : decode cX8_init 34 = .ok (.putfield 25, 3) := by decide +kernel
theorem dX8_init_37 : decode cX8_init 37 = .ok (.return_, 1) := by decide +kernel
theorem dX8_take_0 : decode cX8_take 0 = .ok (.aload_n 0, 1) := by decide +kernel
theorem dX8_take_1 : decode cX8_take 1 = .ok (.getfield 29, 3) := by decide +kernel
theorem dX8_take_4 : decode cX8_take 4 = .ok (.bipush 20, 2) := by decide +kernel
theorem dX8_take_6 : decode cX8_take 6 = .ok (.iadd, 1) := by decide +kernel
theorem dX8_take_7 : decode cX8_take 7 = .ok (.sipush 400, 3) := by decide +kernel
theorem dX8_take_10 : decode cX8_take 10 = .ok (.if_icmp .le 5, 3) := by decide +kernel
theorem dX8_take_13 : decode cX8_take 13 = .ok (.iconst (-1), 1) := by decide +kernel
theorem dX8_take_14 : decode cX8_take 14 = .ok (.ireturn, 1) := by decide +kernel
theorem dX8_take_15 : decode cX8_take 15 = .ok (.aload_n 0, 1) := by decide +kernel
theorem dX8_take_16 : decode cX8_take 16 = .ok (.iload_n 1, 1) := by decide +kernel
theorem dX8_take_17 : decode cX8_take 17 = .ok (.invokevirtual 32, 3) := by decide +kernel
theorem dX8_take_20 : decode cX8_take 20 = .ok (.aload_n 0, 1) := by decide +kernel
theorem dX8_take_21 : decode cX8_take 21 = .ok (.iload_n 2, 1) := by decide +kernel
theorem dX8_take_22 : decode cX8_take 22 = .ok (.invokevirtual 32, 3) := by decide +kernel
theorem dX8_take_25 : decode cX8_take 25 = .ok (.aload_n 0, 1) := by decide +kernel
theorem dX8_take_26 : decode cX8_take 26 = .ok (.iload_n 3, 1) := by decide +kernel
theorem dX8_take_27 : decode cX8_take 27 = .ok (.invokevirtual 32, 3) := by decide +kernel
theorem dX8_take_30 : decode cX8_take 30 = .ok (.aload_n 0, 1) := by decide +kernel
theorem dX8_take_31 : decode cX8_take 31 = .ok (.iload 4, 2) := by decide +kernel
theorem dX8_take_33 : decode cX8_take 33 = .ok (.invokevirtual 32, 3) := by decide +kernel
theorem dX8_take_36 : decode cX8_take 36 = .ok (.aload_n 0, 1) := by decide +kernel
theorem dX8_take_37 : decode cX8_take 37 = .ok (.iload 5, 2) := by decide +kernel
theorem dX8_take_39 : decode cX8_take 39 = .ok (.invokevirtual 32, 3) := by decide +kernel
theorem dX8_take_42 : decode cX8_take 42 = .ok (.aload_n 0, 1) := by decide +kernel
theorem dX8_take_43 : decode cX8_take 43 = .ok (.getfield 29, 3) := by decide +kernel
theorem dX8_take_46 : decode cX8_take 46 = .ok (.ireturn, 1) := by decide +kernel
theorem dX8_takeFour_0 : decode cX8_takeFour 0 = .ok (.bipush 24, 2) := by decide +kernel
theorem dX8_takeFour_2 : decode cX8_takeFour 2 = .ok (.istore_n 2, 1) := by decide +kernel
theorem dX8_takeFour_3 : decode cX8_takeFour 3 = .ok (.iload_n 2, 1) := by decide +kernel
theorem dX8_takeFour_4 : decode cX8_takeFour 4 = .ok (.ifCond .lt 45, 3) := by decide +kernel
theorem dX8_takeFour_7 : decode cX8_takeFour 7 = .ok (.aload_n 0, 1) := by decide +kernel
theorem dX8_takeFour_8 : decode cX8_takeFour 8 = .ok (.getfield 29, 3) := by decide +kernel
theorem dX8_takeFour_11 : decode cX8_takeFour 11 = .ok (.sipush 400, 3) := by decide +kernel
theorem dX8_takeFour_14 : decode cX8_takeFour 14 = .ok (.if_icmp .ge 29, 3) := by decide +kernel
theorem dX8_takeFour_17 : decode cX8_takeFour 17 = .ok (.aload_n 0, 1) := by decide +kernel
theorem dX8_takeFour_18 : decode cX8_takeFour 18 = .ok (.getfield 9, 3) := by decide +kernel
theorem dX8_takeFour_21 : decode cX8_takeFour 21 = .ok (.aload_n 0, 1) := by decide +kernel
theorem dX8_takeFour_22 : decode cX8_takeFour 22 = .ok (.getfield 29, 3) := by decide +kernel
theorem dX8_takeFour_25 : decode cX8_takeFour 25 = .ok (.iload_n 1, 1) := by decide +kernel
theorem dX8_takeFour_26 : decode cX8_takeFour 26 = .ok (.iload_n 2, 1) := by decide +kernel
theorem dX8_takeFour_27 : decode cX8_takeFour 27 = .ok (.iushr, 1) := by decide +kernel
theorem dX8_takeFour_28 : decode cX8_takeFour 28 = .ok (.sipush 255, 3) := by decide +kernel
theorem dX8_takeFour_31 : decode cX8_takeFour 31 = .ok (.iand, 1) := by decide +kernel
theorem dX8_takeFour_32 : decode cX8_takeFour 32 = .ok (.iastore, 1) := by decide +kernel
theorem dX8_takeFour_33 : decode cX8_takeFour 33 = .ok (.aload_n 0, 1) := by decide +kernel
theorem dX8_takeFour_34 : decode cX8_takeFour 34 = .ok (.dup, 1) := by decide +kernel
theorem dX8_takeFour_35 : decode cX8_takeFour 35 = .ok (.getfield 29, 3) := by decide +kernel
theorem dX8_takeFour_38 : decode cX8_takeFour 38 = .ok (.iconst 1, 1) := by decide +kernel
theorem dX8_takeFour_39 : decode cX8_takeFour 39 = .ok (.iadd, 1) := by decide +kernel
theorem dX8_takeFour_40 : decode cX8_takeFour 40 = .ok (.putfield 29, 3) := by decide +kernel
theorem dX8_takeFour_43 : decode cX8_takeFour 43 = .ok (.iinc 2 (-8), 3) := by decide +kernel
theorem dX8_takeFour_46 : decode cX8_takeFour 46 = .ok (.goto (-43), 3) := by decide +kernel
theorem dX8_takeFour_49 : decode cX8_takeFour 49 = .ok (.return_, 1) := by decide +kernel
theorem dX8_cut_0 : decode cX8_cut 0 = .ok (.iload_n 1, 1) := by decide +kernel
theorem dX8_cut_1 : decode cX8_cut 1 = .ok (.ifCond .lt 11, 3) := by decide +kernel
theorem dX8_cut_4 : decode cX8_cut 4 = .ok (.iload_n 1, 1) := by decide +kernel
theorem dX8_cut_5 : decode cX8_cut 5 = .ok (.aload_n 0, 1) := by decide +kernel
theorem dX8_cut_6 : decode cX8_cut 6 = .ok (.getfield 29, 3) := by decide +kernel
theorem dX8_cut_9 : decode cX8_cut 9 = .ok (.if_icmp .le 5, 3) := by decide +kernel
theorem dX8_cut_12 : decode cX8_cut 12 = .ok (.iconst 0, 1) := by decide +kernel
theorem dX8_cut_13 : decode cX8_cut 13 = .ok (.ireturn, 1) := by decide +kernel
theorem dX8_cut_14 : decode cX8_cut 14 = .ok (.aload_n 0, 1) := by decide +kernel
theorem dX8_cut_15 : decode cX8_cut 15 = .ok (.iload_n 1, 1) := by decide +kernel
theorem dX8_cut_16 : decode cX8_cut 16 = .ok (.putfield 29, 3) := by decide +kernel
theorem dX8_cut_19 : decode cX8_cut 19 = .ok (.iconst 1, 1) := by decide +kernel
theorem dX8_cut_20 : decode cX8_cut 20 = .ok (.ireturn, 1) := by decide +kernel
theorem dX8_readLaw_0 : decode cX8_readLaw 0 = .ok (.aload_n 0, 1) := by decide +kernel
theorem dX8_readLaw_1 : decode cX8_readLaw 1 = .ok (.getfield 18, 3) := by decide +kernel
theorem dX8_readLaw_4 : decode cX8_readLaw 4 = .ok (.invokevirtual 36, 3) := by decide +kernel
theorem dX8_readLaw_7 : decode cX8_readLaw 7 = .ok (.aload_n 0, 1) := by decide +kernel
theorem dX8_readLaw_8 : decode cX8_readLaw 8 = .ok (.iconst 0, 1) := by decide +kernel
theorem dX8_readLaw_9 : decode cX8_readLaw 9 = .ok (.putfield 39, 3) := by decide +kernel
theorem dX8_readLaw_12 : decode cX8_readLaw 12 = .ok (.aload_n 0, 1) := by decide +kernel
theorem dX8_readLaw_13 : decode cX8_readLaw 13 = .ok (.iconst (-1), 1) := by decide +kernel
theorem dX8_readLaw_14 : decode cX8_readLaw 14 = .ok (.putfield 25, 3) := by decide +kernel
theorem dX8_readLaw_17 : decode cX8_readLaw 17 = .ok (.aload_n 0, 1) := by decide +kernel
theorem dX8_readLaw_18 : decode cX8_readLaw 18 = .ok (.iconst 0, 1) := by decide +kernel
theorem dX8_readLaw_19 : decode cX8_readLaw 19 = .ok (.putfield 42, 3) := by decide +kernel
theorem dX8_readLaw_22 : decode cX8_readLaw 22 = .ok (.aload_n 0, 1) := by decide +kernel
theorem dX8_readLaw_23 : decode cX8_readLaw 23 = .ok (.iconst 0, 1) := by decide +kernel
theorem dX8_readLaw_24 : decode cX8_readLaw 24 = .ok (.putfield 45, 3) := by decide +kernel
theorem dX8_readLaw_27 : decode cX8_readLaw 27 = .ok (.iconst 0, 1) := by decide +kernel
theorem dX8_readLaw_28 : decode cX8_readLaw 28 = .ok (.istore_n 1, 1) := by decide +kernel
theorem dX8_readLaw_29 : decode cX8_readLaw 29 = .ok (.iload_n 1, 1) := by decide +kernel
theorem dX8_readLaw_30 : decode cX8_readLaw 30 = .ok (.sipush 400, 3) := by decide +kernel
theorem dX8_readLaw_33 : decode cX8_readLaw 33 = .ok (.if_icmp .gt 26, 3) := by decide +kernel
theorem dX8_readLaw_36 : decode cX8_readLaw 36 = .ok (.aload_n 0, 1) := by decide +kernel
theorem dX8_readLaw_37 : decode cX8_readLaw 37 = .ok (.getfield 45, 3) := by decide +kernel
theorem dX8_readLaw_40 : decode cX8_readLaw 40 = .ok (.bipush 8, 2) := by decide +kernel
theorem dX8_readLaw_42 : decode cX8_readLaw 42 = .ok (.if_icmp .eq 17, 3) := by decide +kernel
theorem dX8_readLaw_45 : decode cX8_readLaw 45 = .ok (.aload_n 0, 1) := by decide +kernel
theorem dX8_readLaw_46 : decode cX8_readLaw 46 = .ok (.invokevirtual 48, 3) := by decide +kernel
theorem dX8_readLaw_49 : decode cX8_readLaw 49 = .ok (.aload_n 0, 1) := by decide +kernel
theorem dX8_readLaw_50 : decode cX8_readLaw 50 = .ok (.invokevirtual 51, 3) := by decide +kernel
theorem dX8_readLaw_53 : decode cX8_readLaw 53 = .ok (.iinc 1 1, 3) := by decide +kernel
theorem dX8_readLaw_56 : decode cX8_readLaw 56 = .ok (.goto (-27), 3) := by decide +kernel
theorem dX8_readLaw_59 : decode cX8_readLaw 59 = .ok (.aload_n 0, 1) := by decide +kernel
theorem dX8_readLaw_60 : decode cX8_readLaw 60 = .ok (.iconst 0, 1) := by decide +kernel
theorem dX8_readLaw_61 : decode cX8_readLaw 61 = .ok (.putfield 29, 3) := by decide +kernel
theorem dX8_readLaw_64 : decode cX8_readLaw 64 = .ok (.return_, 1) := by decide +kernel
theorem dX8_fail_0 : decode cX8_fail 0 = .ok (.aload_n 0, 1) := by decide +kernel
theorem dX8_fail_1 : decode cX8_fail 1 = .ok (.iload_n 1, 1) := by decide +kernel
theorem dX8_fail_2 : decode cX8_fail 2 = .ok (.putfield 39, 3) := by decide +kernel
theorem dX8_fail_5 : decode cX8_fail 5 = .ok (.aload_n 0, 1) := by decide +kernel
theorem dX8_fail_6 : decode cX8_fail 6 = .ok (.aload_n 0, 1) := by decide +kernel
theorem dX8_fail_7 : decode cX8_fail 7 = .ok (.getfield 54, 3) := by decide +kernel
theorem dX8_fail_10 : decode cX8_fail 10 = .ok (.putfield 25, 3) := by decide +kernel
theorem dX8_fail_13 : decode cX8_fail 13 = .ok (.aload_n 0, 1) := by decide +kernel
theorem dX8_fail_14 : decode cX8_fail 14 = .ok (.bipush 8, 2) := by decide +kernel
theorem dX8_fail_16 : decode cX8_fail 16 = .ok (.putfield 45, 3) := by decide +kernel
theorem dX8_fail_19 : decode cX8_fail 19 = .ok (.return_, 1) := by decide +kernel
theorem dX8_step_0 : decode cX8_step 0 = .ok (.aload_n 0, 1) := by decide +kernel
theorem dX8_step_1 : decode cX8_step 1 = .ok (.getfield 45, 3) := by decide +kernel
theorem dX8_step_4 : decode cX8_step 4 = .ok (.tableswitch 93 0 6 #[44, 51, 58, 65, 72, 79, 86], 44) := by decide +kernel
theorem dX8_step_48 : decode cX8_step 48 = .ok (.aload_n 0, 1) := by decide +kernel
theorem dX8_step_49 : decode cX8_step 49 = .ok (.invokevirtual 57, 3) := by decide +kernel
theorem dX8_step_52 : decode cX8_step 52 = .ok (.goto 49, 3) := by decide +kernel
theorem dX8_step_55 : decode cX8_step 55 = .ok (.aload_n 0, 1) := by decide +kernel
theorem dX8_step_56 : decode cX8_step 56 = .ok (.invokevirtual 60, 3) := by decide +kernel
theorem dX8_step_59 : decode cX8_step 59 = .ok (.goto 42, 3) := by decide +kernel
theorem dX8_step_62 : decode cX8_step 62 = .ok (.aload_n 0, 1) := by decide +kernel
theorem dX8_step_63 : decode cX8_step 63 = .ok (.invokevirtual 63, 3) := by decide +kernel
theorem dX8_step_66 : decode cX8_step 66 = .ok (.goto 35, 3) := by decide +kernel
theorem dX8_step_69 : decode cX8_step 69 = .ok (.aload_n 0, 1) := by decide +kernel
theorem dX8_step_70 : decode cX8_step 70 = .ok (.invokevirtual 66, 3) := by decide +kernel
theorem dX8_step_73 : decode cX8_step 73 = .ok (.goto 28, 3) := by decide +kernel
theorem dX8_step_76 : decode cX8_step 76 = .ok (.aload_n 0, 1) := by decide +kernel
theorem dX8_step_77 : decode cX8_step 77 = .ok (.invokevirtual 69, 3) := by decide +kernel
theorem dX8_step_80 : decode cX8_step 80 = .ok (.goto 21, 3) := by decide +kernel
theorem dX8_step_83 : decode cX8_step 83 = .ok (.aload_n 0, 1) := by decide +kernel
theorem dX8_step_84 : decode cX8_step 84 = .ok (.invokevirtual 72, 3) := by decide +kernel
theorem dX8_step_87 : decode cX8_step 87 = .ok (.goto 14, 3) := by decide +kernel
theorem dX8_step_90 : decode cX8_step 90 = .ok (.aload_n 0, 1) := by decide +kernel
theorem dX8_step_91 : decode cX8_step 91 = .ok (.invokevirtual 75, 3) := by decide +kernel
theorem dX8_step_94 : decode cX8_step 94 = .ok (.goto 7, 3) := by decide +kernel
theorem dX8_step_97 : decode cX8_step 97 = .ok (.aload_n 0, 1) := by decide +kernel
theorem dX8_step_98 : decode cX8_step 98 = .ok (.invokevirtual 78, 3) := by decide +kernel
theorem dX8_step_101 : decode cX8_step 101 = .ok (.return_, 1) := by decide +kernel
theorem dX8_stepLine_0 : decode cX8_stepLine 0 = .ok (.aload_n 0, 1) := by decide +kernel
theorem dX8_stepLine_1 : decode cX8_stepLine 1 = .ok (.getfield 81, 3) := by decide +kernel
theorem dX8_stepLine_4 : decode cX8_stepLine 4 = .ok (.ifCond .ne 12, 3) := by decide +kernel
theorem dX8_stepLine_7 : decode cX8_stepLine 7 = .ok (.aload_n 0, 1) := by decide +kernel
theorem dX8_stepLine_8 : decode cX8_stepLine 8 = .ok (.bipush 8, 2) := by decide +kernel
theorem dX8_stepLine_10 : decode cX8_stepLine 10 = .ok (.putfield 45, 3) := by decide +kernel
theorem dX8_stepLine_13 : decode cX8_stepLine 13 = .ok (.goto 78, 3) := by decide +kernel
theorem dX8_stepLine_16 : decode cX8_stepLine 16 = .ok (.aload_n 0, 1) := by decide +kernel
theorem dX8_stepLine_17 : decode cX8_stepLine 17 = .ok (.getfield 81, 3) := by decide +kernel
theorem dX8_stepLine_20 : decode cX8_stepLine 20 = .ok (.iconst 2, 1) := by decide +kernel
theorem dX8_stepLine_21 : decode cX8_stepLine 21 = .ok (.if_icmp .eq 19, 3) := by decide +kernel
theorem dX8_stepLine_24 : decode cX8_stepLine 24 = .ok (.aload_n 0, 1) := by decide +kernel
theorem dX8_stepLine_25 : decode cX8_stepLine 25 = .ok (.getfield 81, 3) := by decide +kernel
theorem dX8_stepLine_28 : decode cX8_stepLine 28 = .ok (.iconst 3, 1) := by decide +kernel
theorem dX8_stepLine_29 : decode cX8_stepLine 29 = .ok (.if_icmp .eq 11, 3) := by decide +kernel
theorem dX8_stepLine_32 : decode cX8_stepLine 32 = .ok (.aload_n 0, 1) := by decide +kernel
theorem dX8_stepLine_33 : decode cX8_stepLine 33 = .ok (.iconst 1, 1) := by decide +kernel
theorem dX8_stepLine_34 : decode cX8_stepLine 34 = .ok (.invokevirtual 84, 3) := by decide +kernel
theorem dX8_stepLine_37 : decode cX8_stepLine 37 = .ok (.goto 54, 3) := by decide +kernel
theorem dX8_stepLine_40 : decode cX8_stepLine 40 = .ok (.aload_n 0, 1) := by decide +kernel
theorem dX8_stepLine_41 : decode cX8_stepLine 41 = .ok (.getfield 18, 3) := by decide +kernel
theorem dX8_stepLine_44 : decode cX8_stepLine 44 = .ok (.aload_n 0, 1) := by decide +kernel
theorem dX8_stepLine_45 : decode cX8_stepLine 45 = .ok (.getfield 81, 3) := by decide +kernel
theorem dX8_stepLine_48 : decode cX8_stepLine 48 = .ok (.iconst 2, 1) := by decide +kernel
theorem dX8_stepLine_49 : decode cX8_stepLine 49 = .ok (.if_icmp .ne 7, 3) := by decide +kernel
theorem dX8_stepLine_52 : decode cX8_stepLine 52 = .ok (.iconst 1, 1) := by decide +kernel
theorem dX8_stepLine_53 : decode cX8_stepLine 53 = .ok (.goto 4, 3) := by decide +kernel
theorem dX8_stepLine_56 : decode cX8_stepLine 56 = .ok (.iconst 0, 1) := by decide +kernel
theorem dX8_stepLine_57 : decode cX8_stepLine 57 = .ok (.invokevirtual 87, 3) := by decide +kernel
theorem dX8_stepLine_60 : decode cX8_stepLine 60 = .ok (.ifCond .ne 11, 3) := by decide +kernel
theorem dX8_stepLine_63 : decode cX8_stepLine 63 = .ok (.aload_n 0, 1) := by decide +kernel
theorem dX8_stepLine_64 : decode cX8_stepLine 64 = .ok (.iconst 3, 1) := by decide +kernel
theorem dX8_stepLine_65 : decode cX8_stepLine 65 = .ok (.invokevirtual 84, 3) := by decide +kernel
theorem dX8_stepLine_68 : decode cX8_stepLine 68 = .ok (.goto 23, 3) := by decide +kernel
theorem dX8_stepLine_71 : decode cX8_stepLine 71 = .ok (.aload_n 0, 1) := by decide +kernel
theorem dX8_stepLine_72 : decode cX8_stepLine 72 = .ok (.iconst 0, 1) := by decide +kernel
theorem dX8_stepLine_73 : decode cX8_stepLine 73 = .ok (.putfield 91, 3) := by decide +kernel
theorem dX8_stepLine_76 : decode cX8_stepLine 76 = .ok (.aload_n 0, 1) := by decide +kernel
theorem dX8_stepLine_77 : decode cX8_stepLine 77 = .ok (.iconst 0, 1) := by decide +kernel
theorem dX8_stepLine_78 : decode cX8_stepLine 78 = .ok (.putfield 94, 3) := by decide +kernel
theorem dX8_stepLine_81 : decode cX8_stepLine 81 = .ok (.aload_n 0, 1) := by decide +kernel
theorem dX8_stepLine_82 : decode cX8_stepLine 82 = .ok (.iconst 0, 1) := by decide +kernel
theorem dX8_stepLine_83 : decode cX8_stepLine 83 = .ok (.putfield 97, 3) := by decide +kernel
theorem dX8_stepLine_86 : decode cX8_stepLine 86 = .ok (.aload_n 0, 1) := by decide +kernel
theorem dX8_stepLine_87 : decode cX8_stepLine 87 = .ok (.iconst 1, 1) := by decide +kernel
theorem dX8_stepLine_88 : decode cX8_stepLine 88 = .ok (.putfield 45, 3) := by decide +kernel
theorem dX8_stepLine_91 : decode cX8_stepLine 91 = .ok (.return_, 1) := by decide +kernel
theorem dX8_stepHead_0 : decode cX8_stepHead 0 = .ok (.aload_n 0, 1) := by decide +kernel
theorem dX8_stepHead_1 : decode cX8_stepHead 1 = .ok (.getfield 81, 3) := by decide +kernel
theorem dX8_stepHead_4 : decode cX8_stepHead 4 = .ok (.iconst 4, 1) := by decide +kernel
theorem dX8_stepHead_5 : decode cX8_stepHead 5 = .ok (.if_icmp .ne 11, 3) := by decide +kernel
theorem dX8_stepHead_8 : decode cX8_stepHead 8 = .ok (.aload_n 0, 1) := by decide +kernel
theorem dX8_stepHead_9 : decode cX8_stepHead 9 = .ok (.iconst 2, 1) := by decide +kernel
theorem dX8_stepHead_10 : decode cX8_stepHead 10 = .ok (.putfield 45, 3) := by decide +kernel
theorem dX8_stepHead_13 : decode cX8_stepHead 13 = .ok (.goto 32, 3) := by decide +kernel
theorem dX8_stepHead_16 : decode cX8_stepHead 16 = .ok (.aload_n 0, 1) := by decide +kernel
theorem dX8_stepHead_17 : decode cX8_stepHead 17 = .ok (.getfield 81, 3) := by decide +kernel
theorem dX8_stepHead_20 : decode cX8_stepHead 20 = .ok (.bipush 15, 2) := by decide +kernel
theorem dX8_stepHead_22 : decode cX8_stepHead 22 = .ok (.if_icmp .ne 18, 3) := by decide +kernel
theorem dX8_stepHead_25 : decode cX8_stepHead 25 = .ok (.aload_n 0, 1) := by decide +kernel
theorem dX8_stepHead_26 : decode cX8_stepHead 26 = .ok (.getfield 18, 3) := by decide +kernel
theorem dX8_stepHead_29 : decode cX8_stepHead 29 = .ok (.invokevirtual 100, 3) := by decide +kernel
theorem dX8_stepHead_32 : decode cX8_stepHead 32 = .ok (.aload_n 0, 1) := by decide +kernel
theorem dX8_stepHead_33 : decode cX8_stepHead 33 = .ok (.iconst 0, 1) := by decide +kernel
theorem dX8_stepHead_34 : decode cX8_stepHead 34 = .ok (.putfield 45, 3) := by decide +kernel
theorem dX8_stepHead_37 : decode cX8_stepHead 37 = .ok (.goto 8, 3) := by decide +kernel
theorem dX8_stepHead_40 : decode cX8_stepHead 40 = .ok (.aload_n 0, 1) := by decide +kernel
theorem dX8_stepHead_41 : decode cX8_stepHead 41 = .ok (.iconst 1, 1) := by decide +kernel
theorem dX8_stepHead_42 : decode cX8_stepHead 42 = .ok (.invokevirtual 84, 3) := by decide +kernel
theorem dX8_stepHead_45 : decode cX8_stepHead 45 = .ok (.return_, 1) := by decide +kernel
theorem dX8_stepCondition_0 : decode cX8_stepCondition 0 = .ok (.aload_n 0, 1) := by decide +kernel
theorem dX8_stepCondition_1 : decode cX8_stepCondition 1 = .ok (.getfield 81, 3) := by decide +kernel
theorem dX8_stepCondition_4 : decode cX8_stepCondition 4 = .ok (.bipush 7, 2) := by decide +kernel
theorem dX8_stepCondition_6 : decode cX8_stepCondition 6 = .ok (.if_icmp .eq 24, 3) := by decide +kernel
theorem dX8_stepCondition_9 : decode cX8_stepCondition 9 = .ok (.aload_n 0, 1) := by decide +kernel
theorem dX8_stepCondition_10 : decode cX8_stepCondition 10 = .ok (.getfield 81, 3) := by decide +kernel
theorem dX8_stepCondition_13 : decode cX8_stepCondition 13 = .ok (.bipush 20, 2) := by decide +kernel
theorem dX8_stepCondition_15 : decode cX8_stepCondition 15 = .ok (.if_icmp .eq 15, 3) := by decide +kernel
theorem dX8_stepCondition_18 : decode cX8_stepCondition 18 = .ok (.aload_n 0, 1) := by decide +kernel
theorem dX8_stepCondition_19 : decode cX8_stepCondition 19 = .ok (.iconst 0, 1) := by decide +kernel
theorem dX8_stepCondition_20 : decode cX8_stepCondition 20 = .ok (.putfield 103, 3) := by decide +kernel
theorem dX8_stepCondition_23 : decode cX8_stepCondition 23 = .ok (.aload_n 0, 1) := by decide +kernel
theorem dX8_stepCondition_24 : decode cX8_stepCondition 24 = .ok (.invokevirtual 66, 3) := by decide +kernel
theorem dX8_stepCondition_27 : decode cX8_stepCondition 27 = .ok (.goto 61, 3) := by decide +kernel
theorem dX8_stepCondition_30 : decode cX8_stepCondition 30 = .ok (.aload_n 0, 1) := by decide +kernel
theorem dX8_stepCondition_31 : decode cX8_stepCondition 31 = .ok (.getfield 94, 3) := by decide +kernel
theorem dX8_stepCondition_34 : decode cX8_stepCondition 34 = .ok (.bipush 8, 2) := by decide +kernel
theorem dX8_stepCondition_36 : decode cX8_stepCondition 36 = .ok (.if_icmp .lt 11, 3) := by decide +kernel
theorem dX8_stepCondition_39 : decode cX8_stepCondition 39 = .ok (.aload_n 0, 1) := by decide +kernel
theorem dX8_stepCondition_40 : decode cX8_stepCondition 40 = .ok (.iconst 3, 1) := by decide +kernel
theorem dX8_stepCondition_41 : decode cX8_stepCondition 41 = .ok (.invokevirtual 84, 3) := by decide +kernel
theorem dX8_stepCondition_44 : decode cX8_stepCondition 44 = .ok (.goto 44, 3) := by decide +kernel
theorem dX8_stepCondition_47 : decode cX8_stepCondition 47 = .ok (.aload_n 0, 1) := by decide +kernel
theorem dX8_stepCondition_48 : decode cX8_stepCondition 48 = .ok (.dup, 1) := by decide +kernel
theorem dX8_stepCondition_49 : decode cX8_stepCondition 49 = .ok (.getfield 94, 3) := by decide +kernel
theorem dX8_stepCondition_52 : decode cX8_stepCondition 52 = .ok (.iconst 1, 1) := by decide +kernel
theorem dX8_stepCondition_53 : decode cX8_stepCondition 53 = .ok (.iadd, 1) := by decide +kernel
theorem dX8_stepCondition_54 : decode cX8_stepCondition 54 = .ok (.putfield 94, 3) := by decide +kernel
theorem dX8_stepCondition_57 : decode cX8_stepCondition 57 = .ok (.aload_n 0, 1) := by decide +kernel
theorem dX8_stepCondition_58 : decode cX8_stepCondition 58 = .ok (.dup, 1) := by decide +kernel
theorem dX8_stepCondition_59 : decode cX8_stepCondition 59 = .ok (.getfield 97, 3) := by decide +kernel
theorem dX8_stepCondition_62 : decode cX8_stepCondition 62 = .ok (.aload_n 0, 1) := by decide +kernel
theorem dX8_stepCondition_63 : decode cX8_stepCondition 63 = .ok (.getfield 81, 3) := by decide +kernel
theorem dX8_stepCondition_66 : decode cX8_stepCondition 66 = .ok (.bipush 20, 2) := by decide +kernel
theorem dX8_stepCondition_68 : decode cX8_stepCondition 68 = .ok (.if_icmp .ne 7, 3) := by decide +kernel
theorem dX8_stepCondition_71 : decode cX8_stepCondition 71 = .ok (.iconst 1, 1) := by decide +kernel
theorem dX8_stepCondition_72 : decode cX8_stepCondition 72 = .ok (.goto 4, 3) := by decide +kernel
theorem dX8_stepCondition_75 : decode cX8_stepCondition 75 = .ok (.iconst 0, 1) := by decide +kernel
theorem dX8_stepCondition_76 : decode cX8_stepCondition 76 = .ok (.iadd, 1) := by decide +kernel
theorem dX8_stepCondition_77 : decode cX8_stepCondition 77 = .ok (.putfield 97, 3) := by decide +kernel
theorem dX8_stepCondition_80 : decode cX8_stepCondition 80 = .ok (.aload_n 0, 1) := by decide +kernel
theorem dX8_stepCondition_81 : decode cX8_stepCondition 81 = .ok (.aload_n 0, 1) := by decide +kernel
theorem dX8_stepCondition_82 : decode cX8_stepCondition 82 = .ok (.getfield 81, 3) := by decide +kernel
theorem dX8_stepCondition_85 : decode cX8_stepCondition 85 = .ok (.invokevirtual 107, 3) := by decide +kernel
theorem dX8_stepCondition_88 : decode cX8_stepCondition 88 = .ok (.return_, 1) := by decide +kernel
theorem dX8_stepUnit_0 : decode cX8_stepUnit 0 = .ok (.aload_n 0, 1) := by decide +kernel
theorem dX8_stepUnit_1 : decode cX8_stepUnit 1 = .ok (.getfield 81, 3) := by decide +kernel
theorem dX8_stepUnit_4 : decode cX8_stepUnit 4 = .ok (.iconst 1, 1) := by decide +kernel
theorem dX8_stepUnit_5 : decode cX8_stepUnit 5 = .ok (.if_icmp .ne 17, 3) := by decide +kernel
theorem dX8_stepUnit_8 : decode cX8_stepUnit 8 = .ok (.aload_n 0, 1) := by decide +kernel
theorem dX8_stepUnit_9 : decode cX8_stepUnit 9 = .ok (.getfield 18, 3) := by decide +kernel
theorem dX8_stepUnit_12 : decode cX8_stepUnit 12 = .ok (.aload_n 0, 1) := by decide +kernel
theorem dX8_stepUnit_13 : decode cX8_stepUnit 13 = .ok (.getfield 110, 3) := by decide +kernel
theorem dX8_stepUnit_16 : decode cX8_stepUnit 16 = .ok (.invokevirtual 113, 3) := by decide +kernel
theorem dX8_stepUnit_19 : decode cX8_stepUnit 19 = .ok (.goto 42, 3) := by decide +kernel
theorem dX8_stepUnit_22 : decode cX8_stepUnit 22 = .ok (.aload_n 0, 1) := by decide +kernel
theorem dX8_stepUnit_23 : decode cX8_stepUnit 23 = .ok (.getfield 81, 3) := by decide +kernel
theorem dX8_stepUnit_26 : decode cX8_stepUnit 26 = .ok (.bipush 8, 2) := by decide +kernel
theorem dX8_stepUnit_28 : decode cX8_stepUnit 28 = .ok (.if_icmp .lt 27, 3) := by decide +kernel
theorem dX8_stepUnit_31 : decode cX8_stepUnit 31 = .ok (.aload_n 0, 1) := by decide +kernel
theorem dX8_stepUnit_32 : decode cX8_stepUnit 32 = .ok (.getfield 81, 3) := by decide +kernel
theorem dX8_stepUnit_35 : decode cX8_stepUnit 35 = .ok (.bipush 14, 2) := by decide +kernel
theorem dX8_stepUnit_37 : decode cX8_stepUnit 37 = .ok (.if_icmp .gt 18, 3) := by decide +kernel
theorem dX8_stepUnit_40 : decode cX8_stepUnit 40 = .ok (.aload_n 0, 1) := by decide +kernel
theorem dX8_stepUnit_41 : decode cX8_stepUnit 41 = .ok (.getfield 18, 3) := by decide +kernel
theorem dX8_stepUnit_44 : decode cX8_stepUnit 44 = .ok (.aload_n 0, 1) := by decide +kernel
theorem dX8_stepUnit_45 : decode cX8_stepUnit 45 = .ok (.getfield 81, 3) := by decide +kernel
theorem dX8_stepUnit_48 : decode cX8_stepUnit 48 = .ok (.ineg, 1) := by decide +kernel
theorem dX8_stepUnit_49 : decode cX8_stepUnit 49 = .ok (.invokevirtual 113, 3) := by decide +kernel
theorem dX8_stepUnit_52 : decode cX8_stepUnit 52 = .ok (.goto 9, 3) := by decide +kernel
theorem dX8_stepUnit_55 : decode cX8_stepUnit 55 = .ok (.aload_n 0, 1) := by decide +kernel
theorem dX8_stepUnit_56 : decode cX8_stepUnit 56 = .ok (.iconst 1, 1) := by decide +kernel
theorem dX8_stepUnit_57 : decode cX8_stepUnit 57 = .ok (.invokevirtual 84, 3) := by decide +kernel
theorem dX8_stepUnit_60 : decode cX8_stepUnit 60 = .ok (.return_, 1) := by decide +kernel
theorem dX8_stepUnit_61 : decode cX8_stepUnit 61 = .ok (.aload_n 0, 1) := by decide +kernel
theorem dX8_stepUnit_62 : decode cX8_stepUnit 62 = .ok (.aload_n 0, 1) := by decide +kernel
theorem dX8_stepUnit_63 : decode cX8_stepUnit 63 = .ok (.getfield 103, 3) := by decide +kernel
theorem dX8_stepUnit_66 : decode cX8_stepUnit 66 = .ok (.ifCond .eq 8, 3) := by decide +kernel
theorem dX8_stepUnit_69 : decode cX8_stepUnit 69 = .ok (.bipush 6, 2) := by decide +kernel
theorem dX8_stepUnit_71 : decode cX8_stepUnit 71 = .ok (.goto 4, 3) := by decide +kernel
theorem dX8_stepUnit_74 : decode cX8_stepUnit 74 = .ok (.iconst 5, 1) := by decide +kernel
theorem dX8_stepUnit_75 : decode cX8_stepUnit 75 = .ok (.putfield 45, 3) := by decide +kernel
theorem dX8_stepUnit_78 : decode cX8_stepUnit 78 = .ok (.return_, 1) := by decide +kernel
theorem dX8_stepDivisor_0 : decode cX8_stepDivisor 0 = .ok (.aload_n 0, 1) := by decide +kernel
theorem dX8_stepDivisor_1 : decode cX8_stepDivisor 1 = .ok (.getfield 81, 3) := by decide +kernel
theorem dX8_stepDivisor_4 : decode cX8_stepDivisor 4 = .ok (.iconst 1, 1) := by decide +kernel
theorem dX8_stepDivisor_5 : decode cX8_stepDivisor 5 = .ok (.if_icmp .ne 18, 3) := by decide +kernel
theorem dX8_stepDivisor_8 : decode cX8_stepDivisor 8 = .ok (.aload_n 0, 1) := by decide +kernel
theorem dX8_stepDivisor_9 : decode cX8_stepDivisor 9 = .ok (.getfield 110, 3) := by decide +kernel
theorem dX8_stepDivisor_12 : decode cX8_stepDivisor 12 = .ok (.ifCond .ne 11, 3) := by decide +kernel
theorem dX8_stepDivisor_15 : decode cX8_stepDivisor 15 = .ok (.aload_n 0, 1) := by decide +kernel
theorem dX8_stepDivisor_16 : decode cX8_stepDivisor 16 = .ok (.iconst 2, 1) := by decide +kernel
theorem dX8_stepDivisor_17 : decode cX8_stepDivisor 17 = .ok (.invokevirtual 84, 3) := by decide +kernel
theorem dX8_stepDivisor_20 : decode cX8_stepDivisor 20 = .ok (.goto 23, 3) := by decide +kernel
theorem dX8_stepDivisor_23 : decode cX8_stepDivisor 23 = .ok (.aload_n 0, 1) := by decide +kernel
theorem dX8_stepDivisor_24 : decode cX8_stepDivisor 24 = .ok (.getfield 81, 3) := by decide +kernel
theorem dX8_stepDivisor_27 : decode cX8_stepDivisor 27 = .ok (.iconst 1, 1) := by decide +kernel
theorem dX8_stepDivisor_28 : decode cX8_stepDivisor 28 = .ok (.if_icmp .ne 10, 3) := by decide +kernel
theorem dX8_stepDivisor_31 : decode cX8_stepDivisor 31 = .ok (.aload_n 0, 1) := by decide +kernel
theorem dX8_stepDivisor_32 : decode cX8_stepDivisor 32 = .ok (.invokevirtual 66, 3) := by decide +kernel
theorem dX8_stepDivisor_35 : decode cX8_stepDivisor 35 = .ok (.goto 8, 3) := by decide +kernel
theorem dX8_stepDivisor_38 : decode cX8_stepDivisor 38 = .ok (.aload_n 0, 1) := by decide +kernel
theorem dX8_stepDivisor_39 : decode cX8_stepDivisor 39 = .ok (.iconst 1, 1) := by decide +kernel
theorem dX8_stepDivisor_40 : decode cX8_stepDivisor 40 = .ok (.invokevirtual 84, 3) := by decide +kernel
theorem dX8_stepDivisor_43 : decode cX8_stepDivisor 43 = .ok (.return_, 1) := by decide +kernel
theorem dX8_stepLeft_0 : decode cX8_stepLeft 0 = .ok (.aload_n 0, 1) := by decide +kernel
theorem dX8_stepLeft_1 : decode cX8_stepLeft 1 = .ok (.getfield 81, 3) := by decide +kernel
theorem dX8_stepLeft_4 : decode cX8_stepLeft 4 = .ok (.bipush 22, 2) := by decide +kernel
theorem dX8_stepLeft_6 : decode cX8_stepLeft 6 = .ok (.if_icmp .lt 29, 3) := by decide +kernel
theorem dX8_stepLeft_9 : decode cX8_stepLeft 9 = .ok (.aload_n 0, 1) := by decide +kernel
theorem dX8_stepLeft_10 : decode cX8_stepLeft 10 = .ok (.getfield 81, 3) := by decide +kernel
theorem dX8_stepLeft_13 : decode cX8_stepLeft 13 = .ok (.bipush 24, 2) := by decide +kernel
theorem dX8_stepLeft_15 : decode cX8_stepLeft 15 = .ok (.if_icmp .gt 20, 3) := by decide +kernel
theorem dX8_stepLeft_18 : decode cX8_stepLeft 18 = .ok (.aload_n 0, 1) := by decide +kernel
theorem dX8_stepLeft_19 : decode cX8_stepLeft 19 = .ok (.invokevirtual 116, 3) := by decide +kernel
theorem dX8_stepLeft_22 : decode cX8_stepLeft 22 = .ok (.aload_n 0, 1) := by decide +kernel
theorem dX8_stepLeft_23 : decode cX8_stepLeft 23 = .ok (.iconst 1, 1) := by decide +kernel
theorem dX8_stepLeft_24 : decode cX8_stepLeft 24 = .ok (.putfield 103, 3) := by decide +kernel
theorem dX8_stepLeft_27 : decode cX8_stepLeft 27 = .ok (.aload_n 0, 1) := by decide +kernel
theorem dX8_stepLeft_28 : decode cX8_stepLeft 28 = .ok (.iconst 3, 1) := by decide +kernel
theorem dX8_stepLeft_29 : decode cX8_stepLeft 29 = .ok (.putfield 45, 3) := by decide +kernel
theorem dX8_stepLeft_32 : decode cX8_stepLeft 32 = .ok (.goto 33, 3) := by decide +kernel
theorem dX8_stepLeft_35 : decode cX8_stepLeft 35 = .ok (.aload_n 0, 1) := by decide +kernel
theorem dX8_stepLeft_36 : decode cX8_stepLeft 36 = .ok (.getfield 81, 3) := by decide +kernel
theorem dX8_stepLeft_39 : decode cX8_stepLeft 39 = .ok (.bipush 16, 2) := by decide +kernel
theorem dX8_stepLeft_41 : decode cX8_stepLeft 41 = .ok (.if_icmp .lt 19, 3) := by decide +kernel
theorem dX8_stepLeft_44 : decode cX8_stepLeft 44 = .ok (.aload_n 0, 1) := by decide +kernel
theorem dX8_stepLeft_45 : decode cX8_stepLeft 45 = .ok (.getfield 81, 3) := by decide +kernel
theorem dX8_stepLeft_48 : decode cX8_stepLeft 48 = .ok (.bipush 19, 2) := by decide +kernel
theorem dX8_stepLeft_50 : decode cX8_stepLeft 50 = .ok (.if_icmp .gt 10, 3) := by decide +kernel
theorem dX8_stepLeft_53 : decode cX8_stepLeft 53 = .ok (.aload_n 0, 1) := by decide +kernel
theorem dX8_stepLeft_54 : decode cX8_stepLeft 54 = .ok (.invokevirtual 119, 3) := by decide +kernel
theorem dX8_stepLeft_57 : decode cX8_stepLeft 57 = .ok (.goto 8, 3) := by decide +kernel
theorem dX8_stepLeft_60 : decode cX8_stepLeft 60 = .ok (.aload_n 0, 1) := by decide +kernel
theorem dX8_stepLeft_61 : decode cX8_stepLeft 61 = .ok (.iconst 1, 1) := by decide +kernel
theorem dX8_stepLeft_62 : decode cX8_stepLeft 62 = .ok (.invokevirtual 84, 3) := by decide +kernel
theorem dX8_stepLeft_65 : decode cX8_stepLeft 65 = .ok (.return_, 1) := by decide +kernel
theorem dX8_stepRight_0 : decode cX8_stepRight 0 = .ok (.aload_n 0, 1) := by decide +kernel
theorem dX8_stepRight_1 : decode cX8_stepRight 1 = .ok (.getfield 81, 3) := by decide +kernel
theorem dX8_stepRight_4 : decode cX8_stepRight 4 = .ok (.bipush 16, 2) := by decide +kernel
theorem dX8_stepRight_6 : decode cX8_stepRight 6 = .ok (.if_icmp .lt 19, 3) := by decide +kernel
theorem dX8_stepRight_9 : decode cX8_stepRight 9 = .ok (.aload_n 0, 1) := by decide +kernel
theorem dX8_stepRight_10 : decode cX8_stepRight 10 = .ok (.getfield 81, 3) := by decide +kernel
theorem dX8_stepRight_13 : decode cX8_stepRight 13 = .ok (.bipush 19, 2) := by decide +kernel
theorem dX8_stepRight_15 : decode cX8_stepRight 15 = .ok (.if_icmp .gt 10, 3) := by decide +kernel
theorem dX8_stepRight_18 : decode cX8_stepRight 18 = .ok (.aload_n 0, 1) := by decide +kernel
theorem dX8_stepRight_19 : decode cX8_stepRight 19 = .ok (.invokevirtual 119, 3) := by decide +kernel
theorem dX8_stepRight_22 : decode cX8_stepRight 22 = .ok (.goto 7, 3) := by decide +kernel
theorem dX8_stepRight_25 : decode cX8_stepRight 25 = .ok (.aload_n 0, 1) := by decide +kernel
theorem dX8_stepRight_26 : decode cX8_stepRight 26 = .ok (.invokevirtual 78, 3) := by decide +kernel
theorem dX8_stepRight_29 : decode cX8_stepRight 29 = .ok (.return_, 1) := by decide +kernel
theorem dX8_stepReckoning_0 : decode cX8_stepReckoning 0 = .ok (.aload_n 0, 1) := by decide +kernel
theorem dX8_stepReckoning_1 : decode cX8_stepReckoning 1 = .ok (.invokevirtual 116, 3) := by decide +kernel
theorem dX8_stepReckoning_4 : decode cX8_stepReckoning 4 = .ok (.aload_n 0, 1) := by decide +kernel
theorem dX8_stepReckoning_5 : decode cX8_stepReckoning 5 = .ok (.aload_n 0, 1) := by decide +kernel
theorem dX8_stepReckoning_6 : decode cX8_stepReckoning 6 = .ok (.getfield 81, 3) := by decide +kernel
theorem dX8_stepReckoning_9 : decode cX8_stepReckoning 9 = .ok (.bipush 19, 2) := by decide +kernel
theorem dX8_stepReckoning_11 : decode cX8_stepReckoning 11 = .ok (.if_icmp .ne 7, 3) := by decide +kernel
theorem dX8_stepReckoning_14 : decode cX8_stepReckoning 14 = .ok (.iconst 4, 1) := by decide +kernel
theorem dX8_stepReckoning_15 : decode cX8_stepReckoning 15 = .ok (.goto 4, 3) := by decide +kernel
theorem dX8_stepReckoning_18 : decode cX8_stepReckoning 18 = .ok (.iconst 3, 1) := by decide +kernel
theorem dX8_stepReckoning_19 : decode cX8_stepReckoning 19 = .ok (.putfield 45, 3) := by decide +kernel
theorem dX8_stepReckoning_22 : decode cX8_stepReckoning 22 = .ok (.return_, 1) := by decide +kernel
theorem dX8_stepClosed_0 : decode cX8_stepClosed 0 = .ok (.aload_n 0, 1) := by decide +kernel
theorem dX8_stepClosed_1 : decode cX8_stepClosed 1 = .ok (.getfield 81, 3) := by decide +kernel
theorem dX8_stepClosed_4 : decode cX8_stepClosed 4 = .ok (.bipush 6, 2) := by decide +kernel
theorem dX8_stepClosed_6 : decode cX8_stepClosed 6 = .ok (.if_icmp .eq 11, 3) := by decide +kernel
theorem dX8_stepClosed_9 : decode cX8_stepClosed 9 = .ok (.aload_n 0, 1) := by decide +kernel
theorem dX8_stepClosed_10 : decode cX8_stepClosed 10 = .ok (.getfield 81, 3) := by decide +kernel
theorem dX8_stepClosed_13 : decode cX8_stepClosed 13 = .ok (.iconst 5, 1) := by decide +kernel
theorem dX8_stepClosed_14 : decode cX8_stepClosed 14 = .ok (.if_icmp .ne 15, 3) := by decide +kernel
theorem dX8_stepClosed_17 : decode cX8_stepClosed 17 = .ok (.aload_n 0, 1) := by decide +kernel
theorem dX8_stepClosed_18 : decode cX8_stepClosed 18 = .ok (.invokevirtual 116, 3) := by decide +kernel
theorem dX8_stepClosed_21 : decode cX8_stepClosed 21 = .ok (.aload_n 0, 1) := by decide +kernel
theorem dX8_stepClosed_22 : decode cX8_stepClosed 22 = .ok (.iconst 2, 1) := by decide +kernel
theorem dX8_stepClosed_23 : decode cX8_stepClosed 23 = .ok (.putfield 45, 3) := by decide +kernel
theorem dX8_stepClosed_26 : decode cX8_stepClosed 26 = .ok (.goto 121, 3) := by decide +kernel
theorem dX8_stepClosed_29 : decode cX8_stepClosed 29 = .ok (.aload_n 0, 1) := by decide +kernel
theorem dX8_stepClosed_30 : decode cX8_stepClosed 30 = .ok (.getfield 81, 3) := by decide +kernel
theorem dX8_stepClosed_33 : decode cX8_stepClosed 33 = .ok (.bipush 21, 2) := by decide +kernel
theorem dX8_stepClosed_35 : decode cX8_stepClosed 35 = .ok (.if_icmp .ne 68, 3) := by decide +kernel
theorem dX8_stepClosed_38 : decode cX8_stepClosed 38 = .ok (.aload_n 0, 1) := by decide +kernel
theorem dX8_stepClosed_39 : decode cX8_stepClosed 39 = .ok (.getfield 97, 3) := by decide +kernel
theorem dX8_stepClosed_42 : decode cX8_stepClosed 42 = .ok (.ifCond .le 61, 3) := by decide +kernel
theorem dX8_stepClosed_45 : decode cX8_stepClosed 45 = .ok (.aload_n 0, 1) := by decide +kernel
theorem dX8_stepClosed_46 : decode cX8_stepClosed 46 = .ok (.iconst 5, 1) := by decide +kernel
theorem dX8_stepClosed_47 : decode cX8_stepClosed 47 = .ok (.invokestatic 122, 3) := by decide +kernel
theorem dX8_stepClosed_50 : decode cX8_stepClosed 50 = .ok (.invokevirtual 126, 3) := by decide +kernel
theorem dX8_stepClosed_53 : decode cX8_stepClosed 53 = .ok (.aload_n 0, 1) := by decide +kernel
theorem dX8_stepClosed_54 : decode cX8_stepClosed 54 = .ok (.dup, 1) := by decide +kernel
theorem dX8_stepClosed_55 : decode cX8_stepClosed 55 = .ok (.getfield 91, 3) := by decide +kernel
theorem dX8_stepClosed_58 : decode cX8_stepClosed 58 = .ok (.aload_n 0, 1) := by decide +kernel
theorem dX8_stepClosed_59 : decode cX8_stepClosed 59 = .ok (.getfield 91, 3) := by decide +kernel
theorem dX8_stepClosed_62 : decode cX8_stepClosed 62 = .ok (.ifCond .le 7, 3) := by decide +kernel
theorem dX8_stepClosed_65 : decode cX8_stepClosed 65 = .ok (.iconst 1, 1) := by decide +kernel
theorem dX8_stepClosed_66 : decode cX8_stepClosed 66 = .ok (.goto 4, 3) := by decide +kernel
theorem dX8_stepClosed_69 : decode cX8_stepClosed 69 = .ok (.iconst 0, 1) := by decide +kernel
theorem dX8_stepClosed_70 : decode cX8_stepClosed 70 = .ok (.isub, 1) := by decide +kernel
theorem dX8_stepClosed_71 : decode cX8_stepClosed 71 = .ok (.putfield 91, 3) := by decide +kernel
theorem dX8_stepClosed_74 : decode cX8_stepClosed 74 = .ok (.aload_n 0, 1) := by decide +kernel
theorem dX8_stepClosed_75 : decode cX8_stepClosed 75 = .ok (.dup, 1) := by decide +kernel
theorem dX8_stepClosed_76 : decode cX8_stepClosed 76 = .ok (.getfield 97, 3) := by decide +kernel
theorem dX8_stepClosed_79 : decode cX8_stepClosed 79 = .ok (.iconst 1, 1) := by decide +kernel
theorem dX8_stepClosed_80 : decode cX8_stepClosed 80 = .ok (.isub, 1) := by decide +kernel
theorem dX8_stepClosed_81 : decode cX8_stepClosed 81 = .ok (.putfield 97, 3) := by decide +kernel
theorem dX8_stepClosed_84 : decode cX8_stepClosed 84 = .ok (.aload_n 0, 1) := by decide +kernel
theorem dX8_stepClosed_85 : decode cX8_stepClosed 85 = .ok (.dup, 1) := by decide +kernel
theorem dX8_stepClosed_86 : decode cX8_stepClosed 86 = .ok (.getfield 94, 3) := by decide +kernel
