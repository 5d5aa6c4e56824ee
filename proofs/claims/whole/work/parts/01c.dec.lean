theorem dX4_init_0 : decode cX4_init 0 = .ok (.aload_n 0, 1) := by decide +kernel
theorem dX4_init_1 : decode cX4_init 1 = .ok (.invokespecial 3, 3) := by decide +kernel
theorem dX4_init_4 : decode cX4_init 4 = .ok (.aload_n 0, 1) := by decide +kernel
theorem dX4_init_5 : decode cX4_init 5 = .ok (.aload_n 1, 1) := by decide +kernel
theorem dX4_init_6 : decode cX4_init 6 = .ok (.putfield 9, 3) := by decide +kernel
theorem dX4_init_9 : decode cX4_init 9 = .ok (.aload_n 0, 1) := by decide +kernel
theorem dX4_init_10 : decode cX4_init 10 = .ok (.aload_n 2, 1) := by decide +kernel
theorem dX4_init_11 : decode cX4_init 11 = .ok (.putfield 15, 3) := by decide +kernel
theorem dX4_init_14 : decode cX4_init 14 = .ok (.aload_n 0, 1) := by decide +kernel
theorem dX4_init_15 : decode cX4_init 15 = .ok (.bipush 30, 2) := by decide +kernel
theorem dX4_init_17 : decode cX4_init 17 = .ok (.newarray .int, 2) := by decide +kernel
theorem dX4_init_19 : decode cX4_init 19 = .ok (.putfield 19, 3) := by decide +kernel
theorem dX4_init_22 : decode cX4_init 22 = .ok (.aload_n 0, 1) := by decide +kernel
theorem dX4_init_23 : decode cX4_init 23 = .ok (.bipush 30, 2) := by decide +kernel
theorem dX4_init_25 : decode cX4_init 25 = .ok (.newarray .int, 2) := by decide +kernel
theorem dX4_init_27 : decode cX4_init 27 = .ok (.putfield 23, 3) := by decide +kernel
theorem dX4_init_30 : decode cX4_init 30 = .ok (.aload_n 0, 1) := by decide +kernel
theorem dX4_init_31 : decode cX4_init 31 = .ok (.bipush 30, 2) := by decide +kernel
theorem dX4_init_33 : decode cX4_init 33 = .ok (.newarray .boolean, 2) := by decide +kernel
theorem dX4_init_35 : decode cX4_init 35 = .ok (.putfield 26, 3) := by decide +kernel
theorem dX4_init_38 : decode cX4_init 38 = .ok (.aload_n 0, 1) := by decide +kernel
theorem dX4_init_39 : decode cX4_init 39 = .ok (.bipush 30, 2) := by decide +kernel
theorem dX4_init_41 : decode cX4_init 41 = .ok (.newarray .int, 2) := by decide +kernel
theorem dX4_init_43 : decode cX4_init 43 = .ok (.putfield 30, 3) := by decide +kernel
theorem dX4_init_46 : decode cX4_init 46 = .ok (.aload_n 0, 1) := by decide +kernel
theorem dX4_init_47 : decode cX4_init 47 = .ok (.bipush 30, 2) := by decide +kernel
theorem dX4_init_49 : decode cX4_init 49 = .ok (.newarray .int, 2) := by decide +kernel
theorem dX4_init_51 : decode cX4_init 51 = .ok (.putfield 33, 3) := by decide +kernel
theorem dX4_init_54 : decode cX4_init 54 = .ok (.aload_n 0, 1) := by decide +kernel
theorem dX4_init_55 : decode cX4_init 55 = .ok (.bipush 16, 2) := by decide +kernel
theorem dX4_init_57 : decode cX4_init 57 = .ok (.newarray .int, 2) := by decide +kernel
theorem dX4_init_59 : decode cX4_init 59 = .ok (.putfield 36, 3) := by decide +kernel
theorem dX4_init_62 : decode cX4_init 62 = .ok (.aload_n 0, 1) := by decide +kernel
theorem dX4_init_63 : decode cX4_init 63 = .ok (.bipush 16, 2) := by decide +kernel
theorem dX4_init_65 : decode cX4_init 65 = .ok (.newarray .int, 2) := by decide +kernel
theorem dX4_init_67 : decode cX4_init 67 = .ok (.putfield 39, 3) := by decide +kernel
theorem dX4_init_70 : decode cX4_init 70 = .ok (.aload_n 0, 1) := by decide +kernel
theorem dX4_init_71 : decode cX4_init 71 = .ok (.bipush 16, 2) := by decide +kernel
theorem dX4_init_73 : decode cX4_init 73 = .ok (.newarray .long, 2) := by decide +kernel
theorem dX4_init_75 : decode cX4_init 75 = .ok (.putfield 42, 3) := by decide +kernel
theorem dX4_init_78 : decode cX4_init 78 = .ok (.return_, 1) := by decide +kernel
theorem dX4_forget_0 : decode cX4_forget 0 = .ok (.aload_n 0, 1) := by decide +kernel
theorem dX4_forget_1 : decode cX4_forget 1 = .ok (.iconst 0, 1) := by decide +kernel
theorem dX4_forget_2 : decode cX4_forget 2 = .ok (.putfield 46, 3) := by decide +kernel
theorem dX4_forget_5 : decode cX4_forget 5 = .ok (.return_, 1) := by decide +kernel
theorem dX4_tell_0 : decode cX4_tell 0 = .ok (.aload_n 0, 1) := by decide +kernel
theorem dX4_tell_1 : decode cX4_tell 1 = .ok (.getfield 9, 3) := by decide +kernel
theorem dX4_tell_4 : decode cX4_tell 4 = .ok (.getfield 50, 3) := by decide +kernel
theorem dX4_tell_7 : decode cX4_tell 7 = .ok (.ifCond .eq 12, 3) := by decide +kernel
theorem dX4_tell_10 : decode cX4_tell 10 = .ok (.aload_n 0, 1) := by decide +kernel
theorem dX4_tell_11 : decode cX4_tell 11 = .ok (.getfield 46, 3) := by decide +kernel
theorem dX4_tell_14 : decode cX4_tell 14 = .ok (.bipush 30, 2) := by decide +kernel
theorem dX4_tell_16 : decode cX4_tell 16 = .ok (.if_icmp .lt 5, 3) := by decide +kernel
theorem dX4_tell_19 : decode cX4_tell 19 = .ok (.iconst (-1), 1) := by decide +kernel
theorem dX4_tell_20 : decode cX4_tell 20 = .ok (.ireturn, 1) := by decide +kernel
theorem dX4_tell_21 : decode cX4_tell 21 = .ok (.aload_n 0, 1) := by decide +kernel
theorem dX4_tell_22 : decode cX4_tell 22 = .ok (.getfield 19, 3) := by decide +kernel
theorem dX4_tell_25 : decode cX4_tell 25 = .ok (.aload_n 0, 1) := by decide +kernel
theorem dX4_tell_26 : decode cX4_tell 26 = .ok (.getfield 46, 3) := by decide +kernel
theorem dX4_tell_29 : decode cX4_tell 29 = .ok (.iload_n 1, 1) := by decide +kernel
theorem dX4_tell_30 : decode cX4_tell 30 = .ok (.iastore, 1) := by decide +kernel
theorem dX4_tell_31 : decode cX4_tell 31 = .ok (.aload_n 0, 1) := by decide +kernel
theorem dX4_tell_32 : decode cX4_tell 32 = .ok (.getfield 23, 3) := by decide +kernel
theorem dX4_tell_35 : decode cX4_tell 35 = .ok (.aload_n 0, 1) := by decide +kernel
theorem dX4_tell_36 : decode cX4_tell 36 = .ok (.getfield 46, 3) := by decide +kernel
theorem dX4_tell_39 : decode cX4_tell 39 = .ok (.iload_n 2, 1) := by decide +kernel
theorem dX4_tell_40 : decode cX4_tell 40 = .ok (.iastore, 1) := by decide +kernel
theorem dX4_tell_41 : decode cX4_tell 41 = .ok (.aload_n 0, 1) := by decide +kernel
theorem dX4_tell_42 : decode cX4_tell 42 = .ok (.getfield 26, 3) := by decide +kernel
theorem dX4_tell_45 : decode cX4_tell 45 = .ok (.aload_n 0, 1) := by decide +kernel
theorem dX4_tell_46 : decode cX4_tell 46 = .ok (.getfield 46, 3) := by decide +kernel
theorem dX4_tell_49 : decode cX4_tell 49 = .ok (.iload_n 3, 1) := by decide +kernel
theorem dX4_tell_50 : decode cX4_tell 50 = .ok (.bastore, 1) := by decide +kernel
theorem dX4_tell_51 : decode cX4_tell 51 = .ok (.aload_n 0, 1) := by decide +kernel
theorem dX4_tell_52 : decode cX4_tell 52 = .ok (.getfield 30, 3) := by decide +kernel
theorem dX4_tell_55 : decode cX4_tell 55 = .ok (.aload_n 0, 1) := by decide +kernel
theorem dX4_tell_56 : decode cX4_tell 56 = .ok (.getfield 46, 3) := by decide +kernel
theorem dX4_tell_59 : decode cX4_tell 59 = .ok (.aload_n 0, 1) := by decide +kernel
theorem dX4_tell_60 : decode cX4_tell 60 = .ok (.getfield 55, 3) := by decide +kernel
theorem dX4_tell_63 : decode cX4_tell 63 = .ok (.iastore, 1) := by decide +kernel
theorem dX4_tell_64 : decode cX4_tell 64 = .ok (.aload_n 0, 1) := by decide +kernel
theorem dX4_tell_65 : decode cX4_tell 65 = .ok (.getfield 33, 3) := by decide +kernel
theorem dX4_tell_68 : decode cX4_tell 68 = .ok (.aload_n 0, 1) := by decide +kernel
theorem dX4_tell_69 : decode cX4_tell 69 = .ok (.getfield 46, 3) := by decide +kernel
theorem dX4_tell_72 : decode cX4_tell 72 = .ok (.iconst (-1), 1) := by decide +kernel
theorem dX4_tell_73 : decode cX4_tell 73 = .ok (.iastore, 1) := by decide +kernel
theorem dX4_tell_74 : decode cX4_tell 74 = .ok (.aload_n 0, 1) := by decide +kernel
theorem dX4_tell_75 : decode cX4_tell 75 = .ok (.dup, 1) := by decide +kernel
theorem dX4_tell_76 : decode cX4_tell 76 = .ok (.getfield 46, 3) := by decide +kernel
theorem dX4_tell_79 : decode cX4_tell 79 = .ok (.iconst 1, 1) := by decide +kernel
theorem dX4_tell_80 : decode cX4_tell 80 = .ok (.iadd, 1) := by decide +kernel
theorem dX4_tell_81 : decode cX4_tell 81 = .ok (.putfield 46, 3) := by decide +kernel
theorem dX4_tell_84 : decode cX4_tell 84 = .ok (.aload_n 0, 1) := by decide +kernel
theorem dX4_tell_85 : decode cX4_tell 85 = .ok (.getfield 46, 3) := by decide +kernel
theorem dX4_tell_88 : decode cX4_tell 88 = .ok (.iconst 1, 1) := by decide +kernel
theorem dX4_tell_89 : decode cX4_tell 89 = .ok (.isub, 1) := by decide +kernel
theorem dX4_tell_90 : decode cX4_tell 90 = .ok (.ireturn, 1) := by decide +kernel
theorem dX4_takeAway_0 : decode cX4_takeAway 0 = .ok (.iload_n 1, 1) := by decide +kernel
theorem dX4_takeAway_1 : decode cX4_takeAway 1 = .ok (.ifCond .lt 21, 3) := by decide +kernel
theorem dX4_takeAway_4 : decode cX4_takeAway 4 = .ok (.iload_n 1, 1) := by decide +kernel
theorem dX4_takeAway_5 : decode cX4_takeAway 5 = .ok (.aload_n 0, 1) := by decide +kernel
theorem dX4_takeAway_6 : decode cX4_takeAway 6 = .ok (.getfield 46, 3) := by decide +kernel
theorem dX4_takeAway_9 : decode cX4_takeAway 9 = .ok (.if_icmp .ge 13, 3) := by decide +kernel
theorem dX4_takeAway_12 : decode cX4_takeAway 12 = .ok (.aload_n 0, 1) := by decide +kernel
theorem dX4_takeAway_13 : decode cX4_takeAway 13 = .ok (.getfield 33, 3) := by decide +kernel
theorem dX4_takeAway_16 : decode cX4_takeAway 16 = .ok (.iload_n 1, 1) := by decide +kernel
theorem dX4_takeAway_17 : decode cX4_takeAway 17 = .ok (.iaload, 1) := by decide +kernel
theorem dX4_takeAway_18 : decode cX4_takeAway 18 = .ok (.iconst (-1), 1) := by decide +kernel
theorem dX4_takeAway_19 : decode cX4_takeAway 19 = .ok (.if_icmp .eq 5, 3) := by decide +kernel
theorem dX4_takeAway_22 : decode cX4_takeAway 22 = .ok (.iconst 0, 1) := by decide +kernel
theorem dX4_takeAway_23 : decode cX4_takeAway 23 = .ok (.ireturn, 1) := by decide +kernel
theorem dX4_takeAway_24 : decode cX4_takeAway 24 = .ok (.aload_n 0, 1) := by decide +kernel
theorem dX4_takeAway_25 : decode cX4_takeAway 25 = .ok (.getfield 33, 3) := by decide +kernel
theorem dX4_takeAway_28 : decode cX4_takeAway 28 = .ok (.iload_n 1, 1) := by decide +kernel
theorem dX4_takeAway_29 : decode cX4_takeAway 29 = .ok (.aload_n 0, 1) := by decide +kernel
theorem dX4_takeAway_30 : decode cX4_takeAway 30 = .ok (.getfield 55, 3) := by decide +kernel
theorem dX4_takeAway_33 : decode cX4_takeAway 33 = .ok (.iastore, 1) := by decide +kernel
theorem dX4_takeAway_34 : decode cX4_takeAway 34 = .ok (.iconst 1, 1) := by decide +kernel
theorem dX4_takeAway_35 : decode cX4_takeAway 35 = .ok (.ireturn, 1) := by decide +kernel
theorem dX4_goOn_0 : decode cX4_goOn 0 = .ok (.iload_n 1, 1) := by decide +kernel
theorem dX4_goOn_1 : decode cX4_goOn 1 = .ok (.ifCond .lt 21, 3) := by decide +kernel
theorem dX4_goOn_4 : decode cX4_goOn 4 = .ok (.iload_n 1, 1) := by decide +kernel
theorem dX4_goOn_5 : decode cX4_goOn 5 = .ok (.sipush 1000, 3) := by decide +kernel
theorem dX4_goOn_8 : decode cX4_goOn 8 = .ok (.if_icmp .gt 14, 3) := by decide +kernel
theorem dX4_goOn_11 : decode cX4_goOn 11 = .ok (.aload_n 0, 1) := by decide +kernel
theorem dX4_goOn_12 : decode cX4_goOn 12 = .ok (.getfield 55, 3) := by decide +kernel
theorem dX4_goOn_15 : decode cX4_goOn 15 = .ok (.iload_n 1, 1) := by decide +kernel
theorem dX4_goOn_16 : decode cX4_goOn 16 = .ok (.iadd, 1) := by decide +kernel
theorem dX4_goOn_17 : decode cX4_goOn 17 = .ok (.ldc 58, 2) := by decide +kernel
theorem dX4_goOn_19 : decode cX4_goOn 19 = .ok (.if_icmp .le 5, 3) := by decide +kernel
theorem dX4_goOn_22 : decode cX4_goOn 22 = .ok (.iconst (-1), 1) := by decide +kernel
theorem dX4_goOn_23 : decode cX4_goOn 23 = .ok (.ireturn, 1) := by decide +kernel
theorem dX4_goOn_24 : decode cX4_goOn 24 = .ok (.aload_n 0, 1) := by decide +kernel
theorem dX4_goOn_25 : decode cX4_goOn 25 = .ok (.dup, 1) := by decide +kernel
theorem dX4_goOn_26 : decode cX4_goOn 26 = .ok (.getfield 55, 3) := by decide +kernel
theorem dX4_goOn_29 : decode cX4_goOn 29 = .ok (.iload_n 1, 1) := by decide +kernel
theorem dX4_goOn_30 : decode cX4_goOn 30 = .ok (.iadd, 1) := by decide +kernel
theorem dX4_goOn_31 : decode cX4_goOn 31 = .ok (.putfield 55, 3) := by decide +kernel
theorem dX4_goOn_34 : decode cX4_goOn 34 = .ok (.aload_n 0, 1) := by decide +kernel
theorem dX4_goOn_35 : decode cX4_goOn 35 = .ok (.getfield 55, 3) := by decide +kernel
theorem dX4_goOn_38 : decode cX4_goOn 38 = .ok (.ireturn, 1) := by decide +kernel
theorem dX4_counts_0 : decode cX4_counts 0 = .ok (.aload_n 0, 1) := by decide +kernel
theorem dX4_counts_1 : decode cX4_counts 1 = .ok (.getfield 30, 3) := by decide +kernel
theorem dX4_counts_4 : decode cX4_counts 4 = .ok (.iload_n 1, 1) := by decide +kernel
theorem dX4_counts_5 : decode cX4_counts 5 = .ok (.iaload, 1) := by decide +kernel
theorem dX4_counts_6 : decode cX4_counts 6 = .ok (.iload_n 2, 1) := by decide +kernel
theorem dX4_counts_7 : decode cX4_counts 7 = .ok (.if_icmp .gt 27, 3) := by decide +kernel
theorem dX4_counts_10 : decode cX4_counts 10 = .ok (.aload_n 0, 1) := by decide +kernel
theorem dX4_counts_11 : decode cX4_counts 11 = .ok (.getfield 33, 3) := by decide +kernel
theorem dX4_counts_14 : decode cX4_counts 14 = .ok (.iload_n 1, 1) := by decide +kernel
theorem dX4_counts_15 : decode cX4_counts 15 = .ok (.iaload, 1) := by decide +kernel
theorem dX4_counts_16 : decode cX4_counts 16 = .ok (.iconst (-1), 1) := by decide +kernel
theorem dX4_counts_17 : decode cX4_counts 17 = .ok (.if_icmp .eq 13, 3) := by decide +kernel
theorem dX4_counts_20 : decode cX4_counts 20 = .ok (.aload_n 0, 1) := by decide +kernel
theorem dX4_counts_21 : decode cX4_counts 21 = .ok (.getfield 33, 3) := by decide +kernel
theorem dX4_counts_24 : decode cX4_counts 24 = .ok (.iload_n 1, 1) := by decide +kernel
theorem dX4_counts_25 : decode cX4_counts 25 = .ok (.iaload, 1) := by decide +kernel
theorem dX4_counts_26 : decode cX4_counts 26 = .ok (.iload_n 2, 1) := by decide +kernel
theorem dX4_counts_27 : decode cX4_counts 27 = .ok (.if_icmp .le 7, 3) := by decide +kernel
theorem dX4_counts_30 : decode cX4_counts 30 = .ok (.iconst 1, 1) := by decide +kernel
theorem dX4_counts_31 : decode cX4_counts 31 = .ok (.goto 4, 3) := by decide +kernel
theorem dX4_counts_34 : decode cX4_counts 34 = .ok (.iconst 0, 1) := by decide +kernel
theorem dX4_counts_35 : decode cX4_counts 35 = .ok (.ireturn, 1) := by decide +kernel
set_option maxRecDepth 20000 in
theorem ggX4_gather_X3_canBe : GoodIn wsX4_gather wsX3_canBe := goodIn_r _ [14] (by decide +kernel) (by decide +kernel)
set_option maxRecDepth 20000 in
theorem gX4_gather_X3_canBe : GoodIn wsX4_gather (wsV RX4 68 RX3 yX3_canBe wsX3_canBe) := goodIn_app (goodIn_of _ (by decide +kernel)) ggX4_gather_X3_canBe
set_option maxRecDepth 20000 in
theorem ggX4_gather_X3_icingSet : GoodIn wsX4_gather wsX3_icingSet := goodIn_r _ [18, 19, 11, 12, 13, 14] (by decide +kernel) (by decide +kernel)
set_option maxRecDepth 20000 in
theorem gX4_gather_X3_icingSet : GoodIn wsX4_gather (wsV RX4 74 RX3 yX3_icingSet wsX3_icingSet) := goodIn_app (goodIn_of _ (by decide +kernel)) ggX4_gather_X3_icingSet
set_option maxRecDepth 20000 in
theorem ggX4_gather_X4_agrees : GoodIn wsX4_gather wsX4_agrees := goodIn_r _ [24, 25, 26, 27, 28, 29, 30, 31, 23, 32, 33, 34, 35, 36, 37, 38, 39, 40, 41, 42, 43, 44, 45, 46, 47, 48, 49] (by decide +kernel) (by decide +kernel)
set_option maxRecDepth 20000 in
theorem gX4_gather_X4_agrees : GoodIn wsX4_gather (wsV RX4 78 RX4 yX4_agrees wsX4_agrees) := goodIn_app (goodIn_of _ (by decide +kernel)) ggX4_gather_X4_agrees
theorem dX4_gather_0 : decode cX4_gather 0 = .ok (.aload_n 0, 1) := by decide +kernel
theorem dX4_gather_1 : decode cX4_gather 1 = .ok (.iconst 0, 1) := by decide +kernel
theorem dX4_gather_2 : decode cX4_gather 2 = .ok (.putfield 59, 3) := by decide +kernel
theorem dX4_gather_5 : decode cX4_gather 5 = .ok (.aload_n 0, 1) := by decide +kernel
theorem dX4_gather_6 : decode cX4_gather 6 = .ok (.getfield 9, 3) := by decide +kernel
theorem dX4_gather_9 : decode cX4_gather 9 = .ok (.getfield 50, 3) := by decide +kernel
theorem dX4_gather_12 : decode cX4_gather 12 = .ok (.ifCond .ne 8, 3) := by decide +kernel
theorem dX4_gather_15 : decode cX4_gather 15 = .ok (.aload_n 0, 1) := by decide +kernel
theorem dX4_gather_16 : decode cX4_gather 16 = .ok (.getfield 59, 3) := by decide +kernel
theorem dX4_gather_19 : decode cX4_gather 19 = .ok (.ireturn, 1) := by decide +kernel
theorem dX4_gather_20 : decode cX4_gather 20 = .ok (.aload_n 0, 1) := by decide +kernel
theorem dX4_gather_21 : decode cX4_gather 21 = .ok (.getfield 9, 3) := by decide +kernel
theorem dX4_gather_24 : decode cX4_gather 24 = .ok (.getfield 62, 3) := by decide +kernel
theorem dX4_gather_27 : decode cX4_gather 27 = .ok (.iconst 0, 1) := by decide +kernel
theorem dX4_gather_28 : decode cX4_gather 28 = .ok (.iaload, 1) := by decide +kernel
theorem dX4_gather_29 : decode cX4_gather 29 = .ok (.istore_n 2, 1) := by decide +kernel
theorem dX4_gather_30 : decode cX4_gather 30 = .ok (.aload_n 0, 1) := by decide +kernel
theorem dX4_gather_31 : decode cX4_gather 31 = .ok (.getfield 9, 3) := by decide +kernel
theorem dX4_gather_34 : decode cX4_gather 34 = .ok (.getfield 65, 3) := by decide +kernel
theorem dX4_gather_37 : decode cX4_gather 37 = .ok (.iconst 0, 1) := by decide +kernel
theorem dX4_gather_38 : decode cX4_gather 38 = .ok (.iaload, 1) := by decide +kernel
theorem dX4_gather_39 : decode cX4_gather 39 = .ok (.istore_n 3, 1) := by decide +kernel
theorem dX4_gather_40 : decode cX4_gather 40 = .ok (.iconst 1, 1) := by decide +kernel
theorem dX4_gather_41 : decode cX4_gather 41 = .ok (.istore 4, 2) := by decide +kernel
theorem dX4_gather_43 : decode cX4_gather 43 = .ok (.iload 4, 2) := by decide +kernel
theorem dX4_gather_45 : decode cX4_gather 45 = .ok (.iload_n 2, 1) := by decide +kernel
theorem dX4_gather_46 : decode cX4_gather 46 = .ok (.if_icmp .gt 130, 3) := by decide +kernel
theorem dX4_gather_49 : decode cX4_gather 49 = .ok (.iconst 1, 1) := by decide +kernel
theorem dX4_gather_50 : decode cX4_gather 50 = .ok (.istore 5, 2) := by decide +kernel
theorem dX4_gather_52 : decode cX4_gather 52 = .ok (.iload 5, 2) := by decide +kernel
theorem dX4_gather_54 : decode cX4_gather 54 = .ok (.iload_n 3, 1) := by decide +kernel
theorem dX4_gather_55 : decode cX4_gather 55 = .ok (.if_icmp .gt 115, 3) := by decide +kernel
theorem dX4_gather_58 : decode cX4_gather 58 = .ok (.aload_n 0, 1) := by decide +kernel
theorem dX4_gather_59 : decode cX4_gather 59 = .ok (.getfield 15, 3) := by decide +kernel
theorem dX4_gather_62 : decode cX4_gather 62 = .ok (.iload_n 2, 1) := by decide +kernel
theorem dX4_gather_63 : decode cX4_gather 63 = .ok (.iload_n 3, 1) := by decide +kernel
theorem dX4_gather_64 : decode cX4_gather 64 = .ok (.iload 4, 2) := by decide +kernel
theorem dX4_gather_66 : decode cX4_gather 66 = .ok (.iload 5, 2) := by decide +kernel
theorem dX4_gather_68 : decode cX4_gather 68 = .ok (.invokevirtual 68, 3) := by decide +kernel
theorem dX4_gather_71 : decode cX4_gather 71 = .ok (.ifCond .eq 93, 3) := by decide +kernel
theorem dX4_gather_74 : decode cX4_gather 74 = .ok (.aload_n 0, 1) := by decide +kernel
theorem dX4_gather_75 : decode cX4_gather 75 = .ok (.getfield 15, 3) := by decide +kernel
theorem dX4_gather_78 : decode cX4_gather 78 = .ok (.iload_n 2, 1) := by decide +kernel
theorem dX4_gather_79 : decode cX4_gather 79 = .ok (.iload_n 3, 1) := by decide +kernel
theorem dX4_gather_80 : decode cX4_gather 80 = .ok (.iload 4, 2) := by decide +kernel
theorem dX4_gather_82 : decode cX4_gather 82 = .ok (.iload 5, 2) := by decide +kernel
theorem dX4_gather_84 : decode cX4_gather 84 = .ok (.invokevirtual 74, 3) := by decide +kernel
theorem dX4_gather_87 : decode cX4_gather 87 = .ok (.lstore 6, 2) := by decide +kernel
theorem dX4_gather_89 : decode cX4_gather 89 = .ok (.iload_n 2, 1) := by decide +kernel
theorem dX4_gather_90 : decode cX4_gather 90 = .ok (.iload 4, 2) := by decide +kernel
theorem dX4_gather_92 : decode cX4_gather 92 = .ok (.idiv, 1) := by decide +kernel
theorem dX4_gather_93 : decode cX4_gather 93 = .ok (.iload_n 3, 1) := by decide +kernel
theorem dX4_gather_94 : decode cX4_gather 94 = .ok (.iload 5, 2) := by decide +kernel
theorem dX4_gather_96 : decode cX4_gather 96 = .ok (.idiv, 1) := by decide +kernel
theorem dX4_gather_97 : decode cX4_gather 97 = .ok (.imul, 1) := by decide +kernel
theorem dX4_gather_98 : decode cX4_gather 98 = .ok (.istore 8, 2) := by decide +kernel
theorem dX4_gather_100 : decode cX4_gather 100 = .ok (.aload_n 0, 1) := by decide +kernel
theorem dX4_gather_101 : decode cX4_gather 101 = .ok (.getfield 59, 3) := by decide +kernel
theorem dX4_gather_104 : decode cX4_gather 104 = .ok (.bipush 16, 2) := by decide +kernel
theorem dX4_gather_106 : decode cX4_gather 106 = .ok (.if_icmp .ge 58, 3) := by decide +kernel
theorem dX4_gather_109 : decode cX4_gather 109 = .ok (.aload_n 0, 1) := by decide +kernel
theorem dX4_gather_110 : decode cX4_gather 110 = .ok (.iload 8, 2) := by decide +kernel
theorem dX4_gather_112 : decode cX4_gather 112 = .ok (.lload 6, 2) := by decide +kernel
theorem dX4_gather_114 : decode cX4_gather 114 = .ok (.iload_n 1, 1) := by decide +kernel
theorem dX4_gather_115 : decode cX4_gather 115 = .ok (.invokevirtual 78, 3) := by decide +kernel
theorem dX4_gather_118 : decode cX4_gather 118 = .ok (.ifCond .eq 46, 3) := by decide +kernel
theorem dX4_gather_121 : decode cX4_gather 121 = .ok (.aload_n 0, 1) := by decide +kernel
theorem dX4_gather_122 : decode cX4_gather 122 = .ok (.getfield 36, 3) := by decide +kernel
theorem dX4_gather_125 : decode cX4_gather 125 = .ok (.aload_n 0, 1) := by decide +kernel
theorem dX4_gather_126 : decode cX4_gather 126 = .ok (.getfield 59, 3) := by decide +kernel
theorem dX4_gather_129 : decode cX4_gather 129 = .ok (.iload 4, 2) := by decide +kernel
theorem dX4_gather_131 : decode cX4_gather 131 = .ok (.iastore, 1) := by decide +kernel
theorem dX4_gather_132 : decode cX4_gather 132 = .ok (.aload_n 0, 1) := by decide +kernel
theorem dX4_gather_133 : decode cX4_gather 133 = .ok (.getfield 39, 3) := by decide +kernel
theorem dX4_gather_136 : decode cX4_gather 136 = .ok (.aload_n 0, 1) := by decide +kernel
theorem dX4_gather_137 : decode cX4_gather 137 = .ok (.getfield 59, 3) := by decide +kernel
theorem dX4_gather_140 : decode cX4_gather 140 = .ok (.iload 5, 2) := by decide +kernel
theorem dX4_gather_142 : decode cX4_gather 142 = .ok (.iastore, 1) := by decide +kernel
theorem dX4_gather_143 : decode cX4_gather 143 = .ok (.aload_n 0, 1) := by decide +kernel
theorem dX4_gather_144 : decode cX4_gather 144 = .ok (.getfield 42, 3) := by decide +kernel
theorem dX4_gather_147 : decode cX4_gather 147 = .ok (.aload_n 0, 1) := by decide +kernel
theorem dX4_gather_148 : decode cX4_gather 148 = .ok (.getfield 59, 3) := by decide +kernel
theorem dX4_gather_151 : decode cX4_gather 151 = .ok (.lload 6, 2) := by decide +kernel
theorem dX4_gather_153 : decode cX4_gather 153 = .ok (.lastore, 1) := by decide +kernel
theorem dX4_gather_154 : decode cX4_gather 154 = .ok (.aload_n 0, 1) := by decide +kernel
theorem dX4_gather_155 : decode cX4_gather 155 = .ok (.dup, 1) := by decide +kernel
theorem dX4_gather_156 : decode cX4_gather 156 = .ok (.getfield 59, 3) := by decide +kernel
theorem dX4_gather_159 : decode cX4_gather 159 = .ok (.iconst 1, 1) := by decide +kernel
theorem dX4_gather_160 : decode cX4_gather 160 = .ok (.iadd, 1) := by decide +kernel
theorem dX4_gather_161 : decode cX4_gather 161 = .ok (.putfield 59, 3) := by decide +kernel
theorem dX4_gather_164 : decode cX4_gather 164 = .ok (.iinc 5 1, 3) := by decide +kernel
theorem dX4_gather_167 : decode cX4_gather 167 = .ok (.goto (-115), 3) := by decide +kernel
theorem dX4_gather_170 : decode cX4_gather 170 = .ok (.iinc 4 1, 3) := by decide +kernel
theorem dX4_gather_173 : decode cX4_gather 173 = .ok (.goto (-130), 3) := by decide +kernel
theorem dX4_gather_176 : decode cX4_gather 176 = .ok (.aload_n 0, 1) := by decide +kernel
theorem dX4_gather_177 : decode cX4_gather 177 = .ok (.getfield 59, 3) := by decide +kernel
theorem dX4_gather_180 : decode cX4_gather 180 = .ok (.ireturn, 1) := by decide +kernel
set_option maxRecDepth 20000 in
theorem ggX4_agrees_X4_counts : GoodIn wsX4_agrees wsX4_counts := goodIn_r _ [9, 10, 11, 12, 13, 14, 15, 16, 17, 18, 19, 20, 21, 22, 23, 24, 25, 26] (by decide +kernel) (by decide +kernel)
set_option maxRecDepth 20000 in
theorem gX4_agrees_X4_counts : GoodIn wsX4_agrees (wsV RX4 82 RX4 yX4_counts wsX4_counts) := goodIn_app (goodIn_of _ (by decide +kernel)) ggX4_agrees_X4_counts
theorem dX4_agrees_0 : decode cX4_agrees 0 = .ok (.iconst 0, 1) := by decide +kernel
theorem dX4_agrees_1 : decode cX4_agrees 1 = .ok (.istore 5, 2) := by decide +kernel
theorem dX4_agrees_3 : decode cX4_agrees 3 = .ok (.iload 5, 2) := by decide +kernel
theorem dX4_agrees_5 : decode cX4_agrees 5 = .ok (.aload_n 0, 1) := by decide +kernel
theorem dX4_agrees_6 : decode cX4_agrees 6 = .ok (.getfield 46, 3) := by decide +kernel
theorem dX4_agrees_9 : decode cX4_agrees 9 = .ok (.if_icmp .ge 86, 3) := by decide +kernel
theorem dX4_agrees_12 : decode cX4_agrees 12 = .ok (.aload_n 0, 1) := by decide +kernel
theorem dX4_agrees_13 : decode cX4_agrees 13 = .ok (.iload 5, 2) := by decide +kernel
theorem dX4_agrees_15 : decode cX4_agrees 15 = .ok (.iload 4, 2) := by decide +kernel
theorem dX4_agrees_17 : decode cX4_agrees 17 = .ok (.invokevirtual 82, 3) := by decide +kernel
theorem dX4_agrees_20 : decode cX4_agrees 20 = .ok (.ifCond .eq 69, 3) := by decide +kernel
theorem dX4_agrees_23 : decode cX4_agrees 23 = .ok (.aload_n 0, 1) := by decide +kernel
theorem dX4_agrees_24 : decode cX4_agrees 24 = .ok (.getfield 19, 3) := by decide +kernel
theorem dX4_agrees_27 : decode cX4_agrees 27 = .ok (.iload 5, 2) := by decide +kernel
theorem dX4_agrees_29 : decode cX4_agrees 29 = .ok (.iaload, 1) := by decide +kernel
theorem dX4_agrees_30 : decode cX4_agrees 30 = .ok (.ifCond .ne 22, 3) := by decide +kernel
theorem dX4_agrees_33 : decode cX4_agrees 33 = .ok (.iload_n 1, 1) := by decide +kernel
theorem dX4_agrees_34 : decode cX4_agrees 34 = .ok (.aload_n 0, 1) := by decide +kernel
theorem dX4_agrees_35 : decode cX4_agrees 35 = .ok (.getfield 23, 3) := by decide +kernel
theorem dX4_agrees_38 : decode cX4_agrees 38 = .ok (.iload 5, 2) := by decide +kernel
theorem dX4_agrees_40 : decode cX4_agrees 40 = .ok (.iaload, 1) := by decide +kernel
theorem dX4_agrees_41 : decode cX4_agrees 41 = .ok (.if_icmp .ne 7, 3) := by decide +kernel
theorem dX4_agrees_44 : decode cX4_agrees 44 = .ok (.iconst 1, 1) := by decide +kernel
theorem dX4_agrees_45 : decode cX4_agrees 45 = .ok (.goto 28, 3) := by decide +kernel
theorem dX4_agrees_48 : decode cX4_agrees 48 = .ok (.iconst 0, 1) := by decide +kernel
theorem dX4_agrees_49 : decode cX4_agrees 49 = .ok (.goto 24, 3) := by decide +kernel
theorem dX4_agrees_52 : decode cX4_agrees 52 = .ok (.lload_n 2, 1) := by decide +kernel
theorem dX4_agrees_53 : decode cX4_agrees 53 = .ok (.aload_n 0, 1) := by decide +kernel
theorem dX4_agrees_54 : decode cX4_agrees 54 = .ok (.getfield 23, 3) := by decide +kernel
theorem dX4_agrees_57 : decode cX4_agrees 57 = .ok (.iload 5, 2) := by decide +kernel
theorem dX4_agrees_59 : decode cX4_agrees 59 = .ok (.iaload, 1) := by decide +kernel
theorem dX4_agrees_60 : decode cX4_agrees 60 = .ok (.lshr, 1) := by decide +kernel
theorem dX4_agrees_61 : decode cX4_agrees 61 = .ok (.lconst 1, 1) := by decide +kernel
theorem dX4_agrees_62 : decode cX4_agrees 62 = .ok (.land, 1) := by decide +kernel
theorem dX4_agrees_63 : decode cX4_agrees 63 = .ok (.lconst 1, 1) := by decide +kernel
theorem dX4_agrees_64 : decode cX4_agrees 64 = .ok (.lcmp, 1) := by decide +kernel
theorem dX4_agrees_65 : decode cX4_agrees 65 = .ok (.ifCond .ne 7, 3) := by decide +kernel
theorem dX4_agrees_68 : decode cX4_agrees 68 = .ok (.iconst 1, 1) := by decide +kernel
theorem dX4_agrees_69 : decode cX4_agrees 69 = .ok (.goto 4, 3) := by decide +kernel
theorem dX4_agrees_72 : decode cX4_agrees 72 = .ok (.iconst 0, 1) := by decide +kernel
theorem dX4_agrees_73 : decode cX4_agrees 73 = .ok (.istore 6, 2) := by decide +kernel
theorem dX4_agrees_75 : decode cX4_agrees 75 = .ok (.iload 6, 2) := by decide +kernel
theorem dX4_agrees_77 : decode cX4_agrees 77 = .ok (.aload_n 0, 1) := by decide +kernel
theorem dX4_agrees_78 : decode cX4_agrees 78 = .ok (.getfield 26, 3) := by decide +kernel
theorem dX4_agrees_81 : decode cX4_agrees 81 = .ok (.iload 5, 2) := by decide +kernel
theorem dX4_agrees_83 : decode cX4_agrees 83 = .ok (.baload, 1) := by decide +kernel
theorem dX4_agrees_84 : decode cX4_agrees 84 = .ok (.if_icmp .eq 5, 3) := by decide +kernel
theorem dX4_agrees_87 : decode cX4_agrees 87 = .ok (.iconst 0, 1) := by decide +kernel
theorem dX4_agrees_88 : decode cX4_agrees 88 = .ok (.ireturn, 1) := by decide +kernel
theorem dX4_agrees_89 : decode cX4_agrees 89 = .ok (.iinc 5 1, 3) := by decide +kernel
theorem dX4_agrees_92 : decode cX4_agrees 92 = .ok (.goto (-89), 3) := by decide +kernel
theorem dX4_agrees_95 : decode cX4_agrees 95 = .ok (.iconst 1, 1) := by decide +kernel
theorem dX4_agrees_96 : decode cX4_agrees 96 = .ok (.ireturn, 1) := by decide +kernel
theorem dX4_sameInAll_0 : decode cX4_sameInAll 0 = .ok (.iconst 1, 1) := by decide +kernel
theorem dX4_sameInAll_1 : decode cX4_sameInAll 1 = .ok (.istore_n 2, 1) := by decide +kernel
theorem dX4_sameInAll_2 : decode cX4_sameInAll 2 = .ok (.iload_n 2, 1) := by decide +kernel
theorem dX4_sameInAll_3 : decode cX4_sameInAll 3 = .ok (.aload_n 0, 1) := by decide +kernel
theorem dX4_sameInAll_4 : decode cX4_sameInAll 4 = .ok (.getfield 59, 3) := by decide +kernel
theorem dX4_sameInAll_7 : decode cX4_sameInAll 7 = .ok (.if_icmp .ge 27, 3) := by decide +kernel
theorem dX4_sameInAll_10 : decode cX4_sameInAll 10 = .ok (.iload_n 2, 1) := by decide +kernel
theorem dX4_sameInAll_11 : decode cX4_sameInAll 11 = .ok (.aload_n 1, 1) := by decide +kernel
theorem dX4_sameInAll_12 : decode cX4_sameInAll 12 = .ok (.arraylength, 1) := by decide +kernel
theorem dX4_sameInAll_13 : decode cX4_sameInAll 13 = .ok (.if_icmp .ge 21, 3) := by decide +kernel
theorem dX4_sameInAll_16 : decode cX4_sameInAll 16 = .ok (.aload_n 1, 1) := by decide +kernel
theorem dX4_sameInAll_17 : decode cX4_sameInAll 17 = .ok (.iload_n 2, 1) := by decide +kernel
theorem dX4_sameInAll_18 : decode cX4_sameInAll 18 = .ok (.iaload, 1) := by decide +kernel
theorem dX4_sameInAll_19 : decode cX4_sameInAll 19 = .ok (.aload_n 1, 1) := by decide +kernel
theorem dX4_sameInAll_20 : decode cX4_sameInAll 20 = .ok (.iconst 0, 1) := by decide +kernel
theorem dX4_sameInAll_21 : decode cX4_sameInAll 21 = .ok (.iaload, 1) := by decide +kernel
theorem dX4_sameInAll_22 : decode cX4_sameInAll 22 = .ok (.if_icmp .eq 6, 3) := by decide +kernel
theorem dX4_sameInAll_25 : decode cX4_sameInAll 25 = .ok (.bipush (-2), 2) := by decide +kernel
theorem dX4_sameInAll_27 : decode cX4_sameInAll 27 = .ok (.ireturn, 1) := by decide +kernel
theorem dX4_sameInAll_28 : decode cX4_sameInAll 28 = .ok (.iinc 2 1, 3) := by decide +kernel
theorem dX4_sameInAll_31 : decode cX4_sameInAll 31 = .ok (.goto (-29), 3) := by decide +kernel
theorem dX4_sameInAll_34 : decode cX4_sameInAll 34 = .ok (.aload_n 0, 1) := by decide +kernel
theorem dX4_sameInAll_35 : decode cX4_sameInAll 35 = .ok (.getfield 59, 3) := by decide +kernel
theorem dX4_sameInAll_38 : decode cX4_sameInAll 38 = .ok (.ifCond .le 14, 3) := by decide +kernel
theorem dX4_sameInAll_41 : decode cX4_sameInAll 41 = .ok (.aload_n 1, 1) := by decide +kernel
theorem dX4_sameInAll_42 : decode cX4_sameInAll 42 = .ok (.arraylength, 1) := by decide +kernel
theorem dX4_sameInAll_43 : decode cX4_sameInAll 43 = .ok (.ifCond .le 9, 3) := by decide +kernel
theorem dX4_sameInAll_46 : decode cX4_sameInAll 46 = .ok (.aload_n 1, 1) := by decide +kernel
theorem dX4_sameInAll_47 : decode cX4_sameInAll 47 = .ok (.iconst 0, 1) := by decide +kernel
theorem dX4_sameInAll_48 : decode cX4_sameInAll 48 = .ok (.iaload, 1) := by decide +kernel
theorem dX4_sameInAll_49 : decode cX4_sameInAll 49 = .ok (.goto 4, 3) := by decide +kernel
theorem dX4_sameInAll_52 : decode cX4_sameInAll 52 = .ok (.iconst (-1), 1) := by decide +kernel
theorem dX4_sameInAll_53 : decode cX4_sameInAll 53 = .ok (.ireturn, 1) := by decide +kernel
theorem dX4_findQuestion_0 : decode cX4_findQuestion 0 = .ok (.aload_n 0, 1) := by decide +kernel
theorem dX4_findQuestion_1 : decode cX4_findQuestion 1 = .ok (.iconst (-1), 1) := by decide +kernel
theorem dX4_findQuestion_2 : decode cX4_findQuestion 2 = .ok (.putfield 86, 3) := by decide +kernel
theorem dX4_findQuestion_5 : decode cX4_findQuestion 5 = .ok (.iconst 0, 1) := by decide +kernel
theorem dX4_findQuestion_6 : decode cX4_findQuestion 6 = .ok (.istore_n 1, 1) := by decide +kernel
theorem dX4_findQuestion_7 : decode cX4_findQuestion 7 = .ok (.iload_n 1, 1) := by decide +kernel
theorem dX4_findQuestion_8 : decode cX4_findQuestion 8 = .ok (.bipush 32, 2) := by decide +kernel
theorem dX4_findQuestion_10 : decode cX4_findQuestion 10 = .ok (.if_icmp .gt 82, 3) := by decide +kernel
theorem dX4_findQuestion_13 : decode cX4_findQuestion 13 = .ok (.iconst 0, 1) := by decide +kernel
theorem dX4_findQuestion_14 : decode cX4_findQuestion 14 = .ok (.istore_n 2, 1) := by decide +kernel
theorem dX4_findQuestion_15 : decode cX4_findQuestion 15 = .ok (.iconst 0, 1) := by decide +kernel
theorem dX4_findQuestion_16 : decode cX4_findQuestion 16 = .ok (.istore_n 3, 1) := by decide +kernel
theorem dX4_findQuestion_17 : decode cX4_findQuestion 17 = .ok (.iload_n 3, 1) := by decide +kernel
theorem dX4_findQuestion_18 : decode cX4_findQuestion 18 = .ok (.aload_n 0, 1) := by decide +kernel
theorem dX4_findQuestion_19 : decode cX4_findQuestion 19 = .ok (.getfield 59, 3) := by decide +kernel
theorem dX4_findQuestion_22 : decode cX4_findQuestion 22 = .ok (.if_icmp .ge 27, 3) := by decide +kernel
theorem dX4_findQuestion_25 : decode cX4_findQuestion 25 = .ok (.aload_n 0, 1) := by decide +kernel
theorem dX4_findQuestion_26 : decode cX4_findQuestion 26 = .ok (.getfield 42, 3) := by decide +kernel
theorem dX4_findQuestion_29 : decode cX4_findQuestion 29 = .ok (.iload_n 3, 1) := by decide +kernel
theorem dX4_findQuestion_30 : decode cX4_findQuestion 30 = .ok (.laload, 1) := by decide +kernel
theorem dX4_findQuestion_31 : decode cX4_findQuestion 31 = .ok (.iload_n 1, 1) := by decide +kernel
theorem dX4_findQuestion_32 : decode cX4_findQuestion 32 = .ok (.lshr, 1) := by decide +kernel
theorem dX4_findQuestion_33 : decode cX4_findQuestion 33 = .ok (.lconst 1, 1) := by decide +kernel
theorem dX4_findQuestion_34 : decode cX4_findQuestion 34 = .ok (.land, 1) := by decide +kernel
theorem dX4_findQuestion_35 : decode cX4_findQuestion 35 = .ok (.lconst 1, 1) := by decide +kernel
theorem dX4_findQuestion_36 : decode cX4_findQuestion 36 = .ok (.lcmp, 1) := by decide +kernel
theorem dX4_findQuestion_37 : decode cX4_findQuestion 37 = .ok (.ifCond .ne 6, 3) := by decide +kernel
theorem dX4_findQuestion_40 : decode cX4_findQuestion 40 = .ok (.iinc 2 1, 3) := by decide +kernel
theorem dX4_findQuestion_43 : decode cX4_findQuestion 43 = .ok (.iinc 3 1, 3) := by decide +kernel
theorem dX4_findQuestion_46 : decode cX4_findQuestion 46 = .ok (.goto (-29), 3) := by decide +kernel
theorem dX4_findQuestion_49 : decode cX4_findQuestion 49 = .ok (.iload_n 2, 1) := by decide +kernel
theorem dX4_findQuestion_50 : decode cX4_findQuestion 50 = .ok (.aload_n 0, 1) := by decide +kernel
theorem dX4_findQuestion_51 : decode cX4_findQuestion 51 = .ok (.getfield 59, 3) := by decide +kernel
theorem dX4_findQuestion_54 : decode cX4_findQuestion 54 = .ok (.iload_n 2, 1) := by decide +kernel
theorem dX4_findQuestion_55 : decode cX4_findQuestion 55 = .ok (.isub, 1) := by decide +kernel
theorem dX4_findQuestion_56 : decode cX4_findQuestion 56 = .ok (.invokestatic 89, 3) := by decide +kernel
theorem dX4_findQuestion_59 : decode cX4_findQuestion 59 = .ok (.istore_n 3, 1) := by decide +kernel
theorem dX4_findQuestion_60 : decode cX4_findQuestion 60 = .ok (.aload_n 0, 1) := by decide +kernel
theorem dX4_findQuestion_61 : decode cX4_findQuestion 61 = .ok (.getfield 86, 3) := by decide +kernel
theorem dX4_findQuestion_64 : decode cX4_findQuestion 64 = .ok (.iconst (-1), 1) := by decide +kernel
theorem dX4_findQuestion_65 : decode cX4_findQuestion 65 = .ok (.if_icmp .eq 11, 3) := by decide +kernel
theorem dX4_findQuestion_68 : decode cX4_findQuestion 68 = .ok (.iload_n 3, 1) := by decide +kernel
theorem dX4_findQuestion_69 : decode cX4_findQuestion 69 = .ok (.aload_n 0, 1) := by decide +kernel
theorem dX4_findQuestion_70 : decode cX4_findQuestion 70 = .ok (.getfield 95, 3) := by decide +kernel
theorem dX4_findQuestion_73 : decode cX4_findQuestion 73 = .ok (.if_icmp .ge 13, 3) := by decide +kernel
theorem dX4_findQuestion_76 : decode cX4_findQuestion 76 = .ok (.aload_n 0, 1) := by decide +kernel
theorem dX4_findQuestion_77 : decode cX4_findQuestion 77 = .ok (.iload_n 1, 1) := by decide +kernel
theorem dX4_findQuestion_78 : decode cX4_findQuestion 78 = .ok (.putfield 86, 3) := by decide +kernel
theorem dX4_findQuestion_81 : decode cX4_findQuestion 81 = .ok (.aload_n 0, 1) := by decide +kernel
theorem dX4_findQuestion_82 : decode cX4_findQuestion 82 = .ok (.iload_n 3, 1) := by decide +kernel
theorem dX4_findQuestion_83 : decode cX4_findQuestion 83 = .ok (.putfield 95, 3) := by decide +kernel
theorem dX4_findQuestion_86 : decode cX4_findQuestion 86 = .ok (.iinc 1 1, 3) := by decide +kernel
theorem dX4_findQuestion_89 : decode cX4_findQuestion 89 = .ok (.goto (-82), 3) := by decide +kernel
theorem dX4_findQuestion_92 : decode cX4_findQuestion 92 = .ok (.return_, 1) := by decide +kernel
set_option maxRecDepth 20000 in
theorem ggX5_init_X9_init : GoodIn wsX5_init wsX9_init := goodIn_r _ [17, 18, 2, 3, 19, 36, 37, 38, 39, 40, 41, 42] (by decide +kernel) (by decide +kernel)
set_option maxRecDepth 20000 in
theorem gX5_init_X9_init : GoodIn wsX5_init (wsX9_init) := ggX5_init_X9_init
theorem dX5_init_0 : decode cX5_init 0 = .ok (.aload_n 0, 1) := by decide +kernel
theorem dX5_init_1 : decode cX5_init 1 = .ok (.invokespecial 3, 3) := by decide +kernel
theorem dX5_init_4 : decode cX5_init 4 = .ok (.aload_n 0, 1) := by decide +kernel
theorem dX5_init_5 : decode cX5_init 5 = .ok (.aload_n 1, 1) := by decide +kernel
theorem dX5_init_6 : decode cX5_init 6 = .ok (.putfield 9, 3) := by decide +kernel
theorem dX5_init_9 : decode cX5_init 9 = .ok (.aload_n 0, 1) := by decide +kernel
theorem dX5_init_10 : decode cX5_init 10 = .ok (.aload_n 2, 1) := by decide +kernel
theorem dX5_init_11 : decode cX5_init 11 = .ok (.putfield 15, 3) := by decide +kernel
theorem dX5_init_14 : decode cX5_init 14 = .ok (.aload_n 0, 1) := by decide +kernel
theorem dX5_init_15 : decode cX5_init 15 = .ok (.aload_n 3, 1) := by decide +kernel
theorem dX5_init_16 : decode cX5_init 16 = .ok (.putfield 19, 3) := by decide +kernel
theorem dX5_init_19 : decode cX5_init 19 = .ok (.aload_n 0, 1) := by decide +kernel
theorem dX5_init_20 : decode cX5_init 20 = .ok (.new 23, 3) := by decide +kernel
theorem dX5_init_23 : decode cX5_init 23 = .ok (.dup, 1) := by decide +kernel
theorem dX5_init_24 : decode cX5_init 24 = .ok (.invokespecial 25, 3) := by decide +kernel
theorem dX5_init_27 : decode cX5_init 27 = .ok (.putfield 26, 3) := by decide +kernel
theorem dX5_init_30 : decode cX5_init 30 = .ok (.aload_n 0, 1) := by decide +kernel
theorem dX5_init_31 : decode cX5_init 31 = .ok (.new 23, 3) := by decide +kernel
theorem dX5_init_34 : decode cX5_init 34 = .ok (.dup, 1) := by decide +kernel
theorem dX5_init_35 : decode cX5_init 35 = .ok (.invokespecial 25, 3) := by decide +kernel
theorem dX5_init_38 : decode cX5_init 38 = .ok (.putfield 30, 3) := by decide +kernel
theorem dX5_init_41 : decode cX5_init 41 = .ok (.aload_n 0, 1) := by decide +kernel
theorem dX5_init_42 : decode cX5_init 42 = .ok (.sipush 144, 3) := by decide +kernel
theorem dX5_init_45 : decode cX5_init 45 = .ok (.newarray .int, 2) := by decide +kernel
theorem dX5_init_47 : decode cX5_init 47 = .ok (.putfield 33, 3) := by decide +kernel
theorem dX5_init_50 : decode cX5_init 50 = .ok (.aload_n 0, 1) := by decide +kernel
theorem dX5_init_51 : decode cX5_init 51 = .ok (.bipush 6, 2) := by decide +kernel
theorem dX5_init_53 : decode cX5_init 53 = .ok (.newarray .int, 2) := by decide +kernel
theorem dX5_init_55 : decode cX5_init 55 = .ok (.putfield 37, 3) := by decide +kernel
theorem dX5_init_58 : decode cX5_init 58 = .ok (.return_, 1) := by decide +kernel
set_option maxRecDepth 20000 in
theorem ggX5_findHalves_X1_isFree : GoodIn wsX5_findHalves wsX1_isFree := goodIn_r _ [14, 15, 16, 17, 18, 19, 13, 20, 21, 119, 120, 121, 122, 123, 124, 125, 126, 127, 128, 129, 130, 131] (by decide +kernel) (by decide +kernel)
set_option maxRecDepth 20000 in
theorem gX5_findHalves_X1_isFree : GoodIn wsX5_findHalves (wsV RX5 40 RX1 yX1_isFree wsX1_isFree) := goodIn_app (goodIn_of _ (by decide +kernel)) ggX5_findHalves_X1_isFree
set_option maxRecDepth 20000 in
theorem ggX5_findHalves_X9_extent : GoodIn wsX5_findHalves wsX9_extent := goodIn_r _ [26, 27, 28, 125, 126, 127, 128, 129, 130, 131] (by decide +kernel) (by decide +kernel)
set_option maxRecDepth 20000 in
theorem gX5_findHalves_X9_extent : GoodIn wsX5_findHalves (wsV RX5 50 RX9 yX9_extent wsX9_extent) := goodIn_app (goodIn_of _ (by decide +kernel)) ggX5_findHalves_X9_extent
set_option maxRecDepth 20000 in
theorem ggX5_findHalves_X9_takeFrom : GoodIn wsX5_findHalves wsX9_takeFrom := goodIn_r _ [32, 33, 34, 35, 27, 28, 36, 37, 125, 126, 127, 128, 129, 130, 131] (by decide +kernel) (by decide +kernel)
set_option maxRecDepth 20000 in
theorem gX5_findHalves_X9_takeFrom : GoodIn wsX5_findHalves (wsV RX5 54 RX9 yX9_takeFrom wsX9_takeFrom) := goodIn_app (goodIn_of _ (by decide +kernel)) ggX5_findHalves_X9_takeFrom
set_option maxRecDepth 20000 in
theorem ggX5_findHalves_X9_keepAhead : GoodIn wsX5_findHalves wsX9_keepAhead := goodIn_r _ [41, 27, 28, 125, 126, 127, 128, 129, 130, 131] (by decide +kernel) (by decide +kernel)
set_option maxRecDepth 20000 in
theorem gX5_findHalves_X9_keepAhead : GoodIn wsX5_findHalves (wsV RX5 58 RX9 yX9_keepAhead wsX9_keepAhead) := goodIn_app (goodIn_of _ (by decide +kernel)) ggX5_findHalves_X9_keepAhead
set_option maxRecDepth 20000 in
theorem ggX5_findHalves_X9_keepBehind : GoodIn wsX5_findHalves wsX9_keepBehind := goodIn_r _ [45, 34, 27, 35, 28, 125, 126, 127, 128, 129, 130, 131] (by decide +kernel) (by decide +kernel)
set_option maxRecDepth 20000 in
theorem gX5_findHalves_X9_keepBehind : GoodIn wsX5_findHalves (wsV RX5 62 RX9 yX9_keepBehind wsX9_keepBehind) := goodIn_app (goodIn_of _ (by decide +kernel)) ggX5_findHalves_X9_keepBehind
set_option maxRecDepth 20000 in
theorem ggX5_findHalves_X10_ofSlab : GoodIn wsX5_findHalves wsX10_ofSlab := goodIn_r _ [50, 51, 52, 53, 54, 55, 56, 57, 49, 58, 59, 60, 61, 62, 63, 64, 65, 66, 67, 68, 69, 70, 71, 72, 73, 74, 75, 76, 77, 78, 79, 80, 81, 82, 83, 84, 85, 86, 87, 88, 89, 90, 91, 92, 93, 94, 95, 96, 97, 98, 99, 100, 101, 102, 132, 133, 134, 135, 136, 137, 138, 139, 140, 141, 142, 143, 144, 145, 146, 147, 148, 149, 150, 151, 152, 153, 154, 125, 126, 127, 128, 129, 130, 131, 119, 120, 121, 122, 123, 124, 155, 156, 157, 158, 159] (by decide +kernel) (by decide +kernel)
set_option maxRecDepth 20000 in
theorem gX5_findHalves_X10_ofSlab : GoodIn wsX5_findHalves (wsV RX5 65 RX10 yX10_ofSlab wsX10_ofSlab) := goodIn_app (goodIn_of _ (by decide +kernel)) ggX5_findHalves_X10_ofSlab
theorem dX5_findHalves_0 : decode cX5_findHalves 0 = .ok (.aload_n 0, 1) := by decide +kernel
theorem dX5_findHalves_1 : decode cX5_findHalves 1 = .ok (.getfield 15, 3) := by decide +kernel
theorem dX5_findHalves_4 : decode cX5_findHalves 4 = .ok (.iload_n 1, 1) := by decide +kernel
theorem dX5_findHalves_5 : decode cX5_findHalves 5 = .ok (.invokevirtual 40, 3) := by decide +kernel
theorem dX5_findHalves_8 : decode cX5_findHalves 8 = .ok (.ifCond .ne 5, 3) := by decide +kernel
theorem dX5_findHalves_11 : decode cX5_findHalves 11 = .ok (.iconst 0, 1) := by decide +kernel
theorem dX5_findHalves_12 : decode cX5_findHalves 12 = .ok (.ireturn, 1) := by decide +kernel
theorem dX5_findHalves_13 : decode cX5_findHalves 13 = .ok (.aload_n 0, 1) := by decide +kernel
theorem dX5_findHalves_14 : decode cX5_findHalves 14 = .ok (.getfield 15, 3) := by decide +kernel
theorem dX5_findHalves_17 : decode cX5_findHalves 17 = .ok (.getfield 46, 3) := by decide +kernel
theorem dX5_findHalves_20 : decode cX5_findHalves 20 = .ok (.iload_n 1, 1) := by decide +kernel
theorem dX5_findHalves_21 : decode cX5_findHalves 21 = .ok (.aaload, 1) := by decide +kernel
theorem dX5_findHalves_22 : decode cX5_findHalves 22 = .ok (.astore 4, 2) := by decide +kernel
theorem dX5_findHalves_24 : decode cX5_findHalves 24 = .ok (.iconst 0, 1) := by decide +kernel
theorem dX5_findHalves_25 : decode cX5_findHalves 25 = .ok (.istore 5, 2) := by decide +kernel
theorem dX5_findHalves_27 : decode cX5_findHalves 27 = .ok (.iconst 0, 1) := by decide +kernel
theorem dX5_findHalves_28 : decode cX5_findHalves 28 = .ok (.istore 6, 2) := by decide +kernel
theorem dX5_findHalves_30 : decode cX5_findHalves 30 = .ok (.iload 6, 2) := by decide +kernel
theorem dX5_findHalves_32 : decode cX5_findHalves 32 = .ok (.iconst 1, 1) := by decide +kernel
theorem dX5_findHalves_33 : decode cX5_findHalves 33 = .ok (.if_icmp .gt 179, 3) := by decide +kernel
theorem dX5_findHalves_36 : decode cX5_findHalves 36 = .ok (.iconst 1, 1) := by decide +kernel
theorem dX5_findHalves_37 : decode cX5_findHalves 37 = .ok (.istore 7, 2) := by decide +kernel
theorem dX5_findHalves_39 : decode cX5_findHalves 39 = .ok (.iload 7, 2) := by decide +kernel
theorem dX5_findHalves_41 : decode cX5_findHalves 41 = .ok (.aload 4, 2) := by decide +kernel
theorem dX5_findHalves_43 : decode cX5_findHalves 43 = .ok (.iload 6, 2) := by decide +kernel
theorem dX5_findHalves_45 : decode cX5_findHalves 45 = .ok (.invokevirtual 50, 3) := by decide +kernel
theorem dX5_findHalves_48 : decode cX5_findHalves 48 = .ok (.if_icmp .ge 158, 3) := by decide +kernel
theorem dX5_findHalves_51 : decode cX5_findHalves 51 = .ok (.aload_n 0, 1) := by decide +kernel
theorem dX5_findHalves_52 : decode cX5_findHalves 52 = .ok (.getfield 26, 3) := by decide +kernel
theorem dX5_findHalves_55 : decode cX5_findHalves 55 = .ok (.aload 4, 2) := by decide +kernel
theorem dX5_findHalves_57 : decode cX5_findHalves 57 = .ok (.invokevirtual 54, 3) := by decide +kernel
theorem dX5_findHalves_60 : decode cX5_findHalves 60 = .ok (.aload_n 0, 1) := by decide +kernel
theorem dX5_findHalves_61 : decode cX5_findHalves 61 = .ok (.getfield 26, 3) := by decide +kernel
theorem dX5_findHalves_64 : decode cX5_findHalves 64 = .ok (.iload 6, 2) := by decide +kernel
theorem dX5_findHalves_66 : decode cX5_findHalves 66 = .ok (.iload 7, 2) := by decide +kernel
theorem dX5_findHalves_68 : decode cX5_findHalves 68 = .ok (.invokevirtual 58, 3) := by decide +kernel
theorem dX5_findHalves_71 : decode cX5_findHalves 71 = .ok (.aload_n 0, 1) := by decide +kernel
theorem dX5_findHalves_72 : decode cX5_findHalves 72 = .ok (.getfield 30, 3) := by decide +kernel
theorem dX5_findHalves_75 : decode cX5_findHalves 75 = .ok (.aload 4, 2) := by decide +kernel
theorem dX5_findHalves_77 : decode cX5_findHalves 77 = .ok (.invokevirtual 54, 3) := by decide +kernel
theorem dX5_findHalves_80 : decode cX5_findHalves 80 = .ok (.aload_n 0, 1) := by decide +kernel
theorem dX5_findHalves_81 : decode cX5_findHalves 81 = .ok (.getfield 30, 3) := by decide +kernel
theorem dX5_findHalves_84 : decode cX5_findHalves 84 = .ok (.iload 6, 2) := by decide +kernel
theorem dX5_findHalves_86 : decode cX5_findHalves 86 = .ok (.iload 7, 2) := by decide +kernel
theorem dX5_findHalves_88 : decode cX5_findHalves 88 = .ok (.invokevirtual 62, 3) := by decide +kernel
theorem dX5_findHalves_91 : decode cX5_findHalves 91 = .ok (.aload_n 0, 1) := by decide +kernel
theorem dX5_findHalves_92 : decode cX5_findHalves 92 = .ok (.getfield 19, 3) := by decide +kernel
theorem dX5_findHalves_95 : decode cX5_findHalves 95 = .ok (.iload_n 3, 1) := by decide +kernel
theorem dX5_findHalves_96 : decode cX5_findHalves 96 = .ok (.aload_n 0, 1) := by decide +kernel
theorem dX5_findHalves_97 : decode cX5_findHalves 97 = .ok (.getfield 30, 3) := by decide +kernel
theorem dX5_findHalves_100 : decode cX5_findHalves 100 = .ok (.invokevirtual 65, 3) := by decide +kernel
theorem dX5_findHalves_103 : decode cX5_findHalves 103 = .ok (.aload_n 0, 1) := by decide +kernel
theorem dX5_findHalves_104 : decode cX5_findHalves 104 = .ok (.getfield 19, 3) := by decide +kernel
theorem dX5_findHalves_107 : decode cX5_findHalves 107 = .ok (.iload_n 3, 1) := by decide +kernel
theorem dX5_findHalves_108 : decode cX5_findHalves 108 = .ok (.aload_n 0, 1) := by decide +kernel
theorem dX5_findHalves_109 : decode cX5_findHalves 109 = .ok (.getfield 26, 3) := by decide +kernel
theorem dX5_findHalves_112 : decode cX5_findHalves 112 = .ok (.invokevirtual 65, 3) := by decide +kernel
theorem dX5_findHalves_115 : decode cX5_findHalves 115 = .ok (.if_icmp .le 7, 3) := by decide +kernel
theorem dX5_findHalves_118 : decode cX5_findHalves 118 = .ok (.iconst 1, 1) := by decide +kernel
theorem dX5_findHalves_119 : decode cX5_findHalves 119 = .ok (.goto 4, 3) := by decide +kernel
theorem dX5_findHalves_122 : decode cX5_findHalves 122 = .ok (.iconst 0, 1) := by decide +kernel
theorem dX5_findHalves_123 : decode cX5_findHalves 123 = .ok (.istore 8, 2) := by decide +kernel
theorem dX5_findHalves_125 : decode cX5_findHalves 125 = .ok (.aload_n 0, 1) := by decide +kernel
theorem dX5_findHalves_126 : decode cX5_findHalves 126 = .ok (.getfield 19, 3) := by decide +kernel
theorem dX5_findHalves_129 : decode cX5_findHalves 129 = .ok (.iload_n 2, 1) := by decide +kernel
theorem dX5_findHalves_130 : decode cX5_findHalves 130 = .ok (.iload 8, 2) := by decide +kernel
theorem dX5_findHalves_132 : decode cX5_findHalves 132 = .ok (.ifCond .eq 10, 3) := by decide +kernel
theorem dX5_findHalves_135 : decode cX5_findHalves 135 = .ok (.aload_n 0, 1) := by decide +kernel
theorem dX5_findHalves_136 : decode cX5_findHalves 136 = .ok (.getfield 26, 3) := by decide +kernel
theorem dX5_findHalves_139 : decode cX5_findHalves 139 = .ok (.goto 7, 3) := by decide +kernel
theorem dX5_findHalves_142 : decode cX5_findHalves 142 = .ok (.aload_n 0, 1) := by decide +kernel
theorem dX5_findHalves_143 : decode cX5_findHalves 143 = .ok (.getfield 30, 3) := by decide +kernel
theorem dX5_findHalves_146 : decode cX5_findHalves 146 = .ok (.invokevirtual 65, 3) := by decide +kernel
theorem dX5_findHalves_149 : decode cX5_findHalves 149 = .ok (.istore 9, 2) := by decide +kernel
theorem dX5_findHalves_151 : decode cX5_findHalves 151 = .ok (.iload 5, 2) := by decide +kernel
theorem dX5_findHalves_153 : decode cX5_findHalves 153 = .ok (.ifCond .eq 12, 3) := by decide +kernel
theorem dX5_findHalves_156 : decode cX5_findHalves 156 = .ok (.iload 9, 2) := by decide +kernel
theorem dX5_findHalves_158 : decode cX5_findHalves 158 = .ok (.aload_n 0, 1) := by decide +kernel
theorem dX5_findHalves_159 : decode cX5_findHalves 159 = .ok (.getfield 71, 3) := by decide +kernel
theorem dX5_findHalves_162 : decode cX5_findHalves 162 = .ok (.if_icmp .le 38, 3) := by decide +kernel
theorem dX5_findHalves_165 : decode cX5_findHalves 165 = .ok (.iconst 1, 1) := by decide +kernel
theorem dX5_findHalves_166 : decode cX5_findHalves 166 = .ok (.istore 5, 2) := by decide +kernel
theorem dX5_findHalves_168 : decode cX5_findHalves 168 = .ok (.aload_n 0, 1) := by decide +kernel
theorem dX5_findHalves_169 : decode cX5_findHalves 169 = .ok (.iload 6, 2) := by decide +kernel
theorem dX5_findHalves_171 : decode cX5_findHalves 171 = .ok (.putfield 75, 3) := by decide +kernel
theorem dX5_findHalves_174 : decode cX5_findHalves 174 = .ok (.aload_n 0, 1) := by decide +kernel
theorem dX5_findHalves_175 : decode cX5_findHalves 175 = .ok (.iload 7, 2) := by decide +kernel
theorem dX5_findHalves_177 : decode cX5_findHalves 177 = .ok (.putfield 78, 3) := by decide +kernel
theorem dX5_findHalves_180 : decode cX5_findHalves 180 = .ok (.aload_n 0, 1) := by decide +kernel
theorem dX5_findHalves_181 : decode cX5_findHalves 181 = .ok (.iload 8, 2) := by decide +kernel
theorem dX5_findHalves_183 : decode cX5_findHalves 183 = .ok (.ifCond .eq 7, 3) := by decide +kernel
theorem dX5_findHalves_186 : decode cX5_findHalves 186 = .ok (.iconst 1, 1) := by decide +kernel
theorem dX5_findHalves_187 : decode cX5_findHalves 187 = .ok (.goto 4, 3) := by decide +kernel
theorem dX5_findHalves_190 : decode cX5_findHalves 190 = .ok (.iconst 0, 1) := by decide +kernel
theorem dX5_findHalves_191 : decode cX5_findHalves 191 = .ok (.putfield 81, 3) := by decide +kernel
theorem dX5_findHalves_194 : decode cX5_findHalves 194 = .ok (.aload_n 0, 1) := by decide +kernel
theorem dX5_findHalves_195 : decode cX5_findHalves 195 = .ok (.iload 9, 2) := by decide +kernel
theorem dX5_findHalves_197 : decode cX5_findHalves 197 = .ok (.putfield 71, 3) := by decide +kernel
theorem dX5_findHalves_200 : decode cX5_findHalves 200 = .ok (.iinc 7 1, 3) := by decide +kernel
theorem dX5_findHalves_203 : decode cX5_findHalves 203 = .ok (.goto (-164), 3) := by decide +kernel
theorem dX5_findHalves_206 : decode cX5_findHalves 206 = .ok (.iinc 6 1, 3) := by decide +kernel
theorem dX5_findHalves_209 : decode cX5_findHalves 209 = .ok (.goto (-179), 3) := by decide +kernel
theorem dX5_findHalves_212 : decode cX5_findHalves 212 = .ok (.iload 5, 2) := by decide +kernel
theorem dX5_findHalves_214 : decode cX5_findHalves 214 = .ok (.ireturn, 1) := by decide +kernel
set_option maxRecDepth 20000 in
theorem ggX5_prepare_X10_ofPiece : GoodIn wsX5_prepare wsX10_ofPiece := goodIn_r _ [15, 16, 17, 18, 19, 20, 21, 22, 23, 24, 25, 26, 14, 27, 28, 29, 30, 31, 32, 33, 34, 35, 36, 37, 38, 39, 40, 41, 42, 43, 44, 45, 46, 47, 48, 49, 50, 51, 52, 53, 54, 55, 56, 57, 58, 59, 60, 61, 62, 63, 64, 65, 66, 67, 68, 69, 70, 71, 72, 73, 74, 75, 76, 77, 78, 124, 125, 126, 127, 128, 129, 130, 118, 119, 120, 121, 122, 123, 102, 103, 104, 105, 106, 107, 108, 109, 110, 111, 112, 113, 114, 115, 116, 117, 131, 132, 133, 134, 135, 136, 137, 138, 139, 140, 141, 142] (by decide +kernel) (by decide +kernel)
set_option maxRecDepth 20000 in
theorem gX5_prepare_X10_ofPiece : GoodIn wsX5_prepare (wsV RX5 101 RX10 yX10_ofPiece wsX10_ofPiece) := goodIn_app (goodIn_of _ (by decide +kernel)) ggX5_prepare_X10_ofPiece
set_option maxRecDepth 20000 in
theorem ggX5_prepare_X1_isFree : GoodIn wsX5_prepare wsX1_isFree := goodIn_r _ [82, 83, 84, 85, 19, 20, 21, 22, 23, 118, 119, 120, 121, 122, 123, 131, 132, 133, 134, 135, 136, 137] (by decide +kernel) (by decide +kernel)
set_option maxRecDepth 20000 in
theorem gX5_prepare_X1_isFree : GoodIn wsX5_prepare (wsV RX5 40 RX1 yX1_isFree wsX1_isFree) := goodIn_app (goodIn_of _ (by decide +kernel)) ggX5_prepare_X1_isFree
theorem dX5_prepare_0 : decode cX5_prepare 0 = .ok (.aload_n 0, 1) := by decide +kernel
theorem dX5_prepare_1 : decode cX5_prepare 1 = .ok (.iconst 0, 1) := by decide +kernel
theorem dX5_prepare_2 : decode cX5_prepare 2 = .ok (.putfield 84, 3) := by decide +kernel
theorem dX5_prepare_5 : decode cX5_prepare 5 = .ok (.aload_n 0, 1) := by decide +kernel
theorem dX5_prepare_6 : decode cX5_prepare 6 = .ok (.iconst 0, 1) := by decide +kernel
theorem dX5_prepare_7 : decode cX5_prepare 7 = .ok (.putfield 87, 3) := by decide +kernel
theorem dX5_prepare_10 : decode cX5_prepare 10 = .ok (.iconst 0, 1) := by decide +kernel
theorem dX5_prepare_11 : decode cX5_prepare 11 = .ok (.istore_n 1, 1) := by decide +kernel
theorem dX5_prepare_12 : decode cX5_prepare 12 = .ok (.iload_n 1, 1) := by decide +kernel
theorem dX5_prepare_13 : decode cX5_prepare 13 = .ok (.aload_n 0, 1) := by decide +kernel
theorem dX5_prepare_14 : decode cX5_prepare 14 = .ok (.getfield 9, 3) := by decide +kernel
theorem dX5_prepare_17 : decode cX5_prepare 17 = .ok (.getfield 90, 3) := by decide +kernel
theorem dX5_prepare_20 : decode cX5_prepare 20 = .ok (.if_icmp .ge 84, 3) := by decide +kernel
theorem dX5_prepare_23 : decode cX5_prepare 23 = .ok (.aload_n 0, 1) := by decide +kernel
theorem dX5_prepare_24 : decode cX5_prepare 24 = .ok (.getfield 15, 3) := by decide +kernel
theorem dX5_prepare_27 : decode cX5_prepare 27 = .ok (.getfield 95, 3) := by decide +kernel
theorem dX5_prepare_30 : decode cX5_prepare 30 = .ok (.iload_n 1, 1) := by decide +kernel
theorem dX5_prepare_31 : decode cX5_prepare 31 = .ok (.iaload, 1) := by decide +kernel
theorem dX5_prepare_32 : decode cX5_prepare 32 = .ok (.iconst (-1), 1) := by decide +kernel
theorem dX5_prepare_33 : decode cX5_prepare 33 = .ok (.if_icmp .ne 65, 3) := by decide +kernel
theorem dX5_prepare_36 : decode cX5_prepare 36 = .ok (.aload_n 0, 1) := by decide +kernel
theorem dX5_prepare_37 : decode cX5_prepare 37 = .ok (.dup, 1) := by decide +kernel
theorem dX5_prepare_38 : decode cX5_prepare 38 = .ok (.getfield 84, 3) := by decide +kernel
theorem dX5_prepare_41 : decode cX5_prepare 41 = .ok (.iconst 1, 1) := by decide +kernel
theorem dX5_prepare_42 : decode cX5_prepare 42 = .ok (.iload_n 1, 1) := by decide +kernel
theorem dX5_prepare_43 : decode cX5_prepare 43 = .ok (.ishl, 1) := by decide +kernel
theorem dX5_prepare_44 : decode cX5_prepare 44 = .ok (.ior, 1) := by decide +kernel
theorem dX5_prepare_45 : decode cX5_prepare 45 = .ok (.putfield 84, 3) := by decide +kernel
theorem dX5_prepare_48 : decode cX5_prepare 48 = .ok (.aload_n 0, 1) := by decide +kernel
theorem dX5_prepare_49 : decode cX5_prepare 49 = .ok (.dup, 1) := by decide +kernel
theorem dX5_prepare_50 : decode cX5_prepare 50 = .ok (.getfield 87, 3) := by decide +kernel
theorem dX5_prepare_53 : decode cX5_prepare 53 = .ok (.iconst 1, 1) := by decide +kernel
theorem dX5_prepare_54 : decode cX5_prepare 54 = .ok (.iadd, 1) := by decide +kernel
theorem dX5_prepare_55 : decode cX5_prepare 55 = .ok (.putfield 87, 3) := by decide +kernel
theorem dX5_prepare_58 : decode cX5_prepare 58 = .ok (.iconst 0, 1) := by decide +kernel
theorem dX5_prepare_59 : decode cX5_prepare 59 = .ok (.istore_n 2, 1) := by decide +kernel
theorem dX5_prepare_60 : decode cX5_prepare 60 = .ok (.iload_n 2, 1) := by decide +kernel
theorem dX5_prepare_61 : decode cX5_prepare 61 = .ok (.aload_n 0, 1) := by decide +kernel
theorem dX5_prepare_62 : decode cX5_prepare 62 = .ok (.getfield 15, 3) := by decide +kernel
theorem dX5_prepare_65 : decode cX5_prepare 65 = .ok (.getfield 98, 3) := by decide +kernel
theorem dX5_prepare_68 : decode cX5_prepare 68 = .ok (.if_icmp .ge 30, 3) := by decide +kernel
theorem dX5_prepare_71 : decode cX5_prepare 71 = .ok (.aload_n 0, 1) := by decide +kernel
theorem dX5_prepare_72 : decode cX5_prepare 72 = .ok (.getfield 33, 3) := by decide +kernel
theorem dX5_prepare_75 : decode cX5_prepare 75 = .ok (.iload_n 1, 1) := by decide +kernel
theorem dX5_prepare_76 : decode cX5_prepare 76 = .ok (.bipush 24, 2) := by decide +kernel
theorem dX5_prepare_78 : decode cX5_prepare 78 = .ok (.imul, 1) := by decide +kernel
theorem dX5_prepare_79 : decode cX5_prepare 79 = .ok (.iload_n 2, 1) := by decide +kernel
theorem dX5_prepare_80 : decode cX5_prepare 80 = .ok (.iadd, 1) := by decide +kernel
theorem dX5_prepare_81 : decode cX5_prepare 81 = .ok (.aload_n 0, 1) := by decide +kernel
theorem dX5_prepare_82 : decode cX5_prepare 82 = .ok (.getfield 19, 3) := by decide +kernel
theorem dX5_prepare_85 : decode cX5_prepare 85 = .ok (.iload_n 1, 1) := by decide +kernel
theorem dX5_prepare_86 : decode cX5_prepare 86 = .ok (.iload_n 2, 1) := by decide +kernel
theorem dX5_prepare_87 : decode cX5_prepare 87 = .ok (.iconst 0, 1) := by decide +kernel
theorem dX5_prepare_88 : decode cX5_prepare 88 = .ok (.invokevirtual 101, 3) := by decide +kernel
theorem dX5_prepare_91 : decode cX5_prepare 91 = .ok (.iastore, 1) := by decide +kernel
theorem dX5_prepare_92 : decode cX5_prepare 92 = .ok (.iinc 2 1, 3) := by decide +kernel
theorem dX5_prepare_95 : decode cX5_prepare 95 = .ok (.goto (-35), 3) := by decide +kernel
theorem dX5_prepare_98 : decode cX5_prepare 98 = .ok (.iinc 1 1, 3) := by decide +kernel
theorem dX5_prepare_101 : decode cX5_prepare 101 = .ok (.goto (-89), 3) := by decide +kernel
theorem dX5_prepare_104 : decode cX5_prepare 104 = .ok (.aload_n 0, 1) := by decide +kernel
theorem dX5_prepare_105 : decode cX5_prepare 105 = .ok (.iconst 0, 1) := by decide +kernel
theorem dX5_prepare_106 : decode cX5_prepare 106 = .ok (.putfield 105, 3) := by decide +kernel
theorem dX5_prepare_109 : decode cX5_prepare 109 = .ok (.iconst 0, 1) := by decide +kernel
theorem dX5_prepare_110 : decode cX5_prepare 110 = .ok (.istore_n 1, 1) := by decide +kernel
theorem dX5_prepare_111 : decode cX5_prepare 111 = .ok (.iload_n 1, 1) := by decide +kernel
theorem dX5_prepare_112 : decode cX5_prepare 112 = .ok (.aload_n 0, 1) := by decide +kernel
theorem dX5_prepare_113 : decode cX5_prepare 113 = .ok (.getfield 15, 3) := by decide +kernel
theorem dX5_prepare_116 : decode cX5_prepare 116 = .ok (.getfield 98, 3) := by decide +kernel
theorem dX5_prepare_119 : decode cX5_prepare 119 = .ok (.if_icmp .ge 32, 3) := by decide +kernel
theorem dX5_prepare_122 : decode cX5_prepare 122 = .ok (.aload_n 0, 1) := by decide +kernel
theorem dX5_prepare_123 : decode cX5_prepare 123 = .ok (.getfield 15, 3) := by decide +kernel
theorem dX5_prepare_126 : decode cX5_prepare 126 = .ok (.iload_n 1, 1) := by decide +kernel
theorem dX5_prepare_127 : decode cX5_prepare 127 = .ok (.invokevirtual 40, 3) := by decide +kernel
theorem dX5_prepare_130 : decode cX5_prepare 130 = .ok (.ifCond .eq 15, 3) := by decide +kernel
theorem dX5_prepare_133 : decode cX5_prepare 133 = .ok (.aload_n 0, 1) := by decide +kernel
theorem dX5_prepare_134 : decode cX5_prepare 134 = .ok (.dup, 1) := by decide +kernel
theorem dX5_prepare_135 : decode cX5_prepare 135 = .ok (.getfield 105, 3) := by decide +kernel
theorem dX5_prepare_138 : decode cX5_prepare 138 = .ok (.iconst 1, 1) := by decide +kernel
theorem dX5_prepare_139 : decode cX5_prepare 139 = .ok (.iload_n 1, 1) := by decide +kernel
theorem dX5_prepare_140 : decode cX5_prepare 140 = .ok (.ishl, 1) := by decide +kernel
theorem dX5_prepare_141 : decode cX5_prepare 141 = .ok (.ior, 1) := by decide +kernel
theorem dX5_prepare_142 : decode cX5_prepare 142 = .ok (.putfield 105, 3) := by decide +kernel
theorem dX5_prepare_145 : decode cX5_prepare 145 = .ok (.iinc 1 1, 3) := by decide +kernel
theorem dX5_prepare_148 : decode cX5_prepare 148 = .ok (.goto (-37), 3) := by decide +kernel
theorem dX5_prepare_151 : decode cX5_prepare 151 = .ok (.return_, 1) := by decide +kernel
theorem dX5_pickOf_0 : decode cX5_pickOf 0 = .ok (.iconst (-1), 1) := by decide +kernel
theorem dX5_pickOf_1 : decode cX5_pickOf 1 = .ok (.istore_n 3, 1) := by decide +kernel
theorem dX5_pickOf_2 : decode cX5_pickOf 2 = .ok (.iconst 0, 1) := by decide +kernel
theorem dX5_pickOf_3 : decode cX5_pickOf 3 = .ok (.istore 4, 2) := by decide +kernel
theorem dX5_pickOf_5 : decode cX5_pickOf 5 = .ok (.iconst 0, 1) := by decide +kernel
theorem dX5_pickOf_6 : decode cX5_pickOf 6 = .ok (.istore 5, 2) := by decide +kernel
theorem dX5_pickOf_8 : decode cX5_pickOf 8 = .ok (.iload 5, 2) := by decide +kernel
theorem dX5_pickOf_10 : decode cX5_pickOf 10 = .ok (.aload_n 0, 1) := by decide +kernel
theorem dX5_pickOf_11 : decode cX5_pickOf 11 = .ok (.getfield 15, 3) := by decide +kernel
theorem dX5_pickOf_14 : decode cX5_pickOf 14 = .ok (.getfield 98, 3) := by decide +kernel
theorem dX5_pickOf_17 : decode cX5_pickOf 17 = .ok (.if_icmp .ge 52, 3) := by decide +kernel
theorem dX5_pickOf_20 : decode cX5_pickOf 20 = .ok (.iload_n 2, 1) := by decide +kernel
theorem dX5_pickOf_21 : decode cX5_pickOf 21 = .ok (.iload 5, 2) := by decide +kernel
theorem dX5_pickOf_23 : decode cX5_pickOf 23 = .ok (.ishr, 1) := by decide +kernel
theorem dX5_pickOf_24 : decode cX5_pickOf 24 = .ok (.iconst 1, 1) := by decide +kernel
theorem dX5_pickOf_25 : decode cX5_pickOf 25 = .ok (.iand, 1) := by decide +kernel
theorem dX5_pickOf_26 : decode cX5_pickOf 26 = .ok (.iconst 1, 1) := by decide +kernel
theorem dX5_pickOf_27 : decode cX5_pickOf 27 = .ok (.if_icmp .ne 36, 3) := by decide +kernel
theorem dX5_pickOf_30 : decode cX5_pickOf 30 = .ok (.aload_n 0, 1) := by decide +kernel
theorem dX5_pickOf_31 : decode cX5_pickOf 31 = .ok (.getfield 33, 3) := by decide +kernel
theorem dX5_pickOf_34 : decode cX5_pickOf 34 = .ok (.iload_n 1, 1) := by decide +kernel
theorem dX5_pickOf_35 : decode cX5_pickOf 35 = .ok (.bipush 24, 2) := by decide +kernel
theorem dX5_pickOf_37 : decode cX5_pickOf 37 = .ok (.imul, 1) := by decide +kernel
theorem dX5_pickOf_38 : decode cX5_pickOf 38 = .ok (.iload 5, 2) := by decide +kernel
theorem dX5_pickOf_40 : decode cX5_pickOf 40 = .ok (.iadd, 1) := by decide +kernel
theorem dX5_pickOf_41 : decode cX5_pickOf 41 = .ok (.iaload, 1) := by decide +kernel
theorem dX5_pickOf_42 : decode cX5_pickOf 42 = .ok (.istore 6, 2) := by decide +kernel
theorem dX5_pickOf_44 : decode cX5_pickOf 44 = .ok (.iload_n 3, 1) := by decide +kernel
theorem dX5_pickOf_45 : decode cX5_pickOf 45 = .ok (.iconst (-1), 1) := by decide +kernel
theorem dX5_pickOf_46 : decode cX5_pickOf 46 = .ok (.if_icmp .eq 10, 3) := by decide +kernel
theorem dX5_pickOf_49 : decode cX5_pickOf 49 = .ok (.iload 6, 2) := by decide +kernel
theorem dX5_pickOf_51 : decode cX5_pickOf 51 = .ok (.iload 4, 2) := by decide +kernel
theorem dX5_pickOf_53 : decode cX5_pickOf 53 = .ok (.if_icmp .le 10, 3) := by decide +kernel
theorem dX5_pickOf_56 : decode cX5_pickOf 56 = .ok (.iload 5, 2) := by decide +kernel
theorem dX5_pickOf_58 : decode cX5_pickOf 58 = .ok (.istore_n 3, 1) := by decide +kernel
theorem dX5_pickOf_59 : decode cX5_pickOf 59 = .ok (.iload 6, 2) := by decide +kernel
theorem dX5_pickOf_61 : decode cX5_pickOf 61 = .ok (.istore 4, 2) := by decide +kernel
theorem dX5_pickOf_63 : decode cX5_pickOf 63 = .ok (.iinc 5 1, 3) := by decide +kernel
theorem dX5_pickOf_66 : decode cX5_pickOf 66 = .ok (.goto (-58), 3) := by decide +kernel
theorem dX5_pickOf_69 : decode cX5_pickOf 69 = .ok (.iload_n 3, 1) := by decide +kernel
theorem dX5_pickOf_70 : decode cX5_pickOf 70 = .ok (.ireturn, 1) := by decide +kernel
theorem dX5_without_0 : decode cX5_without 0 = .ok (.iload_n 1, 1) := by decide +kernel
theorem dX5_without_1 : decode cX5_without 1 = .ok (.iconst (-1), 1) := by decide +kernel
theorem dX5_without_2 : decode cX5_without 2 = .ok (.if_icmp .ne 7, 3) := by decide +kernel
theorem dX5_without_5 : decode cX5_without 5 = .ok (.iload_n 0, 1) := by decide +kernel
theorem dX5_without_6 : decode cX5_without 6 = .ok (.goto 10, 3) := by decide +kernel
theorem dX5_without_9 : decode cX5_without 9 = .ok (.iload_n 0, 1) := by decide +kernel
theorem dX5_without_10 : decode cX5_without 10 = .ok (.iconst 1, 1) := by decide +kernel
theorem dX5_without_11 : decode cX5_without 11 = .ok (.iload_n 1, 1) := by decide +kernel
theorem dX5_without_12 : decode cX5_without 12 = .ok (.ishl, 1) := by decide +kernel
theorem dX5_without_13 : decode cX5_without 13 = .ok (.iconst (-1), 1) := by decide +kernel
theorem dX5_without_14 : decode cX5_without 14 = .ok (.ixor, 1) := by decide +kernel
theorem dX5_without_15 : decode cX5_without 15 = .ok (.iand, 1) := by decide +kernel
theorem dX5_without_16 : decode cX5_without 16 = .ok (.ireturn, 1) := by decide +kernel
set_option maxRecDepth 20000 in
theorem ggX5_pickByNumber_X5_prepare : GoodIn wsX5_pickByNumber wsX5_prepare := goodIn_r _ [9, 4, 10, 2, 3, 11, 12, 13, 14, 15, 1, 16, 17, 18, 19, 20, 21, 22, 23, 24, 25, 26, 27, 28, 29, 30, 31, 32, 33, 34, 35, 36, 37, 38, 39, 40, 41, 42, 43, 44, 45, 46, 47, 48, 49, 50, 51, 52, 53, 54, 55, 56, 57, 58, 59, 60, 61, 62, 63, 64, 65, 66, 67, 68, 69, 70, 71, 72, 73, 74, 75, 76, 77, 78, 79, 80, 81, 82, 83, 84, 85, 86, 87, 88, 89, 90, 105, 106, 107, 108, 109, 110, 111, 112, 113, 114, 115, 116, 117, 118, 119, 120, 121, 122, 123, 124, 125, 126, 127, 128, 129, 130, 131, 132, 133, 134, 135, 136, 137, 138, 139, 140, 141, 142, 143, 144, 145, 146, 147, 148, 149, 150, 151, 152, 153, 154, 155, 156, 157, 158, 159, 160, 161] (by decide +kernel) (by decide +kernel)
set_option maxRecDepth 20000 in
theorem gX5_pickByNumber_X5_prepare : GoodIn wsX5_pickByNumber (wsV RX5 108 RX5 yX5_prepare wsX5_prepare) := goodIn_app (goodIn_of _ (by decide +kernel)) ggX5_pickByNumber_X5_prepare
set_option maxRecDepth 20000 in
theorem ggX5_pickByNumber_X5_pickOf : GoodIn wsX5_pickByNumber wsX5_pickOf := goodIn_r _ [94, 11, 13, 14, 105, 106, 107, 108, 109, 110, 111, 112, 113, 114, 115, 116, 117, 118, 119, 120, 137, 138, 139, 140, 141, 142] (by decide +kernel) (by decide +kernel)
set_option maxRecDepth 20000 in
theorem gX5_pickByNumber_X5_pickOf : GoodIn wsX5_pickByNumber (wsV RX5 111 RX5 yX5_pickOf wsX5_pickOf) := goodIn_app (goodIn_of _ (by decide +kernel)) ggX5_pickByNumber_X5_pickOf
set_option maxRecDepth 20000 in
theorem ggX5_pickByNumber_X5_without : GoodIn wsX5_pickByNumber wsX5_without := goodIn_r _ [97] (by decide +kernel) (by decide +kernel)
set_option maxRecDepth 20000 in
theorem gX5_pickByNumber_X5_without : GoodIn wsX5_pickByNumber (va_wsS RX5 115 yX5_without wsX5_without) := goodIn_app (goodIn_of _ (by decide +kernel)) ggX5_pickByNumber_X5_without
set_option maxRecDepth 20000 in
theorem ggX5_pickByNumber_J6_bitCount_0f7a4 : GoodIn wsX5_pickByNumber wsJ6_bitCount_0f7a4 := goodIn_r _ [101, 102, 103, 104] (by decide +kernel) (by decide +kernel)
set_option maxRecDepth 20000 in
theorem gX5_pickByNumber_J6_bitCount_0f7a4 : GoodIn wsX5_pickByNumber (va_wsS RX5 118 yJ6_bitCount_0f7a4 wsJ6_bitCount_0f7a4) := goodIn_app (goodIn_of _ (by decide +kernel)) ggX5_pickByNumber_J6_bitCount_0f7a4
theorem dX5_pickByNumber_0 : decode cX5_pickByNumber 0 = .ok (.aload_n 0, 1) := by decide +kernel
theorem dX5_pickByNumber_1 : decode cX5_pickByNumber 1 = .ok (.invokevirtual 108, 3) := by decide +kernel
theorem dX5_pickByNumber_4 : decode cX5_pickByNumber 4 = .ok (.aload_n 0, 1) := by decide +kernel
theorem dX5_pickByNumber_5 : decode cX5_pickByNumber 5 = .ok (.getfield 105, 3) := by decide +kernel
theorem dX5_pickByNumber_8 : decode cX5_pickByNumber 8 = .ok (.istore_n 2, 1) := by decide +kernel
theorem dX5_pickByNumber_9 : decode cX5_pickByNumber 9 = .ok (.iconst 0, 1) := by decide +kernel
theorem dX5_pickByNumber_10 : decode cX5_pickByNumber 10 = .ok (.istore_n 3, 1) := by decide +kernel
theorem dX5_pickByNumber_11 : decode cX5_pickByNumber 11 = .ok (.iload_n 3, 1) := by decide +kernel
theorem dX5_pickByNumber_12 : decode cX5_pickByNumber 12 = .ok (.aload_n 0, 1) := by decide +kernel
theorem dX5_pickByNumber_13 : decode cX5_pickByNumber 13 = .ok (.getfield 9, 3) := by decide +kernel
theorem dX5_pickByNumber_16 : decode cX5_pickByNumber 16 = .ok (.getfield 90, 3) := by decide +kernel
theorem dX5_pickByNumber_19 : decode cX5_pickByNumber 19 = .ok (.if_icmp .ge 60, 3) := by decide +kernel
theorem dX5_pickByNumber_22 : decode cX5_pickByNumber 22 = .ok (.iload_n 3, 1) := by decide +kernel
theorem dX5_pickByNumber_23 : decode cX5_pickByNumber 23 = .ok (.aload_n 1, 1) := by decide +kernel
theorem dX5_pickByNumber_24 : decode cX5_pickByNumber 24 = .ok (.arraylength, 1) := by decide +kernel
theorem dX5_pickByNumber_25 : decode cX5_pickByNumber 25 = .ok (.if_icmp .ge 54, 3) := by decide +kernel
theorem dX5_pickByNumber_28 : decode cX5_pickByNumber 28 = .ok (.aload_n 0, 1) := by decide +kernel
theorem dX5_pickByNumber_29 : decode cX5_pickByNumber 29 = .ok (.getfield 84, 3) := by decide +kernel
theorem dX5_pickByNumber_32 : decode cX5_pickByNumber 32 = .ok (.iload_n 3, 1) := by decide +kernel
theorem dX5_pickByNumber_33 : decode cX5_pickByNumber 33 = .ok (.ishr, 1) := by decide +kernel
theorem dX5_pickByNumber_34 : decode cX5_pickByNumber 34 = .ok (.iconst 1, 1) := by decide +kernel
theorem dX5_pickByNumber_35 : decode cX5_pickByNumber 35 = .ok (.iand, 1) := by decide +kernel
theorem dX5_pickByNumber_36 : decode cX5_pickByNumber 36 = .ok (.iconst 1, 1) := by decide +kernel
theorem dX5_pickByNumber_37 : decode cX5_pickByNumber 37 = .ok (.if_icmp .ne 7, 3) := by decide +kernel
theorem dX5_pickByNumber_40 : decode cX5_pickByNumber 40 = .ok (.iconst 1, 1) := by decide +kernel
theorem dX5_pickByNumber_41 : decode cX5_pickByNumber 41 = .ok (.goto 4, 3) := by decide +kernel
theorem dX5_pickByNumber_44 : decode cX5_pickByNumber 44 = .ok (.iconst 0, 1) := by decide +kernel
theorem dX5_pickByNumber_45 : decode cX5_pickByNumber 45 = .ok (.istore 4, 2) := by decide +kernel
theorem dX5_pickByNumber_47 : decode cX5_pickByNumber 47 = .ok (.aload_n 1, 1) := by decide +kernel
theorem dX5_pickByNumber_48 : decode cX5_pickByNumber 48 = .ok (.iload_n 3, 1) := by decide +kernel
theorem dX5_pickByNumber_49 : decode cX5_pickByNumber 49 = .ok (.iload 4, 2) := by decide +kernel
theorem dX5_pickByNumber_51 : decode cX5_pickByNumber 51 = .ok (.ifCond .eq 12, 3) := by decide +kernel
theorem dX5_pickByNumber_54 : decode cX5_pickByNumber 54 = .ok (.aload_n 0, 1) := by decide +kernel
theorem dX5_pickByNumber_55 : decode cX5_pickByNumber 55 = .ok (.iload_n 3, 1) := by decide +kernel
theorem dX5_pickByNumber_56 : decode cX5_pickByNumber 56 = .ok (.iload_n 2, 1) := by decide +kernel
theorem dX5_pickByNumber_57 : decode cX5_pickByNumber 57 = .ok (.invokevirtual 111, 3) := by decide +kernel
theorem dX5_pickByNumber_60 : decode cX5_pickByNumber 60 = .ok (.goto 4, 3) := by decide +kernel
theorem dX5_pickByNumber_63 : decode cX5_pickByNumber 63 = .ok (.iconst (-1), 1) := by decide +kernel
theorem dX5_pickByNumber_64 : decode cX5_pickByNumber 64 = .ok (.iastore, 1) := by decide +kernel
theorem dX5_pickByNumber_65 : decode cX5_pickByNumber 65 = .ok (.iload_n 2, 1) := by decide +kernel
theorem dX5_pickByNumber_66 : decode cX5_pickByNumber 66 = .ok (.aload_n 1, 1) := by decide +kernel
theorem dX5_pickByNumber_67 : decode cX5_pickByNumber 67 = .ok (.iload_n 3, 1) := by decide +kernel
theorem dX5_pickByNumber_68 : decode cX5_pickByNumber 68 = .ok (.iaload, 1) := by decide +kernel
theorem dX5_pickByNumber_69 : decode cX5_pickByNumber 69 = .ok (.invokestatic 115, 3) := by decide +kernel
theorem dX5_pickByNumber_72 : decode cX5_pickByNumber 72 = .ok (.istore_n 2, 1) := by decide +kernel
theorem dX5_pickByNumber_73 : decode cX5_pickByNumber 73 = .ok (.iinc 3 1, 3) := by decide +kernel
theorem dX5_pickByNumber_76 : decode cX5_pickByNumber 76 = .ok (.goto (-65), 3) := by decide +kernel
theorem dX5_pickByNumber_79 : decode cX5_pickByNumber 79 = .ok (.aload_n 0, 1) := by decide +kernel
theorem dX5_pickByNumber_80 : decode cX5_pickByNumber 80 = .ok (.getfield 105, 3) := by decide +kernel
theorem dX5_pickByNumber_83 : decode cX5_pickByNumber 83 = .ok (.iload_n 2, 1) := by decide +kernel
theorem dX5_pickByNumber_84 : decode cX5_pickByNumber 84 = .ok (.iconst (-1), 1) := by decide +kernel
theorem dX5_pickByNumber_85 : decode cX5_pickByNumber 85 = .ok (.ixor, 1) := by decide +kernel
theorem dX5_pickByNumber_86 : decode cX5_pickByNumber 86 = .ok (.iand, 1) := by decide +kernel
theorem dX5_pickByNumber_87 : decode cX5_pickByNumber 87 = .ok (.invokestatic 118, 3) := by decide +kernel
theorem dX5_pickByNumber_90 : decode cX5_pickByNumber 90 = .ok (.ireturn, 1) := by decide +kernel
set_option maxRecDepth 20000 in
theorem ggX5_findOrder_X5_prepare : GoodIn wsX5_findOrder wsX5_prepare := goodIn_r _ [11, 4, 3, 12, 13, 14, 15, 16, 17, 18, 5, 19, 20, 21, 22, 23, 24, 25, 26, 27, 28, 29, 30, 31, 32, 33, 34, 35, 36, 37, 38, 39, 40, 41, 42, 43, 44, 45, 46, 47, 48, 49, 50, 51, 52, 53, 54, 55, 56, 57, 58, 59, 60, 61, 62, 63, 64, 65, 66, 67, 68, 69, 70, 71, 72, 73, 74, 75, 76, 77, 78, 79, 80, 81, 82, 83, 84, 85, 86, 87, 88, 89, 90, 91, 92, 93, 110, 111, 112, 113, 114, 115, 116, 117, 118, 119, 120, 121, 122, 123, 124, 125, 126, 127, 128, 129, 130, 131, 132, 133, 134, 135, 136, 137, 138, 139, 140, 141, 142, 143, 144, 145, 146, 147, 148, 149, 150, 151, 152, 153, 154, 155, 156, 157, 158, 159, 160, 161, 162, 163, 164, 165, 166] (by decide +kernel) (by decide +kernel)
set_option maxRecDepth 20000 in
theorem gX5_findOrder_X5_prepare : GoodIn wsX5_findOrder (wsV RX5 108 RX5 yX5_prepare wsX5_prepare) := goodIn_app (goodIn_of _ (by decide +kernel)) ggX5_findOrder_X5_prepare
set_option maxRecDepth 20000 in
theorem ggX5_findOrder_X5_tryOrders : GoodIn wsX5_findOrder wsX5_tryOrders := goodIn_r _ [97, 1, 2, 3, 98, 12, 13, 17, 99, 100, 101, 102, 103, 104, 105, 10, 106, 14, 16, 107, 108, 109, 94, 95, 96, 110, 111, 112, 113, 114, 115, 116, 117, 118, 119, 120, 121, 122, 123, 124, 125, 126, 127, 128, 129, 130, 131, 132, 133, 134, 135, 136, 137, 138, 139, 140, 141, 142, 143, 144, 145, 146, 147] (by decide +kernel) (by decide +kernel)
set_option maxRecDepth 20000 in
theorem gX5_findOrder_X5_tryOrders : GoodIn wsX5_findOrder (wsV RX5 131 RX5 yX5_tryOrders wsX5_tryOrders) := goodIn_app (goodIn_of _ (by decide +kernel)) ggX5_findOrder_X5_tryOrders
theorem dX5_findOrder_0 : decode cX5_findOrder 0 = .ok (.aload_n 0, 1) := by decide +kernel
theorem dX5_findOrder_1 : decode cX5_findOrder 1 = .ok (.invokevirtual 108, 3) := by decide +kernel
theorem dX5_findOrder_4 : decode cX5_findOrder 4 = .ok (.aload_n 0, 1) := by decide +kernel
theorem dX5_findOrder_5 : decode cX5_findOrder 5 = .ok (.iconst 0, 1) := by decide +kernel
theorem dX5_findOrder_6 : decode cX5_findOrder 6 = .ok (.putfield 123, 3) := by decide +kernel
theorem dX5_findOrder_9 : decode cX5_findOrder 9 = .ok (.aload_n 0, 1) := by decide +kernel
theorem dX5_findOrder_10 : decode cX5_findOrder 10 = .ok (.iconst 0, 1) := by decide +kernel
theorem dX5_findOrder_11 : decode cX5_findOrder 11 = .ok (.putfield 127, 3) := by decide +kernel
theorem dX5_findOrder_14 : decode cX5_findOrder 14 = .ok (.aload_n 0, 1) := by decide +kernel
theorem dX5_findOrder_15 : decode cX5_findOrder 15 = .ok (.getfield 87, 3) := by decide +kernel
theorem dX5_findOrder_18 : decode cX5_findOrder 18 = .ok (.ifCond .le 19, 3) := by decide +kernel
theorem dX5_findOrder_21 : decode cX5_findOrder 21 = .ok (.aload_n 0, 1) := by decide +kernel
theorem dX5_findOrder_22 : decode cX5_findOrder 22 = .ok (.aload_n 1, 1) := by decide +kernel
theorem dX5_findOrder_23 : decode cX5_findOrder 23 = .ok (.iconst 0, 1) := by decide +kernel
theorem dX5_findOrder_24 : decode cX5_findOrder 24 = .ok (.aload_n 0, 1) := by decide +kernel
theorem dX5_findOrder_25 : decode cX5_findOrder 25 = .ok (.getfield 84, 3) := by decide +kernel
theorem dX5_findOrder_28 : decode cX5_findOrder 28 = .ok (.aload_n 0, 1) := by decide +kernel
theorem dX5_findOrder_29 : decode cX5_findOrder 29 = .ok (.getfield 105, 3) := by decide +kernel
theorem dX5_findOrder_32 : decode cX5_findOrder 32 = .ok (.ldc 130, 2) := by decide +kernel
theorem dX5_findOrder_34 : decode cX5_findOrder 34 = .ok (.invokevirtual 131, 3) := by decide +kernel
theorem dX5_findOrder_37 : decode cX5_findOrder 37 = .ok (.aload_n 0, 1) := by decide +kernel
theorem dX5_findOrder_38 : decode cX5_findOrder 38 = .ok (.getfield 87, 3) := by decide +kernel
theorem dX5_findOrder_41 : decode cX5_findOrder 41 = .ok (.ireturn, 1) := by decide +kernel
set_option maxRecDepth 20000 in
theorem ggX5_tryOrders_X5_pickOf : GoodIn wsX5_tryOrders wsX5_pickOf := goodIn_r _ [16, 17, 18, 7, 25, 26, 27, 28, 29, 30, 31, 32, 33, 34, 35, 36, 37, 38, 39, 40, 57, 58, 59, 60, 61, 62] (by decide +kernel) (by decide +kernel)
set_option maxRecDepth 20000 in
theorem gX5_tryOrders_X5_pickOf : GoodIn wsX5_tryOrders (wsV RX5 111 RX5 yX5_pickOf wsX5_pickOf) := goodIn_app (goodIn_of _ (by decide +kernel)) ggX5_tryOrders_X5_pickOf
set_option maxRecDepth 20000 in
theorem ggX5_tryOrders_X5_without : GoodIn wsX5_tryOrders wsX5_without := goodIn_r _ [21] (by decide +kernel) (by decide +kernel)
set_option maxRecDepth 20000 in
theorem gX5_tryOrders_X5_without : GoodIn wsX5_tryOrders (va_wsS RX5 115 yX5_without wsX5_without) := goodIn_app (goodIn_of _ (by decide +kernel)) ggX5_tryOrders_X5_without
set_option maxRecDepth 20000 in
theorem ggX5_tryOrders_X5_tryOrders : GoodIn wsX5_tryOrders wsX5_tryOrders := goodIn_r _ [0, 1, 2, 3, 4, 5, 6, 7, 8, 9, 10, 11, 12, 13, 14, 15, 16, 17, 18, 19, 20, 21, 22, 23, 24, 25, 26, 27, 28, 29, 30, 31, 32, 33, 34, 35, 36, 37, 38, 39, 40, 41, 42, 43, 44, 45, 46, 47, 48, 49, 50, 51, 52, 53, 54, 55, 56, 57, 58, 59, 60, 61, 62] (by decide +kernel) (by decide +kernel)
set_option maxRecDepth 20000 in
theorem gX5_tryOrders_X5_tryOrders : GoodIn wsX5_tryOrders (wsV RX5 131 RX5 yX5_tryOrders wsX5_tryOrders) := goodIn_app (goodIn_of _ (by decide +kernel)) ggX5_tryOrders_X5_tryOrders
theorem dX5_tryOrders_0 : decode cX5_tryOrders 0 = .ok (.aload_n 0, 1) := by decide +kernel
theorem dX5_tryOrders_1 : decode cX5_tryOrders 1 = .ok (.getfield 123, 3) := by decide +kernel
theorem dX5_tryOrders_4 : decode cX5_tryOrders 4 = .ok (.ifCond .eq 12, 3) := by decide +kernel
theorem dX5_tryOrders_7 : decode cX5_tryOrders 7 = .ok (.iload 5, 2) := by decide +kernel
theorem dX5_tryOrders_9 : decode cX5_tryOrders 9 = .ok (.aload_n 0, 1) := by decide +kernel
theorem dX5_tryOrders_10 : decode cX5_tryOrders 10 = .ok (.getfield 127, 3) := by decide +kernel
theorem dX5_tryOrders_13 : decode cX5_tryOrders 13 = .ok (.if_icmp .le 11, 3) := by decide +kernel
theorem dX5_tryOrders_16 : decode cX5_tryOrders 16 = .ok (.iload_n 2, 1) := by decide +kernel
theorem dX5_tryOrders_17 : decode cX5_tryOrders 17 = .ok (.aload_n 0, 1) := by decide +kernel
theorem dX5_tryOrders_18 : decode cX5_tryOrders 18 = .ok (.getfield 87, 3) := by decide +kernel
theorem dX5_tryOrders_21 : decode cX5_tryOrders 21 = .ok (.if_icmp .le 4, 3) := by decide +kernel
theorem dX5_tryOrders_24 : decode cX5_tryOrders 24 = .ok (.return_, 1) := by decide +kernel
theorem dX5_tryOrders_25 : decode cX5_tryOrders 25 = .ok (.iload_n 2, 1) := by decide +kernel
theorem dX5_tryOrders_26 : decode cX5_tryOrders 26 = .ok (.aload_n 0, 1) := by decide +kernel
theorem dX5_tryOrders_27 : decode cX5_tryOrders 27 = .ok (.getfield 87, 3) := by decide +kernel
theorem dX5_tryOrders_30 : decode cX5_tryOrders 30 = .ok (.if_icmp .ne 51, 3) := by decide +kernel
theorem dX5_tryOrders_33 : decode cX5_tryOrders 33 = .ok (.aload_n 0, 1) := by decide +kernel
theorem dX5_tryOrders_34 : decode cX5_tryOrders 34 = .ok (.iconst 1, 1) := by decide +kernel
theorem dX5_tryOrders_35 : decode cX5_tryOrders 35 = .ok (.putfield 123, 3) := by decide +kernel
theorem dX5_tryOrders_38 : decode cX5_tryOrders 38 = .ok (.aload_n 0, 1) := by decide +kernel
theorem dX5_tryOrders_39 : decode cX5_tryOrders 39 = .ok (.iload 5, 2) := by decide +kernel
theorem dX5_tryOrders_41 : decode cX5_tryOrders 41 = .ok (.putfield 127, 3) := by decide +kernel
theorem dX5_tryOrders_44 : decode cX5_tryOrders 44 = .ok (.iconst 0, 1) := by decide +kernel
theorem dX5_tryOrders_45 : decode cX5_tryOrders 45 = .ok (.istore 6, 2) := by decide +kernel
theorem dX5_tryOrders_47 : decode cX5_tryOrders 47 = .ok (.iload 6, 2) := by decide +kernel
theorem dX5_tryOrders_49 : decode cX5_tryOrders 49 = .ok (.aload_n 0, 1) := by decide +kernel
theorem dX5_tryOrders_50 : decode cX5_tryOrders 50 = .ok (.getfield 87, 3) := by decide +kernel
theorem dX5_tryOrders_53 : decode cX5_tryOrders 53 = .ok (.if_icmp .ge 27, 3) := by decide +kernel
theorem dX5_tryOrders_56 : decode cX5_tryOrders 56 = .ok (.iload 6, 2) := by decide +kernel
theorem dX5_tryOrders_58 : decode cX5_tryOrders 58 = .ok (.aload_n 1, 1) := by decide +kernel
theorem dX5_tryOrders_59 : decode cX5_tryOrders 59 = .ok (.arraylength, 1) := by decide +kernel
theorem dX5_tryOrders_60 : decode cX5_tryOrders 60 = .ok (.if_icmp .ge 20, 3) := by decide +kernel
theorem dX5_tryOrders_63 : decode cX5_tryOrders 63 = .ok (.aload_n 1, 1) := by decide +kernel
theorem dX5_tryOrders_64 : decode cX5_tryOrders 64 = .ok (.iload 6, 2) := by decide +kernel
theorem dX5_tryOrders_66 : decode cX5_tryOrders 66 = .ok (.aload_n 0, 1) := by decide +kernel
theorem dX5_tryOrders_67 : decode cX5_tryOrders 67 = .ok (.getfield 37, 3) := by decide +kernel
theorem dX5_tryOrders_70 : decode cX5_tryOrders 70 = .ok (.iload 6, 2) := by decide +kernel
theorem dX5_tryOrders_72 : decode cX5_tryOrders 72 = .ok (.iaload, 1) := by decide +kernel
theorem dX5_tryOrders_73 : decode cX5_tryOrders 73 = .ok (.iastore, 1) := by decide +kernel
theorem dX5_tryOrders_74 : decode cX5_tryOrders 74 = .ok (.iinc 6 1, 3) := by decide +kernel
theorem dX5_tryOrders_77 : decode cX5_tryOrders 77 = .ok (.goto (-30), 3) := by decide +kernel
theorem dX5_tryOrders_80 : decode cX5_tryOrders 80 = .ok (.return_, 1) := by decide +kernel
theorem dX5_tryOrders_81 : decode cX5_tryOrders 81 = .ok (.iconst 0, 1) := by decide +kernel
theorem dX5_tryOrders_82 : decode cX5_tryOrders 82 = .ok (.istore 6, 2) := by decide +kernel
theorem dX5_tryOrders_84 : decode cX5_tryOrders 84 = .ok (.iload 6, 2) := by decide +kernel
theorem dX5_tryOrders_86 : decode cX5_tryOrders 86 = .ok (.aload_n 0, 1) := by decide +kernel
theorem dX5_tryOrders_87 : decode cX5_tryOrders 87 = .ok (.getfield 9, 3) := by decide +kernel
theorem dX5_tryOrders_90 : decode cX5_tryOrders 90 = .ok (.getfield 90, 3) := by decide +kernel
theorem dX5_tryOrders_93 : decode cX5_tryOrders 93 = .ok (.if_icmp .ge 101, 3) := by decide +kernel
theorem dX5_tryOrders_96 : decode cX5_tryOrders 96 = .ok (.iload_n 3, 1) := by decide +kernel
theorem dX5_tryOrders_97 : decode cX5_tryOrders 97 = .ok (.iload 6, 2) := by decide +kernel
theorem dX5_tryOrders_99 : decode cX5_tryOrders 99 = .ok (.ishr, 1) := by decide +kernel
theorem dX5_tryOrders_100 : decode cX5_tryOrders 100 = .ok (.iconst 1, 1) := by decide +kernel
theorem dX5_tryOrders_101 : decode cX5_tryOrders 101 = .ok (.iand, 1) := by decide +kernel
theorem dX5_tryOrders_102 : decode cX5_tryOrders 102 = .ok (.iconst 1, 1) := by decide +kernel
theorem dX5_tryOrders_103 : decode cX5_tryOrders 103 = .ok (.if_icmp .ne 85, 3) := by decide +kernel
theorem dX5_tryOrders_106 : decode cX5_tryOrders 106 = .ok (.iload_n 2, 1) := by decide +kernel
theorem dX5_tryOrders_107 : decode cX5_tryOrders 107 = .ok (.aload_n 0, 1) := by decide +kernel
theorem dX5_tryOrders_108 : decode cX5_tryOrders 108 = .ok (.getfield 37, 3) := by decide +kernel
theorem dX5_tryOrders_111 : decode cX5_tryOrders 111 = .ok (.arraylength, 1) := by decide +kernel
theorem dX5_tryOrders_112 : decode cX5_tryOrders 112 = .ok (.if_icmp .ge 76, 3) := by decide +kernel
theorem dX5_tryOrders_115 : decode cX5_tryOrders 115 = .ok (.aload_n 0, 1) := by decide +kernel
theorem dX5_tryOrders_116 : decode cX5_tryOrders 116 = .ok (.iload 6, 2) := by decide +kernel
theorem dX5_tryOrders_118 : decode cX5_tryOrders 118 = .ok (.iload 4, 2) := by decide +kernel
theorem dX5_tryOrders_120 : decode cX5_tryOrders 120 = .ok (.invokevirtual 111, 3) := by decide +kernel
theorem dX5_tryOrders_123 : decode cX5_tryOrders 123 = .ok (.istore 7, 2) := by decide +kernel
theorem dX5_tryOrders_125 : decode cX5_tryOrders 125 = .ok (.iload 7, 2) := by decide +kernel
theorem dX5_tryOrders_127 : decode cX5_tryOrders 127 = .ok (.iconst (-1), 1) := by decide +kernel
theorem dX5_tryOrders_128 : decode cX5_tryOrders 128 = .ok (.if_icmp .ne 7, 3) := by decide +kernel
theorem dX5_tryOrders_131 : decode cX5_tryOrders 131 = .ok (.iconst 0, 1) := by decide +kernel
theorem dX5_tryOrders_132 : decode cX5_tryOrders 132 = .ok (.goto 16, 3) := by decide +kernel
theorem dX5_tryOrders_135 : decode cX5_tryOrders 135 = .ok (.aload_n 0, 1) := by decide +kernel
theorem dX5_tryOrders_136 : decode cX5_tryOrders 136 = .ok (.getfield 33, 3) := by decide +kernel
theorem dX5_tryOrders_139 : decode cX5_tryOrders 139 = .ok (.iload 6, 2) := by decide +kernel
theorem dX5_tryOrders_141 : decode cX5_tryOrders 141 = .ok (.bipush 24, 2) := by decide +kernel
theorem dX5_tryOrders_143 : decode cX5_tryOrders 143 = .ok (.imul, 1) := by decide +kernel
theorem dX5_tryOrders_144 : decode cX5_tryOrders 144 = .ok (.iload 7, 2) := by decide +kernel
theorem dX5_tryOrders_146 : decode cX5_tryOrders 146 = .ok (.iadd, 1) := by decide +kernel
theorem dX5_tryOrders_147 : decode cX5_tryOrders 147 = .ok (.iaload, 1) := by decide +kernel
theorem dX5_tryOrders_148 : decode cX5_tryOrders 148 = .ok (.istore 8, 2) := by decide +kernel
theorem dX5_tryOrders_150 : decode cX5_tryOrders 150 = .ok (.aload_n 0, 1) := by decide +kernel
theorem dX5_tryOrders_151 : decode cX5_tryOrders 151 = .ok (.getfield 37, 3) := by decide +kernel
theorem dX5_tryOrders_154 : decode cX5_tryOrders 154 = .ok (.iload_n 2, 1) := by decide +kernel
theorem dX5_tryOrders_155 : decode cX5_tryOrders 155 = .ok (.iload 6, 2) := by decide +kernel
theorem dX5_tryOrders_157 : decode cX5_tryOrders 157 = .ok (.iastore, 1) := by decide +kernel
theorem dX5_tryOrders_158 : decode cX5_tryOrders 158 = .ok (.aload_n 0, 1) := by decide +kernel
theorem dX5_tryOrders_159 : decode cX5_tryOrders 159 = .ok (.aload_n 1, 1) := by decide +kernel
theorem dX5_tryOrders_160 : decode cX5_tryOrders 160 = .ok (.iload_n 2, 1) := by decide +kernel
theorem dX5_tryOrders_161 : decode cX5_tryOrders 161 = .ok (.iconst 1, 1) := by decide +kernel
theorem dX5_tryOrders_162 : decode cX5_tryOrders 162 = .ok (.iadd, 1) := by decide +kernel
theorem dX5_tryOrders_163 : decode cX5_tryOrders 163 = .ok (.iload_n 3, 1) := by decide +kernel
theorem dX5_tryOrders_164 : decode cX5_tryOrders 164 = .ok (.iconst 1, 1) := by decide +kernel
theorem dX5_tryOrders_165 : decode cX5_tryOrders 165 = .ok (.iload 6, 2) := by decide +kernel
theorem dX5_tryOrders_167 : decode cX5_tryOrders 167 = .ok (.ishl, 1) := by decide +kernel
theorem dX5_tryOrders_168 : decode cX5_tryOrders 168 = .ok (.iconst (-1), 1) := by decide +kernel
theorem dX5_tryOrders_169 : decode cX5_tryOrders 169 = .ok (.ixor, 1) := by decide +kernel
theorem dX5_tryOrders_170 : decode cX5_tryOrders 170 = .ok (.iand, 1) := by decide +kernel
theorem dX5_tryOrders_171 : decode cX5_tryOrders 171 = .ok (.iload 4, 2) := by decide +kernel
theorem dX5_tryOrders_173 : decode cX5_tryOrders 173 = .ok (.iload 7, 2) := by decide +kernel
theorem dX5_tryOrders_175 : decode cX5_tryOrders 175 = .ok (.invokestatic 115, 3) := by decide +kernel
theorem dX5_tryOrders_178 : decode cX5_tryOrders 178 = .ok (.iload 5, 2) := by decide +kernel
theorem dX5_tryOrders_180 : decode cX5_tryOrders 180 = .ok (.iload 8, 2) := by decide +kernel
theorem dX5_tryOrders_182 : decode cX5_tryOrders 182 = .ok (.invokestatic 135, 3) := by decide +kernel
theorem dX5_tryOrders_185 : decode cX5_tryOrders 185 = .ok (.invokevirtual 131, 3) := by decide +kernel
theorem dX5_tryOrders_188 : decode cX5_tryOrders 188 = .ok (.iinc 6 1, 3) := by decide +kernel
theorem dX5_tryOrders_191 : decode cX5_tryOrders 191 = .ok (.goto (-107), 3) := by decide +kernel
theorem dX5_tryOrders_194 : decode cX5_tryOrders 194 = .ok (.return_, 1) := by decide +kernel
set_option maxRecDepth 20000 in
theorem ggX7_init_X2_init : GoodIn wsX7_init wsX2_init := goodIn_r _ [22, 23, 2, 3, 6, 24, 25, 26, 27, 28, 16, 29, 30, 31, 32, 33, 34, 35, 36, 53, 54, 55, 56, 57] (by decide +kernel) (by decide +kernel)
set_option maxRecDepth 20000 in
theorem gX7_init_X2_init : GoodIn wsX7_init (wsX2_init) := ggX7_init_X2_init
theorem dX7_init_0 : decode cX7_init 0 = .ok (.aload_n 0, 1) := by decide +kernel
theorem dX7_init_1 : decode cX7_init 1 = .ok (.invokespecial 3, 3) := by decide +kernel
theorem dX7_init_4 : decode cX7_init 4 = .ok (.aload_n 0, 1) := by decide +kernel
theorem dX7_init_5 : decode cX7_init 5 = .ok (.iconst 3, 1) := by decide +kernel
theorem dX7_init_6 : decode cX7_init 6 = .ok (.newarray .long, 2) := by decide +kernel
theorem dX7_init_8 : decode cX7_init 8 = .ok (.putfield 9, 3) := by decide +kernel
theorem dX7_init_11 : decode cX7_init 11 = .ok (.aload_n 0, 1) := by decide +kernel
theorem dX7_init_12 : decode cX7_init 12 = .ok (.iconst 3, 1) := by decide +kernel
theorem dX7_init_13 : decode cX7_init 13 = .ok (.newarray .int, 2) := by decide +kernel
theorem dX7_init_15 : decode cX7_init 15 = .ok (.putfield 15, 3) := by decide +kernel
theorem dX7_init_18 : decode cX7_init 18 = .ok (.aload_n 0, 1) := by decide +kernel
theorem dX7_init_19 : decode cX7_init 19 = .ok (.iconst 3, 1) := by decide +kernel
theorem dX7_init_20 : decode cX7_init 20 = .ok (.newarray .int, 2) := by decide +kernel
theorem dX7_init_22 : decode cX7_init 22 = .ok (.putfield 19, 3) := by decide +kernel
theorem dX7_init_25 : decode cX7_init 25 = .ok (.aload_n 0, 1) := by decide +kernel
theorem dX7_init_26 : decode cX7_init 26 = .ok (.iconst 3, 1) := by decide +kernel
theorem dX7_init_27 : decode cX7_init 27 = .ok (.newarray .int, 2) := by decide +kernel
theorem dX7_init_29 : decode cX7_init 29 = .ok (.putfield 22, 3) := by decide +kernel
theorem dX7_init_32 : decode cX7_init 32 = .ok (.aload_n 0, 1) := by decide +kernel
theorem dX7_init_33 : decode cX7_init 33 = .ok (.bipush 6, 2) := by decide +kernel
theorem dX7_init_35 : decode cX7_init 35 = .ok (.newarray .long, 2) := by decide +kernel
theorem dX7_init_37 : decode cX7_init 37 = .ok (.putfield 25, 3) := by decide +kernel
theorem dX7_init_40 : decode cX7_init 40 = .ok (.aload_n 0, 1) := by decide +kernel
theorem dX7_init_41 : decode cX7_init 41 = .ok (.bipush 6, 2) := by decide +kernel
theorem dX7_init_43 : decode cX7_init 43 = .ok (.newarray .int, 2) := by decide +kernel
theorem dX7_init_45 : decode cX7_init 45 = .ok (.putfield 28, 3) := by decide +kernel
theorem dX7_init_48 : decode cX7_init 48 = .ok (.aload_n 0, 1) := by decide +kernel
theorem dX7_init_49 : decode cX7_init 49 = .ok (.bipush 6, 2) := by decide +kernel
theorem dX7_init_51 : decode cX7_init 51 = .ok (.newarray .int, 2) := by decide +kernel
theorem dX7_init_53 : decode cX7_init 53 = .ok (.putfield 31, 3) := by decide +kernel
theorem dX7_init_56 : decode cX7_init 56 = .ok (.aload_n 0, 1) := by decide +kernel
theorem dX7_init_57 : decode cX7_init 57 = .ok (.bipush 6, 2) := by decide +kernel
theorem dX7_init_59 : decode cX7_init 59 = .ok (.newarray .int, 2) := by decide +kernel
theorem dX7_init_61 : decode cX7_init 61 = .ok (.putfield 34, 3) := by decide +kernel
theorem dX7_init_64 : decode cX7_init 64 = .ok (.aload_n 0, 1) := by decide +kernel
theorem dX7_init_65 : decode cX7_init 65 = .ok (.new 37, 3) := by decide +kernel
theorem dX7_init_68 : decode cX7_init 68 = .ok (.dup, 1) := by decide +kernel
theorem dX7_init_69 : decode cX7_init 69 = .ok (.iconst 1, 1) := by decide +kernel
theorem dX7_init_70 : decode cX7_init 70 = .ok (.invokespecial 39, 3) := by decide +kernel
theorem dX7_init_73 : decode cX7_init 73 = .ok (.putfield 42, 3) := by decide +kernel
theorem dX7_init_76 : decode cX7_init 76 = .ok (.aload_n 0, 1) := by decide +kernel
theorem dX7_init_77 : decode cX7_init 77 = .ok (.new 37, 3) := by decide +kernel
theorem dX7_init_80 : decode cX7_init 80 = .ok (.dup, 1) := by decide +kernel
theorem dX7_init_81 : decode cX7_init 81 = .ok (.iconst 0, 1) := by decide +kernel
theorem dX7_init_82 : decode cX7_init 82 = .ok (.invokespecial 39, 3) := by decide +kernel
theorem dX7_init_85 : decode cX7_init 85 = .ok (.putfield 46, 3) := by decide +kernel
theorem dX7_init_88 : decode cX7_init 88 = .ok (.aload_n 0, 1) := by decide +kernel
theorem dX7_init_89 : decode cX7_init 89 = .ok (.iconst 1, 1) := by decide +kernel
theorem dX7_init_90 : decode cX7_init 90 = .ok (.putfield 49, 3) := by decide +kernel
theorem dX7_init_93 : decode cX7_init 93 = .ok (.return_, 1) := by decide +kernel
set_option maxRecDepth 20000 in
theorem ggX7_clear_X2_clear : GoodIn wsX7_clear wsX2_clear := goodIn_r _ [13, 14, 15, 16, 17, 18, 19, 12, 20, 21, 38, 39, 40, 41, 42] (by decide +kernel) (by decide +kernel)
set_option maxRecDepth 20000 in
theorem gX7_clear_X2_clear : GoodIn wsX7_clear (wsV RX7 59 RX2 yX2_clear wsX2_clear) := goodIn_app (goodIn_of _ (by decide +kernel)) ggX7_clear_X2_clear
theorem dX7_clear_0 : decode cX7_clear 0 = .ok (.aload_n 0, 1) := by decide +kernel
theorem dX7_clear_1 : decode cX7_clear 1 = .ok (.iconst 0, 1) := by decide +kernel
theorem dX7_clear_2 : decode cX7_clear 2 = .ok (.putfield 53, 3) := by decide +kernel
theorem dX7_clear_5 : decode cX7_clear 5 = .ok (.aload_n 0, 1) := by decide +kernel
theorem dX7_clear_6 : decode cX7_clear 6 = .ok (.iconst 0, 1) := by decide +kernel
theorem dX7_clear_7 : decode cX7_clear 7 = .ok (.putfield 56, 3) := by decide +kernel
theorem dX7_clear_10 : decode cX7_clear 10 = .ok (.aload_n 0, 1) := by decide +kernel
theorem dX7_clear_11 : decode cX7_clear 11 = .ok (.getfield 42, 3) := by decide +kernel
theorem dX7_clear_14 : decode cX7_clear 14 = .ok (.iconst 1, 1) := by decide +kernel
theorem dX7_clear_15 : decode cX7_clear 15 = .ok (.invokevirtual 59, 3) := by decide +kernel
theorem dX7_clear_18 : decode cX7_clear 18 = .ok (.aload_n 0, 1) := by decide +kernel
theorem dX7_clear_19 : decode cX7_clear 19 = .ok (.getfield 46, 3) := by decide +kernel
theorem dX7_clear_22 : decode cX7_clear 22 = .ok (.iconst 0, 1) := by decide +kernel
theorem dX7_clear_23 : decode cX7_clear 23 = .ok (.invokevirtual 59, 3) := by decide +kernel
theorem dX7_clear_26 : decode cX7_clear 26 = .ok (.aload_n 0, 1) := by decide +kernel
theorem dX7_clear_27 : decode cX7_clear 27 = .ok (.iconst 1, 1) := by decide +kernel
theorem dX7_clear_28 : decode cX7_clear 28 = .ok (.putfield 49, 3) := by decide +kernel
theorem dX7_clear_31 : decode cX7_clear 31 = .ok (.aload_n 0, 1) := by decide +kernel
theorem dX7_clear_32 : decode cX7_clear 32 = .ok (.iconst 0, 1) := by decide +kernel
theorem dX7_clear_33 : decode cX7_clear 33 = .ok (.putfield 62, 3) := by decide +kernel
theorem dX7_clear_36 : decode cX7_clear 36 = .ok (.aload_n 0, 1) := by decide +kernel
theorem dX7_clear_37 : decode cX7_clear 37 = .ok (.iconst 0, 1) := by decide +kernel
theorem dX7_clear_38 : decode cX7_clear 38 = .ok (.putfield 66, 3) := by decide +kernel
theorem dX7_clear_41 : decode cX7_clear 41 = .ok (.aload_n 0, 1) := by decide +kernel
theorem dX7_clear_42 : decode cX7_clear 42 = .ok (.iconst 0, 1) := by decide +kernel
theorem dX7_clear_43 : decode cX7_clear 43 = .ok (.putfield 69, 3) := by decide +kernel
theorem dX7_clear_46 : decode cX7_clear 46 = .ok (.return_, 1) := by decide +kernel
set_option maxRecDepth 20000 in
theorem ggX7_takeFrom_X2_takeFrom : GoodIn wsX7_takeFrom wsX2_takeFrom := goodIn_r _ [17, 18, 19, 20, 21, 38, 39, 40, 41, 42] (by decide +kernel) (by decide +kernel)
set_option maxRecDepth 20000 in
theorem gX7_takeFrom_X2_takeFrom : GoodIn wsX7_takeFrom (wsV RX7 72 RX2 yX2_takeFrom wsX2_takeFrom) := goodIn_app (goodIn_of _ (by decide +kernel)) ggX7_takeFrom_X2_takeFrom
theorem dX7_takeFrom_0 : decode cX7_takeFrom 0 = .ok (.aload_n 0, 1) := by decide +kernel
theorem dX7_takeFrom_1 : decode cX7_takeFrom 1 = .ok (.aload_n 1, 1) := by decide +kernel
theorem dX7_takeFrom_2 : decode cX7_takeFrom 2 = .ok (.getfield 53, 3) := by decide +kernel
theorem dX7_takeFrom_5 : decode cX7_takeFrom 5 = .ok (.putfield 53, 3) := by decide +kernel
theorem dX7_takeFrom_8 : decode cX7_takeFrom 8 = .ok (.iconst 0, 1) := by decide +kernel
theorem dX7_takeFrom_9 : decode cX7_takeFrom 9 = .ok (.istore_n 2, 1) := by decide +kernel
theorem dX7_takeFrom_10 : decode cX7_takeFrom 10 = .ok (.iload_n 2, 1) := by decide +kernel
theorem dX7_takeFrom_11 : decode cX7_takeFrom 11 = .ok (.iconst 3, 1) := by decide +kernel
theorem dX7_takeFrom_12 : decode cX7_takeFrom 12 = .ok (.if_icmp .ge 45, 3) := by decide +kernel
theorem dX7_takeFrom_15 : decode cX7_takeFrom 15 = .ok (.aload_n 0, 1) := by decide +kernel
theorem dX7_takeFrom_16 : decode cX7_takeFrom 16 = .ok (.getfield 15, 3) := by decide +kernel
theorem dX7_takeFrom_19 : decode cX7_takeFrom 19 = .ok (.iload_n 2, 1) := by decide +kernel
theorem dX7_takeFrom_20 : decode cX7_takeFrom 20 = .ok (.aload_n 1, 1) := by decide +kernel
theorem dX7_takeFrom_21 : decode cX7_takeFrom 21 = .ok (.getfield 15, 3) := by decide +kernel
theorem dX7_takeFrom_24 : decode cX7_takeFrom 24 = .ok (.iload_n 2, 1) := by decide +kernel
theorem dX7_takeFrom_25 : decode cX7_takeFrom 25 = .ok (.iaload, 1) := by decide +kernel
theorem dX7_takeFrom_26 : decode cX7_takeFrom 26 = .ok (.iastore, 1) := by decide +kernel
theorem dX7_takeFrom_27 : decode cX7_takeFrom 27 = .ok (.aload_n 0, 1) := by decide +kernel
theorem dX7_takeFrom_28 : decode cX7_takeFrom 28 = .ok (.getfield 19, 3) := by decide +kernel
theorem dX7_takeFrom_31 : decode cX7_takeFrom 31 = .ok (.iload_n 2, 1) := by decide +kernel
theorem dX7_takeFrom_32 : decode cX7_takeFrom 32 = .ok (.aload_n 1, 1) := by decide +kernel
theorem dX7_takeFrom_33 : decode cX7_takeFrom 33 = .ok (.getfield 19, 3) := by decide +kernel
theorem dX7_takeFrom_36 : decode cX7_takeFrom 36 = .ok (.iload_n 2, 1) := by decide +kernel
theorem dX7_takeFrom_37 : decode cX7_takeFrom 37 = .ok (.iaload, 1) := by decide +kernel
theorem dX7_takeFrom_38 : decode cX7_takeFrom 38 = .ok (.iastore, 1) := by decide +kernel
theorem dX7_takeFrom_39 : decode cX7_takeFrom 39 = .ok (.aload_n 0, 1) := by decide +kernel
theorem dX7_takeFrom_40 : decode cX7_takeFrom 40 = .ok (.getfield 22, 3) := by decide +kernel
theorem dX7_takeFrom_43 : decode cX7_takeFrom 43 = .ok (.iload_n 2, 1) := by decide +kernel
theorem dX7_takeFrom_44 : decode cX7_takeFrom 44 = .ok (.aload_n 1, 1) := by decide +kernel
theorem dX7_takeFrom_45 : decode cX7_takeFrom 45 = .ok (.getfield 22, 3) := by decide +kernel
theorem dX7_takeFrom_48 : decode cX7_takeFrom 48 = .ok (.iload_n 2, 1) := by decide +kernel
theorem dX7_takeFrom_49 : decode cX7_takeFrom 49 = .ok (.iaload, 1) := by decide +kernel
theorem dX7_takeFrom_50 : decode cX7_takeFrom 50 = .ok (.iastore, 1) := by decide +kernel
theorem dX7_takeFrom_51 : decode cX7_takeFrom 51 = .ok (.iinc 2 1, 3) := by decide +kernel
theorem dX7_takeFrom_54 : decode cX7_takeFrom 54 = .ok (.goto (-44), 3) := by decide +kernel
theorem dX7_takeFrom_57 : decode cX7_takeFrom 57 = .ok (.aload_n 0, 1) := by decide +kernel
theorem dX7_takeFrom_58 : decode cX7_takeFrom 58 = .ok (.aload_n 1, 1) := by decide +kernel
theorem dX7_takeFrom_59 : decode cX7_takeFrom 59 = .ok (.getfield 56, 3) := by decide +kernel
theorem dX7_takeFrom_62 : decode cX7_takeFrom 62 = .ok (.putfield 56, 3) := by decide +kernel
theorem dX7_takeFrom_65 : decode cX7_takeFrom 65 = .ok (.iconst 0, 1) := by decide +kernel
theorem dX7_takeFrom_66 : decode cX7_takeFrom 66 = .ok (.istore_n 2, 1) := by decide +kernel
theorem dX7_takeFrom_67 : decode cX7_takeFrom 67 = .ok (.iload_n 2, 1) := by decide +kernel
theorem dX7_takeFrom_68 : decode cX7_takeFrom 68 = .ok (.bipush 6, 2) := by decide +kernel
theorem dX7_takeFrom_70 : decode cX7_takeFrom 70 = .ok (.if_icmp .ge 45, 3) := by decide +kernel
theorem dX7_takeFrom_73 : decode cX7_takeFrom 73 = .ok (.aload_n 0, 1) := by decide +kernel
theorem dX7_takeFrom_74 : decode cX7_takeFrom 74 = .ok (.getfield 28, 3) := by decide +kernel
theorem dX7_takeFrom_77 : decode cX7_takeFrom 77 = .ok (.iload_n 2, 1) := by decide +kernel
theorem dX7_takeFrom_78 : decode cX7_takeFrom 78 = .ok (.aload_n 1, 1) := by decide +kernel
theorem dX7_takeFrom_79 : decode cX7_takeFrom 79 = .ok (.getfield 28, 3) := by decide +kernel
theorem dX7_takeFrom_82 : decode cX7_takeFrom 82 = .ok (.iload_n 2, 1) := by decide +kernel
theorem dX7_takeFrom_83 : decode cX7_takeFrom 83 = .ok (.iaload, 1) := by decide +kernel
theorem dX7_takeFrom_84 : decode cX7_takeFrom 84 = .ok (.iastore, 1) := by decide +kernel
theorem dX7_takeFrom_85 : decode cX7_takeFrom 85 = .ok (.aload_n 0, 1) := by decide +kernel
theorem dX7_takeFrom_86 : decode cX7_takeFrom 86 = .ok (.getfield 31, 3) := by decide +kernel
theorem dX7_takeFrom_89 : decode cX7_takeFrom 89 = .ok (.iload_n 2, 1) := by decide +kernel
theorem dX7_takeFrom_90 : decode cX7_takeFrom 90 = .ok (.aload_n 1, 1) := by decide +kernel
theorem dX7_takeFrom_91 : decode cX7_takeFrom 91 = .ok (.getfield 31, 3) := by decide +kernel
theorem dX7_takeFrom_94 : decode cX7_takeFrom 94 = .ok (.iload_n 2, 1) := by decide +kernel
theorem dX7_takeFrom_95 : decode cX7_takeFrom 95 = .ok (.iaload, 1) := by decide +kernel
theorem dX7_takeFrom_96 : decode cX7_takeFrom 96 = .ok (.iastore, 1) := by decide +kernel
theorem dX7_takeFrom_97 : decode cX7_takeFrom 97 = .ok (.aload_n 0, 1) := by decide +kernel
theorem dX7_takeFrom_98 : decode cX7_takeFrom 98 = .ok (.getfield 34, 3) := by decide +kernel
theorem dX7_takeFrom_101 : decode cX7_takeFrom 101 = .ok (.iload_n 2, 1) := by decide +kernel
theorem dX7_takeFrom_102 : decode cX7_takeFrom 102 = .ok (.aload_n 1, 1) := by decide +kernel
theorem dX7_takeFrom_103 : decode cX7_takeFrom 103 = .ok (.getfield 34, 3) := by decide +kernel
theorem dX7_takeFrom_106 : decode cX7_takeFrom 106 = .ok (.iload_n 2, 1) := by decide +kernel
theorem dX7_takeFrom_107 : decode cX7_takeFrom 107 = .ok (.iaload, 1) := by decide +kernel
theorem dX7_takeFrom_108 : decode cX7_takeFrom 108 = .ok (.iastore, 1) := by decide +kernel
theorem dX7_takeFrom_109 : decode cX7_takeFrom 109 = .ok (.iinc 2 1, 3) := by decide +kernel
theorem dX7_takeFrom_112 : decode cX7_takeFrom 112 = .ok (.goto (-45), 3) := by decide +kernel
theorem dX7_takeFrom_115 : decode cX7_takeFrom 115 = .ok (.aload_n 0, 1) := by decide +kernel
theorem dX7_takeFrom_116 : decode cX7_takeFrom 116 = .ok (.getfield 42, 3) := by decide +kernel
theorem dX7_takeFrom_119 : decode cX7_takeFrom 119 = .ok (.aload_n 1, 1) := by decide +kernel
theorem dX7_takeFrom_120 : decode cX7_takeFrom 120 = .ok (.getfield 42, 3) := by decide +kernel
theorem dX7_takeFrom_123 : decode cX7_takeFrom 123 = .ok (.invokevirtual 72, 3) := by decide +kernel
theorem dX7_takeFrom_126 : decode cX7_takeFrom 126 = .ok (.aload_n 0, 1) := by decide +kernel
theorem dX7_takeFrom_127 : decode cX7_takeFrom 127 = .ok (.getfield 46, 3) := by decide +kernel
theorem dX7_takeFrom_130 : decode cX7_takeFrom 130 = .ok (.aload_n 1, 1) := by decide +kernel
theorem dX7_takeFrom_131 : decode cX7_takeFrom 131 = .ok (.getfield 46, 3) := by decide +kernel
theorem dX7_takeFrom_134 : decode cX7_takeFrom 134 = .ok (.invokevirtual 72, 3) := by decide +kernel
theorem dX7_takeFrom_137 : decode cX7_takeFrom 137 = .ok (.aload_n 0, 1) := by decide +kernel
theorem dX7_takeFrom_138 : decode cX7_takeFrom 138 = .ok (.aload_n 1, 1) := by decide +kernel
theorem dX7_takeFrom_139 : decode cX7_takeFrom 139 = .ok (.getfield 49, 3) := by decide +kernel
theorem dX7_takeFrom_142 : decode cX7_takeFrom 142 = .ok (.putfield 49, 3) := by decide +kernel
theorem dX7_takeFrom_145 : decode cX7_takeFrom 145 = .ok (.aload_n 0, 1) := by decide +kernel
theorem dX7_takeFrom_146 : decode cX7_takeFrom 146 = .ok (.aload_n 1, 1) := by decide +kernel
theorem dX7_takeFrom_147 : decode cX7_takeFrom 147 = .ok (.getfield 66, 3) := by decide +kernel
theorem dX7_takeFrom_150 : decode cX7_takeFrom 150 = .ok (.putfield 66, 3) := by decide +kernel
theorem dX7_takeFrom_153 : decode cX7_takeFrom 153 = .ok (.return_, 1) := by decide +kernel
theorem dX7_addTier_0 : decode cX7_addTier 0 = .ok (.aload_n 0, 1) := by decide +kernel
theorem dX7_addTier_1 : decode cX7_addTier 1 = .ok (.getfield 53, 3) := by decide +kernel
theorem dX7_addTier_4 : decode cX7_addTier 4 = .ok (.iconst 3, 1) := by decide +kernel
theorem dX7_addTier_5 : decode cX7_addTier 5 = .ok (.if_icmp .ge 43, 3) := by decide +kernel
theorem dX7_addTier_8 : decode cX7_addTier 8 = .ok (.aload_n 0, 1) := by decide +kernel
theorem dX7_addTier_9 : decode cX7_addTier 9 = .ok (.getfield 15, 3) := by decide +kernel
theorem dX7_addTier_12 : decode cX7_addTier 12 = .ok (.aload_n 0, 1) := by decide +kernel
theorem dX7_addTier_13 : decode cX7_addTier 13 = .ok (.getfield 53, 3) := by decide +kernel
theorem dX7_addTier_16 : decode cX7_addTier 16 = .ok (.iload_n 1, 1) := by decide +kernel
theorem dX7_addTier_17 : decode cX7_addTier 17 = .ok (.iastore, 1) := by decide +kernel
theorem dX7_addTier_18 : decode cX7_addTier 18 = .ok (.aload_n 0, 1) := by decide +kernel
theorem dX7_addTier_19 : decode cX7_addTier 19 = .ok (.getfield 19, 3) := by decide +kernel
theorem dX7_addTier_22 : decode cX7_addTier 22 = .ok (.aload_n 0, 1) := by decide +kernel
theorem dX7_addTier_23 : decode cX7_addTier 23 = .ok (.getfield 53, 3) := by decide +kernel
theorem dX7_addTier_26 : decode cX7_addTier 26 = .ok (.iload_n 2, 1) := by decide +kernel
theorem dX7_addTier_27 : decode cX7_addTier 27 = .ok (.iastore, 1) := by decide +kernel
theorem dX7_addTier_28 : decode cX7_addTier 28 = .ok (.aload_n 0, 1) := by decide +kernel
theorem dX7_addTier_29 : decode cX7_addTier 29 = .ok (.getfield 22, 3) := by decide +kernel
theorem dX7_addTier_32 : decode cX7_addTier 32 = .ok (.aload_n 0, 1) := by decide +kernel
theorem dX7_addTier_33 : decode cX7_addTier 33 = .ok (.getfield 53, 3) := by decide +kernel
theorem dX7_addTier_36 : decode cX7_addTier 36 = .ok (.iload_n 3, 1) := by decide +kernel
theorem dX7_addTier_37 : decode cX7_addTier 37 = .ok (.iastore, 1) := by decide +kernel
theorem dX7_addTier_38 : decode cX7_addTier 38 = .ok (.aload_n 0, 1) := by decide +kernel
theorem dX7_addTier_39 : decode cX7_addTier 39 = .ok (.dup, 1) := by decide +kernel
theorem dX7_addTier_40 : decode cX7_addTier 40 = .ok (.getfield 53, 3) := by decide +kernel
theorem dX7_addTier_43 : decode cX7_addTier 43 = .ok (.iconst 1, 1) := by decide +kernel
theorem dX7_addTier_44 : decode cX7_addTier 44 = .ok (.iadd, 1) := by decide +kernel
theorem dX7_addTier_45 : decode cX7_addTier 45 = .ok (.putfield 53, 3) := by decide +kernel
theorem dX7_addTier_48 : decode cX7_addTier 48 = .ok (.return_, 1) := by decide +kernel
theorem dX7_addGuest_0 : decode cX7_addGuest 0 = .ok (.aload_n 0, 1) := by decide +kernel
theorem dX7_addGuest_1 : decode cX7_addGuest 1 = .ok (.getfield 56, 3) := by decide +kernel
theorem dX7_addGuest_4 : decode cX7_addGuest 4 = .ok (.bipush 6, 2) := by decide +kernel
theorem dX7_addGuest_6 : decode cX7_addGuest 6 = .ok (.if_icmp .ge 43, 3) := by decide +kernel
theorem dX7_addGuest_9 : decode cX7_addGuest 9 = .ok (.aload_n 0, 1) := by decide +kernel
theorem dX7_addGuest_10 : decode cX7_addGuest 10 = .ok (.getfield 28, 3) := by decide +kernel
theorem dX7_addGuest_13 : decode cX7_addGuest 13 = .ok (.aload_n 0, 1) := by decide +kernel
theorem dX7_addGuest_14 : decode cX7_addGuest 14 = .ok (.getfield 56, 3) := by decide +kernel
theorem dX7_addGuest_17 : decode cX7_addGuest 17 = .ok (.iload_n 1, 1) := by decide +kernel
theorem dX7_addGuest_18 : decode cX7_addGuest 18 = .ok (.iastore, 1) := by decide +kernel
theorem dX7_addGuest_19 : decode cX7_addGuest 19 = .ok (.aload_n 0, 1) := by decide +kernel
theorem dX7_addGuest_20 : decode cX7_addGuest 20 = .ok (.getfield 31, 3) := by decide +kernel
theorem dX7_addGuest_23 : decode cX7_addGuest 23 = .ok (.aload_n 0, 1) := by decide +kernel
theorem dX7_addGuest_24 : decode cX7_addGuest 24 = .ok (.getfield 56, 3) := by decide +kernel
theorem dX7_addGuest_27 : decode cX7_addGuest 27 = .ok (.iload_n 2, 1) := by decide +kernel
theorem dX7_addGuest_28 : decode cX7_addGuest 28 = .ok (.iastore, 1) := by decide +kernel
theorem dX7_addGuest_29 : decode cX7_addGuest 29 = .ok (.aload_n 0, 1) := by decide +kernel
theorem dX7_addGuest_30 : decode cX7_addGuest 30 = .ok (.getfield 34, 3) := by decide +kernel
theorem dX7_addGuest_33 : decode cX7_addGuest 33 = .ok (.aload_n 0, 1) := by decide +kernel
theorem dX7_addGuest_34 : decode cX7_addGuest 34 = .ok (.getfield 56, 3) := by decide +kernel
theorem dX7_addGuest_37 : decode cX7_addGuest 37 = .ok (.iload_n 3, 1) := by decide +kernel
theorem dX7_addGuest_38 : decode cX7_addGuest 38 = .ok (.iastore, 1) := by decide +kernel
theorem dX7_addGuest_39 : decode cX7_addGuest 39 = .ok (.aload_n 0, 1) := by decide +kernel
theorem dX7_addGuest_40 : decode cX7_addGuest 40 = .ok (.dup, 1) := by decide +kernel
theorem dX7_addGuest_41 : decode cX7_addGuest 41 = .ok (.getfield 56, 3) := by decide +kernel
theorem dX7_addGuest_44 : decode cX7_addGuest 44 = .ok (.iconst 1, 1) := by decide +kernel
theorem dX7_addGuest_45 : decode cX7_addGuest 45 = .ok (.iadd, 1) := by decide +kernel
theorem dX7_addGuest_46 : decode cX7_addGuest 46 = .ok (.putfield 56, 3) := by decide +kernel
theorem dX7_addGuest_49 : decode cX7_addGuest 49 = .ok (.return_, 1) := by decide +kernel
theorem dX7_isTier_0 : decode cX7_isTier 0 = .ok (.iload_n 1, 1) := by decide +kernel
theorem dX7_isTier_1 : decode cX7_isTier 1 = .ok (.ifCond .lt 15, 3) := by decide +kernel
theorem dX7_isTier_4 : decode cX7_isTier 4 = .ok (.iload_n 1, 1) := by decide +kernel
theorem dX7_isTier_5 : decode cX7_isTier 5 = .ok (.aload_n 0, 1) := by decide +kernel
theorem dX7_isTier_6 : decode cX7_isTier 6 = .ok (.getfield 53, 3) := by decide +kernel
theorem dX7_isTier_9 : decode cX7_isTier 9 = .ok (.if_icmp .ge 7, 3) := by decide +kernel
theorem dX7_isTier_12 : decode cX7_isTier 12 = .ok (.iconst 1, 1) := by decide +kernel
theorem dX7_isTier_13 : decode cX7_isTier 13 = .ok (.goto 4, 3) := by decide +kernel
theorem dX7_isTier_16 : decode cX7_isTier 16 = .ok (.iconst 0, 1) := by decide +kernel
theorem dX7_isTier_17 : decode cX7_isTier 17 = .ok (.ireturn, 1) := by decide +kernel
theorem dX7_isGuest_0 : decode cX7_isGuest 0 = .ok (.iload_n 1, 1) := by decide +kernel
theorem dX7_isGuest_1 : decode cX7_isGuest 1 = .ok (.ifCond .lt 15, 3) := by decide +kernel
theorem dX7_isGuest_4 : decode cX7_isGuest 4 = .ok (.iload_n 1, 1) := by decide +kernel
theorem dX7_isGuest_5 : decode cX7_isGuest 5 = .ok (.aload_n 0, 1) := by decide +kernel
theorem dX7_isGuest_6 : decode cX7_isGuest 6 = .ok (.getfield 56, 3) := by decide +kernel
theorem dX7_isGuest_9 : decode cX7_isGuest 9 = .ok (.if_icmp .ge 7, 3) := by decide +kernel
theorem dX7_isGuest_12 : decode cX7_isGuest 12 = .ok (.iconst 1, 1) := by decide +kernel
theorem dX7_isGuest_13 : decode cX7_isGuest 13 = .ok (.goto 4, 3) := by decide +kernel
theorem dX7_isGuest_16 : decode cX7_isGuest 16 = .ok (.iconst 0, 1) := by decide +kernel
theorem dX7_isGuest_17 : decode cX7_isGuest 17 = .ok (.ireturn, 1) := by decide +kernel
set_option maxRecDepth 20000 in
theorem ggX7_areaOf_X7_isTier : GoodIn wsX7_areaOf wsX7_isTier := goodIn_r _ [9, 10, 18, 19, 20, 21, 22, 23, 24, 25, 26, 27, 28, 29, 30, 31, 32, 33] (by decide +kernel) (by decide +kernel)
set_option maxRecDepth 20000 in
theorem gX7_areaOf_X7_isTier : GoodIn wsX7_areaOf (wsV RX7 81 RX7 yX7_isTier wsX7_isTier) := goodIn_app (goodIn_of _ (by decide +kernel)) ggX7_areaOf_X7_isTier
theorem dX7_areaOf_0 : decode cX7_areaOf 0 = .ok (.aload_n 0, 1) := by decide +kernel
theorem dX7_areaOf_1 : decode cX7_areaOf 1 = .ok (.aload_n 1, 1) := by decide +kernel
theorem dX7_areaOf_2 : decode cX7_areaOf 2 = .ok (.getfield 76, 3) := by decide +kernel
theorem dX7_areaOf_5 : decode cX7_areaOf 5 = .ok (.invokevirtual 81, 3) := by decide +kernel
theorem dX7_areaOf_8 : decode cX7_areaOf 8 = .ok (.ifCond .eq 25, 3) := by decide +kernel
theorem dX7_areaOf_11 : decode cX7_areaOf 11 = .ok (.aload_n 1, 1) := by decide +kernel
theorem dX7_areaOf_12 : decode cX7_areaOf 12 = .ok (.getfield 85, 3) := by decide +kernel
theorem dX7_areaOf_15 : decode cX7_areaOf 15 = .ok (.aload_n 1, 1) := by decide +kernel
theorem dX7_areaOf_16 : decode cX7_areaOf 16 = .ok (.getfield 88, 3) := by decide +kernel
theorem dX7_areaOf_19 : decode cX7_areaOf 19 = .ok (.imul, 1) := by decide +kernel
theorem dX7_areaOf_20 : decode cX7_areaOf 20 = .ok (.aload_n 0, 1) := by decide +kernel
theorem dX7_areaOf_21 : decode cX7_areaOf 21 = .ok (.getfield 22, 3) := by decide +kernel
theorem dX7_areaOf_24 : decode cX7_areaOf 24 = .ok (.aload_n 1, 1) := by decide +kernel
theorem dX7_areaOf_25 : decode cX7_areaOf 25 = .ok (.getfield 76, 3) := by decide +kernel
theorem dX7_areaOf_28 : decode cX7_areaOf 28 = .ok (.iaload, 1) := by decide +kernel
theorem dX7_areaOf_29 : decode cX7_areaOf 29 = .ok (.imul, 1) := by decide +kernel
theorem dX7_areaOf_30 : decode cX7_areaOf 30 = .ok (.goto 4, 3) := by decide +kernel
theorem dX7_areaOf_33 : decode cX7_areaOf 33 = .ok (.iconst 0, 1) := by decide +kernel
theorem dX7_areaOf_34 : decode cX7_areaOf 34 = .ok (.ireturn, 1) := by decide +kernel
set_option maxRecDepth 20000 in
theorem ggX7_icingOf_X7_isTier : GoodIn wsX7_icingOf wsX7_isTier := goodIn_r _ [12, 13, 21, 22, 23, 24, 25, 26, 27, 28, 29, 30, 31, 32, 33, 34, 35, 36] (by decide +kernel) (by decide +kernel)
set_option maxRecDepth 20000 in
theorem gX7_icingOf_X7_isTier : GoodIn wsX7_icingOf (wsV RX7 81 RX7 yX7_isTier wsX7_isTier) := goodIn_app (goodIn_of _ (by decide +kernel)) ggX7_icingOf_X7_isTier
theorem dX7_icingOf_0 : decode cX7_icingOf 0 = .ok (.aload_n 0, 1) := by decide +kernel
theorem dX7_icingOf_1 : decode cX7_icingOf 1 = .ok (.aload_n 1, 1) := by decide +kernel
theorem dX7_icingOf_2 : decode cX7_icingOf 2 = .ok (.getfield 76, 3) := by decide +kernel
theorem dX7_icingOf_5 : decode cX7_icingOf 5 = .ok (.invokevirtual 81, 3) := by decide +kernel
theorem dX7_icingOf_8 : decode cX7_icingOf 8 = .ok (.ifCond .ne 5, 3) := by decide +kernel
theorem dX7_icingOf_11 : decode cX7_icingOf 11 = .ok (.iconst 0, 1) := by decide +kernel
theorem dX7_icingOf_12 : decode cX7_icingOf 12 = .ok (.ireturn, 1) := by decide +kernel
theorem dX7_icingOf_13 : decode cX7_icingOf 13 = .ok (.aload_n 1, 1) := by decide +kernel
theorem dX7_icingOf_14 : decode cX7_icingOf 14 = .ok (.getfield 91, 3) := by decide +kernel
theorem dX7_icingOf_17 : decode cX7_icingOf 17 = .ok (.ifCond .ne 10, 3) := by decide +kernel
theorem dX7_icingOf_20 : decode cX7_icingOf 20 = .ok (.aload_n 1, 1) := by decide +kernel
theorem dX7_icingOf_21 : decode cX7_icingOf 21 = .ok (.getfield 88, 3) := by decide +kernel
theorem dX7_icingOf_24 : decode cX7_icingOf 24 = .ok (.goto 4, 3) := by decide +kernel
theorem dX7_icingOf_27 : decode cX7_icingOf 27 = .ok (.iconst 0, 1) := by decide +kernel
theorem dX7_icingOf_28 : decode cX7_icingOf 28 = .ok (.istore_n 2, 1) := by decide +kernel
theorem dX7_icingOf_29 : decode cX7_icingOf 29 = .ok (.aload_n 1, 1) := by decide +kernel
theorem dX7_icingOf_30 : decode cX7_icingOf 30 = .ok (.getfield 91, 3) := by decide +kernel
theorem dX7_icingOf_33 : decode cX7_icingOf 33 = .ok (.aload_n 1, 1) := by decide +kernel
theorem dX7_icingOf_34 : decode cX7_icingOf 34 = .ok (.getfield 85, 3) := by decide +kernel
theorem dX7_icingOf_37 : decode cX7_icingOf 37 = .ok (.iadd, 1) := by decide +kernel
theorem dX7_icingOf_38 : decode cX7_icingOf 38 = .ok (.aload_n 0, 1) := by decide +kernel
theorem dX7_icingOf_39 : decode cX7_icingOf 39 = .ok (.getfield 15, 3) := by decide +kernel
theorem dX7_icingOf_42 : decode cX7_icingOf 42 = .ok (.aload_n 1, 1) := by decide +kernel
theorem dX7_icingOf_43 : decode cX7_icingOf 43 = .ok (.getfield 76, 3) := by decide +kernel
theorem dX7_icingOf_46 : decode cX7_icingOf 46 = .ok (.iaload, 1) := by decide +kernel
theorem dX7_icingOf_47 : decode cX7_icingOf 47 = .ok (.if_icmp .ne 10, 3) := by decide +kernel
theorem dX7_icingOf_50 : decode cX7_icingOf 50 = .ok (.iload_n 2, 1) := by decide +kernel
theorem dX7_icingOf_51 : decode cX7_icingOf 51 = .ok (.aload_n 1, 1) := by decide +kernel
theorem dX7_icingOf_52 : decode cX7_icingOf 52 = .ok (.getfield 88, 3) := by decide +kernel
theorem dX7_icingOf_55 : decode cX7_icingOf 55 = .ok (.iadd, 1) := by decide +kernel
theorem dX7_icingOf_56 : decode cX7_icingOf 56 = .ok (.istore_n 2, 1) := by decide +kernel
theorem dX7_icingOf_57 : decode cX7_icingOf 57 = .ok (.aload_n 1, 1) := by decide +kernel
theorem dX7_icingOf_58 : decode cX7_icingOf 58 = .ok (.getfield 94, 3) := by decide +kernel
theorem dX7_icingOf_61 : decode cX7_icingOf 61 = .ok (.ifCond .ne 10, 3) := by decide +kernel
theorem dX7_icingOf_64 : decode cX7_icingOf 64 = .ok (.iload_n 2, 1) := by decide +kernel
theorem dX7_icingOf_65 : decode cX7_icingOf 65 = .ok (.aload_n 1, 1) := by decide +kernel
theorem dX7_icingOf_66 : decode cX7_icingOf 66 = .ok (.getfield 85, 3) := by decide +kernel
theorem dX7_icingOf_69 : decode cX7_icingOf 69 = .ok (.iadd, 1) := by decide +kernel
theorem dX7_icingOf_70 : decode cX7_icingOf 70 = .ok (.istore_n 2, 1) := by decide +kernel
theorem dX7_icingOf_71 : decode cX7_icingOf 71 = .ok (.aload_n 1, 1) := by decide +kernel
theorem dX7_icingOf_72 : decode cX7_icingOf 72 = .ok (.getfield 94, 3) := by decide +kernel
theorem dX7_icingOf_75 : decode cX7_icingOf 75 = .ok (.aload_n 1, 1) := by decide +kernel
theorem dX7_icingOf_76 : decode cX7_icingOf 76 = .ok (.getfield 88, 3) := by decide +kernel
theorem dX7_icingOf_79 : decode cX7_icingOf 79 = .ok (.iadd, 1) := by decide +kernel
theorem dX7_icingOf_80 : decode cX7_icingOf 80 = .ok (.aload_n 0, 1) := by decide +kernel
theorem dX7_icingOf_81 : decode cX7_icingOf 81 = .ok (.getfield 19, 3) := by decide +kernel
theorem dX7_icingOf_84 : decode cX7_icingOf 84 = .ok (.aload_n 1, 1) := by decide +kernel
theorem dX7_icingOf_85 : decode cX7_icingOf 85 = .ok (.getfield 76, 3) := by decide +kernel
theorem dX7_icingOf_88 : decode cX7_icingOf 88 = .ok (.iaload, 1) := by decide +kernel
theorem dX7_icingOf_89 : decode cX7_icingOf 89 = .ok (.if_icmp .ne 10, 3) := by decide +kernel
theorem dX7_icingOf_92 : decode cX7_icingOf 92 = .ok (.iload_n 2, 1) := by decide +kernel
theorem dX7_icingOf_93 : decode cX7_icingOf 93 = .ok (.aload_n 1, 1) := by decide +kernel
theorem dX7_icingOf_94 : decode cX7_icingOf 94 = .ok (.getfield 85, 3) := by decide +kernel
theorem dX7_icingOf_97 : decode cX7_icingOf 97 = .ok (.iadd, 1) := by decide +kernel
theorem dX7_icingOf_98 : decode cX7_icingOf 98 = .ok (.istore_n 2, 1) := by decide +kernel
theorem dX7_icingOf_99 : decode cX7_icingOf 99 = .ok (.iload_n 2, 1) := by decide +kernel
theorem dX7_icingOf_100 : decode cX7_icingOf 100 = .ok (.ireturn, 1) := by decide +kernel
theorem dX8_init_0 : decode cX8_init 0 = .ok (.aload_n 0, 1) := by decide +kernel
theorem dX8_init_1 : decode cX8_init 1 = .ok (.invokespecial 3, 3) := by decide +kernel
theorem dX8_init_4 : decode cX8_init 4 = .ok (.aload_n 0, 1) := by decide +kernel
theorem dX8_init_5 : decode cX8_init 5 = .ok (.aload_n 1, 1) := by decide +kernel
theorem dX8_init_6 : decode cX8_init 6 = .ok (.putfield 9, 3) := by decide +kernel
theorem dX8_init_9 : decode cX8_init 9 = .ok (.aload_n 0, 1) := by decide +kernel
theorem dX8_init_10 : decode cX8_init 10 = .ok (.aload_n 2, 1) := by decide +kernel
theorem dX8_init_11 : decode cX8_init 11 = .ok (.putfield 15, 3) := by decide +kernel
theorem dX8_init_14 : decode cX8_init 14 = .ok (.aload_n 0, 1) := by decide +kernel
theorem dX8_init_15 : decode cX8_init 15 = .ok (.bipush 6, 2) := by decide +kernel
theorem dX8_init_17 : decode cX8_init 17 = .ok (.newarray .int, 2) := by decide +kernel
theorem dX8_init_19 : decode cX8_init 19 = .ok (.putfield 19, 3) := by decide +kernel
theorem dX8_init_22 : decode cX8_init 22 = .ok (.aload_n 0, 1) := by decide +kernel
theorem dX8_init_23 : decode cX8_init 23 = .ok (.bipush 6, 2) := by decide +kernel
theorem dX8_init_25 : decode cX8_init 25 = .ok (.newarray .int, 2) := by decide +kernel
theorem dX8_init_27 : decode cX8_init 27 = .ok (.putfield 23, 3) := by decide +kernel
theorem dX8_init_30 : decode cX8_init 30 = .ok (.return_, 1) := by decide +kernel
set_option maxRecDepth 20000 in
theorem ggX8_feeders_X7_isGuest : GoodIn wsX8_feeders wsX7_isGuest := goodIn_r _ [10, 11, 52, 53, 54, 55, 56, 57, 58, 59, 60, 61, 62, 63, 64, 65, 66, 67] (by decide +kernel) (by decide +kernel)
set_option maxRecDepth 20000 in
theorem gX8_feeders_X7_isGuest : GoodIn wsX8_feeders (wsV RX8 26 RX7 yX7_isGuest wsX7_isGuest) := goodIn_app (goodIn_of _ (by decide +kernel)) ggX8_feeders_X7_isGuest
set_option maxRecDepth 20000 in
theorem ggX8_feeders_X1_isFree : GoodIn wsX8_feeders wsX1_isFree := goodIn_r _ [16, 17, 18, 19, 20, 21, 15, 22, 23, 46, 47, 48, 49, 50, 51, 68, 69, 70, 71, 72, 73, 74] (by decide +kernel) (by decide +kernel)
set_option maxRecDepth 20000 in
theorem gX8_feeders_X1_isFree : GoodIn wsX8_feeders (wsV RX8 38 RX1 yX1_isFree wsX1_isFree) := goodIn_app (goodIn_of _ (by decide +kernel)) ggX8_feeders_X1_isFree
set_option maxRecDepth 20000 in
theorem ggX8_feeders_X7_areaOf : GoodIn wsX8_feeders wsX7_areaOf := goodIn_r _ [27, 28, 29, 30, 31, 32, 33, 34, 9, 35, 36, 68, 69, 70, 71, 72, 73, 74, 52, 53, 54, 55, 56, 57, 58, 59, 60, 61, 62, 63, 64, 65, 66, 67] (by decide +kernel) (by decide +kernel)
set_option maxRecDepth 20000 in
theorem gX8_feeders_X7_areaOf : GoodIn wsX8_feeders (wsV RX8 45 RX7 yX7_areaOf wsX7_areaOf) := goodIn_app (goodIn_of _ (by decide +kernel)) ggX8_feeders_X7_areaOf
theorem dX8_feeders_0 : decode cX8_feeders 0 = .ok (.iconst 0, 1) := by decide +kernel
theorem dX8_feeders_1 : decode cX8_feeders 1 = .ok (.istore_n 2, 1) := by decide +kernel
theorem dX8_feeders_2 : decode cX8_feeders 2 = .ok (.aload_n 0, 1) := by decide +kernel
theorem dX8_feeders_3 : decode cX8_feeders 3 = .ok (.getfield 9, 3) := by decide +kernel
theorem dX8_feeders_6 : decode cX8_feeders 6 = .ok (.iload_n 1, 1) := by decide +kernel
theorem dX8_feeders_7 : decode cX8_feeders 7 = .ok (.invokevirtual 26, 3) := by decide +kernel
theorem dX8_feeders_10 : decode cX8_feeders 10 = .ok (.ifCond .eq 67, 3) := by decide +kernel
theorem dX8_feeders_13 : decode cX8_feeders 13 = .ok (.iconst 0, 1) := by decide +kernel
theorem dX8_feeders_14 : decode cX8_feeders 14 = .ok (.istore_n 3, 1) := by decide +kernel
theorem dX8_feeders_15 : decode cX8_feeders 15 = .ok (.iload_n 3, 1) := by decide +kernel
theorem dX8_feeders_16 : decode cX8_feeders 16 = .ok (.aload_n 0, 1) := by decide +kernel
theorem dX8_feeders_17 : decode cX8_feeders 17 = .ok (.getfield 15, 3) := by decide +kernel
theorem dX8_feeders_20 : decode cX8_feeders 20 = .ok (.getfield 32, 3) := by decide +kernel
theorem dX8_feeders_23 : decode cX8_feeders 23 = .ok (.if_icmp .ge 54, 3) := by decide +kernel
theorem dX8_feeders_26 : decode cX8_feeders 26 = .ok (.aload_n 0, 1) := by decide +kernel
theorem dX8_feeders_27 : decode cX8_feeders 27 = .ok (.getfield 15, 3) := by decide +kernel
theorem dX8_feeders_30 : decode cX8_feeders 30 = .ok (.iload_n 3, 1) := by decide +kernel
theorem dX8_feeders_31 : decode cX8_feeders 31 = .ok (.invokevirtual 38, 3) := by decide +kernel
theorem dX8_feeders_34 : decode cX8_feeders 34 = .ok (.ifCond .eq 37, 3) := by decide +kernel
theorem dX8_feeders_37 : decode cX8_feeders 37 = .ok (.aload_n 0, 1) := by decide +kernel
theorem dX8_feeders_38 : decode cX8_feeders 38 = .ok (.getfield 9, 3) := by decide +kernel
theorem dX8_feeders_41 : decode cX8_feeders 41 = .ok (.aload_n 0, 1) := by decide +kernel
theorem dX8_feeders_42 : decode cX8_feeders 42 = .ok (.getfield 15, 3) := by decide +kernel
theorem dX8_feeders_45 : decode cX8_feeders 45 = .ok (.getfield 41, 3) := by decide +kernel
theorem dX8_feeders_48 : decode cX8_feeders 48 = .ok (.iload_n 3, 1) := by decide +kernel
theorem dX8_feeders_49 : decode cX8_feeders 49 = .ok (.aaload, 1) := by decide +kernel
theorem dX8_feeders_50 : decode cX8_feeders 50 = .ok (.invokevirtual 45, 3) := by decide +kernel
theorem dX8_feeders_53 : decode cX8_feeders 53 = .ok (.aload_n 0, 1) := by decide +kernel
theorem dX8_feeders_54 : decode cX8_feeders 54 = .ok (.getfield 9, 3) := by decide +kernel
theorem dX8_feeders_57 : decode cX8_feeders 57 = .ok (.getfield 49, 3) := by decide +kernel
theorem dX8_feeders_60 : decode cX8_feeders 60 = .ok (.iload_n 1, 1) := by decide +kernel
theorem dX8_feeders_61 : decode cX8_feeders 61 = .ok (.iaload, 1) := by decide +kernel
theorem dX8_feeders_62 : decode cX8_feeders 62 = .ok (.if_icmp .lt 9, 3) := by decide +kernel
theorem dX8_feeders_65 : decode cX8_feeders 65 = .ok (.iload_n 2, 1) := by decide +kernel
theorem dX8_feeders_66 : decode cX8_feeders 66 = .ok (.iconst 1, 1) := by decide +kernel
theorem dX8_feeders_67 : decode cX8_feeders 67 = .ok (.iload_n 3, 1) := by decide +kernel
theorem dX8_feeders_68 : decode cX8_feeders 68 = .ok (.ishl, 1) := by decide +kernel
theorem dX8_feeders_69 : decode cX8_feeders 69 = .ok (.ior, 1) := by decide +kernel
theorem dX8_feeders_70 : decode cX8_feeders 70 = .ok (.istore_n 2, 1) := by decide +kernel
theorem dX8_feeders_71 : decode cX8_feeders 71 = .ok (.iinc 3 1, 3) := by decide +kernel
theorem dX8_feeders_74 : decode cX8_feeders 74 = .ok (.goto (-59), 3) := by decide +kernel
theorem dX8_feeders_77 : decode cX8_feeders 77 = .ok (.iload_n 2, 1) := by decide +kernel
theorem dX8_feeders_78 : decode cX8_feeders 78 = .ok (.ireturn, 1) := by decide +kernel
set_option maxRecDepth 20000 in
theorem ggX8_servedIf_X8_prepare : GoodIn wsX8_servedIf wsX8_prepare := goodIn_r _ [5, 6, 7, 8, 9, 10, 11, 12, 13, 14, 15, 16, 17, 18, 19, 20, 21, 4, 22, 23, 24, 25, 26, 27, 28, 29, 30, 31, 32, 33, 34, 35, 36, 37, 38, 39, 40, 41, 42, 43, 44, 45, 46, 47, 48, 49, 50, 51, 52, 53, 58, 59, 60, 61, 62, 63, 64, 65, 66, 67, 68, 69, 70, 71, 72, 73, 74, 75, 76, 77, 78, 79, 80, 81, 82, 83, 84, 85, 86, 87, 88, 89, 90, 91, 92, 93, 94, 95] (by decide +kernel) (by decide +kernel)
set_option maxRecDepth 20000 in
theorem gX8_servedIf_X8_prepare : GoodIn wsX8_servedIf (wsV RX8 52 RX8 yX8_prepare wsX8_prepare) := goodIn_app (goodIn_of _ (by decide +kernel)) ggX8_servedIf_X8_prepare
set_option maxRecDepth 20000 in
theorem ggX8_servedIf_X8_matched : GoodIn wsX8_servedIf wsX8_matched := goodIn_r _ [57, 6, 16, 58, 59, 60, 61, 62, 63, 64, 65, 66] (by decide +kernel) (by decide +kernel)
set_option maxRecDepth 20000 in
theorem gX8_servedIf_X8_matched : GoodIn wsX8_servedIf (wsV RX8 56 RX8 yX8_matched wsX8_matched) := goodIn_app (goodIn_of _ (by decide +kernel)) ggX8_servedIf_X8_matched
theorem dX8_servedIf_0 : decode cX8_servedIf 0 = .ok (.aload_n 0, 1) := by decide +kernel
theorem dX8_servedIf_1 : decode cX8_servedIf 1 = .ok (.iload_n 1, 1) := by decide +kernel
theorem dX8_servedIf_2 : decode cX8_servedIf 2 = .ok (.iconst (-1), 1) := by decide +kernel
theorem dX8_servedIf_3 : decode cX8_servedIf 3 = .ok (.invokevirtual 52, 3) := by decide +kernel
theorem dX8_servedIf_6 : decode cX8_servedIf 6 = .ok (.aload_n 0, 1) := by decide +kernel
theorem dX8_servedIf_7 : decode cX8_servedIf 7 = .ok (.invokevirtual 56, 3) := by decide +kernel
theorem dX8_servedIf_10 : decode cX8_servedIf 10 = .ok (.ireturn, 1) := by decide +kernel
set_option maxRecDepth 20000 in
theorem ggX8_prepare_X8_addWanted : GoodIn wsX8_prepare wsX8_addWanted := goodIn_r _ [18, 1, 19, 50, 51, 52, 53, 54, 55, 56, 57, 58] (by decide +kernel) (by decide +kernel)
set_option maxRecDepth 20000 in
theorem gX8_prepare_X8_addWanted : GoodIn wsX8_prepare (wsV RX8 75 RX8 yX8_addWanted wsX8_addWanted) := goodIn_app (goodIn_of _ (by decide +kernel)) ggX8_prepare_X8_addWanted
set_option maxRecDepth 20000 in
theorem ggX8_prepare_X1_isFree : GoodIn wsX8_prepare wsX1_isFree := goodIn_r _ [24, 25, 26, 27, 28, 29, 23, 30, 31, 75, 76, 77, 78, 79, 80, 81, 82, 83, 84, 85, 86, 87] (by decide +kernel) (by decide +kernel)
set_option maxRecDepth 20000 in
theorem gX8_prepare_X1_isFree : GoodIn wsX8_prepare (wsV RX8 38 RX1 yX1_isFree wsX1_isFree) := goodIn_app (goodIn_of _ (by decide +kernel)) ggX8_prepare_X1_isFree
set_option maxRecDepth 20000 in
theorem ggX8_prepare_X7_areaOf : GoodIn wsX8_prepare wsX7_areaOf := goodIn_r _ [36, 37, 38, 39, 40, 41, 42, 43, 35, 44, 45, 81, 82, 83, 84, 85, 86, 87, 59, 60, 61, 62, 63, 64, 65, 66, 67, 68, 69, 70, 71, 72, 73, 74] (by decide +kernel) (by decide +kernel)
set_option maxRecDepth 20000 in
theorem gX8_prepare_X7_areaOf : GoodIn wsX8_prepare (wsV RX8 45 RX7 yX7_areaOf wsX7_areaOf) := goodIn_app (goodIn_of _ (by decide +kernel)) ggX8_prepare_X7_areaOf
set_option maxRecDepth 20000 in
theorem ggX8_prepare_X8_count : GoodIn wsX8_prepare wsX8_count := goodIn_r _ [49, 1, 19, 11, 50, 51, 52, 53, 54, 55, 56, 57, 58] (by decide +kernel) (by decide +kernel)
set_option maxRecDepth 20000 in
theorem gX8_prepare_X8_count : GoodIn wsX8_prepare (wsV RX8 79 RX8 yX8_count wsX8_count) := goodIn_app (goodIn_of _ (by decide +kernel)) ggX8_prepare_X8_count
theorem dX8_prepare_0 : decode cX8_prepare 0 = .ok (.aload_n 0, 1) := by decide +kernel
theorem dX8_prepare_1 : decode cX8_prepare 1 = .ok (.iconst 0, 1) := by decide +kernel
theorem dX8_prepare_2 : decode cX8_prepare 2 = .ok (.putfield 60, 3) := by decide +kernel
theorem dX8_prepare_5 : decode cX8_prepare 5 = .ok (.iconst 0, 1) := by decide +kernel
theorem dX8_prepare_6 : decode cX8_prepare 6 = .ok (.istore_n 3, 1) := by decide +kernel
theorem dX8_prepare_7 : decode cX8_prepare 7 = .ok (.iload_n 3, 1) := by decide +kernel
theorem dX8_prepare_8 : decode cX8_prepare 8 = .ok (.aload_n 0, 1) := by decide +kernel
theorem dX8_prepare_9 : decode cX8_prepare 9 = .ok (.getfield 9, 3) := by decide +kernel
theorem dX8_prepare_12 : decode cX8_prepare 12 = .ok (.getfield 63, 3) := by decide +kernel
theorem dX8_prepare_15 : decode cX8_prepare 15 = .ok (.if_icmp .ge 46, 3) := by decide +kernel
theorem dX8_prepare_18 : decode cX8_prepare 18 = .ok (.iload_n 3, 1) := by decide +kernel
theorem dX8_prepare_19 : decode cX8_prepare 19 = .ok (.iload_n 2, 1) := by decide +kernel
theorem dX8_prepare_20 : decode cX8_prepare 20 = .ok (.if_icmp .eq 35, 3) := by decide +kernel
theorem dX8_prepare_23 : decode cX8_prepare 23 = .ok (.aload_n 0, 1) := by decide +kernel
theorem dX8_prepare_24 : decode cX8_prepare 24 = .ok (.getfield 15, 3) := by decide +kernel
theorem dX8_prepare_27 : decode cX8_prepare 27 = .ok (.getfield 66, 3) := by decide +kernel
theorem dX8_prepare_30 : decode cX8_prepare 30 = .ok (.iload_n 3, 1) := by decide +kernel
theorem dX8_prepare_31 : decode cX8_prepare 31 = .ok (.iaload, 1) := by decide +kernel
theorem dX8_prepare_32 : decode cX8_prepare 32 = .ok (.iconst (-1), 1) := by decide +kernel
theorem dX8_prepare_33 : decode cX8_prepare 33 = .ok (.if_icmp .ne 22, 3) := by decide +kernel
theorem dX8_prepare_36 : decode cX8_prepare 36 = .ok (.aload_n 0, 1) := by decide +kernel
theorem dX8_prepare_37 : decode cX8_prepare 37 = .ok (.iconst 0, 1) := by decide +kernel
theorem dX8_prepare_38 : decode cX8_prepare 38 = .ok (.aload_n 0, 1) := by decide +kernel
theorem dX8_prepare_39 : decode cX8_prepare 39 = .ok (.getfield 9, 3) := by decide +kernel
theorem dX8_prepare_42 : decode cX8_prepare 42 = .ok (.getfield 49, 3) := by decide +kernel
theorem dX8_prepare_45 : decode cX8_prepare 45 = .ok (.iload_n 3, 1) := by decide +kernel
theorem dX8_prepare_46 : decode cX8_prepare 46 = .ok (.iaload, 1) := by decide +kernel
theorem dX8_prepare_47 : decode cX8_prepare 47 = .ok (.iload_n 1, 1) := by decide +kernel
theorem dX8_prepare_48 : decode cX8_prepare 48 = .ok (.iadd, 1) := by decide +kernel
theorem dX8_prepare_49 : decode cX8_prepare 49 = .ok (.invokestatic 69, 3) := by decide +kernel
theorem dX8_prepare_52 : decode cX8_prepare 52 = .ok (.invokevirtual 75, 3) := by decide +kernel
theorem dX8_prepare_55 : decode cX8_prepare 55 = .ok (.iinc 3 1, 3) := by decide +kernel
theorem dX8_prepare_58 : decode cX8_prepare 58 = .ok (.goto (-51), 3) := by decide +kernel
theorem dX8_prepare_61 : decode cX8_prepare 61 = .ok (.iconst 0, 1) := by decide +kernel
theorem dX8_prepare_62 : decode cX8_prepare 62 = .ok (.istore_n 3, 1) := by decide +kernel
theorem dX8_prepare_63 : decode cX8_prepare 63 = .ok (.iload_n 3, 1) := by decide +kernel
theorem dX8_prepare_64 : decode cX8_prepare 64 = .ok (.aload_n 0, 1) := by decide +kernel
theorem dX8_prepare_65 : decode cX8_prepare 65 = .ok (.getfield 60, 3) := by decide +kernel
theorem dX8_prepare_68 : decode cX8_prepare 68 = .ok (.if_icmp .ge 16, 3) := by decide +kernel
theorem dX8_prepare_71 : decode cX8_prepare 71 = .ok (.aload_n 0, 1) := by decide +kernel
theorem dX8_prepare_72 : decode cX8_prepare 72 = .ok (.getfield 23, 3) := by decide +kernel
theorem dX8_prepare_75 : decode cX8_prepare 75 = .ok (.iload_n 3, 1) := by decide +kernel
theorem dX8_prepare_76 : decode cX8_prepare 76 = .ok (.iconst 0, 1) := by decide +kernel
theorem dX8_prepare_77 : decode cX8_prepare 77 = .ok (.iastore, 1) := by decide +kernel
theorem dX8_prepare_78 : decode cX8_prepare 78 = .ok (.iinc 3 1, 3) := by decide +kernel
theorem dX8_prepare_81 : decode cX8_prepare 81 = .ok (.goto (-18), 3) := by decide +kernel
theorem dX8_prepare_84 : decode cX8_prepare 84 = .ok (.iconst 0, 1) := by decide +kernel
theorem dX8_prepare_85 : decode cX8_prepare 85 = .ok (.istore_n 3, 1) := by decide +kernel
theorem dX8_prepare_86 : decode cX8_prepare 86 = .ok (.iload_n 3, 1) := by decide +kernel
theorem dX8_prepare_87 : decode cX8_prepare 87 = .ok (.aload_n 0, 1) := by decide +kernel
theorem dX8_prepare_88 : decode cX8_prepare 88 = .ok (.getfield 15, 3) := by decide +kernel
theorem dX8_prepare_91 : decode cX8_prepare 91 = .ok (.getfield 32, 3) := by decide +kernel
theorem dX8_prepare_94 : decode cX8_prepare 94 = .ok (.if_icmp .ge 41, 3) := by decide +kernel
theorem dX8_prepare_97 : decode cX8_prepare 97 = .ok (.aload_n 0, 1) := by decide +kernel
theorem dX8_prepare_98 : decode cX8_prepare 98 = .ok (.getfield 15, 3) := by decide +kernel
theorem dX8_prepare_101 : decode cX8_prepare 101 = .ok (.iload_n 3, 1) := by decide +kernel
theorem dX8_prepare_102 : decode cX8_prepare 102 = .ok (.invokevirtual 38, 3) := by decide +kernel
theorem dX8_prepare_105 : decode cX8_prepare 105 = .ok (.ifCond .eq 24, 3) := by decide +kernel
theorem dX8_prepare_108 : decode cX8_prepare 108 = .ok (.aload_n 0, 1) := by decide +kernel
theorem dX8_prepare_109 : decode cX8_prepare 109 = .ok (.aload_n 0, 1) := by decide +kernel
theorem dX8_prepare_110 : decode cX8_prepare 110 = .ok (.getfield 9, 3) := by decide +kernel
theorem dX8_prepare_113 : decode cX8_prepare 113 = .ok (.aload_n 0, 1) := by decide +kernel
theorem dX8_prepare_114 : decode cX8_prepare 114 = .ok (.getfield 15, 3) := by decide +kernel
theorem dX8_prepare_117 : decode cX8_prepare 117 = .ok (.getfield 41, 3) := by decide +kernel
theorem dX8_prepare_120 : decode cX8_prepare 120 = .ok (.iload_n 3, 1) := by decide +kernel
theorem dX8_prepare_121 : decode cX8_prepare 121 = .ok (.aaload, 1) := by decide +kernel
theorem dX8_prepare_122 : decode cX8_prepare 122 = .ok (.invokevirtual 45, 3) := by decide +kernel
theorem dX8_prepare_125 : decode cX8_prepare 125 = .ok (.iconst 1, 1) := by decide +kernel
theorem dX8_prepare_126 : decode cX8_prepare 126 = .ok (.invokevirtual 79, 3) := by decide +kernel
theorem dX8_prepare_129 : decode cX8_prepare 129 = .ok (.iinc 3 1, 3) := by decide +kernel
theorem dX8_prepare_132 : decode cX8_prepare 132 = .ok (.goto (-46), 3) := by decide +kernel
theorem dX8_prepare_135 : decode cX8_prepare 135 = .ok (.return_, 1) := by decide +kernel
theorem dX8_addWanted_0 : decode cX8_addWanted 0 = .ok (.aload_n 0, 1) := by decide +kernel
theorem dX8_addWanted_1 : decode cX8_addWanted 1 = .ok (.getfield 60, 3) := by decide +kernel
theorem dX8_addWanted_4 : decode cX8_addWanted 4 = .ok (.bipush 6, 2) := by decide +kernel
theorem dX8_addWanted_6 : decode cX8_addWanted 6 = .ok (.if_icmp .lt 4, 3) := by decide +kernel
theorem dX8_addWanted_9 : decode cX8_addWanted 9 = .ok (.return_, 1) := by decide +kernel
theorem dX8_addWanted_10 : decode cX8_addWanted 10 = .ok (.aload_n 0, 1) := by decide +kernel
theorem dX8_addWanted_11 : decode cX8_addWanted 11 = .ok (.getfield 60, 3) := by decide +kernel
theorem dX8_addWanted_14 : decode cX8_addWanted 14 = .ok (.istore_n 2, 1) := by decide +kernel
theorem dX8_addWanted_15 : decode cX8_addWanted 15 = .ok (.iload_n 2, 1) := by decide +kernel
theorem dX8_addWanted_16 : decode cX8_addWanted 16 = .ok (.ifCond .le 35, 3) := by decide +kernel
theorem dX8_addWanted_19 : decode cX8_addWanted 19 = .ok (.aload_n 0, 1) := by decide +kernel
theorem dX8_addWanted_20 : decode cX8_addWanted 20 = .ok (.getfield 19, 3) := by decide +kernel
theorem dX8_addWanted_23 : decode cX8_addWanted 23 = .ok (.iload_n 2, 1) := by decide +kernel
theorem dX8_addWanted_24 : decode cX8_addWanted 24 = .ok (.iconst 1, 1) := by decide +kernel
theorem dX8_addWanted_25 : decode cX8_addWanted 25 = .ok (.isub, 1) := by decide +kernel
theorem dX8_addWanted_26 : decode cX8_addWanted 26 = .ok (.iaload, 1) := by decide +kernel
theorem dX8_addWanted_27 : decode cX8_addWanted 27 = .ok (.iload_n 1, 1) := by decide +kernel
theorem dX8_addWanted_28 : decode cX8_addWanted 28 = .ok (.if_icmp .ge 23, 3) := by decide +kernel
theorem dX8_addWanted_31 : decode cX8_addWanted 31 = .ok (.aload_n 0, 1) := by decide +kernel
theorem dX8_addWanted_32 : decode cX8_addWanted 32 = .ok (.getfield 19, 3) := by decide +kernel
theorem dX8_addWanted_35 : decode cX8_addWanted 35 = .ok (.iload_n 2, 1) := by decide +kernel
theorem dX8_addWanted_36 : decode cX8_addWanted 36 = .ok (.aload_n 0, 1) := by decide +kernel
theorem dX8_addWanted_37 : decode cX8_addWanted 37 = .ok (.getfield 19, 3) := by decide +kernel
theorem dX8_addWanted_40 : decode cX8_addWanted 40 = .ok (.iload_n 2, 1) := by decide +kernel
theorem dX8_addWanted_41 : decode cX8_addWanted 41 = .ok (.iconst 1, 1) := by decide +kernel
theorem dX8_addWanted_42 : decode cX8_addWanted 42 = .ok (.isub, 1) := by decide +kernel
theorem dX8_addWanted_43 : decode cX8_addWanted 43 = .ok (.iaload, 1) := by decide +kernel
theorem dX8_addWanted_44 : decode cX8_addWanted 44 = .ok (.iastore, 1) := by decide +kernel
theorem dX8_addWanted_45 : decode cX8_addWanted 45 = .ok (.iinc 2 (-1), 3) := by decide +kernel
theorem dX8_addWanted_48 : decode cX8_addWanted 48 = .ok (.goto (-33), 3) := by decide +kernel
theorem dX8_addWanted_51 : decode cX8_addWanted 51 = .ok (.aload_n 0, 1) := by decide +kernel
theorem dX8_addWanted_52 : decode cX8_addWanted 52 = .ok (.getfield 19, 3) := by decide +kernel
theorem dX8_addWanted_55 : decode cX8_addWanted 55 = .ok (.iload_n 2, 1) := by decide +kernel
theorem dX8_addWanted_56 : decode cX8_addWanted 56 = .ok (.iload_n 1, 1) := by decide +kernel
theorem dX8_addWanted_57 : decode cX8_addWanted 57 = .ok (.iastore, 1) := by decide +kernel
theorem dX8_addWanted_58 : decode cX8_addWanted 58 = .ok (.aload_n 0, 1) := by decide +kernel
theorem dX8_addWanted_59 : decode cX8_addWanted 59 = .ok (.dup, 1) := by decide +kernel
theorem dX8_addWanted_60 : decode cX8_addWanted 60 = .ok (.getfield 60, 3) := by decide +kernel
theorem dX8_addWanted_63 : decode cX8_addWanted 63 = .ok (.iconst 1, 1) := by decide +kernel
theorem dX8_addWanted_64 : decode cX8_addWanted 64 = .ok (.iadd, 1) := by decide +kernel
theorem dX8_addWanted_65 : decode cX8_addWanted 65 = .ok (.putfield 60, 3) := by decide +kernel
theorem dX8_addWanted_68 : decode cX8_addWanted 68 = .ok (.return_, 1) := by decide +kernel
theorem dX8_count_0 : decode cX8_count 0 = .ok (.iconst 0, 1) := by decide +kernel
theorem dX8_count_1 : decode cX8_count 1 = .ok (.istore_n 3, 1) := by decide +kernel
theorem dX8_count_2 : decode cX8_count 2 = .ok (.iload_n 3, 1) := by decide +kernel
theorem dX8_count_3 : decode cX8_count 3 = .ok (.aload_n 0, 1) := by decide +kernel
theorem dX8_count_4 : decode cX8_count 4 = .ok (.getfield 60, 3) := by decide +kernel
theorem dX8_count_7 : decode cX8_count 7 = .ok (.if_icmp .ge 29, 3) := by decide +kernel
theorem dX8_count_10 : decode cX8_count 10 = .ok (.iload_n 1, 1) := by decide +kernel
theorem dX8_count_11 : decode cX8_count 11 = .ok (.aload_n 0, 1) := by decide +kernel
theorem dX8_count_12 : decode cX8_count 12 = .ok (.getfield 19, 3) := by decide +kernel
theorem dX8_count_15 : decode cX8_count 15 = .ok (.iload_n 3, 1) := by decide +kernel
theorem dX8_count_16 : decode cX8_count 16 = .ok (.iaload, 1) := by decide +kernel
theorem dX8_count_17 : decode cX8_count 17 = .ok (.if_icmp .lt 13, 3) := by decide +kernel
theorem dX8_count_20 : decode cX8_count 20 = .ok (.aload_n 0, 1) := by decide +kernel
theorem dX8_count_21 : decode cX8_count 21 = .ok (.getfield 23, 3) := by decide +kernel
theorem dX8_count_24 : decode cX8_count 24 = .ok (.iload_n 3, 1) := by decide +kernel
theorem dX8_count_25 : decode cX8_count 25 = .ok (.dup2, 1) := by decide +kernel
theorem dX8_count_26 : decode cX8_count 26 = .ok (.iaload, 1) := by decide +kernel
theorem dX8_count_27 : decode cX8_count 27 = .ok (.iload_n 2, 1) := by decide +kernel
theorem dX8_count_28 : decode cX8_count 28 = .ok (.iadd, 1) := by decide +kernel
theorem dX8_count_29 : decode cX8_count 29 = .ok (.iastore, 1) := by decide +kernel
theorem dX8_count_30 : decode cX8_count 30 = .ok (.iinc 3 1, 3) := by decide +kernel
theorem dX8_count_33 : decode cX8_count 33 = .ok (.goto (-31), 3) := by decide +kernel
theorem dX8_count_36 : decode cX8_count 36 = .ok (.return_, 1) := by decide +kernel
theorem dX8_matched_0 : decode cX8_matched 0 = .ok (.iconst 0, 1) := by decide +kernel
theorem dX8_matched_1 : decode cX8_matched 1 = .ok (.istore_n 1, 1) := by decide +kernel
theorem dX8_matched_2 : decode cX8_matched 2 = .ok (.iconst 0, 1) := by decide +kernel
theorem dX8_matched_3 : decode cX8_matched 3 = .ok (.istore_n 2, 1) := by decide +kernel
theorem dX8_matched_4 : decode cX8_matched 4 = .ok (.iload_n 2, 1) := by decide +kernel
theorem dX8_matched_5 : decode cX8_matched 5 = .ok (.aload_n 0, 1) := by decide +kernel
theorem dX8_matched_6 : decode cX8_matched 6 = .ok (.getfield 60, 3) := by decide +kernel
theorem dX8_matched_9 : decode cX8_matched 9 = .ok (.if_icmp .ge 22, 3) := by decide +kernel
theorem dX8_matched_12 : decode cX8_matched 12 = .ok (.aload_n 0, 1) := by decide +kernel
theorem dX8_matched_13 : decode cX8_matched 13 = .ok (.getfield 23, 3) := by decide +kernel
theorem dX8_matched_16 : decode cX8_matched 16 = .ok (.iload_n 2, 1) := by decide +kernel
theorem dX8_matched_17 : decode cX8_matched 17 = .ok (.iaload, 1) := by decide +kernel
theorem dX8_matched_18 : decode cX8_matched 18 = .ok (.iload_n 1, 1) := by decide +kernel
theorem dX8_matched_19 : decode cX8_matched 19 = .ok (.if_icmp .le 6, 3) := by decide +kernel
theorem dX8_matched_22 : decode cX8_matched 22 = .ok (.iinc 1 1, 3) := by decide +kernel
theorem dX8_matched_25 : decode cX8_matched 25 = .ok (.iinc 2 1, 3) := by decide +kernel
theorem dX8_matched_28 : decode cX8_matched 28 = .ok (.goto (-24), 3) := by decide +kernel
theorem dX8_matched_31 : decode cX8_matched 31 = .ok (.iload_n 1, 1) := by decide +kernel
theorem dX8_matched_32 : decode cX8_matched 32 = .ok (.ireturn, 1) := by decide +kernel
set_option maxRecDepth 20000 in
theorem ggX8_findCut_X8_prepare : GoodIn wsX8_findCut wsX8_prepare := goodIn_r _ [10, 11, 4, 12, 2, 13, 14, 15, 16, 17, 18, 19, 3, 5, 20, 21, 22, 9, 23, 24, 25, 26, 27, 28, 29, 30, 31, 32, 33, 34, 35, 36, 37, 38, 39, 40, 41, 42, 43, 44, 45, 46, 47, 48, 49, 50, 51, 52, 53, 54, 73, 74, 75, 76, 77, 78, 79, 80, 81, 88, 89, 90, 91, 92, 93, 94, 95, 96, 97, 98, 99, 100, 101, 102, 103, 82, 83, 84, 85, 86, 87, 104, 105, 106, 107, 108, 109, 110] (by decide +kernel) (by decide +kernel)
set_option maxRecDepth 20000 in
theorem gX8_findCut_X8_prepare : GoodIn wsX8_findCut (wsV RX8 52 RX8 yX8_prepare wsX8_prepare) := goodIn_app (goodIn_of _ (by decide +kernel)) ggX8_findCut_X8_prepare
set_option maxRecDepth 20000 in
theorem ggX8_findCut_X1_isFree : GoodIn wsX8_findCut wsX1_isFree := goodIn_r _ [29, 30, 31, 32, 33, 34, 28, 35, 36, 82, 83, 84, 85, 86, 87, 104, 105, 106, 107, 108, 109, 110] (by decide +kernel) (by decide +kernel)
set_option maxRecDepth 20000 in
theorem gX8_findCut_X1_isFree : GoodIn wsX8_findCut (wsV RX8 38 RX1 yX1_isFree wsX1_isFree) := goodIn_app (goodIn_of _ (by decide +kernel)) ggX8_findCut_X1_isFree
set_option maxRecDepth 20000 in
theorem ggX8_findCut_X7_areaOf : GoodIn wsX8_findCut wsX7_areaOf := goodIn_r _ [41, 42, 43, 44, 45, 46, 47, 48, 40, 49, 50, 104, 105, 106, 107, 108, 109, 110, 88, 89, 90, 91, 92, 93, 94, 95, 96, 97, 98, 99, 100, 101, 102, 103] (by decide +kernel) (by decide +kernel)
set_option maxRecDepth 20000 in
theorem gX8_findCut_X7_areaOf : GoodIn wsX8_findCut (wsV RX8 45 RX7 yX7_areaOf wsX7_areaOf) := goodIn_app (goodIn_of _ (by decide +kernel)) ggX8_findCut_X7_areaOf
set_option maxRecDepth 20000 in
theorem ggX8_findCut_X8_count : GoodIn wsX8_findCut wsX8_count := goodIn_r _ [54, 11, 24, 19, 73, 74, 75, 76, 77, 78, 79, 80, 81] (by decide +kernel) (by decide +kernel)
set_option maxRecDepth 20000 in
theorem gX8_findCut_X8_count : GoodIn wsX8_findCut (wsV RX8 79 RX8 yX8_count wsX8_count) := goodIn_app (goodIn_of _ (by decide +kernel)) ggX8_findCut_X8_count
set_option maxRecDepth 20000 in
theorem ggX8_findCut_X8_tryCuts : GoodIn wsX8_findCut wsX8_tryCuts := goodIn_r _ [58, 2, 5, 1, 59, 60, 61, 62, 63, 64, 65, 66, 67, 68, 51, 52, 53, 9, 54, 11, 24, 19, 69, 70, 71, 72, 73, 74, 75, 76, 77, 78, 79, 80, 81, 82, 83, 84, 85, 86, 87, 104, 105, 106, 107, 108, 109, 110] (by decide +kernel) (by decide +kernel)
set_option maxRecDepth 20000 in
theorem gX8_findCut_X8_tryCuts : GoodIn wsX8_findCut (wsV RX8 84 RX8 yX8_tryCuts wsX8_tryCuts) := goodIn_app (goodIn_of _ (by decide +kernel)) ggX8_findCut_X8_tryCuts
theorem dX8_findCut_0 : decode cX8_findCut 0 = .ok (.aload_n 0, 1) := by decide +kernel
theorem dX8_findCut_1 : decode cX8_findCut 1 = .ok (.iconst 0, 1) := by decide +kernel
theorem dX8_findCut_2 : decode cX8_findCut 2 = .ok (.iconst (-1), 1) := by decide +kernel
theorem dX8_findCut_3 : decode cX8_findCut 3 = .ok (.invokevirtual 52, 3) := by decide +kernel
theorem dX8_findCut_6 : decode cX8_findCut 6 = .ok (.aload_n 0, 1) := by decide +kernel
theorem dX8_findCut_7 : decode cX8_findCut 7 = .ok (.iconst (-1), 1) := by decide +kernel
theorem dX8_findCut_8 : decode cX8_findCut 8 = .ok (.putfield 81, 3) := by decide +kernel
theorem dX8_findCut_11 : decode cX8_findCut 11 = .ok (.iconst 0, 1) := by decide +kernel
theorem dX8_findCut_12 : decode cX8_findCut 12 = .ok (.istore_n 1, 1) := by decide +kernel
theorem dX8_findCut_13 : decode cX8_findCut 13 = .ok (.iload_n 1, 1) := by decide +kernel
theorem dX8_findCut_14 : decode cX8_findCut 14 = .ok (.aload_n 0, 1) := by decide +kernel
theorem dX8_findCut_15 : decode cX8_findCut 15 = .ok (.getfield 15, 3) := by decide +kernel
theorem dX8_findCut_18 : decode cX8_findCut 18 = .ok (.getfield 32, 3) := by decide +kernel
theorem dX8_findCut_21 : decode cX8_findCut 21 = .ok (.if_icmp .ge 63, 3) := by decide +kernel
theorem dX8_findCut_24 : decode cX8_findCut 24 = .ok (.aload_n 0, 1) := by decide +kernel
theorem dX8_findCut_25 : decode cX8_findCut 25 = .ok (.getfield 15, 3) := by decide +kernel
theorem dX8_findCut_28 : decode cX8_findCut 28 = .ok (.iload_n 1, 1) := by decide +kernel
theorem dX8_findCut_29 : decode cX8_findCut 29 = .ok (.invokevirtual 38, 3) := by decide +kernel
theorem dX8_findCut_32 : decode cX8_findCut 32 = .ok (.ifCond .eq 46, 3) := by decide +kernel
theorem dX8_findCut_35 : decode cX8_findCut 35 = .ok (.aload_n 0, 1) := by decide +kernel
theorem dX8_findCut_36 : decode cX8_findCut 36 = .ok (.getfield 9, 3) := by decide +kernel
theorem dX8_findCut_39 : decode cX8_findCut 39 = .ok (.aload_n 0, 1) := by decide +kernel
theorem dX8_findCut_40 : decode cX8_findCut 40 = .ok (.getfield 15, 3) := by decide +kernel
theorem dX8_findCut_43 : decode cX8_findCut 43 = .ok (.getfield 41, 3) := by decide +kernel
theorem dX8_findCut_46 : decode cX8_findCut 46 = .ok (.iload_n 1, 1) := by decide +kernel
theorem dX8_findCut_47 : decode cX8_findCut 47 = .ok (.aaload, 1) := by decide +kernel
theorem dX8_findCut_48 : decode cX8_findCut 48 = .ok (.invokevirtual 45, 3) := by decide +kernel
theorem dX8_findCut_51 : decode cX8_findCut 51 = .ok (.istore_n 2, 1) := by decide +kernel
theorem dX8_findCut_52 : decode cX8_findCut 52 = .ok (.aload_n 0, 1) := by decide +kernel
theorem dX8_findCut_53 : decode cX8_findCut 53 = .ok (.iload_n 2, 1) := by decide +kernel
theorem dX8_findCut_54 : decode cX8_findCut 54 = .ok (.iconst (-1), 1) := by decide +kernel
theorem dX8_findCut_55 : decode cX8_findCut 55 = .ok (.invokevirtual 79, 3) := by decide +kernel
theorem dX8_findCut_58 : decode cX8_findCut 58 = .ok (.aload_n 0, 1) := by decide +kernel
theorem dX8_findCut_59 : decode cX8_findCut 59 = .ok (.iload_n 1, 1) := by decide +kernel
theorem dX8_findCut_60 : decode cX8_findCut 60 = .ok (.iconst 0, 1) := by decide +kernel
theorem dX8_findCut_61 : decode cX8_findCut 61 = .ok (.iload_n 2, 1) := by decide +kernel
theorem dX8_findCut_62 : decode cX8_findCut 62 = .ok (.invokevirtual 84, 3) := by decide +kernel
theorem dX8_findCut_65 : decode cX8_findCut 65 = .ok (.aload_n 0, 1) := by decide +kernel
theorem dX8_findCut_66 : decode cX8_findCut 66 = .ok (.iload_n 1, 1) := by decide +kernel
theorem dX8_findCut_67 : decode cX8_findCut 67 = .ok (.iconst 1, 1) := by decide +kernel
theorem dX8_findCut_68 : decode cX8_findCut 68 = .ok (.iload_n 2, 1) := by decide +kernel
theorem dX8_findCut_69 : decode cX8_findCut 69 = .ok (.invokevirtual 84, 3) := by decide +kernel
theorem dX8_findCut_72 : decode cX8_findCut 72 = .ok (.aload_n 0, 1) := by decide +kernel
theorem dX8_findCut_73 : decode cX8_findCut 73 = .ok (.iload_n 2, 1) := by decide +kernel
theorem dX8_findCut_74 : decode cX8_findCut 74 = .ok (.iconst 1, 1) := by decide +kernel
theorem dX8_findCut_75 : decode cX8_findCut 75 = .ok (.invokevirtual 79, 3) := by decide +kernel
theorem dX8_findCut_78 : decode cX8_findCut 78 = .ok (.iinc 1 1, 3) := by decide +kernel
theorem dX8_findCut_81 : decode cX8_findCut 81 = .ok (.goto (-68), 3) := by decide +kernel
theorem dX8_findCut_84 : decode cX8_findCut 84 = .ok (.aload_n 0, 1) := by decide +kernel
theorem dX8_findCut_85 : decode cX8_findCut 85 = .ok (.getfield 81, 3) := by decide +kernel
theorem dX8_findCut_88 : decode cX8_findCut 88 = .ok (.iconst (-1), 1) := by decide +kernel
theorem dX8_findCut_89 : decode cX8_findCut 89 = .ok (.if_icmp .eq 7, 3) := by decide +kernel
theorem dX8_findCut_92 : decode cX8_findCut 92 = .ok (.iconst 1, 1) := by decide +kernel
theorem dX8_findCut_93 : decode cX8_findCut 93 = .ok (.goto 4, 3) := by decide +kernel
theorem dX8_findCut_96 : decode cX8_findCut 96 = .ok (.iconst 0, 1) := by decide +kernel
theorem dX8_findCut_97 : decode cX8_findCut 97 = .ok (.ireturn, 1) := by decide +kernel
set_option maxRecDepth 20000 in
theorem ggX8_tryCuts_X9_extent : GoodIn wsX8_tryCuts wsX9_extent := goodIn_r _ [11, 12, 13, 41, 42, 43, 44, 45, 46, 47] (by decide +kernel) (by decide +kernel)
set_option maxRecDepth 20000 in
theorem gX8_tryCuts_X9_extent : GoodIn wsX8_tryCuts (wsV RX8 88 RX9 yX9_extent wsX9_extent) := goodIn_app (goodIn_of _ (by decide +kernel)) ggX8_tryCuts_X9_extent
set_option maxRecDepth 20000 in
theorem ggX8_tryCuts_X8_count : GoodIn wsX8_tryCuts wsX8_count := goodIn_r _ [18, 19, 20, 21, 26, 27, 28, 29, 30, 31, 32, 33, 34] (by decide +kernel) (by decide +kernel)
set_option maxRecDepth 20000 in
theorem gX8_tryCuts_X8_count : GoodIn wsX8_tryCuts (wsV RX8 79 RX8 yX8_count wsX8_count) := goodIn_app (goodIn_of _ (by decide +kernel)) ggX8_tryCuts_X8_count
set_option maxRecDepth 20000 in
theorem ggX8_tryCuts_X8_matched : GoodIn wsX8_tryCuts wsX8_matched := goodIn_r _ [25, 19, 21, 26, 27, 28, 29, 30, 31, 32, 33, 34] (by decide +kernel) (by decide +kernel)
set_option maxRecDepth 20000 in
theorem gX8_tryCuts_X8_matched : GoodIn wsX8_tryCuts (wsV RX8 56 RX8 yX8_matched wsX8_matched) := goodIn_app (goodIn_of _ (by decide +kernel)) ggX8_tryCuts_X8_matched
theorem dX8_tryCuts_0 : decode cX8_tryCuts 0 = .ok (.aload_n 0, 1) := by decide +kernel
theorem dX8_tryCuts_1 : decode cX8_tryCuts 1 = .ok (.getfield 15, 3) := by decide +kernel
theorem dX8_tryCuts_4 : decode cX8_tryCuts 4 = .ok (.getfield 41, 3) := by decide +kernel
theorem dX8_tryCuts_7 : decode cX8_tryCuts 7 = .ok (.iload_n 1, 1) := by decide +kernel
theorem dX8_tryCuts_8 : decode cX8_tryCuts 8 = .ok (.aaload, 1) := by decide +kernel
theorem dX8_tryCuts_9 : decode cX8_tryCuts 9 = .ok (.iload_n 2, 1) := by decide +kernel
theorem dX8_tryCuts_10 : decode cX8_tryCuts 10 = .ok (.invokevirtual 88, 3) := by decide +kernel
theorem dX8_tryCuts_13 : decode cX8_tryCuts 13 = .ok (.istore 4, 2) := by decide +kernel
theorem dX8_tryCuts_15 : decode cX8_tryCuts 15 = .ok (.iload 4, 2) := by decide +kernel
theorem dX8_tryCuts_17 : decode cX8_tryCuts 17 = .ok (.iconst 1, 1) := by decide +kernel
theorem dX8_tryCuts_18 : decode cX8_tryCuts 18 = .ok (.if_icmp .ge 4, 3) := by decide +kernel
theorem dX8_tryCuts_21 : decode cX8_tryCuts 21 = .ok (.return_, 1) := by decide +kernel
theorem dX8_tryCuts_22 : decode cX8_tryCuts 22 = .ok (.iload_n 3, 1) := by decide +kernel
theorem dX8_tryCuts_23 : decode cX8_tryCuts 23 = .ok (.iload 4, 2) := by decide +kernel
theorem dX8_tryCuts_25 : decode cX8_tryCuts 25 = .ok (.idiv, 1) := by decide +kernel
theorem dX8_tryCuts_26 : decode cX8_tryCuts 26 = .ok (.istore 5, 2) := by decide +kernel
theorem dX8_tryCuts_28 : decode cX8_tryCuts 28 = .ok (.iconst 1, 1) := by decide +kernel
theorem dX8_tryCuts_29 : decode cX8_tryCuts 29 = .ok (.istore 6, 2) := by decide +kernel
theorem dX8_tryCuts_31 : decode cX8_tryCuts 31 = .ok (.iload 6, 2) := by decide +kernel
theorem dX8_tryCuts_33 : decode cX8_tryCuts 33 = .ok (.iload 4, 2) := by decide +kernel
theorem dX8_tryCuts_35 : decode cX8_tryCuts 35 = .ok (.if_icmp .ge 98, 3) := by decide +kernel
theorem dX8_tryCuts_38 : decode cX8_tryCuts 38 = .ok (.aload_n 0, 1) := by decide +kernel
theorem dX8_tryCuts_39 : decode cX8_tryCuts 39 = .ok (.iload 5, 2) := by decide +kernel
theorem dX8_tryCuts_41 : decode cX8_tryCuts 41 = .ok (.iload 6, 2) := by decide +kernel
theorem dX8_tryCuts_43 : decode cX8_tryCuts 43 = .ok (.imul, 1) := by decide +kernel
theorem dX8_tryCuts_44 : decode cX8_tryCuts 44 = .ok (.iconst 1, 1) := by decide +kernel
theorem dX8_tryCuts_45 : decode cX8_tryCuts 45 = .ok (.invokevirtual 79, 3) := by decide +kernel
theorem dX8_tryCuts_48 : decode cX8_tryCuts 48 = .ok (.aload_n 0, 1) := by decide +kernel
theorem dX8_tryCuts_49 : decode cX8_tryCuts 49 = .ok (.iload_n 3, 1) := by decide +kernel
theorem dX8_tryCuts_50 : decode cX8_tryCuts 50 = .ok (.iload 5, 2) := by decide +kernel
theorem dX8_tryCuts_52 : decode cX8_tryCuts 52 = .ok (.iload 6, 2) := by decide +kernel
theorem dX8_tryCuts_54 : decode cX8_tryCuts 54 = .ok (.imul, 1) := by decide +kernel
theorem dX8_tryCuts_55 : decode cX8_tryCuts 55 = .ok (.isub, 1) := by decide +kernel
theorem dX8_tryCuts_56 : decode cX8_tryCuts 56 = .ok (.iconst 1, 1) := by decide +kernel
theorem dX8_tryCuts_57 : decode cX8_tryCuts 57 = .ok (.invokevirtual 79, 3) := by decide +kernel
theorem dX8_tryCuts_60 : decode cX8_tryCuts 60 = .ok (.aload_n 0, 1) := by decide +kernel
theorem dX8_tryCuts_61 : decode cX8_tryCuts 61 = .ok (.invokevirtual 56, 3) := by decide +kernel
theorem dX8_tryCuts_64 : decode cX8_tryCuts 64 = .ok (.istore 7, 2) := by decide +kernel
theorem dX8_tryCuts_66 : decode cX8_tryCuts 66 = .ok (.aload_n 0, 1) := by decide +kernel
theorem dX8_tryCuts_67 : decode cX8_tryCuts 67 = .ok (.iload 5, 2) := by decide +kernel
theorem dX8_tryCuts_69 : decode cX8_tryCuts 69 = .ok (.iload 6, 2) := by decide +kernel
theorem dX8_tryCuts_71 : decode cX8_tryCuts 71 = .ok (.imul, 1) := by decide +kernel
theorem dX8_tryCuts_72 : decode cX8_tryCuts 72 = .ok (.iconst (-1), 1) := by decide +kernel
theorem dX8_tryCuts_73 : decode cX8_tryCuts 73 = .ok (.invokevirtual 79, 3) := by decide +kernel
theorem dX8_tryCuts_76 : decode cX8_tryCuts 76 = .ok (.aload_n 0, 1) := by decide +kernel
theorem dX8_tryCuts_77 : decode cX8_tryCuts 77 = .ok (.iload_n 3, 1) := by decide +kernel
theorem dX8_tryCuts_78 : decode cX8_tryCuts 78 = .ok (.iload 5, 2) := by decide +kernel
theorem dX8_tryCuts_80 : decode cX8_tryCuts 80 = .ok (.iload 6, 2) := by decide +kernel
theorem dX8_tryCuts_82 : decode cX8_tryCuts 82 = .ok (.imul, 1) := by decide +kernel
theorem dX8_tryCuts_83 : decode cX8_tryCuts 83 = .ok (.isub, 1) := by decide +kernel
theorem dX8_tryCuts_84 : decode cX8_tryCuts 84 = .ok (.iconst (-1), 1) := by decide +kernel
theorem dX8_tryCuts_85 : decode cX8_tryCuts 85 = .ok (.invokevirtual 79, 3) := by decide +kernel
theorem dX8_tryCuts_88 : decode cX8_tryCuts 88 = .ok (.aload_n 0, 1) := by decide +kernel
theorem dX8_tryCuts_89 : decode cX8_tryCuts 89 = .ok (.getfield 81, 3) := by decide +kernel
theorem dX8_tryCuts_92 : decode cX8_tryCuts 92 = .ok (.iconst (-1), 1) := by decide +kernel
theorem dX8_tryCuts_93 : decode cX8_tryCuts 93 = .ok (.if_icmp .eq 12, 3) := by decide +kernel
theorem dX8_tryCuts_96 : decode cX8_tryCuts 96 = .ok (.iload 7, 2) := by decide +kernel
theorem dX8_tryCuts_98 : decode cX8_tryCuts 98 = .ok (.aload_n 0, 1) := by decide +kernel
theorem dX8_tryCuts_99 : decode cX8_tryCuts 99 = .ok (.getfield 94, 3) := by decide +kernel
theorem dX8_tryCuts_102 : decode cX8_tryCuts 102 = .ok (.if_icmp .le 25, 3) := by decide +kernel
theorem dX8_tryCuts_105 : decode cX8_tryCuts 105 = .ok (.aload_n 0, 1) := by decide +kernel
theorem dX8_tryCuts_106 : decode cX8_tryCuts 106 = .ok (.iload_n 1, 1) := by decide +kernel
theorem dX8_tryCuts_107 : decode cX8_tryCuts 107 = .ok (.putfield 81, 3) := by decide +kernel
theorem dX8_tryCuts_110 : decode cX8_tryCuts 110 = .ok (.aload_n 0, 1) := by decide +kernel
theorem dX8_tryCuts_111 : decode cX8_tryCuts 111 = .ok (.iload_n 2, 1) := by decide +kernel
theorem dX8_tryCuts_112 : decode cX8_tryCuts 112 = .ok (.putfield 97, 3) := by decide +kernel
theorem dX8_tryCuts_115 : decode cX8_tryCuts 115 = .ok (.aload_n 0, 1) := by decide +kernel
theorem dX8_tryCuts_116 : decode cX8_tryCuts 116 = .ok (.iload 6, 2) := by decide +kernel
theorem dX8_tryCuts_118 : decode cX8_tryCuts 118 = .ok (.putfield 100, 3) := by decide +kernel
theorem dX8_tryCuts_121 : decode cX8_tryCuts 121 = .ok (.aload_n 0, 1) := by decide +kernel
theorem dX8_tryCuts_122 : decode cX8_tryCuts 122 = .ok (.iload 7, 2) := by decide +kernel
theorem dX8_tryCuts_124 : decode cX8_tryCuts 124 = .ok (.putfield 94, 3) := by decide +kernel
theorem dX8_tryCuts_127 : decode cX8_tryCuts 127 = .ok (.iinc 6 1, 3) := by decide +kernel
theorem dX8_tryCuts_130 : decode cX8_tryCuts 130 = .ok (.goto (-99), 3) := by decide +kernel
theorem dX8_tryCuts_133 : decode cX8_tryCuts 133 = .ok (.return_, 1) := by decide +kernel
set_option maxRecDepth 20000 in
theorem ggX8_roomOf_X7_isGuest : GoodIn wsX8_roomOf wsX7_isGuest := goodIn_r _ [10, 11, 76, 77, 78, 79, 80, 81, 82, 83, 84, 85, 86, 87, 88, 89, 90, 91] (by decide +kernel) (by decide +kernel)
set_option maxRecDepth 20000 in
theorem gX8_roomOf_X7_isGuest : GoodIn wsX8_roomOf (wsV RX8 26 RX7 yX7_isGuest wsX7_isGuest) := goodIn_app (goodIn_of _ (by decide +kernel)) ggX8_roomOf_X7_isGuest
set_option maxRecDepth 20000 in
theorem ggX8_roomOf_X8_servedIf : GoodIn wsX8_roomOf wsX8_servedIf := goodIn_r _ [16, 17, 18, 19, 15, 20, 21, 1, 22, 3, 23, 2, 24, 25, 26, 27, 28, 4, 5, 29, 30, 31, 32, 33, 34, 35, 36, 37, 38, 39, 40, 41, 42, 43, 44, 45, 46, 47, 48, 9, 49, 50, 51, 52, 53, 54, 55, 56, 57, 58, 59, 60, 61, 62, 63, 64, 65, 66, 67, 68, 69, 70, 71, 72, 73, 74, 75, 76, 77, 78, 79, 80, 81, 82, 83, 84, 85, 86, 87, 88, 89, 90, 91, 92, 93, 94, 95, 96, 97, 98, 99, 100, 101, 102, 103, 104] (by decide +kernel) (by decide +kernel)
set_option maxRecDepth 20000 in
theorem gX8_roomOf_X8_servedIf : GoodIn wsX8_roomOf (wsV RX8 103 RX8 yX8_servedIf wsX8_servedIf) := goodIn_app (goodIn_of _ (by decide +kernel)) ggX8_roomOf_X8_servedIf
set_option maxRecDepth 20000 in
theorem ggX8_roomOf_X8_prepare : GoodIn wsX8_roomOf wsX8_prepare := goodIn_r _ [20, 21, 1, 22, 3, 23, 2, 24, 25, 26, 27, 28, 4, 5, 29, 30, 31, 15, 32, 33, 34, 35, 36, 37, 38, 39, 40, 41, 42, 43, 44, 45, 46, 47, 48, 9, 49, 50, 51, 52, 53, 54, 55, 56, 57, 58, 59, 60, 61, 62, 67, 68, 69, 70, 71, 72, 73, 74, 75, 76, 77, 78, 79, 80, 81, 82, 83, 84, 85, 86, 87, 88, 89, 90, 91, 92, 93, 94, 95, 96, 97, 98, 99, 100, 101, 102, 103, 104] (by decide +kernel) (by decide +kernel)
set_option maxRecDepth 20000 in
theorem gX8_roomOf_X8_prepare : GoodIn wsX8_roomOf (wsV RX8 52 RX8 yX8_prepare wsX8_prepare) := goodIn_app (goodIn_of _ (by decide +kernel)) ggX8_roomOf_X8_prepare
set_option maxRecDepth 20000 in
theorem ggX8_roomOf_X7_areaOf : GoodIn wsX8_roomOf wsX7_areaOf := goodIn_r _ [49, 50, 51, 52, 53, 54, 55, 56, 9, 57, 58, 98, 99, 100, 101, 102, 103, 104, 76, 77, 78, 79, 80, 81, 82, 83, 84, 85, 86, 87, 88, 89, 90, 91] (by decide +kernel) (by decide +kernel)
set_option maxRecDepth 20000 in
theorem gX8_roomOf_X7_areaOf : GoodIn wsX8_roomOf (wsV RX8 45 RX7 yX7_areaOf wsX7_areaOf) := goodIn_app (goodIn_of _ (by decide +kernel)) ggX8_roomOf_X7_areaOf
set_option maxRecDepth 20000 in
theorem ggX8_roomOf_X1_isFree : GoodIn wsX8_roomOf wsX1_isFree := goodIn_r _ [38, 39, 40, 41, 42, 43, 37, 44, 45, 92, 93, 94, 95, 96, 97, 98, 99, 100, 101, 102, 103, 104] (by decide +kernel) (by decide +kernel)
set_option maxRecDepth 20000 in
theorem gX8_roomOf_X1_isFree : GoodIn wsX8_roomOf (wsV RX8 38 RX1 yX1_isFree wsX1_isFree) := goodIn_app (goodIn_of _ (by decide +kernel)) ggX8_roomOf_X1_isFree
set_option maxRecDepth 20000 in
theorem ggX8_roomOf_X8_count : GoodIn wsX8_roomOf wsX8_count := goodIn_r _ [62, 21, 33, 28, 67, 68, 69, 70, 71, 72, 73, 74, 75] (by decide +kernel) (by decide +kernel)
set_option maxRecDepth 20000 in
theorem gX8_roomOf_X8_count : GoodIn wsX8_roomOf (wsV RX8 79 RX8 yX8_count wsX8_count) := goodIn_app (goodIn_of _ (by decide +kernel)) ggX8_roomOf_X8_count
set_option maxRecDepth 20000 in
theorem ggX8_roomOf_X8_matched : GoodIn wsX8_roomOf wsX8_matched := goodIn_r _ [66, 21, 28, 67, 68, 69, 70, 71, 72, 73, 74, 75] (by decide +kernel) (by decide +kernel)
set_option maxRecDepth 20000 in
theorem gX8_roomOf_X8_matched : GoodIn wsX8_roomOf (wsV RX8 56 RX8 yX8_matched wsX8_matched) := goodIn_app (goodIn_of _ (by decide +kernel)) ggX8_roomOf_X8_matched
theorem dX8_roomOf_0 : decode cX8_roomOf 0 = .ok (.aload_n 0, 1) := by decide +kernel
theorem dX8_roomOf_1 : decode cX8_roomOf 1 = .ok (.getfield 9, 3) := by decide +kernel
theorem dX8_roomOf_4 : decode cX8_roomOf 4 = .ok (.iload_n 1, 1) := by decide +kernel
theorem dX8_roomOf_5 : decode cX8_roomOf 5 = .ok (.invokevirtual 26, 3) := by decide +kernel
theorem dX8_roomOf_8 : decode cX8_roomOf 8 = .ok (.ifCond .ne 5, 3) := by decide +kernel
theorem dX8_roomOf_11 : decode cX8_roomOf 11 = .ok (.iconst (-1), 1) := by decide +kernel
theorem dX8_roomOf_12 : decode cX8_roomOf 12 = .ok (.ireturn, 1) := by decide +kernel
theorem dX8_roomOf_13 : decode cX8_roomOf 13 = .ok (.aload_n 0, 1) := by decide +kernel
theorem dX8_roomOf_14 : decode cX8_roomOf 14 = .ok (.iconst 0, 1) := by decide +kernel
theorem dX8_roomOf_15 : decode cX8_roomOf 15 = .ok (.invokevirtual 103, 3) := by decide +kernel
theorem dX8_roomOf_18 : decode cX8_roomOf 18 = .ok (.istore_n 2, 1) := by decide +kernel
theorem dX8_roomOf_19 : decode cX8_roomOf 19 = .ok (.aload_n 0, 1) := by decide +kernel
theorem dX8_roomOf_20 : decode cX8_roomOf 20 = .ok (.getfield 9, 3) := by decide +kernel
theorem dX8_roomOf_23 : decode cX8_roomOf 23 = .ok (.getfield 49, 3) := by decide +kernel
theorem dX8_roomOf_26 : decode cX8_roomOf 26 = .ok (.iload_n 1, 1) := by decide +kernel
theorem dX8_roomOf_27 : decode cX8_roomOf 27 = .ok (.iaload, 1) := by decide +kernel
theorem dX8_roomOf_28 : decode cX8_roomOf 28 = .ok (.istore_n 3, 1) := by decide +kernel
theorem dX8_roomOf_29 : decode cX8_roomOf 29 = .ok (.aload_n 0, 1) := by decide +kernel
theorem dX8_roomOf_30 : decode cX8_roomOf 30 = .ok (.iconst 0, 1) := by decide +kernel
theorem dX8_roomOf_31 : decode cX8_roomOf 31 = .ok (.iload_n 1, 1) := by decide +kernel
theorem dX8_roomOf_32 : decode cX8_roomOf 32 = .ok (.invokevirtual 52, 3) := by decide +kernel
theorem dX8_roomOf_35 : decode cX8_roomOf 35 = .ok (.iconst (-1), 1) := by decide +kernel
theorem dX8_roomOf_36 : decode cX8_roomOf 36 = .ok (.istore 4, 2) := by decide +kernel
theorem dX8_roomOf_38 : decode cX8_roomOf 38 = .ok (.iconst 0, 1) := by decide +kernel
theorem dX8_roomOf_39 : decode cX8_roomOf 39 = .ok (.istore 5, 2) := by decide +kernel
theorem dX8_roomOf_41 : decode cX8_roomOf 41 = .ok (.iload 5, 2) := by decide +kernel
theorem dX8_roomOf_43 : decode cX8_roomOf 43 = .ok (.aload_n 0, 1) := by decide +kernel
theorem dX8_roomOf_44 : decode cX8_roomOf 44 = .ok (.getfield 15, 3) := by decide +kernel
theorem dX8_roomOf_47 : decode cX8_roomOf 47 = .ok (.getfield 32, 3) := by decide +kernel
theorem dX8_roomOf_50 : decode cX8_roomOf 50 = .ok (.if_icmp .ge 79, 3) := by decide +kernel
theorem dX8_roomOf_53 : decode cX8_roomOf 53 = .ok (.aload_n 0, 1) := by decide +kernel
theorem dX8_roomOf_54 : decode cX8_roomOf 54 = .ok (.getfield 9, 3) := by decide +kernel
theorem dX8_roomOf_57 : decode cX8_roomOf 57 = .ok (.aload_n 0, 1) := by decide +kernel
theorem dX8_roomOf_58 : decode cX8_roomOf 58 = .ok (.getfield 15, 3) := by decide +kernel
theorem dX8_roomOf_61 : decode cX8_roomOf 61 = .ok (.getfield 41, 3) := by decide +kernel
theorem dX8_roomOf_64 : decode cX8_roomOf 64 = .ok (.iload 5, 2) := by decide +kernel
theorem dX8_roomOf_66 : decode cX8_roomOf 66 = .ok (.aaload, 1) := by decide +kernel
theorem dX8_roomOf_67 : decode cX8_roomOf 67 = .ok (.invokevirtual 45, 3) := by decide +kernel
theorem dX8_roomOf_70 : decode cX8_roomOf 70 = .ok (.istore 6, 2) := by decide +kernel
theorem dX8_roomOf_72 : decode cX8_roomOf 72 = .ok (.aload_n 0, 1) := by decide +kernel
theorem dX8_roomOf_73 : decode cX8_roomOf 73 = .ok (.getfield 15, 3) := by decide +kernel
theorem dX8_roomOf_76 : decode cX8_roomOf 76 = .ok (.iload 5, 2) := by decide +kernel
theorem dX8_roomOf_78 : decode cX8_roomOf 78 = .ok (.invokevirtual 38, 3) := by decide +kernel
theorem dX8_roomOf_81 : decode cX8_roomOf 81 = .ok (.ifCond .eq 42, 3) := by decide +kernel
theorem dX8_roomOf_84 : decode cX8_roomOf 84 = .ok (.iload 6, 2) := by decide +kernel
theorem dX8_roomOf_86 : decode cX8_roomOf 86 = .ok (.iload_n 3, 1) := by decide +kernel
theorem dX8_roomOf_87 : decode cX8_roomOf 87 = .ok (.isub, 1) := by decide +kernel
theorem dX8_roomOf_88 : decode cX8_roomOf 88 = .ok (.iload 4, 2) := by decide +kernel
theorem dX8_roomOf_90 : decode cX8_roomOf 90 = .ok (.if_icmp .le 33, 3) := by decide +kernel
theorem dX8_roomOf_93 : decode cX8_roomOf 93 = .ok (.aload_n 0, 1) := by decide +kernel
theorem dX8_roomOf_94 : decode cX8_roomOf 94 = .ok (.iload 6, 2) := by decide +kernel
theorem dX8_roomOf_96 : decode cX8_roomOf 96 = .ok (.iconst (-1), 1) := by decide +kernel
theorem dX8_roomOf_97 : decode cX8_roomOf 97 = .ok (.invokevirtual 79, 3) := by decide +kernel
theorem dX8_roomOf_100 : decode cX8_roomOf 100 = .ok (.aload_n 0, 1) := by decide +kernel
theorem dX8_roomOf_101 : decode cX8_roomOf 101 = .ok (.invokevirtual 56, 3) := by decide +kernel
theorem dX8_roomOf_104 : decode cX8_roomOf 104 = .ok (.iconst 1, 1) := by decide +kernel
theorem dX8_roomOf_105 : decode cX8_roomOf 105 = .ok (.iadd, 1) := by decide +kernel
theorem dX8_roomOf_106 : decode cX8_roomOf 106 = .ok (.iload_n 2, 1) := by decide +kernel
theorem dX8_roomOf_107 : decode cX8_roomOf 107 = .ok (.if_icmp .ne 9, 3) := by decide +kernel
theorem dX8_roomOf_110 : decode cX8_roomOf 110 = .ok (.iload 6, 2) := by decide +kernel
theorem dX8_roomOf_112 : decode cX8_roomOf 112 = .ok (.iload_n 3, 1) := by decide +kernel
theorem dX8_roomOf_113 : decode cX8_roomOf 113 = .ok (.isub, 1) := by decide +kernel
theorem dX8_roomOf_114 : decode cX8_roomOf 114 = .ok (.istore 4, 2) := by decide +kernel
theorem dX8_roomOf_116 : decode cX8_roomOf 116 = .ok (.aload_n 0, 1) := by decide +kernel
theorem dX8_roomOf_117 : decode cX8_roomOf 117 = .ok (.iload 6, 2) := by decide +kernel
theorem dX8_roomOf_119 : decode cX8_roomOf 119 = .ok (.iconst 1, 1) := by decide +kernel
theorem dX8_roomOf_120 : decode cX8_roomOf 120 = .ok (.invokevirtual 79, 3) := by decide +kernel
theorem dX8_roomOf_123 : decode cX8_roomOf 123 = .ok (.iinc 5 1, 3) := by decide +kernel
theorem dX8_roomOf_126 : decode cX8_roomOf 126 = .ok (.goto (-85), 3) := by decide +kernel
theorem dX8_roomOf_129 : decode cX8_roomOf 129 = .ok (.iload 4, 2) := by decide +kernel
theorem dX8_roomOf_131 : decode cX8_roomOf 131 = .ok (.ireturn, 1) := by decide +kernel
