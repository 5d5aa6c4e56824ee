theorem dX0_init_0 : decode cX0_init 0 = .ok (.aload_n 0, 1) := by decide +kernel
theorem dX0_init_1 : decode cX0_init 1 = .ok (.invokespecial 3, 3) := by decide +kernel
theorem dX0_init_4 : decode cX0_init 4 = .ok (.aload_n 0, 1) := by decide +kernel
theorem dX0_init_5 : decode cX0_init 5 = .ok (.aload_n 1, 1) := by decide +kernel
theorem dX0_init_6 : decode cX0_init 6 = .ok (.putfield 9, 3) := by decide +kernel
theorem dX0_init_9 : decode cX0_init 9 = .ok (.aload_n 0, 1) := by decide +kernel
theorem dX0_init_10 : decode cX0_init 10 = .ok (.aload_n 2, 1) := by decide +kernel
theorem dX0_init_11 : decode cX0_init 11 = .ok (.putfield 15, 3) := by decide +kernel
theorem dX0_init_14 : decode cX0_init 14 = .ok (.aload_n 0, 1) := by decide +kernel
theorem dX0_init_15 : decode cX0_init 15 = .ok (.aload_n 3, 1) := by decide +kernel
theorem dX0_init_16 : decode cX0_init 16 = .ok (.putfield 19, 3) := by decide +kernel
theorem dX0_init_19 : decode cX0_init 19 = .ok (.aload_n 0, 1) := by decide +kernel
theorem dX0_init_20 : decode cX0_init 20 = .ok (.bipush 40, 2) := by decide +kernel
theorem dX0_init_22 : decode cX0_init 22 = .ok (.newarray .int, 2) := by decide +kernel
theorem dX0_init_24 : decode cX0_init 24 = .ok (.putfield 23, 3) := by decide +kernel
theorem dX0_init_27 : decode cX0_init 27 = .ok (.aload_n 0, 1) := by decide +kernel
theorem dX0_init_28 : decode cX0_init 28 = .ok (.bipush 40, 2) := by decide +kernel
theorem dX0_init_30 : decode cX0_init 30 = .ok (.newarray .int, 2) := by decide +kernel
theorem dX0_init_32 : decode cX0_init 32 = .ok (.putfield 27, 3) := by decide +kernel
theorem dX0_init_35 : decode cX0_init 35 = .ok (.aload_n 0, 1) := by decide +kernel
theorem dX0_init_36 : decode cX0_init 36 = .ok (.bipush 40, 2) := by decide +kernel
theorem dX0_init_38 : decode cX0_init 38 = .ok (.newarray .int, 2) := by decide +kernel
theorem dX0_init_40 : decode cX0_init 40 = .ok (.putfield 30, 3) := by decide +kernel
theorem dX0_init_43 : decode cX0_init 43 = .ok (.aload_n 0, 1) := by decide +kernel
theorem dX0_init_44 : decode cX0_init 44 = .ok (.bipush 40, 2) := by decide +kernel
theorem dX0_init_46 : decode cX0_init 46 = .ok (.newarray .int, 2) := by decide +kernel
theorem dX0_init_48 : decode cX0_init 48 = .ok (.putfield 33, 3) := by decide +kernel
theorem dX0_init_51 : decode cX0_init 51 = .ok (.aload_n 0, 1) := by decide +kernel
theorem dX0_init_52 : decode cX0_init 52 = .ok (.bipush 40, 2) := by decide +kernel
theorem dX0_init_54 : decode cX0_init 54 = .ok (.newarray .int, 2) := by decide +kernel
theorem dX0_init_56 : decode cX0_init 56 = .ok (.putfield 36, 3) := by decide +kernel
theorem dX0_init_59 : decode cX0_init 59 = .ok (.aload_n 0, 1) := by decide +kernel
theorem dX0_init_60 : decode cX0_init 60 = .ok (.bipush 40, 2) := by decide +kernel
theorem dX0_init_62 : decode cX0_init 62 = .ok (.newarray .int, 2) := by decide +kernel
theorem dX0_init_64 : decode cX0_init 64 = .ok (.putfield 39, 3) := by decide +kernel
theorem dX0_init_67 : decode cX0_init 67 = .ok (.return_, 1) := by decide +kernel
theorem dX0_forget_0 : decode cX0_forget 0 = .ok (.aload_n 0, 1) := by decide +kernel
theorem dX0_forget_1 : decode cX0_forget 1 = .ok (.iconst 0, 1) := by decide +kernel
theorem dX0_forget_2 : decode cX0_forget 2 = .ok (.putfield 42, 3) := by decide +kernel
theorem dX0_forget_5 : decode cX0_forget 5 = .ok (.aload_n 0, 1) := by decide +kernel
theorem dX0_forget_6 : decode cX0_forget 6 = .ok (.iconst 0, 1) := by decide +kernel
theorem dX0_forget_7 : decode cX0_forget 7 = .ok (.putfield 46, 3) := by decide +kernel
theorem dX0_forget_10 : decode cX0_forget 10 = .ok (.return_, 1) := by decide +kernel
theorem dX0_perform_0 : decode cX0_perform 0 = .ok (.aload_n 0, 1) := by decide +kernel
theorem dX0_perform_1 : decode cX0_perform 1 = .ok (.getfield 42, 3) := by decide +kernel
theorem dX0_perform_4 : decode cX0_perform 4 = .ok (.bipush 40, 2) := by decide +kernel
theorem dX0_perform_6 : decode cX0_perform 6 = .ok (.if_icmp .lt 7, 3) := by decide +kernel
theorem dX0_perform_9 : decode cX0_perform 9 = .ok (.aload_n 0, 1) := by decide +kernel
theorem dX0_perform_10 : decode cX0_perform 10 = .ok (.invokevirtual 49, 3) := by decide +kernel
theorem dX0_perform_13 : decode cX0_perform 13 = .ok (.aload_n 0, 1) := by decide +kernel
theorem dX0_perform_14 : decode cX0_perform 14 = .ok (.getfield 23, 3) := by decide +kernel
theorem dX0_perform_17 : decode cX0_perform 17 = .ok (.aload_n 0, 1) := by decide +kernel
theorem dX0_perform_18 : decode cX0_perform 18 = .ok (.getfield 42, 3) := by decide +kernel
theorem dX0_perform_21 : decode cX0_perform 21 = .ok (.iload_n 1, 1) := by decide +kernel
theorem dX0_perform_22 : decode cX0_perform 22 = .ok (.iastore, 1) := by decide +kernel
theorem dX0_perform_23 : decode cX0_perform 23 = .ok (.aload_n 0, 1) := by decide +kernel
theorem dX0_perform_24 : decode cX0_perform 24 = .ok (.getfield 27, 3) := by decide +kernel
theorem dX0_perform_27 : decode cX0_perform 27 = .ok (.aload_n 0, 1) := by decide +kernel
theorem dX0_perform_28 : decode cX0_perform 28 = .ok (.getfield 42, 3) := by decide +kernel
theorem dX0_perform_31 : decode cX0_perform 31 = .ok (.iload_n 2, 1) := by decide +kernel
theorem dX0_perform_32 : decode cX0_perform 32 = .ok (.iastore, 1) := by decide +kernel
theorem dX0_perform_33 : decode cX0_perform 33 = .ok (.aload_n 0, 1) := by decide +kernel
theorem dX0_perform_34 : decode cX0_perform 34 = .ok (.getfield 30, 3) := by decide +kernel
theorem dX0_perform_37 : decode cX0_perform 37 = .ok (.aload_n 0, 1) := by decide +kernel
theorem dX0_perform_38 : decode cX0_perform 38 = .ok (.getfield 42, 3) := by decide +kernel
theorem dX0_perform_41 : decode cX0_perform 41 = .ok (.iload_n 3, 1) := by decide +kernel
theorem dX0_perform_42 : decode cX0_perform 42 = .ok (.iastore, 1) := by decide +kernel
theorem dX0_perform_43 : decode cX0_perform 43 = .ok (.aload_n 0, 1) := by decide +kernel
theorem dX0_perform_44 : decode cX0_perform 44 = .ok (.getfield 33, 3) := by decide +kernel
theorem dX0_perform_47 : decode cX0_perform 47 = .ok (.aload_n 0, 1) := by decide +kernel
theorem dX0_perform_48 : decode cX0_perform 48 = .ok (.getfield 42, 3) := by decide +kernel
theorem dX0_perform_51 : decode cX0_perform 51 = .ok (.iload 4, 2) := by decide +kernel
theorem dX0_perform_53 : decode cX0_perform 53 = .ok (.iastore, 1) := by decide +kernel
theorem dX0_perform_54 : decode cX0_perform 54 = .ok (.aload_n 0, 1) := by decide +kernel
theorem dX0_perform_55 : decode cX0_perform 55 = .ok (.getfield 36, 3) := by decide +kernel
theorem dX0_perform_58 : decode cX0_perform 58 = .ok (.aload_n 0, 1) := by decide +kernel
theorem dX0_perform_59 : decode cX0_perform 59 = .ok (.getfield 42, 3) := by decide +kernel
theorem dX0_perform_62 : decode cX0_perform 62 = .ok (.aload_n 0, 1) := by decide +kernel
theorem dX0_perform_63 : decode cX0_perform 63 = .ok (.getfield 15, 3) := by decide +kernel
theorem dX0_perform_66 : decode cX0_perform 66 = .ok (.getfield 52, 3) := by decide +kernel
theorem dX0_perform_69 : decode cX0_perform 69 = .ok (.iastore, 1) := by decide +kernel
theorem dX0_perform_70 : decode cX0_perform 70 = .ok (.aload_n 0, 1) := by decide +kernel
theorem dX0_perform_71 : decode cX0_perform 71 = .ok (.getfield 39, 3) := by decide +kernel
theorem dX0_perform_74 : decode cX0_perform 74 = .ok (.aload_n 0, 1) := by decide +kernel
theorem dX0_perform_75 : decode cX0_perform 75 = .ok (.getfield 42, 3) := by decide +kernel
theorem dX0_perform_78 : decode cX0_perform 78 = .ok (.aload_n 0, 1) := by decide +kernel
theorem dX0_perform_79 : decode cX0_perform 79 = .ok (.getfield 15, 3) := by decide +kernel
theorem dX0_perform_82 : decode cX0_perform 82 = .ok (.getfield 57, 3) := by decide +kernel
theorem dX0_perform_85 : decode cX0_perform 85 = .ok (.iastore, 1) := by decide +kernel
theorem dX0_perform_86 : decode cX0_perform 86 = .ok (.aload_n 0, 1) := by decide +kernel
theorem dX0_perform_87 : decode cX0_perform 87 = .ok (.aload_n 0, 1) := by decide +kernel
theorem dX0_perform_88 : decode cX0_perform 88 = .ok (.getfield 42, 3) := by decide +kernel
theorem dX0_perform_91 : decode cX0_perform 91 = .ok (.invokevirtual 60, 3) := by decide +kernel
theorem dX0_perform_94 : decode cX0_perform 94 = .ok (.aload_n 0, 1) := by decide +kernel
theorem dX0_perform_95 : decode cX0_perform 95 = .ok (.dup, 1) := by decide +kernel
theorem dX0_perform_96 : decode cX0_perform 96 = .ok (.getfield 42, 3) := by decide +kernel
theorem dX0_perform_99 : decode cX0_perform 99 = .ok (.iconst 1, 1) := by decide +kernel
theorem dX0_perform_100 : decode cX0_perform 100 = .ok (.iadd, 1) := by decide +kernel
theorem dX0_perform_101 : decode cX0_perform 101 = .ok (.putfield 42, 3) := by decide +kernel
theorem dX0_perform_104 : decode cX0_perform 104 = .ok (.aload_n 0, 1) := by decide +kernel
theorem dX0_perform_105 : decode cX0_perform 105 = .ok (.aload_n 0, 1) := by decide +kernel
theorem dX0_perform_106 : decode cX0_perform 106 = .ok (.getfield 42, 3) := by decide +kernel
theorem dX0_perform_109 : decode cX0_perform 109 = .ok (.putfield 46, 3) := by decide +kernel
theorem dX0_perform_112 : decode cX0_perform 112 = .ok (.return_, 1) := by decide +kernel
theorem dX0_dropOldest_0 : decode cX0_dropOldest 0 = .ok (.iconst 1, 1) := by decide +kernel
theorem dX0_dropOldest_1 : decode cX0_dropOldest 1 = .ok (.istore_n 1, 1) := by decide +kernel
theorem dX0_dropOldest_2 : decode cX0_dropOldest 2 = .ok (.iload_n 1, 1) := by decide +kernel
theorem dX0_dropOldest_3 : decode cX0_dropOldest 3 = .ok (.bipush 40, 2) := by decide +kernel
theorem dX0_dropOldest_5 : decode cX0_dropOldest 5 = .ok (.if_icmp .ge 93, 3) := by decide +kernel
theorem dX0_dropOldest_8 : decode cX0_dropOldest 8 = .ok (.aload_n 0, 1) := by decide +kernel
theorem dX0_dropOldest_9 : decode cX0_dropOldest 9 = .ok (.getfield 23, 3) := by decide +kernel
theorem dX0_dropOldest_12 : decode cX0_dropOldest 12 = .ok (.iload_n 1, 1) := by decide +kernel
theorem dX0_dropOldest_13 : decode cX0_dropOldest 13 = .ok (.iconst 1, 1) := by decide +kernel
theorem dX0_dropOldest_14 : decode cX0_dropOldest 14 = .ok (.isub, 1) := by decide +kernel
theorem dX0_dropOldest_15 : decode cX0_dropOldest 15 = .ok (.aload_n 0, 1) := by decide +kernel
theorem dX0_dropOldest_16 : decode cX0_dropOldest 16 = .ok (.getfield 23, 3) := by decide +kernel
theorem dX0_dropOldest_19 : decode cX0_dropOldest 19 = .ok (.iload_n 1, 1) := by decide +kernel
theorem dX0_dropOldest_20 : decode cX0_dropOldest 20 = .ok (.iaload, 1) := by decide +kernel
theorem dX0_dropOldest_21 : decode cX0_dropOldest 21 = .ok (.iastore, 1) := by decide +kernel
theorem dX0_dropOldest_22 : decode cX0_dropOldest 22 = .ok (.aload_n 0, 1) := by decide +kernel
theorem dX0_dropOldest_23 : decode cX0_dropOldest 23 = .ok (.getfield 27, 3) := by decide +kernel
theorem dX0_dropOldest_26 : decode cX0_dropOldest 26 = .ok (.iload_n 1, 1) := by decide +kernel
theorem dX0_dropOldest_27 : decode cX0_dropOldest 27 = .ok (.iconst 1, 1) := by decide +kernel
theorem dX0_dropOldest_28 : decode cX0_dropOldest 28 = .ok (.isub, 1) := by decide +kernel
theorem dX0_dropOldest_29 : decode cX0_dropOldest 29 = .ok (.aload_n 0, 1) := by decide +kernel
theorem dX0_dropOldest_30 : decode cX0_dropOldest 30 = .ok (.getfield 27, 3) := by decide +kernel
theorem dX0_dropOldest_33 : decode cX0_dropOldest 33 = .ok (.iload_n 1, 1) := by decide +kernel
theorem dX0_dropOldest_34 : decode cX0_dropOldest 34 = .ok (.iaload, 1) := by decide +kernel
theorem dX0_dropOldest_35 : decode cX0_dropOldest 35 = .ok (.iastore, 1) := by decide +kernel
theorem dX0_dropOldest_36 : decode cX0_dropOldest 36 = .ok (.aload_n 0, 1) := by decide +kernel
theorem dX0_dropOldest_37 : decode cX0_dropOldest 37 = .ok (.getfield 30, 3) := by decide +kernel
theorem dX0_dropOldest_40 : decode cX0_dropOldest 40 = .ok (.iload_n 1, 1) := by decide +kernel
theorem dX0_dropOldest_41 : decode cX0_dropOldest 41 = .ok (.iconst 1, 1) := by decide +kernel
theorem dX0_dropOldest_42 : decode cX0_dropOldest 42 = .ok (.isub, 1) := by decide +kernel
theorem dX0_dropOldest_43 : decode cX0_dropOldest 43 = .ok (.aload_n 0, 1) := by decide +kernel
theorem dX0_dropOldest_44 : decode cX0_dropOldest 44 = .ok (.getfield 30, 3) := by decide +kernel
theorem dX0_dropOldest_47 : decode cX0_dropOldest 47 = .ok (.iload_n 1, 1) := by decide +kernel
theorem dX0_dropOldest_48 : decode cX0_dropOldest 48 = .ok (.iaload, 1) := by decide +kernel
theorem dX0_dropOldest_49 : decode cX0_dropOldest 49 = .ok (.iastore, 1) := by decide +kernel
theorem dX0_dropOldest_50 : decode cX0_dropOldest 50 = .ok (.aload_n 0, 1) := by decide +kernel
theorem dX0_dropOldest_51 : decode cX0_dropOldest 51 = .ok (.getfield 33, 3) := by decide +kernel
theorem dX0_dropOldest_54 : decode cX0_dropOldest 54 = .ok (.iload_n 1, 1) := by decide +kernel
theorem dX0_dropOldest_55 : decode cX0_dropOldest 55 = .ok (.iconst 1, 1) := by decide +kernel
theorem dX0_dropOldest_56 : decode cX0_dropOldest 56 = .ok (.isub, 1) := by decide +kernel
theorem dX0_dropOldest_57 : decode cX0_dropOldest 57 = .ok (.aload_n 0, 1) := by decide +kernel
theorem dX0_dropOldest_58 : decode cX0_dropOldest 58 = .ok (.getfield 33, 3) := by decide +kernel
theorem dX0_dropOldest_61 : decode cX0_dropOldest 61 = .ok (.iload_n 1, 1) := by decide +kernel
theorem dX0_dropOldest_62 : decode cX0_dropOldest 62 = .ok (.iaload, 1) := by decide +kernel
theorem dX0_dropOldest_63 : decode cX0_dropOldest 63 = .ok (.iastore, 1) := by decide +kernel
theorem dX0_dropOldest_64 : decode cX0_dropOldest 64 = .ok (.aload_n 0, 1) := by decide +kernel
theorem dX0_dropOldest_65 : decode cX0_dropOldest 65 = .ok (.getfield 36, 3) := by decide +kernel
theorem dX0_dropOldest_68 : decode cX0_dropOldest 68 = .ok (.iload_n 1, 1) := by decide +kernel
theorem dX0_dropOldest_69 : decode cX0_dropOldest 69 = .ok (.iconst 1, 1) := by decide +kernel
theorem dX0_dropOldest_70 : decode cX0_dropOldest 70 = .ok (.isub, 1) := by decide +kernel
theorem dX0_dropOldest_71 : decode cX0_dropOldest 71 = .ok (.aload_n 0, 1) := by decide +kernel
theorem dX0_dropOldest_72 : decode cX0_dropOldest 72 = .ok (.getfield 36, 3) := by decide +kernel
theorem dX0_dropOldest_75 : decode cX0_dropOldest 75 = .ok (.iload_n 1, 1) := by decide +kernel
theorem dX0_dropOldest_76 : decode cX0_dropOldest 76 = .ok (.iaload, 1) := by decide +kernel
theorem dX0_dropOldest_77 : decode cX0_dropOldest 77 = .ok (.iastore, 1) := by decide +kernel
theorem dX0_dropOldest_78 : decode cX0_dropOldest 78 = .ok (.aload_n 0, 1) := by decide +kernel
theorem dX0_dropOldest_79 : decode cX0_dropOldest 79 = .ok (.getfield 39, 3) := by decide +kernel
theorem dX0_dropOldest_82 : decode cX0_dropOldest 82 = .ok (.iload_n 1, 1) := by decide +kernel
theorem dX0_dropOldest_83 : decode cX0_dropOldest 83 = .ok (.iconst 1, 1) := by decide +kernel
theorem dX0_dropOldest_84 : decode cX0_dropOldest 84 = .ok (.isub, 1) := by decide +kernel
theorem dX0_dropOldest_85 : decode cX0_dropOldest 85 = .ok (.aload_n 0, 1) := by decide +kernel
theorem dX0_dropOldest_86 : decode cX0_dropOldest 86 = .ok (.getfield 39, 3) := by decide +kernel
theorem dX0_dropOldest_89 : decode cX0_dropOldest 89 = .ok (.iload_n 1, 1) := by decide +kernel
theorem dX0_dropOldest_90 : decode cX0_dropOldest 90 = .ok (.iaload, 1) := by decide +kernel
theorem dX0_dropOldest_91 : decode cX0_dropOldest 91 = .ok (.iastore, 1) := by decide +kernel
theorem dX0_dropOldest_92 : decode cX0_dropOldest 92 = .ok (.iinc 1 1, 3) := by decide +kernel
theorem dX0_dropOldest_95 : decode cX0_dropOldest 95 = .ok (.goto (-93), 3) := by decide +kernel
theorem dX0_dropOldest_98 : decode cX0_dropOldest 98 = .ok (.aload_n 0, 1) := by decide +kernel
theorem dX0_dropOldest_99 : decode cX0_dropOldest 99 = .ok (.bipush 39, 2) := by decide +kernel
theorem dX0_dropOldest_101 : decode cX0_dropOldest 101 = .ok (.putfield 42, 3) := by decide +kernel
theorem dX0_dropOldest_104 : decode cX0_dropOldest 104 = .ok (.return_, 1) := by decide +kernel
theorem dX0_takeBack_0 : decode cX0_takeBack 0 = .ok (.aload_n 0, 1) := by decide +kernel
theorem dX0_takeBack_1 : decode cX0_takeBack 1 = .ok (.getfield 42, 3) := by decide +kernel
theorem dX0_takeBack_4 : decode cX0_takeBack 4 = .ok (.ifCond .gt 5, 3) := by decide +kernel
theorem dX0_takeBack_7 : decode cX0_takeBack 7 = .ok (.iconst 0, 1) := by decide +kernel
theorem dX0_takeBack_8 : decode cX0_takeBack 8 = .ok (.ireturn, 1) := by decide +kernel
theorem dX0_takeBack_9 : decode cX0_takeBack 9 = .ok (.aload_n 0, 1) := by decide +kernel
theorem dX0_takeBack_10 : decode cX0_takeBack 10 = .ok (.dup, 1) := by decide +kernel
theorem dX0_takeBack_11 : decode cX0_takeBack 11 = .ok (.getfield 42, 3) := by decide +kernel
theorem dX0_takeBack_14 : decode cX0_takeBack 14 = .ok (.iconst 1, 1) := by decide +kernel
theorem dX0_takeBack_15 : decode cX0_takeBack 15 = .ok (.isub, 1) := by decide +kernel
theorem dX0_takeBack_16 : decode cX0_takeBack 16 = .ok (.putfield 42, 3) := by decide +kernel
theorem dX0_takeBack_19 : decode cX0_takeBack 19 = .ok (.aload_n 0, 1) := by decide +kernel
theorem dX0_takeBack_20 : decode cX0_takeBack 20 = .ok (.aload_n 0, 1) := by decide +kernel
theorem dX0_takeBack_21 : decode cX0_takeBack 21 = .ok (.getfield 42, 3) := by decide +kernel
theorem dX0_takeBack_24 : decode cX0_takeBack 24 = .ok (.invokevirtual 64, 3) := by decide +kernel
theorem dX0_takeBack_27 : decode cX0_takeBack 27 = .ok (.iconst 1, 1) := by decide +kernel
theorem dX0_takeBack_28 : decode cX0_takeBack 28 = .ok (.ireturn, 1) := by decide +kernel
theorem dX0_doAgain_0 : decode cX0_doAgain 0 = .ok (.aload_n 0, 1) := by decide +kernel
theorem dX0_doAgain_1 : decode cX0_doAgain 1 = .ok (.getfield 42, 3) := by decide +kernel
theorem dX0_doAgain_4 : decode cX0_doAgain 4 = .ok (.aload_n 0, 1) := by decide +kernel
theorem dX0_doAgain_5 : decode cX0_doAgain 5 = .ok (.getfield 46, 3) := by decide +kernel
theorem dX0_doAgain_8 : decode cX0_doAgain 8 = .ok (.if_icmp .ge 12, 3) := by decide +kernel
theorem dX0_doAgain_11 : decode cX0_doAgain 11 = .ok (.aload_n 0, 1) := by decide +kernel
theorem dX0_doAgain_12 : decode cX0_doAgain 12 = .ok (.getfield 42, 3) := by decide +kernel
theorem dX0_doAgain_15 : decode cX0_doAgain 15 = .ok (.bipush 40, 2) := by decide +kernel
theorem dX0_doAgain_17 : decode cX0_doAgain 17 = .ok (.if_icmp .lt 5, 3) := by decide +kernel
theorem dX0_doAgain_20 : decode cX0_doAgain 20 = .ok (.iconst 0, 1) := by decide +kernel
theorem dX0_doAgain_21 : decode cX0_doAgain 21 = .ok (.ireturn, 1) := by decide +kernel
theorem dX0_doAgain_22 : decode cX0_doAgain 22 = .ok (.aload_n 0, 1) := by decide +kernel
theorem dX0_doAgain_23 : decode cX0_doAgain 23 = .ok (.aload_n 0, 1) := by decide +kernel
theorem dX0_doAgain_24 : decode cX0_doAgain 24 = .ok (.getfield 42, 3) := by decide +kernel
theorem dX0_doAgain_27 : decode cX0_doAgain 27 = .ok (.invokevirtual 60, 3) := by decide +kernel
theorem dX0_doAgain_30 : decode cX0_doAgain 30 = .ok (.aload_n 0, 1) := by decide +kernel
theorem dX0_doAgain_31 : decode cX0_doAgain 31 = .ok (.dup, 1) := by decide +kernel
theorem dX0_doAgain_32 : decode cX0_doAgain 32 = .ok (.getfield 42, 3) := by decide +kernel
theorem dX0_doAgain_35 : decode cX0_doAgain 35 = .ok (.iconst 1, 1) := by decide +kernel
theorem dX0_doAgain_36 : decode cX0_doAgain 36 = .ok (.iadd, 1) := by decide +kernel
theorem dX0_doAgain_37 : decode cX0_doAgain 37 = .ok (.putfield 42, 3) := by decide +kernel
theorem dX0_doAgain_40 : decode cX0_doAgain 40 = .ok (.iconst 1, 1) := by decide +kernel
theorem dX0_doAgain_41 : decode cX0_doAgain 41 = .ok (.ireturn, 1) := by decide +kernel
theorem dX0_carryOut_0 : decode cX0_carryOut 0 = .ok (.aload_n 0, 1) := by decide +kernel
theorem dX0_carryOut_1 : decode cX0_carryOut 1 = .ok (.getfield 23, 3) := by decide +kernel
theorem dX0_carryOut_4 : decode cX0_carryOut 4 = .ok (.iload_n 1, 1) := by decide +kernel
theorem dX0_carryOut_5 : decode cX0_carryOut 5 = .ok (.iaload, 1) := by decide +kernel
theorem dX0_carryOut_6 : decode cX0_carryOut 6 = .ok (.tableswitch 124 0 2 #[26, 80, 102], 26) := by decide +kernel
theorem dX0_carryOut_32 : decode cX0_carryOut 32 = .ok (.aload_n 0, 1) := by decide +kernel
theorem dX0_carryOut_33 : decode cX0_carryOut 33 = .ok (.getfield 15, 3) := by decide +kernel
theorem dX0_carryOut_36 : decode cX0_carryOut 36 = .ok (.aload_n 0, 1) := by decide +kernel
theorem dX0_carryOut_37 : decode cX0_carryOut 37 = .ok (.getfield 27, 3) := by decide +kernel
theorem dX0_carryOut_40 : decode cX0_carryOut 40 = .ok (.iload_n 1, 1) := by decide +kernel
theorem dX0_carryOut_41 : decode cX0_carryOut 41 = .ok (.iaload, 1) := by decide +kernel
theorem dX0_carryOut_42 : decode cX0_carryOut 42 = .ok (.aload_n 0, 1) := by decide +kernel
theorem dX0_carryOut_43 : decode cX0_carryOut 43 = .ok (.getfield 30, 3) := by decide +kernel
theorem dX0_carryOut_46 : decode cX0_carryOut 46 = .ok (.iload_n 1, 1) := by decide +kernel
theorem dX0_carryOut_47 : decode cX0_carryOut 47 = .ok (.iaload, 1) := by decide +kernel
theorem dX0_carryOut_48 : decode cX0_carryOut 48 = .ok (.aload_n 0, 1) := by decide +kernel
theorem dX0_carryOut_49 : decode cX0_carryOut 49 = .ok (.getfield 33, 3) := by decide +kernel
theorem dX0_carryOut_52 : decode cX0_carryOut 52 = .ok (.iload_n 1, 1) := by decide +kernel
theorem dX0_carryOut_53 : decode cX0_carryOut 53 = .ok (.iaload, 1) := by decide +kernel
theorem dX0_carryOut_54 : decode cX0_carryOut 54 = .ok (.aload_n 0, 1) := by decide +kernel
theorem dX0_carryOut_55 : decode cX0_carryOut 55 = .ok (.getfield 19, 3) := by decide +kernel
theorem dX0_carryOut_58 : decode cX0_carryOut 58 = .ok (.aload_n 0, 1) := by decide +kernel
theorem dX0_carryOut_59 : decode cX0_carryOut 59 = .ok (.getfield 27, 3) := by decide +kernel
theorem dX0_carryOut_62 : decode cX0_carryOut 62 = .ok (.iload_n 1, 1) := by decide +kernel
theorem dX0_carryOut_63 : decode cX0_carryOut 63 = .ok (.iaload, 1) := by decide +kernel
theorem dX0_carryOut_64 : decode cX0_carryOut 64 = .ok (.aload_n 0, 1) := by decide +kernel
theorem dX0_carryOut_65 : decode cX0_carryOut 65 = .ok (.getfield 30, 3) := by decide +kernel
theorem dX0_carryOut_68 : decode cX0_carryOut 68 = .ok (.iload_n 1, 1) := by decide +kernel
theorem dX0_carryOut_69 : decode cX0_carryOut 69 = .ok (.iaload, 1) := by decide +kernel
theorem dX0_carryOut_70 : decode cX0_carryOut 70 = .ok (.invokevirtual 67, 3) := by decide +kernel
theorem dX0_carryOut_73 : decode cX0_carryOut 73 = .ok (.aload_n 0, 1) := by decide +kernel
theorem dX0_carryOut_74 : decode cX0_carryOut 74 = .ok (.getfield 9, 3) := by decide +kernel
theorem dX0_carryOut_77 : decode cX0_carryOut 77 = .ok (.getfield 73, 3) := by decide +kernel
theorem dX0_carryOut_80 : decode cX0_carryOut 80 = .ok (.invokevirtual 78, 3) := by decide +kernel
theorem dX0_carryOut_83 : decode cX0_carryOut 83 = .ok (.goto 66, 3) := by decide +kernel
theorem dX0_carryOut_86 : decode cX0_carryOut 86 = .ok (.aload_n 0, 1) := by decide +kernel
theorem dX0_carryOut_87 : decode cX0_carryOut 87 = .ok (.getfield 15, 3) := by decide +kernel
theorem dX0_carryOut_90 : decode cX0_carryOut 90 = .ok (.aload_n 0, 1) := by decide +kernel
theorem dX0_carryOut_91 : decode cX0_carryOut 91 = .ok (.getfield 27, 3) := by decide +kernel
theorem dX0_carryOut_94 : decode cX0_carryOut 94 = .ok (.iload_n 1, 1) := by decide +kernel
theorem dX0_carryOut_95 : decode cX0_carryOut 95 = .ok (.iaload, 1) := by decide +kernel
theorem dX0_carryOut_96 : decode cX0_carryOut 96 = .ok (.aload_n 0, 1) := by decide +kernel
theorem dX0_carryOut_97 : decode cX0_carryOut 97 = .ok (.getfield 30, 3) := by decide +kernel
theorem dX0_carryOut_100 : decode cX0_carryOut 100 = .ok (.iload_n 1, 1) := by decide +kernel
theorem dX0_carryOut_101 : decode cX0_carryOut 101 = .ok (.iaload, 1) := by decide +kernel
theorem dX0_carryOut_102 : decode cX0_carryOut 102 = .ok (.invokevirtual 82, 3) := by decide +kernel
theorem dX0_carryOut_105 : decode cX0_carryOut 105 = .ok (.goto 44, 3) := by decide +kernel
theorem dX0_carryOut_108 : decode cX0_carryOut 108 = .ok (.aload_n 0, 1) := by decide +kernel
theorem dX0_carryOut_109 : decode cX0_carryOut 109 = .ok (.getfield 15, 3) := by decide +kernel
theorem dX0_carryOut_112 : decode cX0_carryOut 112 = .ok (.aload_n 0, 1) := by decide +kernel
theorem dX0_carryOut_113 : decode cX0_carryOut 113 = .ok (.getfield 27, 3) := by decide +kernel
theorem dX0_carryOut_116 : decode cX0_carryOut 116 = .ok (.iload_n 1, 1) := by decide +kernel
theorem dX0_carryOut_117 : decode cX0_carryOut 117 = .ok (.iaload, 1) := by decide +kernel
theorem dX0_carryOut_118 : decode cX0_carryOut 118 = .ok (.aload_n 0, 1) := by decide +kernel
theorem dX0_carryOut_119 : decode cX0_carryOut 119 = .ok (.getfield 30, 3) := by decide +kernel
theorem dX0_carryOut_122 : decode cX0_carryOut 122 = .ok (.iload_n 1, 1) := by decide +kernel
theorem dX0_carryOut_123 : decode cX0_carryOut 123 = .ok (.iaload, 1) := by decide +kernel
theorem dX0_carryOut_124 : decode cX0_carryOut 124 = .ok (.invokevirtual 86, 3) := by decide +kernel
theorem dX0_carryOut_127 : decode cX0_carryOut 127 = .ok (.goto 22, 3) := by decide +kernel
theorem dX0_carryOut_130 : decode cX0_carryOut 130 = .ok (.aload_n 0, 1) := by decide +kernel
theorem dX0_carryOut_131 : decode cX0_carryOut 131 = .ok (.getfield 15, 3) := by decide +kernel
theorem dX0_carryOut_134 : decode cX0_carryOut 134 = .ok (.aload_n 0, 1) := by decide +kernel
theorem dX0_carryOut_135 : decode cX0_carryOut 135 = .ok (.getfield 27, 3) := by decide +kernel
theorem dX0_carryOut_138 : decode cX0_carryOut 138 = .ok (.iload_n 1, 1) := by decide +kernel
theorem dX0_carryOut_139 : decode cX0_carryOut 139 = .ok (.iaload, 1) := by decide +kernel
theorem dX0_carryOut_140 : decode cX0_carryOut 140 = .ok (.aload_n 0, 1) := by decide +kernel
theorem dX0_carryOut_141 : decode cX0_carryOut 141 = .ok (.getfield 30, 3) := by decide +kernel
theorem dX0_carryOut_144 : decode cX0_carryOut 144 = .ok (.iload_n 1, 1) := by decide +kernel
theorem dX0_carryOut_145 : decode cX0_carryOut 145 = .ok (.iaload, 1) := by decide +kernel
theorem dX0_carryOut_146 : decode cX0_carryOut 146 = .ok (.invokevirtual 89, 3) := by decide +kernel
theorem dX0_carryOut_149 : decode cX0_carryOut 149 = .ok (.return_, 1) := by decide +kernel
theorem dX0_reverse_0 : decode cX0_reverse 0 = .ok (.aload_n 0, 1) := by decide +kernel
theorem dX0_reverse_1 : decode cX0_reverse 1 = .ok (.getfield 23, 3) := by decide +kernel
theorem dX0_reverse_4 : decode cX0_reverse 4 = .ok (.iload_n 1, 1) := by decide +kernel
theorem dX0_reverse_5 : decode cX0_reverse 5 = .ok (.iaload, 1) := by decide +kernel
theorem dX0_reverse_6 : decode cX0_reverse 6 = .ok (.tableswitch 118 0 2 #[26, 74, 96], 26) := by decide +kernel
theorem dX0_reverse_32 : decode cX0_reverse 32 = .ok (.aload_n 0, 1) := by decide +kernel
theorem dX0_reverse_33 : decode cX0_reverse 33 = .ok (.getfield 15, 3) := by decide +kernel
theorem dX0_reverse_36 : decode cX0_reverse 36 = .ok (.aload_n 0, 1) := by decide +kernel
theorem dX0_reverse_37 : decode cX0_reverse 37 = .ok (.getfield 27, 3) := by decide +kernel
theorem dX0_reverse_40 : decode cX0_reverse 40 = .ok (.iload_n 1, 1) := by decide +kernel
theorem dX0_reverse_41 : decode cX0_reverse 41 = .ok (.iaload, 1) := by decide +kernel
theorem dX0_reverse_42 : decode cX0_reverse 42 = .ok (.aload_n 0, 1) := by decide +kernel
theorem dX0_reverse_43 : decode cX0_reverse 43 = .ok (.getfield 30, 3) := by decide +kernel
theorem dX0_reverse_46 : decode cX0_reverse 46 = .ok (.iload_n 1, 1) := by decide +kernel
theorem dX0_reverse_47 : decode cX0_reverse 47 = .ok (.iaload, 1) := by decide +kernel
theorem dX0_reverse_48 : decode cX0_reverse 48 = .ok (.invokevirtual 92, 3) := by decide +kernel
theorem dX0_reverse_51 : decode cX0_reverse 51 = .ok (.aload_n 0, 1) := by decide +kernel
theorem dX0_reverse_52 : decode cX0_reverse 52 = .ok (.getfield 15, 3) := by decide +kernel
theorem dX0_reverse_55 : decode cX0_reverse 55 = .ok (.aload_n 0, 1) := by decide +kernel
theorem dX0_reverse_56 : decode cX0_reverse 56 = .ok (.getfield 36, 3) := by decide +kernel
theorem dX0_reverse_59 : decode cX0_reverse 59 = .ok (.iload_n 1, 1) := by decide +kernel
theorem dX0_reverse_60 : decode cX0_reverse 60 = .ok (.iaload, 1) := by decide +kernel
theorem dX0_reverse_61 : decode cX0_reverse 61 = .ok (.putfield 52, 3) := by decide +kernel
theorem dX0_reverse_64 : decode cX0_reverse 64 = .ok (.aload_n 0, 1) := by decide +kernel
theorem dX0_reverse_65 : decode cX0_reverse 65 = .ok (.getfield 15, 3) := by decide +kernel
theorem dX0_reverse_68 : decode cX0_reverse 68 = .ok (.aload_n 0, 1) := by decide +kernel
theorem dX0_reverse_69 : decode cX0_reverse 69 = .ok (.getfield 39, 3) := by decide +kernel
theorem dX0_reverse_72 : decode cX0_reverse 72 = .ok (.iload_n 1, 1) := by decide +kernel
theorem dX0_reverse_73 : decode cX0_reverse 73 = .ok (.iaload, 1) := by decide +kernel
theorem dX0_reverse_74 : decode cX0_reverse 74 = .ok (.putfield 57, 3) := by decide +kernel
theorem dX0_reverse_77 : decode cX0_reverse 77 = .ok (.goto 66, 3) := by decide +kernel
theorem dX0_reverse_80 : decode cX0_reverse 80 = .ok (.aload_n 0, 1) := by decide +kernel
theorem dX0_reverse_81 : decode cX0_reverse 81 = .ok (.getfield 15, 3) := by decide +kernel
theorem dX0_reverse_84 : decode cX0_reverse 84 = .ok (.aload_n 0, 1) := by decide +kernel
theorem dX0_reverse_85 : decode cX0_reverse 85 = .ok (.getfield 27, 3) := by decide +kernel
theorem dX0_reverse_88 : decode cX0_reverse 88 = .ok (.iload_n 1, 1) := by decide +kernel
theorem dX0_reverse_89 : decode cX0_reverse 89 = .ok (.iaload, 1) := by decide +kernel
theorem dX0_reverse_90 : decode cX0_reverse 90 = .ok (.aload_n 0, 1) := by decide +kernel
theorem dX0_reverse_91 : decode cX0_reverse 91 = .ok (.getfield 30, 3) := by decide +kernel
theorem dX0_reverse_94 : decode cX0_reverse 94 = .ok (.iload_n 1, 1) := by decide +kernel
theorem dX0_reverse_95 : decode cX0_reverse 95 = .ok (.iaload, 1) := by decide +kernel
theorem dX0_reverse_96 : decode cX0_reverse 96 = .ok (.invokevirtual 86, 3) := by decide +kernel
theorem dX0_reverse_99 : decode cX0_reverse 99 = .ok (.goto 44, 3) := by decide +kernel
theorem dX0_reverse_102 : decode cX0_reverse 102 = .ok (.aload_n 0, 1) := by decide +kernel
theorem dX0_reverse_103 : decode cX0_reverse 103 = .ok (.getfield 15, 3) := by decide +kernel
theorem dX0_reverse_106 : decode cX0_reverse 106 = .ok (.aload_n 0, 1) := by decide +kernel
theorem dX0_reverse_107 : decode cX0_reverse 107 = .ok (.getfield 27, 3) := by decide +kernel
theorem dX0_reverse_110 : decode cX0_reverse 110 = .ok (.iload_n 1, 1) := by decide +kernel
theorem dX0_reverse_111 : decode cX0_reverse 111 = .ok (.iaload, 1) := by decide +kernel
theorem dX0_reverse_112 : decode cX0_reverse 112 = .ok (.aload_n 0, 1) := by decide +kernel
theorem dX0_reverse_113 : decode cX0_reverse 113 = .ok (.getfield 30, 3) := by decide +kernel
theorem dX0_reverse_116 : decode cX0_reverse 116 = .ok (.iload_n 1, 1) := by decide +kernel
theorem dX0_reverse_117 : decode cX0_reverse 117 = .ok (.iaload, 1) := by decide +kernel
theorem dX0_reverse_118 : decode cX0_reverse 118 = .ok (.invokevirtual 82, 3) := by decide +kernel
theorem dX0_reverse_121 : decode cX0_reverse 121 = .ok (.goto 22, 3) := by decide +kernel
theorem dX0_reverse_124 : decode cX0_reverse 124 = .ok (.aload_n 0, 1) := by decide +kernel
theorem dX0_reverse_125 : decode cX0_reverse 125 = .ok (.getfield 15, 3) := by decide +kernel
theorem dX0_reverse_128 : decode cX0_reverse 128 = .ok (.aload_n 0, 1) := by decide +kernel
theorem dX0_reverse_129 : decode cX0_reverse 129 = .ok (.getfield 27, 3) := by decide +kernel
theorem dX0_reverse_132 : decode cX0_reverse 132 = .ok (.iload_n 1, 1) := by decide +kernel
theorem dX0_reverse_133 : decode cX0_reverse 133 = .ok (.iaload, 1) := by decide +kernel
theorem dX0_reverse_134 : decode cX0_reverse 134 = .ok (.aload_n 0, 1) := by decide +kernel
theorem dX0_reverse_135 : decode cX0_reverse 135 = .ok (.getfield 30, 3) := by decide +kernel
theorem dX0_reverse_138 : decode cX0_reverse 138 = .ok (.iload_n 1, 1) := by decide +kernel
theorem dX0_reverse_139 : decode cX0_reverse 139 = .ok (.iaload, 1) := by decide +kernel
theorem dX0_reverse_140 : decode cX0_reverse 140 = .ok (.invokevirtual 89, 3) := by decide +kernel
theorem dX0_reverse_143 : decode cX0_reverse 143 = .ok (.return_, 1) := by decide +kernel
theorem dX1_init_0 : decode cX1_init 0 = .ok (.aload_n 0, 1) := by decide +kernel
theorem dX1_init_1 : decode cX1_init 1 = .ok (.invokespecial 3, 3) := by decide +kernel
theorem dX1_init_4 : decode cX1_init 4 = .ok (.aload_n 0, 1) := by decide +kernel
theorem dX1_init_5 : decode cX1_init 5 = .ok (.bipush 24, 2) := by decide +kernel
theorem dX1_init_7 : decode cX1_init 7 = .ok (.anewarray 9, 3) := by decide +kernel
theorem dX1_init_10 : decode cX1_init 10 = .ok (.putfield 11, 3) := by decide +kernel
theorem dX1_init_13 : decode cX1_init 13 = .ok (.iconst 0, 1) := by decide +kernel
theorem dX1_init_14 : decode cX1_init 14 = .ok (.istore_n 1, 1) := by decide +kernel
theorem dX1_init_15 : decode cX1_init 15 = .ok (.iload_n 1, 1) := by decide +kernel
theorem dX1_init_16 : decode cX1_init 16 = .ok (.bipush 24, 2) := by decide +kernel
theorem dX1_init_18 : decode cX1_init 18 = .ok (.if_icmp .ge 22, 3) := by decide +kernel
theorem dX1_init_21 : decode cX1_init 21 = .ok (.aload_n 0, 1) := by decide +kernel
theorem dX1_init_22 : decode cX1_init 22 = .ok (.getfield 11, 3) := by decide +kernel
theorem dX1_init_25 : decode cX1_init 25 = .ok (.iload_n 1, 1) := by decide +kernel
theorem dX1_init_26 : decode cX1_init 26 = .ok (.new 9, 3) := by decide +kernel
theorem dX1_init_29 : decode cX1_init 29 = .ok (.dup, 1) := by decide +kernel
theorem dX1_init_30 : decode cX1_init 30 = .ok (.invokespecial 17, 3) := by decide +kernel
theorem dX1_init_33 : decode cX1_init 33 = .ok (.aastore, 1) := by decide +kernel
theorem dX1_init_34 : decode cX1_init 34 = .ok (.iinc 1 1, 3) := by decide +kernel
theorem dX1_init_37 : decode cX1_init 37 = .ok (.goto (-22), 3) := by decide +kernel
theorem dX1_init_40 : decode cX1_init 40 = .ok (.aload_n 0, 1) := by decide +kernel
theorem dX1_init_41 : decode cX1_init 41 = .ok (.bipush 6, 2) := by decide +kernel
theorem dX1_init_43 : decode cX1_init 43 = .ok (.newarray .int, 2) := by decide +kernel
theorem dX1_init_45 : decode cX1_init 45 = .ok (.putfield 18, 3) := by decide +kernel
theorem dX1_init_48 : decode cX1_init 48 = .ok (.iconst 0, 1) := by decide +kernel
theorem dX1_init_49 : decode cX1_init 49 = .ok (.istore_n 1, 1) := by decide +kernel
theorem dX1_init_50 : decode cX1_init 50 = .ok (.iload_n 1, 1) := by decide +kernel
theorem dX1_init_51 : decode cX1_init 51 = .ok (.bipush 6, 2) := by decide +kernel
theorem dX1_init_53 : decode cX1_init 53 = .ok (.if_icmp .ge 16, 3) := by decide +kernel
theorem dX1_init_56 : decode cX1_init 56 = .ok (.aload_n 0, 1) := by decide +kernel
theorem dX1_init_57 : decode cX1_init 57 = .ok (.getfield 18, 3) := by decide +kernel
theorem dX1_init_60 : decode cX1_init 60 = .ok (.iload_n 1, 1) := by decide +kernel
theorem dX1_init_61 : decode cX1_init 61 = .ok (.iconst (-1), 1) := by decide +kernel
theorem dX1_init_62 : decode cX1_init 62 = .ok (.iastore, 1) := by decide +kernel
theorem dX1_init_63 : decode cX1_init 63 = .ok (.iinc 1 1, 3) := by decide +kernel
theorem dX1_init_66 : decode cX1_init 66 = .ok (.goto (-16), 3) := by decide +kernel
theorem dX1_init_69 : decode cX1_init 69 = .ok (.return_, 1) := by decide +kernel
theorem dX1_lay_0 : decode cX1_lay 0 = .ok (.iconst 0, 1) := by decide +kernel
theorem dX1_lay_1 : decode cX1_lay 1 = .ok (.istore_n 2, 1) := by decide +kernel
theorem dX1_lay_2 : decode cX1_lay 2 = .ok (.iload_n 2, 1) := by decide +kernel
theorem dX1_lay_3 : decode cX1_lay 3 = .ok (.aload_n 1, 1) := by decide +kernel
theorem dX1_lay_4 : decode cX1_lay 4 = .ok (.getfield 22, 3) := by decide +kernel
theorem dX1_lay_7 : decode cX1_lay 7 = .ok (.if_icmp .ge 31, 3) := by decide +kernel
theorem dX1_lay_10 : decode cX1_lay 10 = .ok (.aload_n 0, 1) := by decide +kernel
theorem dX1_lay_11 : decode cX1_lay 11 = .ok (.getfield 11, 3) := by decide +kernel
theorem dX1_lay_14 : decode cX1_lay 14 = .ok (.iload_n 2, 1) := by decide +kernel
theorem dX1_lay_15 : decode cX1_lay 15 = .ok (.aaload, 1) := by decide +kernel
theorem dX1_lay_16 : decode cX1_lay 16 = .ok (.iload_n 2, 1) := by decide +kernel
theorem dX1_lay_17 : decode cX1_lay 17 = .ok (.aload_n 1, 1) := by decide +kernel
theorem dX1_lay_18 : decode cX1_lay 18 = .ok (.getfield 28, 3) := by decide +kernel
theorem dX1_lay_21 : decode cX1_lay 21 = .ok (.iload_n 2, 1) := by decide +kernel
theorem dX1_lay_22 : decode cX1_lay 22 = .ok (.iaload, 1) := by decide +kernel
theorem dX1_lay_23 : decode cX1_lay 23 = .ok (.aload_n 1, 1) := by decide +kernel
theorem dX1_lay_24 : decode cX1_lay 24 = .ok (.getfield 31, 3) := by decide +kernel
theorem dX1_lay_27 : decode cX1_lay 27 = .ok (.iload_n 2, 1) := by decide +kernel
theorem dX1_lay_28 : decode cX1_lay 28 = .ok (.iaload, 1) := by decide +kernel
theorem dX1_lay_29 : decode cX1_lay 29 = .ok (.invokevirtual 34, 3) := by decide +kernel
theorem dX1_lay_32 : decode cX1_lay 32 = .ok (.iinc 2 1, 3) := by decide +kernel
theorem dX1_lay_35 : decode cX1_lay 35 = .ok (.goto (-33), 3) := by decide +kernel
theorem dX1_lay_38 : decode cX1_lay 38 = .ok (.aload_n 0, 1) := by decide +kernel
theorem dX1_lay_39 : decode cX1_lay 39 = .ok (.aload_n 1, 1) := by decide +kernel
theorem dX1_lay_40 : decode cX1_lay 40 = .ok (.getfield 22, 3) := by decide +kernel
theorem dX1_lay_43 : decode cX1_lay 43 = .ok (.putfield 38, 3) := by decide +kernel
theorem dX1_lay_46 : decode cX1_lay 46 = .ok (.iconst 0, 1) := by decide +kernel
theorem dX1_lay_47 : decode cX1_lay 47 = .ok (.istore_n 2, 1) := by decide +kernel
theorem dX1_lay_48 : decode cX1_lay 48 = .ok (.iload_n 2, 1) := by decide +kernel
theorem dX1_lay_49 : decode cX1_lay 49 = .ok (.bipush 6, 2) := by decide +kernel
theorem dX1_lay_51 : decode cX1_lay 51 = .ok (.if_icmp .ge 16, 3) := by decide +kernel
theorem dX1_lay_54 : decode cX1_lay 54 = .ok (.aload_n 0, 1) := by decide +kernel
theorem dX1_lay_55 : decode cX1_lay 55 = .ok (.getfield 18, 3) := by decide +kernel
theorem dX1_lay_58 : decode cX1_lay 58 = .ok (.iload_n 2, 1) := by decide +kernel
theorem dX1_lay_59 : decode cX1_lay 59 = .ok (.iconst (-1), 1) := by decide +kernel
theorem dX1_lay_60 : decode cX1_lay 60 = .ok (.iastore, 1) := by decide +kernel
theorem dX1_lay_61 : decode cX1_lay 61 = .ok (.iinc 2 1, 3) := by decide +kernel
theorem dX1_lay_64 : decode cX1_lay 64 = .ok (.goto (-16), 3) := by decide +kernel
theorem dX1_lay_67 : decode cX1_lay 67 = .ok (.aload_n 0, 1) := by decide +kernel
theorem dX1_lay_68 : decode cX1_lay 68 = .ok (.iconst 0, 1) := by decide +kernel
theorem dX1_lay_69 : decode cX1_lay 69 = .ok (.putfield 41, 3) := by decide +kernel
theorem dX1_lay_72 : decode cX1_lay 72 = .ok (.aload_n 0, 1) := by decide +kernel
theorem dX1_lay_73 : decode cX1_lay 73 = .ok (.aload_n 1, 1) := by decide +kernel
theorem dX1_lay_74 : decode cX1_lay 74 = .ok (.getfield 44, 3) := by decide +kernel
theorem dX1_lay_77 : decode cX1_lay 77 = .ok (.putfield 47, 3) := by decide +kernel
theorem dX1_lay_80 : decode cX1_lay 80 = .ok (.return_, 1) := by decide +kernel
theorem dX1_takeFrom_0 : decode cX1_takeFrom 0 = .ok (.iconst 0, 1) := by decide +kernel
theorem dX1_takeFrom_1 : decode cX1_takeFrom 1 = .ok (.istore_n 2, 1) := by decide +kernel
theorem dX1_takeFrom_2 : decode cX1_takeFrom 2 = .ok (.iload_n 2, 1) := by decide +kernel
theorem dX1_takeFrom_3 : decode cX1_takeFrom 3 = .ok (.aload_n 1, 1) := by decide +kernel
theorem dX1_takeFrom_4 : decode cX1_takeFrom 4 = .ok (.getfield 38, 3) := by decide +kernel
theorem dX1_takeFrom_7 : decode cX1_takeFrom 7 = .ok (.if_icmp .ge 24, 3) := by decide +kernel
theorem dX1_takeFrom_10 : decode cX1_takeFrom 10 = .ok (.aload_n 0, 1) := by decide +kernel
theorem dX1_takeFrom_11 : decode cX1_takeFrom 11 = .ok (.getfield 11, 3) := by decide +kernel
theorem dX1_takeFrom_14 : decode cX1_takeFrom 14 = .ok (.iload_n 2, 1) := by decide +kernel
theorem dX1_takeFrom_15 : decode cX1_takeFrom 15 = .ok (.aaload, 1) := by decide +kernel
theorem dX1_takeFrom_16 : decode cX1_takeFrom 16 = .ok (.aload_n 1, 1) := by decide +kernel
theorem dX1_takeFrom_17 : decode cX1_takeFrom 17 = .ok (.getfield 11, 3) := by decide +kernel
theorem dX1_takeFrom_20 : decode cX1_takeFrom 20 = .ok (.iload_n 2, 1) := by decide +kernel
theorem dX1_takeFrom_21 : decode cX1_takeFrom 21 = .ok (.aaload, 1) := by decide +kernel
theorem dX1_takeFrom_22 : decode cX1_takeFrom 22 = .ok (.invokevirtual 50, 3) := by decide +kernel
theorem dX1_takeFrom_25 : decode cX1_takeFrom 25 = .ok (.iinc 2 1, 3) := by decide +kernel
theorem dX1_takeFrom_28 : decode cX1_takeFrom 28 = .ok (.goto (-26), 3) := by decide +kernel
theorem dX1_takeFrom_31 : decode cX1_takeFrom 31 = .ok (.iconst 0, 1) := by decide +kernel
theorem dX1_takeFrom_32 : decode cX1_takeFrom 32 = .ok (.istore_n 2, 1) := by decide +kernel
theorem dX1_takeFrom_33 : decode cX1_takeFrom 33 = .ok (.iload_n 2, 1) := by decide +kernel
theorem dX1_takeFrom_34 : decode cX1_takeFrom 34 = .ok (.bipush 6, 2) := by decide +kernel
theorem dX1_takeFrom_36 : decode cX1_takeFrom 36 = .ok (.if_icmp .ge 21, 3) := by decide +kernel
theorem dX1_takeFrom_39 : decode cX1_takeFrom 39 = .ok (.aload_n 0, 1) := by decide +kernel
theorem dX1_takeFrom_40 : decode cX1_takeFrom 40 = .ok (.getfield 18, 3) := by decide +kernel
theorem dX1_takeFrom_43 : decode cX1_takeFrom 43 = .ok (.iload_n 2, 1) := by decide +kernel
theorem dX1_takeFrom_44 : decode cX1_takeFrom 44 = .ok (.aload_n 1, 1) := by decide +kernel
theorem dX1_takeFrom_45 : decode cX1_takeFrom 45 = .ok (.getfield 18, 3) := by decide +kernel
theorem dX1_takeFrom_48 : decode cX1_takeFrom 48 = .ok (.iload_n 2, 1) := by decide +kernel
theorem dX1_takeFrom_49 : decode cX1_takeFrom 49 = .ok (.iaload, 1) := by decide +kernel
theorem dX1_takeFrom_50 : decode cX1_takeFrom 50 = .ok (.iastore, 1) := by decide +kernel
theorem dX1_takeFrom_51 : decode cX1_takeFrom 51 = .ok (.iinc 2 1, 3) := by decide +kernel
theorem dX1_takeFrom_54 : decode cX1_takeFrom 54 = .ok (.goto (-21), 3) := by decide +kernel
theorem dX1_takeFrom_57 : decode cX1_takeFrom 57 = .ok (.aload_n 0, 1) := by decide +kernel
theorem dX1_takeFrom_58 : decode cX1_takeFrom 58 = .ok (.aload_n 1, 1) := by decide +kernel
theorem dX1_takeFrom_59 : decode cX1_takeFrom 59 = .ok (.getfield 38, 3) := by decide +kernel
theorem dX1_takeFrom_62 : decode cX1_takeFrom 62 = .ok (.putfield 38, 3) := by decide +kernel
theorem dX1_takeFrom_65 : decode cX1_takeFrom 65 = .ok (.aload_n 0, 1) := by decide +kernel
theorem dX1_takeFrom_66 : decode cX1_takeFrom 66 = .ok (.aload_n 1, 1) := by decide +kernel
theorem dX1_takeFrom_67 : decode cX1_takeFrom 67 = .ok (.getfield 41, 3) := by decide +kernel
theorem dX1_takeFrom_70 : decode cX1_takeFrom 70 = .ok (.putfield 41, 3) := by decide +kernel
theorem dX1_takeFrom_73 : decode cX1_takeFrom 73 = .ok (.aload_n 0, 1) := by decide +kernel
theorem dX1_takeFrom_74 : decode cX1_takeFrom 74 = .ok (.aload_n 1, 1) := by decide +kernel
theorem dX1_takeFrom_75 : decode cX1_takeFrom 75 = .ok (.getfield 47, 3) := by decide +kernel
theorem dX1_takeFrom_78 : decode cX1_takeFrom 78 = .ok (.putfield 47, 3) := by decide +kernel
theorem dX1_takeFrom_81 : decode cX1_takeFrom 81 = .ok (.return_, 1) := by decide +kernel
theorem dX1_isPiece_0 : decode cX1_isPiece 0 = .ok (.iload_n 1, 1) := by decide +kernel
theorem dX1_isPiece_1 : decode cX1_isPiece 1 = .ok (.ifCond .lt 15, 3) := by decide +kernel
theorem dX1_isPiece_4 : decode cX1_isPiece 4 = .ok (.iload_n 1, 1) := by decide +kernel
theorem dX1_isPiece_5 : decode cX1_isPiece 5 = .ok (.aload_n 0, 1) := by decide +kernel
theorem dX1_isPiece_6 : decode cX1_isPiece 6 = .ok (.getfield 38, 3) := by decide +kernel
theorem dX1_isPiece_9 : decode cX1_isPiece 9 = .ok (.if_icmp .ge 7, 3) := by decide +kernel
theorem dX1_isPiece_12 : decode cX1_isPiece 12 = .ok (.iconst 1, 1) := by decide +kernel
theorem dX1_isPiece_13 : decode cX1_isPiece 13 = .ok (.goto 4, 3) := by decide +kernel
theorem dX1_isPiece_16 : decode cX1_isPiece 16 = .ok (.iconst 0, 1) := by decide +kernel
theorem dX1_isPiece_17 : decode cX1_isPiece 17 = .ok (.ireturn, 1) := by decide +kernel
theorem dX1_isFree_0 : decode cX1_isFree 0 = .ok (.aload_n 0, 1) := by decide +kernel
theorem dX1_isFree_1 : decode cX1_isFree 1 = .ok (.iload_n 1, 1) := by decide +kernel
theorem dX1_isFree_2 : decode cX1_isFree 2 = .ok (.invokevirtual 54, 3) := by decide +kernel
theorem dX1_isFree_5 : decode cX1_isFree 5 = .ok (.ifCond .eq 20, 3) := by decide +kernel
theorem dX1_isFree_8 : decode cX1_isFree 8 = .ok (.aload_n 0, 1) := by decide +kernel
theorem dX1_isFree_9 : decode cX1_isFree 9 = .ok (.getfield 11, 3) := by decide +kernel
theorem dX1_isFree_12 : decode cX1_isFree 12 = .ok (.iload_n 1, 1) := by decide +kernel
theorem dX1_isFree_13 : decode cX1_isFree 13 = .ok (.aaload, 1) := by decide +kernel
theorem dX1_isFree_14 : decode cX1_isFree 14 = .ok (.getfield 58, 3) := by decide +kernel
theorem dX1_isFree_17 : decode cX1_isFree 17 = .ok (.iconst (-1), 1) := by decide +kernel
theorem dX1_isFree_18 : decode cX1_isFree 18 = .ok (.if_icmp .ne 7, 3) := by decide +kernel
theorem dX1_isFree_21 : decode cX1_isFree 21 = .ok (.iconst 1, 1) := by decide +kernel
theorem dX1_isFree_22 : decode cX1_isFree 22 = .ok (.goto 4, 3) := by decide +kernel
theorem dX1_isFree_25 : decode cX1_isFree 25 = .ok (.iconst 0, 1) := by decide +kernel
theorem dX1_isFree_26 : decode cX1_isFree 26 = .ok (.ireturn, 1) := by decide +kernel
theorem dX1_isCuttable_0 : decode cX1_isCuttable 0 = .ok (.aload_n 0, 1) := by decide +kernel
theorem dX1_isCuttable_1 : decode cX1_isCuttable 1 = .ok (.iload_n 1, 1) := by decide +kernel
theorem dX1_isCuttable_2 : decode cX1_isCuttable 2 = .ok (.invokevirtual 61, 3) := by decide +kernel
theorem dX1_isCuttable_5 : decode cX1_isCuttable 5 = .ok (.ifCond .eq 16, 3) := by decide +kernel
theorem dX1_isCuttable_8 : decode cX1_isCuttable 8 = .ok (.aload_n 0, 1) := by decide +kernel
theorem dX1_isCuttable_9 : decode cX1_isCuttable 9 = .ok (.getfield 38, 3) := by decide +kernel
theorem dX1_isCuttable_12 : decode cX1_isCuttable 12 = .ok (.bipush 24, 2) := by decide +kernel
theorem dX1_isCuttable_14 : decode cX1_isCuttable 14 = .ok (.if_icmp .ge 7, 3) := by decide +kernel
theorem dX1_isCuttable_17 : decode cX1_isCuttable 17 = .ok (.iconst 1, 1) := by decide +kernel
theorem dX1_isCuttable_18 : decode cX1_isCuttable 18 = .ok (.goto 4, 3) := by decide +kernel
theorem dX1_isCuttable_21 : decode cX1_isCuttable 21 = .ok (.iconst 0, 1) := by decide +kernel
theorem dX1_isCuttable_22 : decode cX1_isCuttable 22 = .ok (.ireturn, 1) := by decide +kernel
theorem dX1_canSplit_0 : decode cX1_canSplit 0 = .ok (.aload_n 0, 1) := by decide +kernel
theorem dX1_canSplit_1 : decode cX1_canSplit 1 = .ok (.iload_n 1, 1) := by decide +kernel
theorem dX1_canSplit_2 : decode cX1_canSplit 2 = .ok (.invokevirtual 64, 3) := by decide +kernel
theorem dX1_canSplit_5 : decode cX1_canSplit 5 = .ok (.ifCond .eq 35, 3) := by decide +kernel
theorem dX1_canSplit_8 : decode cX1_canSplit 8 = .ok (.iload_n 2, 1) := by decide +kernel
theorem dX1_canSplit_9 : decode cX1_canSplit 9 = .ok (.ifCond .eq 8, 3) := by decide +kernel
theorem dX1_canSplit_12 : decode cX1_canSplit 12 = .ok (.iload_n 2, 1) := by decide +kernel
theorem dX1_canSplit_13 : decode cX1_canSplit 13 = .ok (.iconst 1, 1) := by decide +kernel
theorem dX1_canSplit_14 : decode cX1_canSplit 14 = .ok (.if_icmp .ne 26, 3) := by decide +kernel
theorem dX1_canSplit_17 : decode cX1_canSplit 17 = .ok (.iload_n 3, 1) := by decide +kernel
theorem dX1_canSplit_18 : decode cX1_canSplit 18 = .ok (.iconst 1, 1) := by decide +kernel
theorem dX1_canSplit_19 : decode cX1_canSplit 19 = .ok (.if_icmp .lt 21, 3) := by decide +kernel
theorem dX1_canSplit_22 : decode cX1_canSplit 22 = .ok (.iload_n 3, 1) := by decide +kernel
theorem dX1_canSplit_23 : decode cX1_canSplit 23 = .ok (.aload_n 0, 1) := by decide +kernel
theorem dX1_canSplit_24 : decode cX1_canSplit 24 = .ok (.getfield 11, 3) := by decide +kernel
theorem dX1_canSplit_27 : decode cX1_canSplit 27 = .ok (.iload_n 1, 1) := by decide +kernel
theorem dX1_canSplit_28 : decode cX1_canSplit 28 = .ok (.aaload, 1) := by decide +kernel
theorem dX1_canSplit_29 : decode cX1_canSplit 29 = .ok (.iload_n 2, 1) := by decide +kernel
theorem dX1_canSplit_30 : decode cX1_canSplit 30 = .ok (.invokevirtual 67, 3) := by decide +kernel
theorem dX1_canSplit_33 : decode cX1_canSplit 33 = .ok (.if_icmp .ge 7, 3) := by decide +kernel
theorem dX1_canSplit_36 : decode cX1_canSplit 36 = .ok (.iconst 1, 1) := by decide +kernel
theorem dX1_canSplit_37 : decode cX1_canSplit 37 = .ok (.goto 4, 3) := by decide +kernel
theorem dX1_canSplit_40 : decode cX1_canSplit 40 = .ok (.iconst 0, 1) := by decide +kernel
theorem dX1_canSplit_41 : decode cX1_canSplit 41 = .ok (.ireturn, 1) := by decide +kernel
theorem dX1_split_0 : decode cX1_split 0 = .ok (.aload_n 0, 1) := by decide +kernel
theorem dX1_split_1 : decode cX1_split 1 = .ok (.iload_n 1, 1) := by decide +kernel
theorem dX1_split_2 : decode cX1_split 2 = .ok (.iload_n 2, 1) := by decide +kernel
theorem dX1_split_3 : decode cX1_split 3 = .ok (.iload_n 3, 1) := by decide +kernel
theorem dX1_split_4 : decode cX1_split 4 = .ok (.invokevirtual 71, 3) := by decide +kernel
theorem dX1_split_7 : decode cX1_split 7 = .ok (.ifCond .ne 4, 3) := by decide +kernel
theorem dX1_split_10 : decode cX1_split 10 = .ok (.return_, 1) := by decide +kernel
theorem dX1_split_11 : decode cX1_split 11 = .ok (.aload_n 0, 1) := by decide +kernel
theorem dX1_split_12 : decode cX1_split 12 = .ok (.getfield 11, 3) := by decide +kernel
theorem dX1_split_15 : decode cX1_split 15 = .ok (.iload_n 1, 1) := by decide +kernel
theorem dX1_split_16 : decode cX1_split 16 = .ok (.aaload, 1) := by decide +kernel
theorem dX1_split_17 : decode cX1_split 17 = .ok (.astore 6, 2) := by decide +kernel
theorem dX1_split_19 : decode cX1_split 19 = .ok (.aload_n 0, 1) := by decide +kernel
theorem dX1_split_20 : decode cX1_split 20 = .ok (.getfield 11, 3) := by decide +kernel
theorem dX1_split_23 : decode cX1_split 23 = .ok (.aload_n 0, 1) := by decide +kernel
theorem dX1_split_24 : decode cX1_split 24 = .ok (.getfield 38, 3) := by decide +kernel
theorem dX1_split_27 : decode cX1_split 27 = .ok (.aaload, 1) := by decide +kernel
theorem dX1_split_28 : decode cX1_split 28 = .ok (.astore 7, 2) := by decide +kernel
theorem dX1_split_30 : decode cX1_split 30 = .ok (.aload 7, 2) := by decide +kernel
theorem dX1_split_32 : decode cX1_split 32 = .ok (.aload 6, 2) := by decide +kernel
theorem dX1_split_34 : decode cX1_split 34 = .ok (.invokevirtual 50, 3) := by decide +kernel
theorem dX1_split_37 : decode cX1_split 37 = .ok (.aload 7, 2) := by decide +kernel
theorem dX1_split_39 : decode cX1_split 39 = .ok (.iload_n 2, 1) := by decide +kernel
theorem dX1_split_40 : decode cX1_split 40 = .ok (.iload_n 3, 1) := by decide +kernel
theorem dX1_split_41 : decode cX1_split 41 = .ok (.invokevirtual 75, 3) := by decide +kernel
theorem dX1_split_44 : decode cX1_split 44 = .ok (.aload 6, 2) := by decide +kernel
theorem dX1_split_46 : decode cX1_split 46 = .ok (.iload_n 2, 1) := by decide +kernel
theorem dX1_split_47 : decode cX1_split 47 = .ok (.iload_n 3, 1) := by decide +kernel
theorem dX1_split_48 : decode cX1_split 48 = .ok (.invokevirtual 79, 3) := by decide +kernel
theorem dX1_split_51 : decode cX1_split 51 = .ok (.aload_n 0, 1) := by decide +kernel
theorem dX1_split_52 : decode cX1_split 52 = .ok (.dup, 1) := by decide +kernel
theorem dX1_split_53 : decode cX1_split 53 = .ok (.getfield 38, 3) := by decide +kernel
theorem dX1_split_56 : decode cX1_split 56 = .ok (.iconst 1, 1) := by decide +kernel
theorem dX1_split_57 : decode cX1_split 57 = .ok (.iadd, 1) := by decide +kernel
theorem dX1_split_58 : decode cX1_split 58 = .ok (.putfield 38, 3) := by decide +kernel
theorem dX1_split_61 : decode cX1_split 61 = .ok (.aload_n 0, 1) := by decide +kernel
theorem dX1_split_62 : decode cX1_split 62 = .ok (.aload_n 0, 1) := by decide +kernel
theorem dX1_split_63 : decode cX1_split 63 = .ok (.getfield 47, 3) := by decide +kernel
theorem dX1_split_66 : decode cX1_split 66 = .ok (.sipush 137, 3) := by decide +kernel
theorem dX1_split_69 : decode cX1_split 69 = .ok (.imul, 1) := by decide +kernel
theorem dX1_split_70 : decode cX1_split 70 = .ok (.bipush 71, 2) := by decide +kernel
theorem dX1_split_72 : decode cX1_split 72 = .ok (.iadd, 1) := by decide +kernel
theorem dX1_split_73 : decode cX1_split 73 = .ok (.sipush 1000, 3) := by decide +kernel
theorem dX1_split_76 : decode cX1_split 76 = .ok (.irem, 1) := by decide +kernel
theorem dX1_split_77 : decode cX1_split 77 = .ok (.putfield 47, 3) := by decide +kernel
theorem dX1_split_80 : decode cX1_split 80 = .ok (.aload_n 0, 1) := by decide +kernel
theorem dX1_split_81 : decode cX1_split 81 = .ok (.getfield 47, 3) := by decide +kernel
theorem dX1_split_84 : decode cX1_split 84 = .ok (.bipush 100, 2) := by decide +kernel
theorem dX1_split_86 : decode cX1_split 86 = .ok (.irem, 1) := by decide +kernel
theorem dX1_split_87 : decode cX1_split 87 = .ok (.iload 4, 2) := by decide +kernel
theorem dX1_split_89 : decode cX1_split 89 = .ok (.if_icmp .ge 9, 3) := by decide +kernel
theorem dX1_split_92 : decode cX1_split 92 = .ok (.aload 7, 2) := by decide +kernel
theorem dX1_split_94 : decode cX1_split 94 = .ok (.iconst 1, 1) := by decide +kernel
theorem dX1_split_95 : decode cX1_split 95 = .ok (.putfield 82, 3) := by decide +kernel
theorem dX1_split_98 : decode cX1_split 98 = .ok (.aload_n 0, 1) := by decide +kernel
theorem dX1_split_99 : decode cX1_split 99 = .ok (.dup, 1) := by decide +kernel
theorem dX1_split_100 : decode cX1_split 100 = .ok (.getfield 41, 3) := by decide +kernel
theorem dX1_split_103 : decode cX1_split 103 = .ok (.iload 5, 2) := by decide +kernel
theorem dX1_split_105 : decode cX1_split 105 = .ok (.iadd, 1) := by decide +kernel
theorem dX1_split_106 : decode cX1_split 106 = .ok (.putfield 41, 3) := by decide +kernel
theorem dX1_split_109 : decode cX1_split 109 = .ok (.return_, 1) := by decide +kernel
theorem dX1_rejoin_0 : decode cX1_rejoin 0 = .ok (.aload_n 0, 1) := by decide +kernel
theorem dX1_rejoin_1 : decode cX1_rejoin 1 = .ok (.iload_n 1, 1) := by decide +kernel
theorem dX1_rejoin_2 : decode cX1_rejoin 2 = .ok (.invokevirtual 54, 3) := by decide +kernel
theorem dX1_rejoin_5 : decode cX1_rejoin 5 = .ok (.ifCond .eq 46, 3) := by decide +kernel
theorem dX1_rejoin_8 : decode cX1_rejoin 8 = .ok (.iload_n 1, 1) := by decide +kernel
theorem dX1_rejoin_9 : decode cX1_rejoin 9 = .ok (.aload_n 0, 1) := by decide +kernel
theorem dX1_rejoin_10 : decode cX1_rejoin 10 = .ok (.getfield 38, 3) := by decide +kernel
theorem dX1_rejoin_13 : decode cX1_rejoin 13 = .ok (.iconst 1, 1) := by decide +kernel
theorem dX1_rejoin_14 : decode cX1_rejoin 14 = .ok (.isub, 1) := by decide +kernel
theorem dX1_rejoin_15 : decode cX1_rejoin 15 = .ok (.if_icmp .ge 36, 3) := by decide +kernel
theorem dX1_rejoin_18 : decode cX1_rejoin 18 = .ok (.aload_n 0, 1) := by decide +kernel
theorem dX1_rejoin_19 : decode cX1_rejoin 19 = .ok (.dup, 1) := by decide +kernel
theorem dX1_rejoin_20 : decode cX1_rejoin 20 = .ok (.getfield 38, 3) := by decide +kernel
theorem dX1_rejoin_23 : decode cX1_rejoin 23 = .ok (.iconst 1, 1) := by decide +kernel
theorem dX1_rejoin_24 : decode cX1_rejoin 24 = .ok (.isub, 1) := by decide +kernel
theorem dX1_rejoin_25 : decode cX1_rejoin 25 = .ok (.putfield 38, 3) := by decide +kernel
theorem dX1_rejoin_28 : decode cX1_rejoin 28 = .ok (.aload_n 0, 1) := by decide +kernel
theorem dX1_rejoin_29 : decode cX1_rejoin 29 = .ok (.getfield 11, 3) := by decide +kernel
theorem dX1_rejoin_32 : decode cX1_rejoin 32 = .ok (.iload_n 1, 1) := by decide +kernel
theorem dX1_rejoin_33 : decode cX1_rejoin 33 = .ok (.aaload, 1) := by decide +kernel
theorem dX1_rejoin_34 : decode cX1_rejoin 34 = .ok (.iload_n 2, 1) := by decide +kernel
theorem dX1_rejoin_35 : decode cX1_rejoin 35 = .ok (.aload_n 0, 1) := by decide +kernel
theorem dX1_rejoin_36 : decode cX1_rejoin 36 = .ok (.getfield 11, 3) := by decide +kernel
theorem dX1_rejoin_39 : decode cX1_rejoin 39 = .ok (.aload_n 0, 1) := by decide +kernel
theorem dX1_rejoin_40 : decode cX1_rejoin 40 = .ok (.getfield 38, 3) := by decide +kernel
theorem dX1_rejoin_43 : decode cX1_rejoin 43 = .ok (.aaload, 1) := by decide +kernel
theorem dX1_rejoin_44 : decode cX1_rejoin 44 = .ok (.iload_n 2, 1) := by decide +kernel
theorem dX1_rejoin_45 : decode cX1_rejoin 45 = .ok (.invokevirtual 67, 3) := by decide +kernel
theorem dX1_rejoin_48 : decode cX1_rejoin 48 = .ok (.invokevirtual 86, 3) := by decide +kernel
theorem dX1_rejoin_51 : decode cX1_rejoin 51 = .ok (.return_, 1) := by decide +kernel
theorem dX1_put_0 : decode cX1_put 0 = .ok (.aload_n 0, 1) := by decide +kernel
theorem dX1_put_1 : decode cX1_put 1 = .ok (.iload_n 1, 1) := by decide +kernel
theorem dX1_put_2 : decode cX1_put 2 = .ok (.invokevirtual 54, 3) := by decide +kernel
theorem dX1_put_5 : decode cX1_put 5 = .ok (.ifCond .eq 30, 3) := by decide +kernel
theorem dX1_put_8 : decode cX1_put 8 = .ok (.iload_n 2, 1) := by decide +kernel
theorem dX1_put_9 : decode cX1_put 9 = .ok (.ifCond .lt 26, 3) := by decide +kernel
theorem dX1_put_12 : decode cX1_put 12 = .ok (.iload_n 2, 1) := by decide +kernel
theorem dX1_put_13 : decode cX1_put 13 = .ok (.bipush 6, 2) := by decide +kernel
theorem dX1_put_15 : decode cX1_put 15 = .ok (.if_icmp .ge 20, 3) := by decide +kernel
theorem dX1_put_18 : decode cX1_put 18 = .ok (.aload_n 0, 1) := by decide +kernel
theorem dX1_put_19 : decode cX1_put 19 = .ok (.getfield 11, 3) := by decide +kernel
theorem dX1_put_22 : decode cX1_put 22 = .ok (.iload_n 1, 1) := by decide +kernel
theorem dX1_put_23 : decode cX1_put 23 = .ok (.aaload, 1) := by decide +kernel
theorem dX1_put_24 : decode cX1_put 24 = .ok (.iload_n 2, 1) := by decide +kernel
theorem dX1_put_25 : decode cX1_put 25 = .ok (.putfield 58, 3) := by decide +kernel
theorem dX1_put_28 : decode cX1_put 28 = .ok (.aload_n 0, 1) := by decide +kernel
theorem dX1_put_29 : decode cX1_put 29 = .ok (.getfield 18, 3) := by decide +kernel
theorem dX1_put_32 : decode cX1_put 32 = .ok (.iload_n 2, 1) := by decide +kernel
theorem dX1_put_33 : decode cX1_put 33 = .ok (.iload_n 1, 1) := by decide +kernel
theorem dX1_put_34 : decode cX1_put 34 = .ok (.iastore, 1) := by decide +kernel
theorem dX1_put_35 : decode cX1_put 35 = .ok (.return_, 1) := by decide +kernel
theorem dX1_lift_0 : decode cX1_lift 0 = .ok (.aload_n 0, 1) := by decide +kernel
theorem dX1_lift_1 : decode cX1_lift 1 = .ok (.iload_n 1, 1) := by decide +kernel
theorem dX1_lift_2 : decode cX1_lift 2 = .ok (.invokevirtual 54, 3) := by decide +kernel
theorem dX1_lift_5 : decode cX1_lift 5 = .ok (.ifCond .eq 30, 3) := by decide +kernel
theorem dX1_lift_8 : decode cX1_lift 8 = .ok (.iload_n 2, 1) := by decide +kernel
theorem dX1_lift_9 : decode cX1_lift 9 = .ok (.ifCond .lt 26, 3) := by decide +kernel
theorem dX1_lift_12 : decode cX1_lift 12 = .ok (.iload_n 2, 1) := by decide +kernel
theorem dX1_lift_13 : decode cX1_lift 13 = .ok (.bipush 6, 2) := by decide +kernel
theorem dX1_lift_15 : decode cX1_lift 15 = .ok (.if_icmp .ge 20, 3) := by decide +kernel
theorem dX1_lift_18 : decode cX1_lift 18 = .ok (.aload_n 0, 1) := by decide +kernel
theorem dX1_lift_19 : decode cX1_lift 19 = .ok (.getfield 11, 3) := by decide +kernel
theorem dX1_lift_22 : decode cX1_lift 22 = .ok (.iload_n 1, 1) := by decide +kernel
theorem dX1_lift_23 : decode cX1_lift 23 = .ok (.aaload, 1) := by decide +kernel
theorem dX1_lift_24 : decode cX1_lift 24 = .ok (.iconst (-1), 1) := by decide +kernel
theorem dX1_lift_25 : decode cX1_lift 25 = .ok (.putfield 58, 3) := by decide +kernel
theorem dX1_lift_28 : decode cX1_lift 28 = .ok (.aload_n 0, 1) := by decide +kernel
theorem dX1_lift_29 : decode cX1_lift 29 = .ok (.getfield 18, 3) := by decide +kernel
theorem dX1_lift_32 : decode cX1_lift 32 = .ok (.iload_n 2, 1) := by decide +kernel
theorem dX1_lift_33 : decode cX1_lift 33 = .ok (.iconst (-1), 1) := by decide +kernel
theorem dX1_lift_34 : decode cX1_lift 34 = .ok (.iastore, 1) := by decide +kernel
theorem dX1_lift_35 : decode cX1_lift 35 = .ok (.return_, 1) := by decide +kernel
theorem dX1_trade_0 : decode cX1_trade 0 = .ok (.iload_n 1, 1) := by decide +kernel
theorem dX1_trade_1 : decode cX1_trade 1 = .ok (.ifCond .lt 19, 3) := by decide +kernel
theorem dX1_trade_4 : decode cX1_trade 4 = .ok (.iload_n 1, 1) := by decide +kernel
theorem dX1_trade_5 : decode cX1_trade 5 = .ok (.bipush 6, 2) := by decide +kernel
theorem dX1_trade_7 : decode cX1_trade 7 = .ok (.if_icmp .ge 13, 3) := by decide +kernel
theorem dX1_trade_10 : decode cX1_trade 10 = .ok (.iload_n 2, 1) := by decide +kernel
theorem dX1_trade_11 : decode cX1_trade 11 = .ok (.ifCond .lt 9, 3) := by decide +kernel
theorem dX1_trade_14 : decode cX1_trade 14 = .ok (.iload_n 2, 1) := by decide +kernel
theorem dX1_trade_15 : decode cX1_trade 15 = .ok (.bipush 6, 2) := by decide +kernel
theorem dX1_trade_17 : decode cX1_trade 17 = .ok (.if_icmp .lt 4, 3) := by decide +kernel
theorem dX1_trade_20 : decode cX1_trade 20 = .ok (.return_, 1) := by decide +kernel
theorem dX1_trade_21 : decode cX1_trade 21 = .ok (.aload_n 0, 1) := by decide +kernel
theorem dX1_trade_22 : decode cX1_trade 22 = .ok (.getfield 18, 3) := by decide +kernel
theorem dX1_trade_25 : decode cX1_trade 25 = .ok (.iload_n 1, 1) := by decide +kernel
theorem dX1_trade_26 : decode cX1_trade 26 = .ok (.iaload, 1) := by decide +kernel
theorem dX1_trade_27 : decode cX1_trade 27 = .ok (.istore_n 3, 1) := by decide +kernel
theorem dX1_trade_28 : decode cX1_trade 28 = .ok (.aload_n 0, 1) := by decide +kernel
theorem dX1_trade_29 : decode cX1_trade 29 = .ok (.aload_n 0, 1) := by decide +kernel
theorem dX1_trade_30 : decode cX1_trade 30 = .ok (.getfield 18, 3) := by decide +kernel
theorem dX1_trade_33 : decode cX1_trade 33 = .ok (.iload_n 2, 1) := by decide +kernel
theorem dX1_trade_34 : decode cX1_trade 34 = .ok (.iaload, 1) := by decide +kernel
theorem dX1_trade_35 : decode cX1_trade 35 = .ok (.iload_n 1, 1) := by decide +kernel
theorem dX1_trade_36 : decode cX1_trade 36 = .ok (.invokevirtual 89, 3) := by decide +kernel
theorem dX1_trade_39 : decode cX1_trade 39 = .ok (.aload_n 0, 1) := by decide +kernel
theorem dX1_trade_40 : decode cX1_trade 40 = .ok (.iload_n 3, 1) := by decide +kernel
theorem dX1_trade_41 : decode cX1_trade 41 = .ok (.iload_n 2, 1) := by decide +kernel
theorem dX1_trade_42 : decode cX1_trade 42 = .ok (.invokevirtual 89, 3) := by decide +kernel
theorem dX1_trade_45 : decode cX1_trade 45 = .ok (.return_, 1) := by decide +kernel
theorem dX1_platesFilled_0 : decode cX1_platesFilled 0 = .ok (.iconst 0, 1) := by decide +kernel
theorem dX1_platesFilled_1 : decode cX1_platesFilled 1 = .ok (.istore_n 1, 1) := by decide +kernel
theorem dX1_platesFilled_2 : decode cX1_platesFilled 2 = .ok (.iconst 0, 1) := by decide +kernel
theorem dX1_platesFilled_3 : decode cX1_platesFilled 3 = .ok (.istore_n 2, 1) := by decide +kernel
theorem dX1_platesFilled_4 : decode cX1_platesFilled 4 = .ok (.iload_n 2, 1) := by decide +kernel
theorem dX1_platesFilled_5 : decode cX1_platesFilled 5 = .ok (.bipush 6, 2) := by decide +kernel
theorem dX1_platesFilled_7 : decode cX1_platesFilled 7 = .ok (.if_icmp .ge 22, 3) := by decide +kernel
theorem dX1_platesFilled_10 : decode cX1_platesFilled 10 = .ok (.aload_n 0, 1) := by decide +kernel
theorem dX1_platesFilled_11 : decode cX1_platesFilled 11 = .ok (.getfield 18, 3) := by decide +kernel
theorem dX1_platesFilled_14 : decode cX1_platesFilled 14 = .ok (.iload_n 2, 1) := by decide +kernel
theorem dX1_platesFilled_15 : decode cX1_platesFilled 15 = .ok (.iaload, 1) := by decide +kernel
theorem dX1_platesFilled_16 : decode cX1_platesFilled 16 = .ok (.iconst (-1), 1) := by decide +kernel
theorem dX1_platesFilled_17 : decode cX1_platesFilled 17 = .ok (.if_icmp .eq 6, 3) := by decide +kernel
theorem dX1_platesFilled_20 : decode cX1_platesFilled 20 = .ok (.iinc 1 1, 3) := by decide +kernel
theorem dX1_platesFilled_23 : decode cX1_platesFilled 23 = .ok (.iinc 2 1, 3) := by decide +kernel
theorem dX1_platesFilled_26 : decode cX1_platesFilled 26 = .ok (.goto (-22), 3) := by decide +kernel
theorem dX1_platesFilled_29 : decode cX1_platesFilled 29 = .ok (.iload_n 1, 1) := by decide +kernel
theorem dX1_platesFilled_30 : decode cX1_platesFilled 30 = .ok (.ireturn, 1) := by decide +kernel
theorem dX1_brokenSet_0 : decode cX1_brokenSet 0 = .ok (.iconst 0, 1) := by decide +kernel
theorem dX1_brokenSet_1 : decode cX1_brokenSet 1 = .ok (.istore_n 1, 1) := by decide +kernel
theorem dX1_brokenSet_2 : decode cX1_brokenSet 2 = .ok (.iconst 0, 1) := by decide +kernel
theorem dX1_brokenSet_3 : decode cX1_brokenSet 3 = .ok (.istore_n 2, 1) := by decide +kernel
theorem dX1_brokenSet_4 : decode cX1_brokenSet 4 = .ok (.iload_n 2, 1) := by decide +kernel
theorem dX1_brokenSet_5 : decode cX1_brokenSet 5 = .ok (.aload_n 0, 1) := by decide +kernel
theorem dX1_brokenSet_6 : decode cX1_brokenSet 6 = .ok (.getfield 38, 3) := by decide +kernel
theorem dX1_brokenSet_9 : decode cX1_brokenSet 9 = .ok (.if_icmp .ge 27, 3) := by decide +kernel
theorem dX1_brokenSet_12 : decode cX1_brokenSet 12 = .ok (.aload_n 0, 1) := by decide +kernel
theorem dX1_brokenSet_13 : decode cX1_brokenSet 13 = .ok (.getfield 11, 3) := by decide +kernel
theorem dX1_brokenSet_16 : decode cX1_brokenSet 16 = .ok (.iload_n 2, 1) := by decide +kernel
theorem dX1_brokenSet_17 : decode cX1_brokenSet 17 = .ok (.aaload, 1) := by decide +kernel
theorem dX1_brokenSet_18 : decode cX1_brokenSet 18 = .ok (.getfield 82, 3) := by decide +kernel
theorem dX1_brokenSet_21 : decode cX1_brokenSet 21 = .ok (.ifCond .eq 9, 3) := by decide +kernel
theorem dX1_brokenSet_24 : decode cX1_brokenSet 24 = .ok (.iload_n 1, 1) := by decide +kernel
theorem dX1_brokenSet_25 : decode cX1_brokenSet 25 = .ok (.iconst 1, 1) := by decide +kernel
theorem dX1_brokenSet_26 : decode cX1_brokenSet 26 = .ok (.iload_n 2, 1) := by decide +kernel
theorem dX1_brokenSet_27 : decode cX1_brokenSet 27 = .ok (.ishl, 1) := by decide +kernel
theorem dX1_brokenSet_28 : decode cX1_brokenSet 28 = .ok (.ior, 1) := by decide +kernel
theorem dX1_brokenSet_29 : decode cX1_brokenSet 29 = .ok (.istore_n 1, 1) := by decide +kernel
theorem dX1_brokenSet_30 : decode cX1_brokenSet 30 = .ok (.iinc 2 1, 3) := by decide +kernel
theorem dX1_brokenSet_33 : decode cX1_brokenSet 33 = .ok (.goto (-29), 3) := by decide +kernel
theorem dX1_brokenSet_36 : decode cX1_brokenSet 36 = .ok (.iload_n 1, 1) := by decide +kernel
theorem dX1_brokenSet_37 : decode cX1_brokenSet 37 = .ok (.ireturn, 1) := by decide +kernel
theorem dX2_init_0 : decode cX2_init 0 = .ok (.aload_n 0, 1) := by decide +kernel
theorem dX2_init_1 : decode cX2_init 1 = .ok (.invokespecial 1, 3) := by decide +kernel
theorem dX2_init_4 : decode cX2_init 4 = .ok (.aload_n 0, 1) := by decide +kernel
theorem dX2_init_5 : decode cX2_init 5 = .ok (.sipush 272, 3) := by decide +kernel
theorem dX2_init_8 : decode cX2_init 8 = .ok (.newarray .int, 2) := by decide +kernel
theorem dX2_init_10 : decode cX2_init 10 = .ok (.putfield 9, 3) := by decide +kernel
theorem dX2_init_13 : decode cX2_init 13 = .ok (.aload_n 0, 1) := by decide +kernel
theorem dX2_init_14 : decode cX2_init 14 = .ok (.bipush 32, 2) := by decide +kernel
theorem dX2_init_16 : decode cX2_init 16 = .ok (.newarray .int, 2) := by decide +kernel
theorem dX2_init_18 : decode cX2_init 18 = .ok (.putfield 13, 3) := by decide +kernel
theorem dX2_init_21 : decode cX2_init 21 = .ok (.aload_n 0, 1) := by decide +kernel
theorem dX2_init_22 : decode cX2_init 22 = .ok (.iload_n 1, 1) := by decide +kernel
theorem dX2_init_23 : decode cX2_init 23 = .ok (.invokevirtual 16, 3) := by decide +kernel
theorem dX2_init_26 : decode cX2_init 26 = .ok (.return_, 1) := by decide +kernel
theorem dX2_clear_0 : decode cX2_clear 0 = .ok (.aload_n 0, 1) := by decide +kernel
theorem dX2_clear_1 : decode cX2_clear 1 = .ok (.iconst 0, 1) := by decide +kernel
theorem dX2_clear_2 : decode cX2_clear 2 = .ok (.putfield 20, 3) := by decide +kernel
theorem dX2_clear_5 : decode cX2_clear 5 = .ok (.aload_n 0, 1) := by decide +kernel
theorem dX2_clear_6 : decode cX2_clear 6 = .ok (.iconst 0, 1) := by decide +kernel
theorem dX2_clear_7 : decode cX2_clear 7 = .ok (.putfield 24, 3) := by decide +kernel
theorem dX2_clear_10 : decode cX2_clear 10 = .ok (.aload_n 0, 1) := by decide +kernel
theorem dX2_clear_11 : decode cX2_clear 11 = .ok (.iconst 0, 1) := by decide +kernel
theorem dX2_clear_12 : decode cX2_clear 12 = .ok (.putfield 27, 3) := by decide +kernel
theorem dX2_clear_15 : decode cX2_clear 15 = .ok (.aload_n 0, 1) := by decide +kernel
theorem dX2_clear_16 : decode cX2_clear 16 = .ok (.iload_n 1, 1) := by decide +kernel
theorem dX2_clear_17 : decode cX2_clear 17 = .ok (.iconst 0, 1) := by decide +kernel
theorem dX2_clear_18 : decode cX2_clear 18 = .ok (.invokevirtual 31, 3) := by decide +kernel
theorem dX2_clear_21 : decode cX2_clear 21 = .ok (.return_, 1) := by decide +kernel
theorem dX2_begin_0 : decode cX2_begin 0 = .ok (.aload_n 0, 1) := by decide +kernel
theorem dX2_begin_1 : decode cX2_begin 1 = .ok (.iconst 0, 1) := by decide +kernel
theorem dX2_begin_2 : decode cX2_begin 2 = .ok (.putfield 20, 3) := by decide +kernel
theorem dX2_begin_5 : decode cX2_begin 5 = .ok (.aload_n 0, 1) := by decide +kernel
theorem dX2_begin_6 : decode cX2_begin 6 = .ok (.iconst 1, 1) := by decide +kernel
theorem dX2_begin_7 : decode cX2_begin 7 = .ok (.putfield 27, 3) := by decide +kernel
theorem dX2_begin_10 : decode cX2_begin 10 = .ok (.return_, 1) := by decide +kernel
theorem dX2_takeFrom_0 : decode cX2_takeFrom 0 = .ok (.iconst 0, 1) := by decide +kernel
theorem dX2_takeFrom_1 : decode cX2_takeFrom 1 = .ok (.istore_n 2, 1) := by decide +kernel
theorem dX2_takeFrom_2 : decode cX2_takeFrom 2 = .ok (.iload_n 2, 1) := by decide +kernel
theorem dX2_takeFrom_3 : decode cX2_takeFrom 3 = .ok (.aload_n 1, 1) := by decide +kernel
theorem dX2_takeFrom_4 : decode cX2_takeFrom 4 = .ok (.getfield 20, 3) := by decide +kernel
theorem dX2_takeFrom_7 : decode cX2_takeFrom 7 = .ok (.if_icmp .ge 21, 3) := by decide +kernel
theorem dX2_takeFrom_10 : decode cX2_takeFrom 10 = .ok (.aload_n 0, 1) := by decide +kernel
theorem dX2_takeFrom_11 : decode cX2_takeFrom 11 = .ok (.getfield 9, 3) := by decide +kernel
theorem dX2_takeFrom_14 : decode cX2_takeFrom 14 = .ok (.iload_n 2, 1) := by decide +kernel
theorem dX2_takeFrom_15 : decode cX2_takeFrom 15 = .ok (.aload_n 1, 1) := by decide +kernel
theorem dX2_takeFrom_16 : decode cX2_takeFrom 16 = .ok (.getfield 9, 3) := by decide +kernel
theorem dX2_takeFrom_19 : decode cX2_takeFrom 19 = .ok (.iload_n 2, 1) := by decide +kernel
theorem dX2_takeFrom_20 : decode cX2_takeFrom 20 = .ok (.iaload, 1) := by decide +kernel
theorem dX2_takeFrom_21 : decode cX2_takeFrom 21 = .ok (.iastore, 1) := by decide +kernel
theorem dX2_takeFrom_22 : decode cX2_takeFrom 22 = .ok (.iinc 2 1, 3) := by decide +kernel
theorem dX2_takeFrom_25 : decode cX2_takeFrom 25 = .ok (.goto (-23), 3) := by decide +kernel
theorem dX2_takeFrom_28 : decode cX2_takeFrom 28 = .ok (.aload_n 0, 1) := by decide +kernel
theorem dX2_takeFrom_29 : decode cX2_takeFrom 29 = .ok (.aload_n 1, 1) := by decide +kernel
theorem dX2_takeFrom_30 : decode cX2_takeFrom 30 = .ok (.getfield 20, 3) := by decide +kernel
theorem dX2_takeFrom_33 : decode cX2_takeFrom 33 = .ok (.putfield 20, 3) := by decide +kernel
theorem dX2_takeFrom_36 : decode cX2_takeFrom 36 = .ok (.aload_n 0, 1) := by decide +kernel
theorem dX2_takeFrom_37 : decode cX2_takeFrom 37 = .ok (.aload_n 1, 1) := by decide +kernel
theorem dX2_takeFrom_38 : decode cX2_takeFrom 38 = .ok (.getfield 24, 3) := by decide +kernel
theorem dX2_takeFrom_41 : decode cX2_takeFrom 41 = .ok (.putfield 24, 3) := by decide +kernel
theorem dX2_takeFrom_44 : decode cX2_takeFrom 44 = .ok (.aload_n 0, 1) := by decide +kernel
theorem dX2_takeFrom_45 : decode cX2_takeFrom 45 = .ok (.aload_n 1, 1) := by decide +kernel
theorem dX2_takeFrom_46 : decode cX2_takeFrom 46 = .ok (.getfield 27, 3) := by decide +kernel
theorem dX2_takeFrom_49 : decode cX2_takeFrom 49 = .ok (.putfield 27, 3) := by decide +kernel
theorem dX2_takeFrom_52 : decode cX2_takeFrom 52 = .ok (.return_, 1) := by decide +kernel
theorem dX2_countUnit_0 : decode cX2_countUnit 0 = .ok (.aload_n 0, 1) := by decide +kernel
theorem dX2_countUnit_1 : decode cX2_countUnit 1 = .ok (.getfield 24, 3) := by decide +kernel
theorem dX2_countUnit_4 : decode cX2_countUnit 4 = .ok (.bipush 30, 2) := by decide +kernel
theorem dX2_countUnit_6 : decode cX2_countUnit 6 = .ok (.if_icmp .lt 5, 3) := by decide +kernel
theorem dX2_countUnit_9 : decode cX2_countUnit 9 = .ok (.iconst 0, 1) := by decide +kernel
theorem dX2_countUnit_10 : decode cX2_countUnit 10 = .ok (.ireturn, 1) := by decide +kernel
theorem dX2_countUnit_11 : decode cX2_countUnit 11 = .ok (.aload_n 0, 1) := by decide +kernel
theorem dX2_countUnit_12 : decode cX2_countUnit 12 = .ok (.dup, 1) := by decide +kernel
theorem dX2_countUnit_13 : decode cX2_countUnit 13 = .ok (.getfield 24, 3) := by decide +kernel
theorem dX2_countUnit_16 : decode cX2_countUnit 16 = .ok (.iconst 1, 1) := by decide +kernel
theorem dX2_countUnit_17 : decode cX2_countUnit 17 = .ok (.iadd, 1) := by decide +kernel
theorem dX2_countUnit_18 : decode cX2_countUnit 18 = .ok (.putfield 24, 3) := by decide +kernel
theorem dX2_countUnit_21 : decode cX2_countUnit 21 = .ok (.iconst 1, 1) := by decide +kernel
theorem dX2_countUnit_22 : decode cX2_countUnit 22 = .ok (.ireturn, 1) := by decide +kernel
theorem dX2_add_0 : decode cX2_add 0 = .ok (.aload_n 0, 1) := by decide +kernel
theorem dX2_add_1 : decode cX2_add 1 = .ok (.getfield 20, 3) := by decide +kernel
theorem dX2_add_4 : decode cX2_add 4 = .ok (.aload_n 0, 1) := by decide +kernel
theorem dX2_add_5 : decode cX2_add 5 = .ok (.getfield 9, 3) := by decide +kernel
theorem dX2_add_8 : decode cX2_add 8 = .ok (.arraylength, 1) := by decide +kernel
theorem dX2_add_9 : decode cX2_add 9 = .ok (.if_icmp .ge 27, 3) := by decide +kernel
theorem dX2_add_12 : decode cX2_add 12 = .ok (.aload_n 0, 1) := by decide +kernel
theorem dX2_add_13 : decode cX2_add 13 = .ok (.getfield 9, 3) := by decide +kernel
theorem dX2_add_16 : decode cX2_add 16 = .ok (.aload_n 0, 1) := by decide +kernel
theorem dX2_add_17 : decode cX2_add 17 = .ok (.getfield 20, 3) := by decide +kernel
theorem dX2_add_20 : decode cX2_add 20 = .ok (.iload_n 2, 1) := by decide +kernel
theorem dX2_add_21 : decode cX2_add 21 = .ok (.iconst 5, 1) := by decide +kernel
theorem dX2_add_22 : decode cX2_add 22 = .ok (.ishl, 1) := by decide +kernel
theorem dX2_add_23 : decode cX2_add 23 = .ok (.iload_n 1, 1) := by decide +kernel
theorem dX2_add_24 : decode cX2_add 24 = .ok (.ior, 1) := by decide +kernel
theorem dX2_add_25 : decode cX2_add 25 = .ok (.iastore, 1) := by decide +kernel
theorem dX2_add_26 : decode cX2_add 26 = .ok (.aload_n 0, 1) := by decide +kernel
theorem dX2_add_27 : decode cX2_add 27 = .ok (.dup, 1) := by decide +kernel
theorem dX2_add_28 : decode cX2_add 28 = .ok (.getfield 20, 3) := by decide +kernel
theorem dX2_add_31 : decode cX2_add 31 = .ok (.iconst 1, 1) := by decide +kernel
theorem dX2_add_32 : decode cX2_add 32 = .ok (.iadd, 1) := by decide +kernel
theorem dX2_add_33 : decode cX2_add 33 = .ok (.putfield 20, 3) := by decide +kernel
theorem dX2_add_36 : decode cX2_add 36 = .ok (.return_, 1) := by decide +kernel
theorem dX2_outcome_0 : decode cX2_outcome 0 = .ok (.iconst 0, 1) := by decide +kernel
theorem dX2_outcome_1 : decode cX2_outcome 1 = .ok (.istore_n 2, 1) := by decide +kernel
theorem dX2_outcome_2 : decode cX2_outcome 2 = .ok (.iconst 0, 1) := by decide +kernel
theorem dX2_outcome_3 : decode cX2_outcome 3 = .ok (.istore_n 3, 1) := by decide +kernel
theorem dX2_outcome_4 : decode cX2_outcome 4 = .ok (.iload_n 3, 1) := by decide +kernel
theorem dX2_outcome_5 : decode cX2_outcome 5 = .ok (.aload_n 0, 1) := by decide +kernel
theorem dX2_outcome_6 : decode cX2_outcome 6 = .ok (.getfield 20, 3) := by decide +kernel
theorem dX2_outcome_9 : decode cX2_outcome 9 = .ok (.if_icmp .ge 151, 3) := by decide +kernel
theorem dX2_outcome_12 : decode cX2_outcome 12 = .ok (.aload_n 0, 1) := by decide +kernel
theorem dX2_outcome_13 : decode cX2_outcome 13 = .ok (.getfield 9, 3) := by decide +kernel
theorem dX2_outcome_16 : decode cX2_outcome 16 = .ok (.iload_n 3, 1) := by decide +kernel
theorem dX2_outcome_17 : decode cX2_outcome 17 = .ok (.iaload, 1) := by decide +kernel
theorem dX2_outcome_18 : decode cX2_outcome 18 = .ok (.bipush 31, 2) := by decide +kernel
theorem dX2_outcome_20 : decode cX2_outcome 20 = .ok (.iand, 1) := by decide +kernel
theorem dX2_outcome_21 : decode cX2_outcome 21 = .ok (.istore 4, 2) := by decide +kernel
theorem dX2_outcome_23 : decode cX2_outcome 23 = .ok (.iload 4, 2) := by decide +kernel
theorem dX2_outcome_25 : decode cX2_outcome 25 = .ok (.bipush 7, 2) := by decide +kernel
theorem dX2_outcome_27 : decode cX2_outcome 27 = .ok (.if_icmp .ge 51, 3) := by decide +kernel
theorem dX2_outcome_30 : decode cX2_outcome 30 = .ok (.iload_n 2, 1) := by decide +kernel
theorem dX2_outcome_31 : decode cX2_outcome 31 = .ok (.aload_n 0, 1) := by decide +kernel
theorem dX2_outcome_32 : decode cX2_outcome 32 = .ok (.getfield 13, 3) := by decide +kernel
theorem dX2_outcome_35 : decode cX2_outcome 35 = .ok (.arraylength, 1) := by decide +kernel
theorem dX2_outcome_36 : decode cX2_outcome 36 = .ok (.if_icmp .ge 118, 3) := by decide +kernel
theorem dX2_outcome_39 : decode cX2_outcome 39 = .ok (.iload 4, 2) := by decide +kernel
theorem dX2_outcome_41 : decode cX2_outcome 41 = .ok (.aload_n 1, 1) := by decide +kernel
theorem dX2_outcome_42 : decode cX2_outcome 42 = .ok (.arraylength, 1) := by decide +kernel
theorem dX2_outcome_43 : decode cX2_outcome 43 = .ok (.if_icmp .ge 111, 3) := by decide +kernel
theorem dX2_outcome_46 : decode cX2_outcome 46 = .ok (.aload_n 0, 1) := by decide +kernel
theorem dX2_outcome_47 : decode cX2_outcome 47 = .ok (.getfield 13, 3) := by decide +kernel
theorem dX2_outcome_50 : decode cX2_outcome 50 = .ok (.iload_n 2, 1) := by decide +kernel
theorem dX2_outcome_51 : decode cX2_outcome 51 = .ok (.iload 4, 2) := by decide +kernel
theorem dX2_outcome_53 : decode cX2_outcome 53 = .ok (.ifCond .ne 14, 3) := by decide +kernel
theorem dX2_outcome_56 : decode cX2_outcome 56 = .ok (.aload_n 0, 1) := by decide +kernel
theorem dX2_outcome_57 : decode cX2_outcome 57 = .ok (.getfield 9, 3) := by decide +kernel
theorem dX2_outcome_60 : decode cX2_outcome 60 = .ok (.iload_n 3, 1) := by decide +kernel
theorem dX2_outcome_61 : decode cX2_outcome 61 = .ok (.iaload, 1) := by decide +kernel
theorem dX2_outcome_62 : decode cX2_outcome 62 = .ok (.iconst 5, 1) := by decide +kernel
theorem dX2_outcome_63 : decode cX2_outcome 63 = .ok (.ishr, 1) := by decide +kernel
theorem dX2_outcome_64 : decode cX2_outcome 64 = .ok (.goto 7, 3) := by decide +kernel
theorem dX2_outcome_67 : decode cX2_outcome 67 = .ok (.aload_n 1, 1) := by decide +kernel
theorem dX2_outcome_68 : decode cX2_outcome 68 = .ok (.iload 4, 2) := by decide +kernel
theorem dX2_outcome_70 : decode cX2_outcome 70 = .ok (.iaload, 1) := by decide +kernel
theorem dX2_outcome_71 : decode cX2_outcome 71 = .ok (.iastore, 1) := by decide +kernel
theorem dX2_outcome_72 : decode cX2_outcome 72 = .ok (.iinc 2 1, 3) := by decide +kernel
theorem dX2_outcome_75 : decode cX2_outcome 75 = .ok (.goto 79, 3) := by decide +kernel
theorem dX2_outcome_78 : decode cX2_outcome 78 = .ok (.iload 4, 2) := by decide +kernel
theorem dX2_outcome_80 : decode cX2_outcome 80 = .ok (.bipush 7, 2) := by decide +kernel
theorem dX2_outcome_82 : decode cX2_outcome 82 = .ok (.if_icmp .ne 37, 3) := by decide +kernel
theorem dX2_outcome_85 : decode cX2_outcome 85 = .ok (.iload_n 2, 1) := by decide +kernel
theorem dX2_outcome_86 : decode cX2_outcome 86 = .ok (.ifCond .le 68, 3) := by decide +kernel
theorem dX2_outcome_89 : decode cX2_outcome 89 = .ok (.aload_n 0, 1) := by decide +kernel
theorem dX2_outcome_90 : decode cX2_outcome 90 = .ok (.getfield 13, 3) := by decide +kernel
theorem dX2_outcome_93 : decode cX2_outcome 93 = .ok (.iload_n 2, 1) := by decide +kernel
theorem dX2_outcome_94 : decode cX2_outcome 94 = .ok (.iconst 1, 1) := by decide +kernel
theorem dX2_outcome_95 : decode cX2_outcome 95 = .ok (.isub, 1) := by decide +kernel
theorem dX2_outcome_96 : decode cX2_outcome 96 = .ok (.aload_n 0, 1) := by decide +kernel
theorem dX2_outcome_97 : decode cX2_outcome 97 = .ok (.getfield 13, 3) := by decide +kernel
theorem dX2_outcome_100 : decode cX2_outcome 100 = .ok (.iload_n 2, 1) := by decide +kernel
theorem dX2_outcome_101 : decode cX2_outcome 101 = .ok (.iconst 1, 1) := by decide +kernel
theorem dX2_outcome_102 : decode cX2_outcome 102 = .ok (.isub, 1) := by decide +kernel
theorem dX2_outcome_103 : decode cX2_outcome 103 = .ok (.iaload, 1) := by decide +kernel
theorem dX2_outcome_104 : decode cX2_outcome 104 = .ok (.ifCond .ne 7, 3) := by decide +kernel
theorem dX2_outcome_107 : decode cX2_outcome 107 = .ok (.iconst 1, 1) := by decide +kernel
theorem dX2_outcome_108 : decode cX2_outcome 108 = .ok (.goto 4, 3) := by decide +kernel
theorem dX2_outcome_111 : decode cX2_outcome 111 = .ok (.iconst 0, 1) := by decide +kernel
theorem dX2_outcome_112 : decode cX2_outcome 112 = .ok (.invokestatic 35, 3) := by decide +kernel
theorem dX2_outcome_115 : decode cX2_outcome 115 = .ok (.iastore, 1) := by decide +kernel
theorem dX2_outcome_116 : decode cX2_outcome 116 = .ok (.goto 38, 3) := by decide +kernel
theorem dX2_outcome_119 : decode cX2_outcome 119 = .ok (.iload_n 2, 1) := by decide +kernel
theorem dX2_outcome_120 : decode cX2_outcome 120 = .ok (.iconst 1, 1) := by decide +kernel
theorem dX2_outcome_121 : decode cX2_outcome 121 = .ok (.if_icmp .le 33, 3) := by decide +kernel
theorem dX2_outcome_124 : decode cX2_outcome 124 = .ok (.iinc 2 (-1), 3) := by decide +kernel
theorem dX2_outcome_127 : decode cX2_outcome 127 = .ok (.aload_n 0, 1) := by decide +kernel
theorem dX2_outcome_128 : decode cX2_outcome 128 = .ok (.getfield 13, 3) := by decide +kernel
theorem dX2_outcome_131 : decode cX2_outcome 131 = .ok (.iload_n 2, 1) := by decide +kernel
theorem dX2_outcome_132 : decode cX2_outcome 132 = .ok (.iconst 1, 1) := by decide +kernel
theorem dX2_outcome_133 : decode cX2_outcome 133 = .ok (.isub, 1) := by decide +kernel
theorem dX2_outcome_134 : decode cX2_outcome 134 = .ok (.iload 4, 2) := by decide +kernel
theorem dX2_outcome_136 : decode cX2_outcome 136 = .ok (.aload_n 0, 1) := by decide +kernel
theorem dX2_outcome_137 : decode cX2_outcome 137 = .ok (.getfield 13, 3) := by decide +kernel
theorem dX2_outcome_140 : decode cX2_outcome 140 = .ok (.iload_n 2, 1) := by decide +kernel
theorem dX2_outcome_141 : decode cX2_outcome 141 = .ok (.iconst 1, 1) := by decide +kernel
theorem dX2_outcome_142 : decode cX2_outcome 142 = .ok (.isub, 1) := by decide +kernel
theorem dX2_outcome_143 : decode cX2_outcome 143 = .ok (.iaload, 1) := by decide +kernel
theorem dX2_outcome_144 : decode cX2_outcome 144 = .ok (.aload_n 0, 1) := by decide +kernel
theorem dX2_outcome_145 : decode cX2_outcome 145 = .ok (.getfield 13, 3) := by decide +kernel
theorem dX2_outcome_148 : decode cX2_outcome 148 = .ok (.iload_n 2, 1) := by decide +kernel
theorem dX2_outcome_149 : decode cX2_outcome 149 = .ok (.iaload, 1) := by decide +kernel
theorem dX2_outcome_150 : decode cX2_outcome 150 = .ok (.invokestatic 39, 3) := by decide +kernel
theorem dX2_outcome_153 : decode cX2_outcome 153 = .ok (.iastore, 1) := by decide +kernel
theorem dX2_outcome_154 : decode cX2_outcome 154 = .ok (.iinc 3 1, 3) := by decide +kernel
theorem dX2_outcome_157 : decode cX2_outcome 157 = .ok (.goto (-153), 3) := by decide +kernel
theorem dX2_outcome_160 : decode cX2_outcome 160 = .ok (.iload_n 2, 1) := by decide +kernel
theorem dX2_outcome_161 : decode cX2_outcome 161 = .ok (.ifCond .le 12, 3) := by decide +kernel
theorem dX2_outcome_164 : decode cX2_outcome 164 = .ok (.aload_n 0, 1) := by decide +kernel
theorem dX2_outcome_165 : decode cX2_outcome 165 = .ok (.getfield 13, 3) := by decide +kernel
theorem dX2_outcome_168 : decode cX2_outcome 168 = .ok (.iconst 0, 1) := by decide +kernel
theorem dX2_outcome_169 : decode cX2_outcome 169 = .ok (.iaload, 1) := by decide +kernel
theorem dX2_outcome_170 : decode cX2_outcome 170 = .ok (.goto 4, 3) := by decide +kernel
theorem dX2_outcome_173 : decode cX2_outcome 173 = .ok (.iconst 0, 1) := by decide +kernel
theorem dX2_outcome_174 : decode cX2_outcome 174 = .ok (.ireturn, 1) := by decide +kernel
theorem dX2_joined_0 : decode cX2_joined 0 = .ok (.iload_n 0, 1) := by decide +kernel
theorem dX2_joined_1 : decode cX2_joined 1 = .ok (.tableswitch 167 8 17 #[55, 72, 89, 103, 117, 131, 135, 139, 143, 155], 55) := by decide +kernel
theorem dX2_joined_56 : decode cX2_joined 56 = .ok (.iload_n 1, 1) := by decide +kernel
theorem dX2_joined_57 : decode cX2_joined 57 = .ok (.ifCond .ne 7, 3) := by decide +kernel
theorem dX2_joined_60 : decode cX2_joined 60 = .ok (.iload_n 2, 1) := by decide +kernel
theorem dX2_joined_61 : decode cX2_joined 61 = .ok (.ifCond .eq 7, 3) := by decide +kernel
theorem dX2_joined_64 : decode cX2_joined 64 = .ok (.iconst 1, 1) := by decide +kernel
theorem dX2_joined_65 : decode cX2_joined 65 = .ok (.goto 4, 3) := by decide +kernel
theorem dX2_joined_68 : decode cX2_joined 68 = .ok (.iconst 0, 1) := by decide +kernel
theorem dX2_joined_69 : decode cX2_joined 69 = .ok (.invokestatic 35, 3) := by decide +kernel
theorem dX2_joined_72 : decode cX2_joined 72 = .ok (.ireturn, 1) := by decide +kernel
theorem dX2_joined_73 : decode cX2_joined 73 = .ok (.iload_n 1, 1) := by decide +kernel
theorem dX2_joined_74 : decode cX2_joined 74 = .ok (.ifCond .eq 11, 3) := by decide +kernel
theorem dX2_joined_77 : decode cX2_joined 77 = .ok (.iload_n 2, 1) := by decide +kernel
theorem dX2_joined_78 : decode cX2_joined 78 = .ok (.ifCond .eq 7, 3) := by decide +kernel
theorem dX2_joined_81 : decode cX2_joined 81 = .ok (.iconst 1, 1) := by decide +kernel
theorem dX2_joined_82 : decode cX2_joined 82 = .ok (.goto 4, 3) := by decide +kernel
theorem dX2_joined_85 : decode cX2_joined 85 = .ok (.iconst 0, 1) := by decide +kernel
theorem dX2_joined_86 : decode cX2_joined 86 = .ok (.invokestatic 35, 3) := by decide +kernel
theorem dX2_joined_89 : decode cX2_joined 89 = .ok (.ireturn, 1) := by decide +kernel
theorem dX2_joined_90 : decode cX2_joined 90 = .ok (.iload_n 1, 1) := by decide +kernel
theorem dX2_joined_91 : decode cX2_joined 91 = .ok (.iload_n 2, 1) := by decide +kernel
theorem dX2_joined_92 : decode cX2_joined 92 = .ok (.if_icmp .ge 7, 3) := by decide +kernel
theorem dX2_joined_95 : decode cX2_joined 95 = .ok (.iconst 1, 1) := by decide +kernel
theorem dX2_joined_96 : decode cX2_joined 96 = .ok (.goto 4, 3) := by decide +kernel
theorem dX2_joined_99 : decode cX2_joined 99 = .ok (.iconst 0, 1) := by decide +kernel
theorem dX2_joined_100 : decode cX2_joined 100 = .ok (.invokestatic 35, 3) := by decide +kernel
theorem dX2_joined_103 : decode cX2_joined 103 = .ok (.ireturn, 1) := by decide +kernel
theorem dX2_joined_104 : decode cX2_joined 104 = .ok (.iload_n 1, 1) := by decide +kernel
theorem dX2_joined_105 : decode cX2_joined 105 = .ok (.iload_n 2, 1) := by decide +kernel
theorem dX2_joined_106 : decode cX2_joined 106 = .ok (.if_icmp .le 7, 3) := by decide +kernel
theorem dX2_joined_109 : decode cX2_joined 109 = .ok (.iconst 1, 1) := by decide +kernel
theorem dX2_joined_110 : decode cX2_joined 110 = .ok (.goto 4, 3) := by decide +kernel
theorem dX2_joined_113 : decode cX2_joined 113 = .ok (.iconst 0, 1) := by decide +kernel
theorem dX2_joined_114 : decode cX2_joined 114 = .ok (.invokestatic 35, 3) := by decide +kernel
theorem dX2_joined_117 : decode cX2_joined 117 = .ok (.ireturn, 1) := by decide +kernel
theorem dX2_joined_118 : decode cX2_joined 118 = .ok (.iload_n 1, 1) := by decide +kernel
theorem dX2_joined_119 : decode cX2_joined 119 = .ok (.iload_n 2, 1) := by decide +kernel
theorem dX2_joined_120 : decode cX2_joined 120 = .ok (.if_icmp .ne 7, 3) := by decide +kernel
theorem dX2_joined_123 : decode cX2_joined 123 = .ok (.iconst 1, 1) := by decide +kernel
theorem dX2_joined_124 : decode cX2_joined 124 = .ok (.goto 4, 3) := by decide +kernel
theorem dX2_joined_127 : decode cX2_joined 127 = .ok (.iconst 0, 1) := by decide +kernel
theorem dX2_joined_128 : decode cX2_joined 128 = .ok (.invokestatic 35, 3) := by decide +kernel
theorem dX2_joined_131 : decode cX2_joined 131 = .ok (.ireturn, 1) := by decide +kernel
theorem dX2_joined_132 : decode cX2_joined 132 = .ok (.iload_n 1, 1) := by decide +kernel
theorem dX2_joined_133 : decode cX2_joined 133 = .ok (.iload_n 2, 1) := by decide +kernel
theorem dX2_joined_134 : decode cX2_joined 134 = .ok (.iadd, 1) := by decide +kernel
theorem dX2_joined_135 : decode cX2_joined 135 = .ok (.ireturn, 1) := by decide +kernel
theorem dX2_joined_136 : decode cX2_joined 136 = .ok (.iload_n 1, 1) := by decide +kernel
theorem dX2_joined_137 : decode cX2_joined 137 = .ok (.iload_n 2, 1) := by decide +kernel
theorem dX2_joined_138 : decode cX2_joined 138 = .ok (.isub, 1) := by decide +kernel
theorem dX2_joined_139 : decode cX2_joined 139 = .ok (.ireturn, 1) := by decide +kernel
theorem dX2_joined_140 : decode cX2_joined 140 = .ok (.iload_n 1, 1) := by decide +kernel
theorem dX2_joined_141 : decode cX2_joined 141 = .ok (.iload_n 2, 1) := by decide +kernel
theorem dX2_joined_142 : decode cX2_joined 142 = .ok (.imul, 1) := by decide +kernel
theorem dX2_joined_143 : decode cX2_joined 143 = .ok (.ireturn, 1) := by decide +kernel
theorem dX2_joined_144 : decode cX2_joined 144 = .ok (.iload_n 2, 1) := by decide +kernel
theorem dX2_joined_145 : decode cX2_joined 145 = .ok (.ifCond .ne 7, 3) := by decide +kernel
theorem dX2_joined_148 : decode cX2_joined 148 = .ok (.iconst 0, 1) := by decide +kernel
theorem dX2_joined_149 : decode cX2_joined 149 = .ok (.goto 6, 3) := by decide +kernel
theorem dX2_joined_152 : decode cX2_joined 152 = .ok (.iload_n 1, 1) := by decide +kernel
theorem dX2_joined_153 : decode cX2_joined 153 = .ok (.iload_n 2, 1) := by decide +kernel
theorem dX2_joined_154 : decode cX2_joined 154 = .ok (.idiv, 1) := by decide +kernel
theorem dX2_joined_155 : decode cX2_joined 155 = .ok (.ireturn, 1) := by decide +kernel
theorem dX2_joined_156 : decode cX2_joined 156 = .ok (.iload_n 2, 1) := by decide +kernel
theorem dX2_joined_157 : decode cX2_joined 157 = .ok (.ifCond .ne 7, 3) := by decide +kernel
theorem dX2_joined_160 : decode cX2_joined 160 = .ok (.iconst 0, 1) := by decide +kernel
theorem dX2_joined_161 : decode cX2_joined 161 = .ok (.goto 6, 3) := by decide +kernel
theorem dX2_joined_164 : decode cX2_joined 164 = .ok (.iload_n 1, 1) := by decide +kernel
theorem dX2_joined_165 : decode cX2_joined 165 = .ok (.iload_n 2, 1) := by decide +kernel
theorem dX2_joined_166 : decode cX2_joined 166 = .ok (.irem, 1) := by decide +kernel
theorem dX2_joined_167 : decode cX2_joined 167 = .ok (.ireturn, 1) := by decide +kernel
theorem dX2_joined_168 : decode cX2_joined 168 = .ok (.iconst 0, 1) := by decide +kernel
theorem dX2_joined_169 : decode cX2_joined 169 = .ok (.ireturn, 1) := by decide +kernel
theorem dX2_truth_0 : decode cX2_truth 0 = .ok (.iload_n 0, 1) := by decide +kernel
theorem dX2_truth_1 : decode cX2_truth 1 = .ok (.ifCond .eq 7, 3) := by decide +kernel
theorem dX2_truth_4 : decode cX2_truth 4 = .ok (.iconst 1, 1) := by decide +kernel
theorem dX2_truth_5 : decode cX2_truth 5 = .ok (.goto 4, 3) := by decide +kernel
theorem dX2_truth_8 : decode cX2_truth 8 = .ok (.iconst 0, 1) := by decide +kernel
theorem dX2_truth_9 : decode cX2_truth 9 = .ok (.ireturn, 1) := by decide +kernel
theorem dX3_init_0 : decode cX3_init 0 = .ok (.aload_n 0, 1) := by decide +kernel
theorem dX3_init_1 : decode cX3_init 1 = .ok (.invokespecial 3, 3) := by decide +kernel
theorem dX3_init_4 : decode cX3_init 4 = .ok (.return_, 1) := by decide +kernel
theorem dX3_search_0 : decode cX3_search 0 = .ok (.iconst 0, 1) := by decide +kernel
theorem dX3_search_1 : decode cX3_search 1 = .ok (.istore 4, 2) := by decide +kernel
theorem dX3_search_3 : decode cX3_search 3 = .ok (.iconst 1, 1) := by decide +kernel
theorem dX3_search_4 : decode cX3_search 4 = .ok (.istore 5, 2) := by decide +kernel
theorem dX3_search_6 : decode cX3_search 6 = .ok (.iload 5, 2) := by decide +kernel
theorem dX3_search_8 : decode cX3_search 8 = .ok (.iload_n 1, 1) := by decide +kernel
theorem dX3_search_9 : decode cX3_search 9 = .ok (.if_icmp .gt 126, 3) := by decide +kernel
theorem dX3_search_12 : decode cX3_search 12 = .ok (.iload 5, 2) := by decide +kernel
theorem dX3_search_14 : decode cX3_search 14 = .ok (.iload_n 3, 1) := by decide +kernel
theorem dX3_search_15 : decode cX3_search 15 = .ok (.if_icmp .gt 120, 3) := by decide +kernel
theorem dX3_search_18 : decode cX3_search 18 = .ok (.iload_n 3, 1) := by decide +kernel
theorem dX3_search_19 : decode cX3_search 19 = .ok (.iload 5, 2) := by decide +kernel
theorem dX3_search_21 : decode cX3_search 21 = .ok (.idiv, 1) := by decide +kernel
theorem dX3_search_22 : decode cX3_search 22 = .ok (.istore 6, 2) := by decide +kernel
theorem dX3_search_24 : decode cX3_search 24 = .ok (.iload 5, 2) := by decide +kernel
theorem dX3_search_26 : decode cX3_search 26 = .ok (.iload 6, 2) := by decide +kernel
theorem dX3_search_28 : decode cX3_search 28 = .ok (.imul, 1) := by decide +kernel
theorem dX3_search_29 : decode cX3_search 29 = .ok (.iload_n 3, 1) := by decide +kernel
theorem dX3_search_30 : decode cX3_search 30 = .ok (.if_icmp .ne 99, 3) := by decide +kernel
theorem dX3_search_33 : decode cX3_search 33 = .ok (.aload_n 0, 1) := by decide +kernel
theorem dX3_search_34 : decode cX3_search 34 = .ok (.iload_n 1, 1) := by decide +kernel
theorem dX3_search_35 : decode cX3_search 35 = .ok (.iload_n 2, 1) := by decide +kernel
theorem dX3_search_36 : decode cX3_search 36 = .ok (.iload 5, 2) := by decide +kernel
theorem dX3_search_38 : decode cX3_search 38 = .ok (.iload 6, 2) := by decide +kernel
theorem dX3_search_40 : decode cX3_search 40 = .ok (.invokevirtual 9, 3) := by decide +kernel
theorem dX3_search_43 : decode cX3_search 43 = .ok (.ifCond .eq 86, 3) := by decide +kernel
theorem dX3_search_46 : decode cX3_search 46 = .ok (.aload_n 0, 1) := by decide +kernel
theorem dX3_search_47 : decode cX3_search 47 = .ok (.iload_n 1, 1) := by decide +kernel
theorem dX3_search_48 : decode cX3_search 48 = .ok (.iload_n 2, 1) := by decide +kernel
theorem dX3_search_49 : decode cX3_search 49 = .ok (.iload 5, 2) := by decide +kernel
theorem dX3_search_51 : decode cX3_search 51 = .ok (.iload 6, 2) := by decide +kernel
theorem dX3_search_53 : decode cX3_search 53 = .ok (.invokevirtual 15, 3) := by decide +kernel
theorem dX3_search_56 : decode cX3_search 56 = .ok (.invokestatic 19, 3) := by decide +kernel
theorem dX3_search_59 : decode cX3_search 59 = .ok (.istore 7, 2) := by decide +kernel
theorem dX3_search_61 : decode cX3_search 61 = .ok (.iload 5, 2) := by decide +kernel
theorem dX3_search_63 : decode cX3_search 63 = .ok (.iload 6, 2) := by decide +kernel
theorem dX3_search_65 : decode cX3_search 65 = .ok (.iadd, 1) := by decide +kernel
theorem dX3_search_66 : decode cX3_search 66 = .ok (.iconst 2, 1) := by decide +kernel
theorem dX3_search_67 : decode cX3_search 67 = .ok (.isub, 1) := by decide +kernel
theorem dX3_search_68 : decode cX3_search 68 = .ok (.istore 8, 2) := by decide +kernel
theorem dX3_search_70 : decode cX3_search 70 = .ok (.iload 4, 2) := by decide +kernel
theorem dX3_search_72 : decode cX3_search 72 = .ok (.ifCond .eq 30, 3) := by decide +kernel
theorem dX3_search_75 : decode cX3_search 75 = .ok (.iload 8, 2) := by decide +kernel
theorem dX3_search_77 : decode cX3_search 77 = .ok (.aload_n 0, 1) := by decide +kernel
theorem dX3_search_78 : decode cX3_search 78 = .ok (.getfield 23, 3) := by decide +kernel
theorem dX3_search_81 : decode cX3_search 81 = .ok (.if_icmp .lt 21, 3) := by decide +kernel
theorem dX3_search_84 : decode cX3_search 84 = .ok (.iload 8, 2) := by decide +kernel
theorem dX3_search_86 : decode cX3_search 86 = .ok (.aload_n 0, 1) := by decide +kernel
theorem dX3_search_87 : decode cX3_search 87 = .ok (.getfield 23, 3) := by decide +kernel
theorem dX3_search_90 : decode cX3_search 90 = .ok (.if_icmp .ne 36, 3) := by decide +kernel
theorem dX3_search_93 : decode cX3_search 93 = .ok (.iload 7, 2) := by decide +kernel
theorem dX3_search_95 : decode cX3_search 95 = .ok (.aload_n 0, 1) := by decide +kernel
theorem dX3_search_96 : decode cX3_search 96 = .ok (.getfield 27, 3) := by decide +kernel
theorem dX3_search_99 : decode cX3_search 99 = .ok (.if_icmp .ge 27, 3) := by decide +kernel
theorem dX3_search_102 : decode cX3_search 102 = .ok (.aload_n 0, 1) := by decide +kernel
theorem dX3_search_103 : decode cX3_search 103 = .ok (.iload 5, 2) := by decide +kernel
theorem dX3_search_105 : decode cX3_search 105 = .ok (.putfield 30, 3) := by decide +kernel
theorem dX3_search_108 : decode cX3_search 108 = .ok (.aload_n 0, 1) := by decide +kernel
theorem dX3_search_109 : decode cX3_search 109 = .ok (.iload 6, 2) := by decide +kernel
theorem dX3_search_111 : decode cX3_search 111 = .ok (.putfield 33, 3) := by decide +kernel
theorem dX3_search_114 : decode cX3_search 114 = .ok (.aload_n 0, 1) := by decide +kernel
theorem dX3_search_115 : decode cX3_search 115 = .ok (.iload 8, 2) := by decide +kernel
theorem dX3_search_117 : decode cX3_search 117 = .ok (.putfield 23, 3) := by decide +kernel
theorem dX3_search_120 : decode cX3_search 120 = .ok (.aload_n 0, 1) := by decide +kernel
theorem dX3_search_121 : decode cX3_search 121 = .ok (.iload 7, 2) := by decide +kernel
theorem dX3_search_123 : decode cX3_search 123 = .ok (.putfield 27, 3) := by decide +kernel
theorem dX3_search_126 : decode cX3_search 126 = .ok (.iinc 4 1, 3) := by decide +kernel
theorem dX3_search_129 : decode cX3_search 129 = .ok (.iinc 5 1, 3) := by decide +kernel
theorem dX3_search_132 : decode cX3_search 132 = .ok (.goto (-126), 3) := by decide +kernel
theorem dX3_search_135 : decode cX3_search 135 = .ok (.iload 4, 2) := by decide +kernel
theorem dX3_search_137 : decode cX3_search 137 = .ok (.ireturn, 1) := by decide +kernel
theorem dX3_canBe_0 : decode cX3_canBe 0 = .ok (.iload_n 3, 1) := by decide +kernel
theorem dX3_canBe_1 : decode cX3_canBe 1 = .ok (.iconst 1, 1) := by decide +kernel
theorem dX3_canBe_2 : decode cX3_canBe 2 = .ok (.if_icmp .lt 37, 3) := by decide +kernel
theorem dX3_canBe_5 : decode cX3_canBe 5 = .ok (.iload 4, 2) := by decide +kernel
theorem dX3_canBe_7 : decode cX3_canBe 7 = .ok (.iconst 1, 1) := by decide +kernel
theorem dX3_canBe_8 : decode cX3_canBe 8 = .ok (.if_icmp .lt 31, 3) := by decide +kernel
theorem dX3_canBe_11 : decode cX3_canBe 11 = .ok (.iload_n 3, 1) := by decide +kernel
theorem dX3_canBe_12 : decode cX3_canBe 12 = .ok (.iload_n 1, 1) := by decide +kernel
theorem dX3_canBe_13 : decode cX3_canBe 13 = .ok (.if_icmp .gt 26, 3) := by decide +kernel
theorem dX3_canBe_16 : decode cX3_canBe 16 = .ok (.iload 4, 2) := by decide +kernel
theorem dX3_canBe_18 : decode cX3_canBe 18 = .ok (.iload_n 2, 1) := by decide +kernel
theorem dX3_canBe_19 : decode cX3_canBe 19 = .ok (.if_icmp .gt 20, 3) := by decide +kernel
theorem dX3_canBe_22 : decode cX3_canBe 22 = .ok (.iload_n 1, 1) := by decide +kernel
theorem dX3_canBe_23 : decode cX3_canBe 23 = .ok (.iload_n 3, 1) := by decide +kernel
theorem dX3_canBe_24 : decode cX3_canBe 24 = .ok (.irem, 1) := by decide +kernel
theorem dX3_canBe_25 : decode cX3_canBe 25 = .ok (.ifCond .ne 14, 3) := by decide +kernel
theorem dX3_canBe_28 : decode cX3_canBe 28 = .ok (.iload_n 2, 1) := by decide +kernel
theorem dX3_canBe_29 : decode cX3_canBe 29 = .ok (.iload 4, 2) := by decide +kernel
theorem dX3_canBe_31 : decode cX3_canBe 31 = .ok (.irem, 1) := by decide +kernel
theorem dX3_canBe_32 : decode cX3_canBe 32 = .ok (.ifCond .ne 7, 3) := by decide +kernel
theorem dX3_canBe_35 : decode cX3_canBe 35 = .ok (.iconst 1, 1) := by decide +kernel
theorem dX3_canBe_36 : decode cX3_canBe 36 = .ok (.goto 4, 3) := by decide +kernel
theorem dX3_canBe_39 : decode cX3_canBe 39 = .ok (.iconst 0, 1) := by decide +kernel
theorem dX3_canBe_40 : decode cX3_canBe 40 = .ok (.ireturn, 1) := by decide +kernel
theorem dX3_icingSet_0 : decode cX3_icingSet 0 = .ok (.lconst 0, 1) := by decide +kernel
theorem dX3_icingSet_1 : decode cX3_icingSet 1 = .ok (.lstore 5, 2) := by decide +kernel
theorem dX3_icingSet_3 : decode cX3_icingSet 3 = .ok (.aload_n 0, 1) := by decide +kernel
theorem dX3_icingSet_4 : decode cX3_icingSet 4 = .ok (.iload_n 1, 1) := by decide +kernel
theorem dX3_icingSet_5 : decode cX3_icingSet 5 = .ok (.iload_n 2, 1) := by decide +kernel
theorem dX3_icingSet_6 : decode cX3_icingSet 6 = .ok (.iload_n 3, 1) := by decide +kernel
theorem dX3_icingSet_7 : decode cX3_icingSet 7 = .ok (.iload 4, 2) := by decide +kernel
theorem dX3_icingSet_9 : decode cX3_icingSet 9 = .ok (.invokevirtual 9, 3) := by decide +kernel
theorem dX3_icingSet_12 : decode cX3_icingSet 12 = .ok (.ifCond .ne 6, 3) := by decide +kernel
theorem dX3_icingSet_15 : decode cX3_icingSet 15 = .ok (.lload 5, 2) := by decide +kernel
theorem dX3_icingSet_17 : decode cX3_icingSet 17 = .ok (.lreturn, 1) := by decide +kernel
theorem dX3_icingSet_18 : decode cX3_icingSet 18 = .ok (.iload_n 1, 1) := by decide +kernel
theorem dX3_icingSet_19 : decode cX3_icingSet 19 = .ok (.iload_n 3, 1) := by decide +kernel
theorem dX3_icingSet_20 : decode cX3_icingSet 20 = .ok (.idiv, 1) := by decide +kernel
theorem dX3_icingSet_21 : decode cX3_icingSet 21 = .ok (.istore 7, 2) := by decide +kernel
theorem dX3_icingSet_23 : decode cX3_icingSet 23 = .ok (.iload_n 2, 1) := by decide +kernel
theorem dX3_icingSet_24 : decode cX3_icingSet 24 = .ok (.iload 4, 2) := by decide +kernel
theorem dX3_icingSet_26 : decode cX3_icingSet 26 = .ok (.idiv, 1) := by decide +kernel
theorem dX3_icingSet_27 : decode cX3_icingSet 27 = .ok (.istore 8, 2) := by decide +kernel
theorem dX3_icingSet_29 : decode cX3_icingSet 29 = .ok (.iconst 0, 1) := by decide +kernel
theorem dX3_icingSet_30 : decode cX3_icingSet 30 = .ok (.istore 9, 2) := by decide +kernel
theorem dX3_icingSet_32 : decode cX3_icingSet 32 = .ok (.iload 9, 2) := by decide +kernel
theorem dX3_icingSet_34 : decode cX3_icingSet 34 = .ok (.iload_n 3, 1) := by decide +kernel
theorem dX3_icingSet_35 : decode cX3_icingSet 35 = .ok (.if_icmp .ge 94, 3) := by decide +kernel
theorem dX3_icingSet_38 : decode cX3_icingSet 38 = .ok (.iload 9, 2) := by decide +kernel
theorem dX3_icingSet_40 : decode cX3_icingSet 40 = .ok (.ifCond .ne 8, 3) := by decide +kernel
theorem dX3_icingSet_43 : decode cX3_icingSet 43 = .ok (.iload 8, 2) := by decide +kernel
theorem dX3_icingSet_45 : decode cX3_icingSet 45 = .ok (.goto 4, 3) := by decide +kernel
theorem dX3_icingSet_48 : decode cX3_icingSet 48 = .ok (.iconst 0, 1) := by decide +kernel
theorem dX3_icingSet_49 : decode cX3_icingSet 49 = .ok (.iload 9, 2) := by decide +kernel
theorem dX3_icingSet_51 : decode cX3_icingSet 51 = .ok (.iload_n 3, 1) := by decide +kernel
theorem dX3_icingSet_52 : decode cX3_icingSet 52 = .ok (.iconst 1, 1) := by decide +kernel
theorem dX3_icingSet_53 : decode cX3_icingSet 53 = .ok (.isub, 1) := by decide +kernel
theorem dX3_icingSet_54 : decode cX3_icingSet 54 = .ok (.if_icmp .ne 8, 3) := by decide +kernel
theorem dX3_icingSet_57 : decode cX3_icingSet 57 = .ok (.iload 8, 2) := by decide +kernel
theorem dX3_icingSet_59 : decode cX3_icingSet 59 = .ok (.goto 4, 3) := by decide +kernel
theorem dX3_icingSet_62 : decode cX3_icingSet 62 = .ok (.iconst 0, 1) := by decide +kernel
theorem dX3_icingSet_63 : decode cX3_icingSet 63 = .ok (.iadd, 1) := by decide +kernel
theorem dX3_icingSet_64 : decode cX3_icingSet 64 = .ok (.istore 10, 2) := by decide +kernel
theorem dX3_icingSet_66 : decode cX3_icingSet 66 = .ok (.iconst 0, 1) := by decide +kernel
theorem dX3_icingSet_67 : decode cX3_icingSet 67 = .ok (.istore 11, 2) := by decide +kernel
theorem dX3_icingSet_69 : decode cX3_icingSet 69 = .ok (.iload 11, 2) := by decide +kernel
theorem dX3_icingSet_71 : decode cX3_icingSet 71 = .ok (.iload 4, 2) := by decide +kernel
theorem dX3_icingSet_73 : decode cX3_icingSet 73 = .ok (.if_icmp .ge 50, 3) := by decide +kernel
theorem dX3_icingSet_76 : decode cX3_icingSet 76 = .ok (.iload 10, 2) := by decide +kernel
theorem dX3_icingSet_78 : decode cX3_icingSet 78 = .ok (.iload 11, 2) := by decide +kernel
theorem dX3_icingSet_80 : decode cX3_icingSet 80 = .ok (.ifCond .ne 8, 3) := by decide +kernel
theorem dX3_icingSet_83 : decode cX3_icingSet 83 = .ok (.iload 7, 2) := by decide +kernel
theorem dX3_icingSet_85 : decode cX3_icingSet 85 = .ok (.goto 4, 3) := by decide +kernel
theorem dX3_icingSet_88 : decode cX3_icingSet 88 = .ok (.iconst 0, 1) := by decide +kernel
theorem dX3_icingSet_89 : decode cX3_icingSet 89 = .ok (.iadd, 1) := by decide +kernel
theorem dX3_icingSet_90 : decode cX3_icingSet 90 = .ok (.iload 11, 2) := by decide +kernel
theorem dX3_icingSet_92 : decode cX3_icingSet 92 = .ok (.iload 4, 2) := by decide +kernel
theorem dX3_icingSet_94 : decode cX3_icingSet 94 = .ok (.iconst 1, 1) := by decide +kernel
theorem dX3_icingSet_95 : decode cX3_icingSet 95 = .ok (.isub, 1) := by decide +kernel
theorem dX3_icingSet_96 : decode cX3_icingSet 96 = .ok (.if_icmp .ne 8, 3) := by decide +kernel
theorem dX3_icingSet_99 : decode cX3_icingSet 99 = .ok (.iload 7, 2) := by decide +kernel
theorem dX3_icingSet_101 : decode cX3_icingSet 101 = .ok (.goto 4, 3) := by decide +kernel
theorem dX3_icingSet_104 : decode cX3_icingSet 104 = .ok (.iconst 0, 1) := by decide +kernel
theorem dX3_icingSet_105 : decode cX3_icingSet 105 = .ok (.iadd, 1) := by decide +kernel
theorem dX3_icingSet_106 : decode cX3_icingSet 106 = .ok (.istore 12, 2) := by decide +kernel
theorem dX3_icingSet_108 : decode cX3_icingSet 108 = .ok (.lload 5, 2) := by decide +kernel
theorem dX3_icingSet_110 : decode cX3_icingSet 110 = .ok (.lconst 1, 1) := by decide +kernel
theorem dX3_icingSet_111 : decode cX3_icingSet 111 = .ok (.iload 12, 2) := by decide +kernel
theorem dX3_icingSet_113 : decode cX3_icingSet 113 = .ok (.lshl, 1) := by decide +kernel
theorem dX3_icingSet_114 : decode cX3_icingSet 114 = .ok (.lor, 1) := by decide +kernel
theorem dX3_icingSet_115 : decode cX3_icingSet 115 = .ok (.lstore 5, 2) := by decide +kernel
theorem dX3_icingSet_117 : decode cX3_icingSet 117 = .ok (.iinc 11 1, 3) := by decide +kernel
theorem dX3_icingSet_120 : decode cX3_icingSet 120 = .ok (.goto (-51), 3) := by decide +kernel
theorem dX3_icingSet_123 : decode cX3_icingSet 123 = .ok (.iinc 9 1, 3) := by decide +kernel
theorem dX3_icingSet_126 : decode cX3_icingSet 126 = .ok (.goto (-94), 3) := by decide +kernel
theorem dX3_icingSet_129 : decode cX3_icingSet 129 = .ok (.lload 5, 2) := by decide +kernel
theorem dX3_icingSet_131 : decode cX3_icingSet 131 = .ok (.lreturn, 1) := by decide +kernel
theorem dX3_spreadOf_0 : decode cX3_spreadOf 0 = .ok (.iconst (-1), 1) := by decide +kernel
theorem dX3_spreadOf_1 : decode cX3_spreadOf 1 = .ok (.istore_n 2, 1) := by decide +kernel
theorem dX3_spreadOf_2 : decode cX3_spreadOf 2 = .ok (.iconst (-1), 1) := by decide +kernel
theorem dX3_spreadOf_3 : decode cX3_spreadOf 3 = .ok (.istore_n 3, 1) := by decide +kernel
theorem dX3_spreadOf_4 : decode cX3_spreadOf 4 = .ok (.iconst 0, 1) := by decide +kernel
theorem dX3_spreadOf_5 : decode cX3_spreadOf 5 = .ok (.istore 4, 2) := by decide +kernel
theorem dX3_spreadOf_7 : decode cX3_spreadOf 7 = .ok (.iload 4, 2) := by decide +kernel
theorem dX3_spreadOf_9 : decode cX3_spreadOf 9 = .ok (.bipush 32, 2) := by decide +kernel
theorem dX3_spreadOf_11 : decode cX3_spreadOf 11 = .ok (.if_icmp .gt 35, 3) := by decide +kernel
theorem dX3_spreadOf_14 : decode cX3_spreadOf 14 = .ok (.lload_n 0, 1) := by decide +kernel
theorem dX3_spreadOf_15 : decode cX3_spreadOf 15 = .ok (.iload 4, 2) := by decide +kernel
theorem dX3_spreadOf_17 : decode cX3_spreadOf 17 = .ok (.lshr, 1) := by decide +kernel
theorem dX3_spreadOf_18 : decode cX3_spreadOf 18 = .ok (.lconst 1, 1) := by decide +kernel
theorem dX3_spreadOf_19 : decode cX3_spreadOf 19 = .ok (.land, 1) := by decide +kernel
theorem dX3_spreadOf_20 : decode cX3_spreadOf 20 = .ok (.lconst 1, 1) := by decide +kernel
theorem dX3_spreadOf_21 : decode cX3_spreadOf 21 = .ok (.lcmp, 1) := by decide +kernel
theorem dX3_spreadOf_22 : decode cX3_spreadOf 22 = .ok (.ifCond .ne 18, 3) := by decide +kernel
theorem dX3_spreadOf_25 : decode cX3_spreadOf 25 = .ok (.iload 4, 2) := by decide +kernel
theorem dX3_spreadOf_27 : decode cX3_spreadOf 27 = .ok (.istore_n 3, 1) := by decide +kernel
theorem dX3_spreadOf_28 : decode cX3_spreadOf 28 = .ok (.iload_n 2, 1) := by decide +kernel
theorem dX3_spreadOf_29 : decode cX3_spreadOf 29 = .ok (.iconst (-1), 1) := by decide +kernel
theorem dX3_spreadOf_30 : decode cX3_spreadOf 30 = .ok (.if_icmp .ne 8, 3) := by decide +kernel
theorem dX3_spreadOf_33 : decode cX3_spreadOf 33 = .ok (.iload 4, 2) := by decide +kernel
theorem dX3_spreadOf_35 : decode cX3_spreadOf 35 = .ok (.goto 4, 3) := by decide +kernel
theorem dX3_spreadOf_38 : decode cX3_spreadOf 38 = .ok (.iload_n 2, 1) := by decide +kernel
theorem dX3_spreadOf_39 : decode cX3_spreadOf 39 = .ok (.istore_n 2, 1) := by decide +kernel
theorem dX3_spreadOf_40 : decode cX3_spreadOf 40 = .ok (.iinc 4 1, 3) := by decide +kernel
theorem dX3_spreadOf_43 : decode cX3_spreadOf 43 = .ok (.goto (-36), 3) := by decide +kernel
theorem dX3_spreadOf_46 : decode cX3_spreadOf 46 = .ok (.iload_n 3, 1) := by decide +kernel
theorem dX3_spreadOf_47 : decode cX3_spreadOf 47 = .ok (.iload_n 2, 1) := by decide +kernel
theorem dX3_spreadOf_48 : decode cX3_spreadOf 48 = .ok (.isub, 1) := by decide +kernel
theorem dX3_spreadOf_49 : decode cX3_spreadOf 49 = .ok (.ireturn, 1) := by decide +kernel
theorem dX4_init_0 : decode cX4_init 0 = .ok (.aload_n 0, 1) := by decide +kernel
theorem dX4_init_1 : decode cX4_init 1 = .ok (.invokespecial 3, 3) := by decide +kernel
theorem dX4_init_4 : decode cX4_init 4 = .ok (.aload_n 0, 1) := by decide +kernel
theorem dX4_init_5 : decode cX4_init 5 = .ok (.aload_n 1, 1) := by decide +kernel
theorem dX4_init_6 : decode cX4_init 6 = .ok (.putfield 9, 3) := by decide +kernel
theorem dX4_init_9 : decode cX4_init 9 = .ok (.aload_n 0, 1) := by decide +kernel
theorem dX4_init_10 : decode cX4_init 10 = .ok (.aload_n 2, 1) := by decide +kernel
theorem dX4_init_11 : decode cX4_init 11 = .ok (.putfield 15, 3) := by decide +kernel
theorem dX4_init_14 : decode cX4_init 14 = .ok (.aload_n 0, 1) := by decide +kernel
theorem dX4_init_15 : decode cX4_init 15 = .ok (.bipush 30, 2) := by decide +kernel
theorem dX4_init_17 : decode cX4_init 17 = .ok (.newarray .int, 2) := by decide +kernel
theorem dX4_init_19 : decode cX4_init 19 = .ok (.putfield 19, 3) := by decide +kernel
theorem dX4_init_22 : decode cX4_init 22 = .ok (.aload_n 0, 1) := by decide +kernel
theorem dX4_init_23 : decode cX4_init 23 = .ok (.bipush 30, 2) := by decide +kernel
theorem dX4_init_25 : decode cX4_init 25 = .ok (.newarray .int, 2) := by decide +kernel
theorem dX4_init_27 : decode cX4_init 27 = .ok (.putfield 23, 3) := by decide +kernel
theorem dX4_init_30 : decode cX4_init 30 = .ok (.aload_n 0, 1) := by decide +kernel
theorem dX4_init_31 : decode cX4_init 31 = .ok (.bipush 30, 2) := by decide +kernel
theorem dX4_init_33 : decode cX4_init 33 = .ok (.newarray .boolean, 2) := by decide +kernel
theorem dX4_init_35 : decode cX4_init 35 = .ok (.putfield 26, 3) := by decide +kernel
theorem dX4_init_38 : decode cX4_init 38 = .ok (.aload_n 0, 1) := by decide +kernel
theorem dX4_init_39 : decode cX4_init 39 = .ok (.bipush 30, 2) := by decide +kernel
theorem dX4_init_41 : decode cX4_init 41 = .ok (.newarray .int, 2) := by decide +kernel
theorem dX4_init_43 : decode cX4_init 43 = .ok (.putfield 30, 3) := by decide +kernel
theorem dX4_init_46 : decode cX4_init 46 = .ok (.aload_n 0, 1) := by decide +kernel
theorem dX4_init_47 : decode cX4_init 47 = .ok (.bipush 30, 2) := by decide +kernel
theorem dX4_init_49 : decode cX4_init 49 = .ok (.newarray .int, 2) := by decide +kernel
theorem dX4_init_51 : decode cX4_init 51 = .ok (.putfield 33, 3) := by decide +kernel
theorem dX4_init_54 : decode cX4_init 54 = .ok (.aload_n 0, 1) := by decide +kernel
theorem dX4_init_55 : decode cX4_init 55 = .ok (.bipush 16, 2) := by decide +kernel
theorem dX4_init_57 : decode cX4_init 57 = .ok (.newarray .int, 2) := by decide +kernel
theorem dX4_init_59 : decode cX4_init 59 = .ok (.putfield 36, 3) := by decide +kernel
theorem dX4_init_62 : decode cX4_init 62 = .ok (.aload_n 0, 1) := by decide +kernel
theorem dX4_init_63 : decode cX4_init 63 = .ok (.bipush 16, 2) := by decide +kernel
theorem dX4_init_65 : decode cX4_init 65 = .ok (.newarray .int, 2) := by decide +kernel
theorem dX4_init_67 : decode cX4_init 67 = .ok (.putfield 39, 3) := by decide +kernel
theorem dX4_init_70 : decode cX4_init 70 = .ok (.aload_n 0, 1) := by decide +kernel
theorem dX4_init_71 : decode cX4_init 71 = .ok (.bipush 16, 2) := by decide +kernel
theorem dX4_init_73 : decode cX4_init 73 = .ok (.newarray .long, 2) := by decide +kernel
theorem dX4_init_75 : decode cX4_init 75 = .ok (.putfield 42, 3) := by decide +kernel
theorem dX4_init_78 : decode cX4_init 78 = .ok (.return_, 1) := by decide +kernel
theorem dX4_forget_0 : decode cX4_forget 0 = .ok (.aload_n 0, 1) := by decide +kernel
theorem dX4_forget_1 : decode cX4_forget 1 = .ok (.iconst 0, 1) := by decide +kernel
theorem dX4_forget_2 : decode cX4_forget 2 = .ok (.putfield 46, 3) := by decide +kernel
theorem dX4_forget_5 : decode cX4_forget 5 = .ok (.return_, 1) := by decide +kernel
theorem dX4_tell_0 : decode cX4_tell 0 = .ok (.aload_n 0, 1) := by decide +kernel
theorem dX4_tell_1 : decode cX4_tell 1 = .ok (.getfield 9, 3) := by decide +kernel
theorem dX4_tell_4 : decode cX4_tell 4 = .ok (.getfield 50, 3) := by decide +kernel
theorem dX4_tell_7 : decode cX4_tell 7 = .ok (.ifCond .eq 12, 3) := by decide +kernel
theorem dX4_tell_10 : decode cX4_tell 10 = .ok (.aload_n 0, 1) := by decide +kernel
theorem dX4_tell_11 : decode cX4_tell 11 = .ok (.getfield 46, 3) := by decide +kernel
theorem dX4_tell_14 : decode cX4_tell 14 = .ok (.bipush 30, 2) := by decide +kernel
theorem dX4_tell_16 : decode cX4_tell 16 = .ok (.if_icmp .lt 5, 3) := by decide +kernel
theorem dX4_tell_19 : decode cX4_tell 19 = .ok (.iconst (-1), 1) := by decide +kernel
theorem dX4_tell_20 : decode cX4_tell 20 = .ok (.ireturn, 1) := by decide +kernel
theorem dX4_tell_21 : decode cX4_tell 21 = .ok (.aload_n 0, 1) := by decide +kernel
theorem dX4_tell_22 : decode cX4_tell 22 = .ok (.getfield 19, 3) := by decide +kernel
theorem dX4_tell_25 : decode cX4_tell 25 = .ok (.aload_n 0, 1) := by decide +kernel
theorem dX4_tell_26 : decode cX4_tell 26 = .ok (.getfield 46, 3) := by decide +kernel
theorem dX4_tell_29 : decode cX4_tell 29 = .ok (.iload_n 1, 1) := by decide +kernel
theorem dX4_tell_30 : decode cX4_tell 30 = .ok (.iastore, 1) := by decide +kernel
theorem dX4_tell_31 : decode cX4_tell 31 = .ok (.aload_n 0, 1) := by decide +kernel
theorem dX4_tell_32 : decode cX4_tell 32 = .ok (.getfield 23, 3) := by decide +kernel
theorem dX4_tell_35 : decode cX4_tell 35 = .ok (.aload_n 0, 1) := by decide +kernel
theorem dX4_tell_36 : decode cX4_tell 36 = .ok (.getfield 46, 3) := by decide +kernel
theorem dX4_tell_39 : decode cX4_tell 39 = .ok (.iload_n 2, 1) := by decide +kernel
theorem dX4_tell_40 : decode cX4_tell 40 = .ok (.iastore, 1) := by decide +kernel
theorem dX4_tell_41 : decode cX4_tell 41 = .ok (.aload_n 0, 1) := by decide +kernel
theorem dX4_tell_42 : decode cX4_tell 42 = .ok (.getfield 26, 3) := by decide +kernel
theorem dX4_tell_45 : decode cX4_tell 45 = .ok (.aload_n 0, 1) := by decide +kernel
theorem dX4_tell_46 : decode cX4_tell 46 = .ok (.getfield 46, 3) := by decide +kernel
theorem dX4_tell_49 : decode cX4_tell 49 = .ok (.iload_n 3, 1) := by decide +kernel
theorem dX4_tell_50 : decode cX4_tell 50 = .ok (.bastore, 1) := by decide +kernel
theorem dX4_tell_51 : decode cX4_tell 51 = .ok (.aload_n 0, 1) := by decide +kernel
theorem dX4_tell_52 : decode cX4_tell 52 = .ok (.getfield 30, 3) := by decide +kernel
theorem dX4_tell_55 : decode cX4_tell 55 = .ok (.aload_n 0, 1) := by decide +kernel
theorem dX4_tell_56 : decode cX4_tell 56 = .ok (.getfield 46, 3) := by decide +kernel
theorem dX4_tell_59 : decode cX4_tell 59 = .ok (.aload_n 0, 1) := by decide +kernel
theorem dX4_tell_60 : decode cX4_tell 60 = .ok (.getfield 55, 3) := by decide +kernel
theorem dX4_tell_63 : decode cX4_tell 63 = .ok (.iastore, 1) := by decide +kernel
theorem dX4_tell_64 : decode cX4_tell 64 = .ok (.aload_n 0, 1) := by decide +kernel
theorem dX4_tell_65 : decode cX4_tell 65 = .ok (.getfield 33, 3) := by decide +kernel
theorem dX4_tell_68 : decode cX4_tell 68 = .ok (.aload_n 0, 1) := by decide +kernel
theorem dX4_tell_69 : decode cX4_tell 69 = .ok (.getfield 46, 3) := by decide +kernel
theorem dX4_tell_72 : decode cX4_tell 72 = .ok (.iconst (-1), 1) := by decide +kernel
theorem dX4_tell_73 : decode cX4_tell 73 = .ok (.iastore, 1) := by decide +kernel
theorem dX4_tell_74 : decode cX4_tell 74 = .ok (.aload_n 0, 1) := by decide +kernel
theorem dX4_tell_75 : decode cX4_tell 75 = .ok (.dup, 1) := by decide +kernel
theorem dX4_tell_76 : decode cX4_tell 76 = .ok (.getfield 46, 3) := by decide +kernel
theorem dX4_tell_79 : decode cX4_tell 79 = .ok (.iconst 1, 1) := by decide +kernel
theorem dX4_tell_80 : decode cX4_tell 80 = .ok (.iadd, 1) := by decide +kernel
theorem dX4_tell_81 : decode cX4_tell 81 = .ok (.putfield 46, 3) := by decide +kernel
theorem dX4_tell_84 : decode cX4_tell 84 = .ok (.aload_n 0, 1) := by decide +kernel
theorem dX4_tell_85 : decode cX4_tell 85 = .ok (.getfield 46, 3) := by decide +kernel
theorem dX4_tell_88 : decode cX4_tell 88 = .ok (.iconst 1, 1) := by decide +kernel
theorem dX4_tell_89 : decode cX4_tell 89 = .ok (.isub, 1) := by decide +kernel
theorem dX4_tell_90 : decode cX4_tell 90 = .ok (.ireturn, 1) := by decide +kernel
theorem dX4_takeAway_0 : decode cX4_takeAway 0 = .ok (.iload_n 1, 1) := by decide +kernel
theorem dX4_takeAway_1 : decode cX4_takeAway 1 = .ok (.ifCond .lt 21, 3) := by decide +kernel
theorem dX4_takeAway_4 : decode cX4_takeAway 4 = .ok (.iload_n 1, 1) := by decide +kernel
theorem dX4_takeAway_5 : decode cX4_takeAway 5 = .ok (.aload_n 0, 1) := by decide +kernel
theorem dX4_takeAway_6 : decode cX4_takeAway 6 = .ok (.getfield 46, 3) := by decide +kernel
theorem dX4_takeAway_9 : decode cX4_takeAway 9 = .ok (.if_icmp .ge 13, 3) := by decide +kernel
theorem dX4_takeAway_12 : decode cX4_takeAway 12 = .ok (.aload_n 0, 1) := by decide +kernel
theorem dX4_takeAway_13 : decode cX4_takeAway 13 = .ok (.getfield 33, 3) := by decide +kernel
theorem dX4_takeAway_16 : decode cX4_takeAway 16 = .ok (.iload_n 1, 1) := by decide +kernel
theorem dX4_takeAway_17 : decode cX4_takeAway 17 = .ok (.iaload, 1) := by decide +kernel
theorem dX4_takeAway_18 : decode cX4_takeAway 18 = .ok (.iconst (-1), 1) := by decide +kernel
theorem dX4_takeAway_19 : decode cX4_takeAway 19 = .ok (.if_icmp .eq 5, 3) := by decide +kernel
theorem dX4_takeAway_22 : decode cX4_takeAway 22 = .ok (.iconst 0, 1) := by decide +kernel
theorem dX4_takeAway_23 : decode cX4_takeAway 23 = .ok (.ireturn, 1) := by decide +kernel
theorem dX4_takeAway_24 : decode cX4_takeAway 24 = .ok (.aload_n 0, 1) := by decide +kernel
theorem dX4_takeAway_25 : decode cX4_takeAway 25 = .ok (.getfield 33, 3) := by decide +kernel
theorem dX4_takeAway_28 : decode cX4_takeAway 28 = .ok (.iload_n 1, 1) := by decide +kernel
theorem dX4_takeAway_29 : decode cX4_takeAway 29 = .ok (.aload_n 0, 1) := by decide +kernel
theorem dX4_takeAway_30 : decode cX4_takeAway 30 = .ok (.getfield 55, 3) := by decide +kernel
theorem dX4_takeAway_33 : decode cX4_takeAway 33 = .ok (.iastore, 1) := by decide +kernel
theorem dX4_takeAway_34 : decode cX4_takeAway 34 = .ok (.iconst 1, 1) := by decide +kernel
theorem dX4_takeAway_35 : decode cX4_takeAway 35 = .ok (.ireturn, 1) := by decide +kernel
theorem dX4_goOn_0 : decode cX4_goOn 0 = .ok (.iload_n 1, 1) := by decide +kernel
theorem dX4_goOn_1 : decode cX4_goOn 1 = .ok (.ifCond .lt 21, 3) := by decide +kernel
theorem dX4_goOn_4 : decode cX4_goOn 4 = .ok (.iload_n 1, 1) := by decide +kernel
theorem dX4_goOn_5 : decode cX4_goOn 5 = .ok (.sipush 1000, 3) := by decide +kernel
theorem dX4_goOn_8 : decode cX4_goOn 8 = .ok (.if_icmp .gt 14, 3) := by decide +kernel
theorem dX4_goOn_11 : decode cX4_goOn 11 = .ok (.aload_n 0, 1) := by decide +kernel
theorem dX4_goOn_12 : decode cX4_goOn 12 = .ok (.getfield 55, 3) := by decide +kernel
theorem dX4_goOn_15 : decode cX4_goOn 15 = .ok (.iload_n 1, 1) := by decide +kernel
theorem dX4_goOn_16 : decode cX4_goOn 16 = .ok (.iadd, 1) := by decide +kernel
theorem dX4_goOn_17 : decode cX4_goOn 17 = .ok (.ldc 58, 2) := by decide +kernel
theorem dX4_goOn_19 : decode cX4_goOn 19 = .ok (.if_icmp .le 5, 3) := by decide +kernel
theorem dX4_goOn_22 : decode cX4_goOn 22 = .ok (.iconst (-1), 1) := by decide +kernel
theorem dX4_goOn_23 : decode cX4_goOn 23 = .ok (.ireturn, 1) := by decide +kernel
theorem dX4_goOn_24 : decode cX4_goOn 24 = .ok (.aload_n 0, 1) := by decide +kernel
theorem dX4_goOn_25 : decode cX4_goOn 25 = .ok (.dup, 1) := by decide +kernel
theorem dX4_goOn_26 : decode cX4_goOn 26 = .ok (.getfield 55, 3) := by decide +kernel
theorem dX4_goOn_29 : decode cX4_goOn 29 = .ok (.iload_n 1, 1) := by decide +kernel
theorem dX4_goOn_30 : decode cX4_goOn 30 = .ok (.iadd, 1) := by decide +kernel
theorem dX4_goOn_31 : decode cX4_goOn 31 = .ok (.putfield 55, 3) := by decide +kernel
theorem dX4_goOn_34 : decode cX4_goOn 34 = .ok (.aload_n 0, 1) := by decide +kernel
theorem dX4_goOn_35 : decode cX4_goOn 35 = .ok (.getfield 55, 3) := by decide +kernel
theorem dX4_goOn_38 : decode cX4_goOn 38 = .ok (.ireturn, 1) := by decide +kernel
theorem dX4_counts_0 : decode cX4_counts 0 = .ok (.aload_n 0, 1) := by decide +kernel
theorem dX4_counts_1 : decode cX4_counts 1 = .ok (.getfield 30, 3) := by decide +kernel
theorem dX4_counts_4 : decode cX4_counts 4 = .ok (.iload_n 1, 1) := by decide +kernel
theorem dX4_counts_5 : decode cX4_counts 5 = .ok (.iaload, 1) := by decide +kernel
theorem dX4_counts_6 : decode cX4_counts 6 = .ok (.iload_n 2, 1) := by decide +kernel
theorem dX4_counts_7 : decode cX4_counts 7 = .ok (.if_icmp .gt 27, 3) := by decide +kernel
theorem dX4_counts_10 : decode cX4_counts 10 = .ok (.aload_n 0, 1) := by decide +kernel
theorem dX4_counts_11 : decode cX4_counts 11 = .ok (.getfield 33, 3) := by decide +kernel
theorem dX4_counts_14 : decode cX4_counts 14 = .ok (.iload_n 1, 1) := by decide +kernel
theorem dX4_counts_15 : decode cX4_counts 15 = .ok (.iaload, 1) := by decide +kernel
theorem dX4_counts_16 : decode cX4_counts 16 = .ok (.iconst (-1), 1) := by decide +kernel
theorem dX4_counts_17 : decode cX4_counts 17 = .ok (.if_icmp .eq 13, 3) := by decide +kernel
theorem dX4_counts_20 : decode cX4_counts 20 = .ok (.aload_n 0, 1) := by decide +kernel
theorem dX4_counts_21 : decode cX4_counts 21 = .ok (.getfield 33, 3) := by decide +kernel
theorem dX4_counts_24 : decode cX4_counts 24 = .ok (.iload_n 1, 1) := by decide +kernel
theorem dX4_counts_25 : decode cX4_counts 25 = .ok (.iaload, 1) := by decide +kernel
theorem dX4_counts_26 : decode cX4_counts 26 = .ok (.iload_n 2, 1) := by decide +kernel
theorem dX4_counts_27 : decode cX4_counts 27 = .ok (.if_icmp .le 7, 3) := by decide +kernel
theorem dX4_counts_30 : decode cX4_counts 30 = .ok (.iconst 1, 1) := by decide +kernel
theorem dX4_counts_31 : decode cX4_counts 31 = .ok (.goto 4, 3) := by decide +kernel
theorem dX4_counts_34 : decode cX4_counts 34 = .ok (.iconst 0, 1) := by decide +kernel
theorem dX4_counts_35 : decode cX4_counts 35 = .ok (.ireturn, 1) := by decide +kernel
theorem dX4_gather_0 : decode cX4_gather 0 = .ok (.aload_n 0, 1) := by decide +kernel
theorem dX4_gather_1 : decode cX4_gather 1 = .ok (.iconst 0, 1) := by decide +kernel
theorem dX4_gather_2 : decode cX4_gather 2 = .ok (.putfield 59, 3) := by decide +kernel
theorem dX4_gather_5 : decode cX4_gather 5 = .ok (.aload_n 0, 1) := by decide +kernel
theorem dX4_gather_6 : decode cX4_gather 6 = .ok (.getfield 9, 3) := by decide +kernel
theorem dX4_gather_9 : decode cX4_gather 9 = .ok (.getfield 50, 3) := by decide +kernel
theorem dX4_gather_12 : decode cX4_gather 12 = .ok (.ifCond .ne 8, 3) := by decide +kernel
theorem dX4_gather_15 : decode cX4_gather 15 = .ok (.aload_n 0, 1) := by decide +kernel
theorem dX4_gather_16 : decode cX4_gather 16 = .ok (.getfield 59, 3) := by decide +kernel
theorem dX4_gather_19 : decode cX4_gather 19 = .ok (.ireturn, 1) := by decide +kernel
theorem dX4_gather_20 : decode cX4_gather 20 = .ok (.aload_n 0, 1) := by decide +kernel
theorem dX4_gather_21 : decode cX4_gather 21 = .ok (.getfield 9, 3) := by decide +kernel
theorem dX4_gather_24 : decode cX4_gather 24 = .ok (.getfield 62, 3) := by decide +kernel
theorem dX4_gather_27 : decode cX4_gather 27 = .ok (.iconst 0, 1) := by decide +kernel
theorem dX4_gather_28 : decode cX4_gather 28 = .ok (.iaload, 1) := by decide +kernel
theorem dX4_gather_29 : decode cX4_gather 29 = .ok (.istore_n 2, 1) := by decide +kernel
theorem dX4_gather_30 : decode cX4_gather 30 = .ok (.aload_n 0, 1) := by decide +kernel
theorem dX4_gather_31 : decode cX4_gather 31 = .ok (.getfield 9, 3) := by decide +kernel
theorem dX4_gather_34 : decode cX4_gather 34 = .ok (.getfield 65, 3) := by decide +kernel
theorem dX4_gather_37 : decode cX4_gather 37 = .ok (.iconst 0, 1) := by decide +kernel
theorem dX4_gather_38 : decode cX4_gather 38 = .ok (.iaload, 1) := by decide +kernel
theorem dX4_gather_39 : decode cX4_gather 39 = .ok (.istore_n 3, 1) := by decide +kernel
theorem dX4_gather_40 : decode cX4_gather 40 = .ok (.iconst 1, 1) := by decide +kernel
theorem dX4_gather_41 : decode cX4_gather 41 = .ok (.istore 4, 2) := by decide +kernel
theorem dX4_gather_43 : decode cX4_gather 43 = .ok (.iload 4, 2) := by decide +kernel
theorem dX4_gather_45 : decode cX4_gather 45 = .ok (.iload_n 2, 1) := by decide +kernel
theorem dX4_gather_46 : decode cX4_gather 46 = .ok (.if_icmp .gt 130, 3) := by decide +kernel
theorem dX4_gather_49 : decode cX4_gather 49 = .ok (.iconst 1, 1) := by decide +kernel
theorem dX4_gather_50 : decode cX4_gather 50 = .ok (.istore 5, 2) := by decide +kernel
theorem dX4_gather_52 : decode cX4_gather 52 = .ok (.iload 5, 2) := by decide +kernel
theorem dX4_gather_54 : decode cX4_gather 54 = .ok (.iload_n 3, 1) := by decide +kernel
theorem dX4_gather_55 : decode cX4_gather 55 = .ok (.if_icmp .gt 115, 3) := by decide +kernel
theorem dX4_gather_58 : decode cX4_gather 58 = .ok (.aload_n 0, 1) := by decide +kernel
theorem dX4_gather_59 : decode cX4_gather 59 = .ok (.getfield 15, 3) := by decide +kernel
theorem dX4_gather_62 : decode cX4_gather 62 = .ok (.iload_n 2, 1) := by decide +kernel
theorem dX4_gather_63 : decode cX4_gather 63 = .ok (.iload_n 3, 1) := by decide +kernel
theorem dX4_gather_64 : decode cX4_gather 64 = .ok (.iload 4, 2) := by decide +kernel
theorem dX4_gather_66 : decode cX4_gather 66 = .ok (.iload 5, 2) := by decide +kernel
theorem dX4_gather_68 : decode cX4_gather 68 = .ok (.invokevirtual 68, 3) := by decide +kernel
theorem dX4_gather_71 : decode cX4_gather 71 = .ok (.ifCond .eq 93, 3) := by decide +kernel
theorem dX4_gather_74 : decode cX4_gather 74 = .ok (.aload_n 0, 1) := by decide +kernel
theorem dX4_gather_75 : decode cX4_gather 75 = .ok (.getfield 15, 3) := by decide +kernel
theorem dX4_gather_78 : decode cX4_gather 78 = .ok (.iload_n 2, 1) := by decide +kernel
theorem dX4_gather_79 : decode cX4_gather 79 = .ok (.iload_n 3, 1) := by decide +kernel
theorem dX4_gather_80 : decode cX4_gather 80 = .ok (.iload 4, 2) := by decide +kernel
theorem dX4_gather_82 : decode cX4_gather 82 = .ok (.iload 5, 2) := by decide +kernel
theorem dX4_gather_84 : decode cX4_gather 84 = .ok (.invokevirtual 74, 3) := by decide +kernel
theorem dX4_gather_87 : decode cX4_gather 87 = .ok (.lstore 6, 2) := by decide +kernel
theorem dX4_gather_89 : decode cX4_gather 89 = .ok (.iload_n 2, 1) := by decide +kernel
theorem dX4_gather_90 : decode cX4_gather 90 = .ok (.iload 4, 2) := by decide +kernel
theorem dX4_gather_92 : decode cX4_gather 92 = .ok (.idiv, 1) := by decide +kernel
theorem dX4_gather_93 : decode cX4_gather 93 = .ok (.iload_n 3, 1) := by decide +kernel
theorem dX4_gather_94 : decode cX4_gather 94 = .ok (.iload 5, 2) := by decide +kernel
theorem dX4_gather_96 : decode cX4_gather 96 = .ok (.idiv, 1) := by decide +kernel
theorem dX4_gather_97 : decode cX4_gather 97 = .ok (.imul, 1) := by decide +kernel
theorem dX4_gather_98 : decode cX4_gather 98 = .ok (.istore 8, 2) := by decide +kernel
theorem dX4_gather_100 : decode cX4_gather 100 = .ok (.aload_n 0, 1) := by decide +kernel
theorem dX4_gather_101 : decode cX4_gather 101 = .ok (.getfield 59, 3) := by decide +kernel
theorem dX4_gather_104 : decode cX4_gather 104 = .ok (.bipush 16, 2) := by decide +kernel
theorem dX4_gather_106 : decode cX4_gather 106 = .ok (.if_icmp .ge 58, 3) := by decide +kernel
theorem dX4_gather_109 : decode cX4_gather 109 = .ok (.aload_n 0, 1) := by decide +kernel
theorem dX4_gather_110 : decode cX4_gather 110 = .ok (.iload 8, 2) := by decide +kernel
theorem dX4_gather_112 : decode cX4_gather 112 = .ok (.lload 6, 2) := by decide +kernel
theorem dX4_gather_114 : decode cX4_gather 114 = .ok (.iload_n 1, 1) := by decide +kernel
theorem dX4_gather_115 : decode cX4_gather 115 = .ok (.invokevirtual 78, 3) := by decide +kernel
theorem dX4_gather_118 : decode cX4_gather 118 = .ok (.ifCond .eq 46, 3) := by decide +kernel
theorem dX4_gather_121 : decode cX4_gather 121 = .ok (.aload_n 0, 1) := by decide +kernel
theorem dX4_gather_122 : decode cX4_gather 122 = .ok (.getfield 36, 3) := by decide +kernel
theorem dX4_gather_125 : decode cX4_gather 125 = .ok (.aload_n 0, 1) := by decide +kernel
theorem dX4_gather_126 : decode cX4_gather 126 = .ok (.getfield 59, 3) := by decide +kernel
theorem dX4_gather_129 : decode cX4_gather 129 = .ok (.iload 4, 2) := by decide +kernel
theorem dX4_gather_131 : decode cX4_gather 131 = .ok (.iastore, 1) := by decide +kernel
theorem dX4_gather_132 : decode cX4_gather 132 = .ok (.aload_n 0, 1) := by decide +kernel
theorem dX4_gather_133 : decode cX4_gather 133 = .ok (.getfield 39, 3) := by decide +kernel
theorem dX4_gather_136 : decode cX4_gather 136 = .ok (.aload_n 0, 1) := by decide +kernel
theorem dX4_gather_137 : decode cX4_gather 137 = .ok (.getfield 59, 3) := by decide +kernel
theorem dX4_gather_140 : decode cX4_gather 140 = .ok (.iload 5, 2) := by decide +kernel
theorem dX4_gather_142 : decode cX4_gather 142 = .ok (.iastore, 1) := by decide +kernel
theorem dX4_gather_143 : decode cX4_gather 143 = .ok (.aload_n 0, 1) := by decide +kernel
theorem dX4_gather_144 : decode cX4_gather 144 = .ok (.getfield 42, 3) := by decide +kernel
theorem dX4_gather_147 : decode cX4_gather 147 = .ok (.aload_n 0, 1) := by decide +kernel
theorem dX4_gather_148 : decode cX4_gather 148 = .ok (.getfield 59, 3) := by decide +kernel
theorem dX4_gather_151 : decode cX4_gather 151 = .ok (.lload 6, 2) := by decide +kernel
theorem dX4_gather_153 : decode cX4_gather 153 = .ok (.lastore, 1) := by decide +kernel
theorem dX4_gather_154 : decode cX4_gather 154 = .ok (.aload_n 0, 1) := by decide +kernel
theorem dX4_gather_155 : decode cX4_gather 155 = .ok (.dup, 1) := by decide +kernel
theorem dX4_gather_156 : decode cX4_gather 156 = .ok (.getfield 59, 3) := by decide +kernel
theorem dX4_gather_159 : decode cX4_gather 159 = .ok (.iconst 1, 1) := by decide +kernel
theorem dX4_gather_160 : decode cX4_gather 160 = .ok (.iadd, 1) := by decide +kernel
theorem dX4_gather_161 : decode cX4_gather 161 = .ok (.putfield 59, 3) := by decide +kernel
theorem dX4_gather_164 : decode cX4_gather 164 = .ok (.iinc 5 1, 3) := by decide +kernel
theorem dX4_gather_167 : decode cX4_gather 167 = .ok (.goto (-115), 3) := by decide +kernel
theorem dX4_gather_170 : decode cX4_gather 170 = .ok (.iinc 4 1, 3) := by decide +kernel
theorem dX4_gather_173 : decode cX4_gather 173 = .ok (.goto (-130), 3) := by decide +kernel
theorem dX4_gather_176 : decode cX4_gather 176 = .ok (.aload_n 0, 1) := by decide +kernel
theorem dX4_gather_177 : decode cX4_gather 177 = .ok (.getfield 59, 3) := by decide +kernel
theorem dX4_gather_180 : decode cX4_gather 180 = .ok (.ireturn, 1) := by decide +kernel
theorem dX4_agrees_0 : decode cX4_agrees 0 = .ok (.iconst 0, 1) := by decide +kernel
theorem dX4_agrees_1 : decode cX4_agrees 1 = .ok (.istore 5, 2) := by decide +kernel
theorem dX4_agrees_3 : decode cX4_agrees 3 = .ok (.iload 5, 2) := by decide +kernel
theorem dX4_agrees_5 : decode cX4_agrees 5 = .ok (.aload_n 0, 1) := by decide +kernel
theorem dX4_agrees_6 : decode cX4_agrees 6 = .ok (.getfield 46, 3) := by decide +kernel
theorem dX4_agrees_9 : decode cX4_agrees 9 = .ok (.if_icmp .ge 86, 3) := by decide +kernel
theorem dX4_agrees_12 : decode cX4_agrees 12 = .ok (.aload_n 0, 1) := by decide +kernel
theorem dX4_agrees_13 : decode cX4_agrees 13 = .ok (.iload 5, 2) := by decide +kernel
theorem dX4_agrees_15 : decode cX4_agrees 15 = .ok (.iload 4, 2) := by decide +kernel
theorem dX4_agrees_17 : decode cX4_agrees 17 = .ok (.invokevirtual 82, 3) := by decide +kernel
theorem dX4_agrees_20 : decode cX4_agrees 20 = .ok (.ifCond .eq 69, 3) := by decide +kernel
theorem dX4_agrees_23 : decode cX4_agrees 23 = .ok (.aload_n 0, 1) := by decide +kernel
theorem dX4_agrees_24 : decode cX4_agrees 24 = .ok (.getfield 19, 3) := by decide +kernel
theorem dX4_agrees_27 : decode cX4_agrees 27 = .ok (.iload 5, 2) := by decide +kernel
theorem dX4_agrees_29 : decode cX4_agrees 29 = .ok (.iaload, 1) := by decide +kernel
theorem dX4_agrees_30 : decode cX4_agrees 30 = .ok (.ifCond .ne 22, 3) := by decide +kernel
theorem dX4_agrees_33 : decode cX4_agrees 33 = .ok (.iload_n 1, 1) := by decide +kernel
theorem dX4_agrees_34 : decode cX4_agrees 34 = .ok (.aload_n 0, 1) := by decide +kernel
theorem dX4_agrees_35 : decode cX4_agrees 35 = .ok (.getfield 23, 3) := by decide +kernel
theorem dX4_agrees_38 : decode cX4_agrees 38 = .ok (.iload 5, 2) := by decide +kernel
theorem dX4_agrees_40 : decode cX4_agrees 40 = .ok (.iaload, 1) := by decide +kernel
theorem dX4_agrees_41 : decode cX4_agrees 41 = .ok (.if_icmp .ne 7, 3) := by decide +kernel
theorem dX4_agrees_44 : decode cX4_agrees 44 = .ok (.iconst 1, 1) := by decide +kernel
theorem dX4_agrees_45 : decode cX4_agrees 45 = .ok (.goto 28, 3) := by decide +kernel
theorem dX4_agrees_48 : decode cX4_agrees 48 = .ok (.iconst 0, 1) := by decide +kernel
theorem dX4_agrees_49 : decode cX4_agrees 49 = .ok (.goto 24, 3) := by decide +kernel
theorem dX4_agrees_52 : decode cX4_agrees 52 = .ok (.lload_n 2, 1) := by decide +kernel
theorem dX4_agrees_53 : decode cX4_agrees 53 = .ok (.aload_n 0, 1) := by decide +kernel
theorem dX4_agrees_54 : decode cX4_agrees 54 = .ok (.getfield 23, 3) := by decide +kernel
theorem dX4_agrees_57 : decode cX4_agrees 57 = .ok (.iload 5, 2) := by decide +kernel
theorem dX4_agrees_59 : decode cX4_agrees 59 = .ok (.iaload, 1) := by decide +kernel
theorem dX4_agrees_60 : decode cX4_agrees 60 = .ok (.lshr, 1) := by decide +kernel
theorem dX4_agrees_61 : decode cX4_agrees 61 = .ok (.lconst 1, 1) := by decide +kernel
theorem dX4_agrees_62 : decode cX4_agrees 62 = .ok (.land, 1) := by decide +kernel
theorem dX4_agrees_63 : decode cX4_agrees 63 = .ok (.lconst 1, 1) := by decide +kernel
theorem dX4_agrees_64 : decode cX4_agrees 64 = .ok (.lcmp, 1) := by decide +kernel
theorem dX4_agrees_65 : decode cX4_agrees 65 = .ok (.ifCond .ne 7, 3) := by decide +kernel
theorem dX4_agrees_68 : decode cX4_agrees 68 = .ok (.iconst 1, 1) := by decide +kernel
theorem dX4_agrees_69 : decode cX4_agrees 69 = .ok (.goto 4, 3) := by decide +kernel
theorem dX4_agrees_72 : decode cX4_agrees 72 = .ok (.iconst 0, 1) := by decide +kernel
theorem dX4_agrees_73 : decode cX4_agrees 73 = .ok (.istore 6, 2) := by decide +kernel
theorem dX4_agrees_75 : decode cX4_agrees 75 = .ok (.iload 6, 2) := by decide +kernel
theorem dX4_agrees_77 : decode cX4_agrees 77 = .ok (.aload_n 0, 1) := by decide +kernel
theorem dX4_agrees_78 : decode cX4_agrees 78 = .ok (.getfield 26, 3) := by decide +kernel
theorem dX4_agrees_81 : decode cX4_agrees 81 = .ok (.iload 5, 2) := by decide +kernel
theorem dX4_agrees_83 : decode cX4_agrees 83 = .ok (.baload, 1) := by decide +kernel
theorem dX4_agrees_84 : decode cX4_agrees 84 = .ok (.if_icmp .eq 5, 3) := by decide +kernel
theorem dX4_agrees_87 : decode cX4_agrees 87 = .ok (.iconst 0, 1) := by decide +kernel
theorem dX4_agrees_88 : decode cX4_agrees 88 = .ok (.ireturn, 1) := by decide +kernel
theorem dX4_agrees_89 : decode cX4_agrees 89 = .ok (.iinc 5 1, 3) := by decide +kernel
theorem dX4_agrees_92 : decode cX4_agrees 92 = .ok (.goto (-89), 3) := by decide +kernel
theorem dX4_agrees_95 : decode cX4_agrees 95 = .ok (.iconst 1, 1) := by decide +kernel
theorem dX4_agrees_96 : decode cX4_agrees 96 = .ok (.ireturn, 1) := by decide +kernel
theorem dX4_sameInAll_0 : decode cX4_sameInAll 0 = .ok (.iconst 1, 1) := by decide +kernel
theorem dX4_sameInAll_1 : decode cX4_sameInAll 1 = .ok (.istore_n 2, 1) := by decide +kernel
theorem dX4_sameInAll_2 : decode cX4_sameInAll 2 = .ok (.iload_n 2, 1) := by decide +kernel
theorem dX4_sameInAll_3 : decode cX4_sameInAll 3 = .ok (.aload_n 0, 1) := by decide +kernel
theorem dX4_sameInAll_4 : decode cX4_sameInAll 4 = .ok (.getfield 59, 3) := by decide +kernel
theorem dX4_sameInAll_7 : decode cX4_sameInAll 7 = .ok (.if_icmp .ge 27, 3) := by decide +kernel
theorem dX4_sameInAll_10 : decode cX4_sameInAll 10 = .ok (.iload_n 2, 1) := by decide +kernel
theorem dX4_sameInAll_11 : decode cX4_sameInAll 11 = .ok (.aload_n 1, 1) := by decide +kernel
theorem dX4_sameInAll_12 : decode cX4_sameInAll 12 = .ok (.arraylength, 1) := by decide +kernel
theorem dX4_sameInAll_13 : decode cX4_sameInAll 13 = .ok (.if_icmp .ge 21, 3) := by decide +kernel
theorem dX4_sameInAll_16 : decode cX4_sameInAll 16 = .ok (.aload_n 1, 1) := by decide +kernel
theorem dX4_sameInAll_17 : decode cX4_sameInAll 17 = .ok (.iload_n 2, 1) := by decide +kernel
theorem dX4_sameInAll_18 : decode cX4_sameInAll 18 = .ok (.iaload, 1) := by decide +kernel
theorem dX4_sameInAll_19 : decode cX4_sameInAll 19 = .ok (.aload_n 1, 1) := by decide +kernel
theorem dX4_sameInAll_20 : decode cX4_sameInAll 20 = .ok (.iconst 0, 1) := by decide +kernel
theorem dX4_sameInAll_21 : decode cX4_sameInAll 21 = .ok (.iaload, 1) := by decide +kernel
theorem dX4_sameInAll_22 : decode cX4_sameInAll 22 = .ok (.if_icmp .eq 6, 3) := by decide +kernel
theorem dX4_sameInAll_25 : decode cX4_sameInAll 25 = .ok (.bipush (-2), 2) := by decide +kernel
theorem dX4_sameInAll_27 : decode cX4_sameInAll 27 = .ok (.ireturn, 1) := by decide +kernel
theorem dX4_sameInAll_28 : decode cX4_sameInAll 28 = .ok (.iinc 2 1, 3) := by decide +kernel
theorem dX4_sameInAll_31 : decode cX4_sameInAll 31 = .ok (.goto (-29), 3) := by decide +kernel
theorem dX4_sameInAll_34 : decode cX4_sameInAll 34 = .ok (.aload_n 0, 1) := by decide +kernel
theorem dX4_sameInAll_35 : decode cX4_sameInAll 35 = .ok (.getfield 59, 3) := by decide +kernel
theorem dX4_sameInAll_38 : decode cX4_sameInAll 38 = .ok (.ifCond .le 14, 3) := by decide +kernel
theorem dX4_sameInAll_41 : decode cX4_sameInAll 41 = .ok (.aload_n 1, 1) := by decide +kernel
theorem dX4_sameInAll_42 : decode cX4_sameInAll 42 = .ok (.arraylength, 1) := by decide +kernel
theorem dX4_sameInAll_43 : decode cX4_sameInAll 43 = .ok (.ifCond .le 9, 3) := by decide +kernel
theorem dX4_sameInAll_46 : decode cX4_sameInAll 46 = .ok (.aload_n 1, 1) := by decide +kernel
theorem dX4_sameInAll_47 : decode cX4_sameInAll 47 = .ok (.iconst 0, 1) := by decide +kernel
theorem dX4_sameInAll_48 : decode cX4_sameInAll 48 = .ok (.iaload, 1) := by decide +kernel
theorem dX4_sameInAll_49 : decode cX4_sameInAll 49 = .ok (.goto 4, 3) := by decide +kernel
theorem dX4_sameInAll_52 : decode cX4_sameInAll 52 = .ok (.iconst (-1), 1) := by decide +kernel
theorem dX4_sameInAll_53 : decode cX4_sameInAll 53 = .ok (.ireturn, 1) := by decide +kernel
theorem dX4_findQuestion_0 : decode cX4_findQuestion 0 = .ok (.aload_n 0, 1) := by decide +kernel
theorem dX4_findQuestion_1 : decode cX4_findQuestion 1 = .ok (.iconst (-1), 1) := by decide +kernel
theorem dX4_findQuestion_2 : decode cX4_findQuestion 2 = .ok (.putfield 86, 3) := by decide +kernel
theorem dX4_findQuestion_5 : decode cX4_findQuestion 5 = .ok (.iconst 0, 1) := by decide +kernel
theorem dX4_findQuestion_6 : decode cX4_findQuestion 6 = .ok (.istore_n 1, 1) := by decide +kernel
theorem dX4_findQuestion_7 : decode cX4_findQuestion 7 = .ok (.iload_n 1, 1) := by decide +kernel
theorem dX4_findQuestion_8 : decode cX4_findQuestion 8 = .ok (.bipush 32, 2) := by decide +kernel
theorem dX4_findQuestion_10 : decode cX4_findQuestion 10 = .ok (.if_icmp .gt 82, 3) := by decide +kernel
theorem dX4_findQuestion_13 : decode cX4_findQuestion 13 = .ok (.iconst 0, 1) := by decide +kernel
theorem dX4_findQuestion_14 : decode cX4_findQuestion 14 = .ok (.istore_n 2, 1) := by decide +kernel
theorem dX4_findQuestion_15 : decode cX4_findQuestion 15 = .ok (.iconst 0, 1) := by decide +kernel
theorem dX4_findQuestion_16 : decode cX4_findQuestion 16 = .ok (.istore_n 3, 1) := by decide +kernel
theorem dX4_findQuestion_17 : decode cX4_findQuestion 17 = .ok (.iload_n 3, 1) := by decide +kernel
theorem dX4_findQuestion_18 : decode cX4_findQuestion 18 = .ok (.aload_n 0, 1) := by decide +kernel
theorem dX4_findQuestion_19 : decode cX4_findQuestion 19 = .ok (.getfield 59, 3) := by decide +kernel
theorem dX4_findQuestion_22 : decode cX4_findQuestion 22 = .ok (.if_icmp .ge 27, 3) := by decide +kernel
theorem dX4_findQuestion_25 : decode cX4_findQuestion 25 = .ok (.aload_n 0, 1) := by decide +kernel
theorem dX4_findQuestion_26 : decode cX4_findQuestion 26 = .ok (.getfield 42, 3) := by decide +kernel
theorem dX4_findQuestion_29 : decode cX4_findQuestion 29 = .ok (.iload_n 3, 1) := by decide +kernel
theorem dX4_findQuestion_30 : decode cX4_findQuestion 30 = .ok (.laload, 1) := by decide +kernel
theorem dX4_findQuestion_31 : decode cX4_findQuestion 31 = .ok (.iload_n 1, 1) := by decide +kernel
theorem dX4_findQuestion_32 : decode cX4_findQuestion 32 = .ok (.lshr, 1) := by decide +kernel
theorem dX4_findQuestion_33 : decode cX4_findQuestion 33 = .ok (.lconst 1, 1) := by decide +kernel
theorem dX4_findQuestion_34 : decode cX4_findQuestion 34 = .ok (.land, 1) := by decide +kernel
theorem dX4_findQuestion_35 : decode cX4_findQuestion 35 = .ok (.lconst 1, 1) := by decide +kernel
theorem dX4_findQuestion_36 : decode cX4_findQuestion 36 = .ok (.lcmp, 1) := by decide +kernel
theorem dX4_findQuestion_37 : decode cX4_findQuestion 37 = .ok (.ifCond .ne 6, 3) := by decide +kernel
theorem dX4_findQuestion_40 : decode cX4_findQuestion 40 = .ok (.iinc 2 1, 3) := by decide +kernel
theorem dX4_findQuestion_43 : decode cX4_findQuestion 43 = .ok (.iinc 3 1, 3) := by decide +kernel
theorem dX4_findQuestion_46 : decode cX4_findQuestion 46 = .ok (.goto (-29), 3) := by decide +kernel
theorem dX4_findQuestion_49 : decode cX4_findQuestion 49 = .ok (.iload_n 2, 1) := by decide +kernel
theorem dX4_findQuestion_50 : decode cX4_findQuestion 50 = .ok (.aload_n 0, 1) := by decide +kernel
theorem dX4_findQuestion_51 : decode cX4_findQuestion 51 = .ok (.getfield 59, 3) := by decide +kernel
theorem dX4_findQuestion_54 : decode cX4_findQuestion 54 = .ok (.iload_n 2, 1) := by decide +kernel
theorem dX4_findQuestion_55 : decode cX4_findQuestion 55 = .ok (.isub, 1) := by decide +kernel
theorem dX4_findQuestion_56 : decode cX4_findQuestion 56 = .ok (.invokestatic 89, 3) := by decide +kernel
theorem dX4_findQuestion_59 : decode cX4_findQuestion 59 = .ok (.istore_n 3, 1) := by decide +kernel
theorem dX4_findQuestion_60 : decode cX4_findQuestion 60 = .ok (.aload_n 0, 1) := by decide +kernel
theorem dX4_findQuestion_61 : decode cX4_findQuestion 61 = .ok (.getfield 86, 3) := by decide +kernel
theorem dX4_findQuestion_64 : decode cX4_findQuestion 64 = .ok (.iconst (-1), 1) := by decide +kernel
theorem dX4_findQuestion_65 : decode cX4_findQuestion 65 = .ok (.if_icmp .eq 11, 3) := by decide +kernel
theorem dX4_findQuestion_68 : decode cX4_findQuestion 68 = .ok (.iload_n 3, 1) := by decide +kernel
theorem dX4_findQuestion_69 : decode cX4_findQuestion 69 = .ok (.aload_n 0, 1) := by decide +kernel
theorem dX4_findQuestion_70 : decode cX4_findQuestion 70 = .ok (.getfield 95, 3) := by decide +kernel
theorem dX4_findQuestion_73 : decode cX4_findQuestion 73 = .ok (.if_icmp .ge 13, 3) := by decide +kernel
theorem dX4_findQuestion_76 : decode cX4_findQuestion 76 = .ok (.aload_n 0, 1) := by decide +kernel
theorem dX4_findQuestion_77 : decode cX4_findQuestion 77 = .ok (.iload_n 1, 1) := by decide +kernel
theorem dX4_findQuestion_78 : decode cX4_findQuestion 78 = .ok (.putfield 86, 3) := by decide +kernel
theorem dX4_findQuestion_81 : decode cX4_findQuestion 81 = .ok (.aload_n 0, 1) := by decide +kernel
theorem dX4_findQuestion_82 : decode cX4_findQuestion 82 = .ok (.iload_n 3, 1) := by decide +kernel
theorem dX4_findQuestion_83 : decode cX4_findQuestion 83 = .ok (.putfield 95, 3) := by decide +kernel
theorem dX4_findQuestion_86 : decode cX4_findQuestion 86 = .ok (.iinc 1 1, 3) := by decide +kernel
theorem dX4_findQuestion_89 : decode cX4_findQuestion 89 = .ok (.goto (-82), 3) := by decide +kernel
theorem dX4_findQuestion_92 : decode cX4_findQuestion 92 = .ok (.return_, 1) := by decide +kernel
theorem dX5_init_0 : decode cX5_init 0 = .ok (.aload_n 0, 1) := by decide +kernel
theorem dX5_init_1 : decode cX5_init 1 = .ok (.invokespecial 3, 3) := by decide +kernel
theorem dX5_init_4 : decode cX5_init 4 = .ok (.aload_n 0, 1) := by decide +kernel
theorem dX5_init_5 : decode cX5_init 5 = .ok (.aload_n 1, 1) := by decide +kernel
theorem dX5_init_6 : decode cX5_init 6 = .ok (.putfield 9, 3) := by decide +kernel
theorem dX5_init_9 : decode cX5_init 9 = .ok (.aload_n 0, 1) := by decide +kernel
theorem dX5_init_10 : decode cX5_init 10 = .ok (.aload_n 2, 1) := by decide +kernel
theorem dX5_init_11 : decode cX5_init 11 = .ok (.putfield 15, 3) := by decide +kernel
theorem dX5_init_14 : decode cX5_init 14 = .ok (.aload_n 0, 1) := by decide +kernel
theorem dX5_init_15 : decode cX5_init 15 = .ok (.aload_n 3, 1) := by decide +kernel
theorem dX5_init_16 : decode cX5_init 16 = .ok (.putfield 19, 3) := by decide +kernel
theorem dX5_init_19 : decode cX5_init 19 = .ok (.aload_n 0, 1) := by decide +kernel
theorem dX5_init_20 : decode cX5_init 20 = .ok (.new 23, 3) := by decide +kernel
theorem dX5_init_23 : decode cX5_init 23 = .ok (.dup, 1) := by decide +kernel
theorem dX5_init_24 : decode cX5_init 24 = .ok (.invokespecial 25, 3) := by decide +kernel
theorem dX5_init_27 : decode cX5_init 27 = .ok (.putfield 26, 3) := by decide +kernel
theorem dX5_init_30 : decode cX5_init 30 = .ok (.aload_n 0, 1) := by decide +kernel
theorem dX5_init_31 : decode cX5_init 31 = .ok (.new 23, 3) := by decide +kernel
theorem dX5_init_34 : decode cX5_init 34 = .ok (.dup, 1) := by decide +kernel
theorem dX5_init_35 : decode cX5_init 35 = .ok (.invokespecial 25, 3) := by decide +kernel
theorem dX5_init_38 : decode cX5_init 38 = .ok (.putfield 30, 3) := by decide +kernel
theorem dX5_init_41 : decode cX5_init 41 = .ok (.aload_n 0, 1) := by decide +kernel
theorem dX5_init_42 : decode cX5_init 42 = .ok (.sipush 144, 3) := by decide +kernel
theorem dX5_init_45 : decode cX5_init 45 = .ok (.newarray .int, 2) := by decide +kernel
theorem dX5_init_47 : decode cX5_init 47 = .ok (.putfield 33, 3) := by decide +kernel
theorem dX5_init_50 : decode cX5_init 50 = .ok (.aload_n 0, 1) := by decide +kernel
theorem dX5_init_51 : decode cX5_init 51 = .ok (.bipush 6, 2) := by decide +kernel
theorem dX5_init_53 : decode cX5_init 53 = .ok (.newarray .int, 2) := by decide +kernel
theorem dX5_init_55 : decode cX5_init 55 = .ok (.putfield 37, 3) := by decide +kernel
theorem dX5_init_58 : decode cX5_init 58 = .ok (.return_, 1) := by decide +kernel
theorem dX5_findHalves_0 : decode cX5_findHalves 0 = .ok (.aload_n 0, 1) := by decide +kernel
theorem dX5_findHalves_1 : decode cX5_findHalves 1 = .ok (.getfield 15, 3) := by decide +kernel
theorem dX5_findHalves_4 : decode cX5_findHalves 4 = .ok (.iload_n 1, 1) := by decide +kernel
theorem dX5_findHalves_5 : decode cX5_findHalves 5 = .ok (.invokevirtual 40, 3) := by decide +kernel
theorem dX5_findHalves_8 : decode cX5_findHalves 8 = .ok (.ifCond .ne 5, 3) := by decide +kernel
theorem dX5_findHalves_11 : decode cX5_findHalves 11 = .ok (.iconst 0, 1) := by decide +kernel
theorem dX5_findHalves_12 : decode cX5_findHalves 12 = .ok (.ireturn, 1) := by decide +kernel
theorem dX5_findHalves_13 : decode cX5_findHalves 13 = .ok (.aload_n 0, 1) := by decide +kernel
theorem dX5_findHalves_14 : decode cX5_findHalves 14 = .ok (.getfield 15, 3) := by decide +kernel
theorem dX5_findHalves_17 : decode cX5_findHalves 17 = .ok (.getfield 46, 3) := by decide +kernel
theorem dX5_findHalves_20 : decode cX5_findHalves 20 = .ok (.iload_n 1, 1) := by decide +kernel
theorem dX5_findHalves_21 : decode cX5_findHalves 21 = .ok (.aaload, 1) := by decide +kernel
theorem dX5_findHalves_22 : decode cX5_findHalves 22 = .ok (.astore 4, 2) := by decide +kernel
theorem dX5_findHalves_24 : decode cX5_findHalves 24 = .ok (.iconst 0, 1) := by decide +kernel
theorem dX5_findHalves_25 : decode cX5_findHalves 25 = .ok (.istore 5, 2) := by decide +kernel
theorem dX5_findHalves_27 : decode cX5_findHalves 27 = .ok (.iconst 0, 1) := by decide +kernel
theorem dX5_findHalves_28 : decode cX5_findHalves 28 = .ok (.istore 6, 2) := by decide +kernel
theorem dX5_findHalves_30 : decode cX5_findHalves 30 = .ok (.iload 6, 2) := by decide +kernel
theorem dX5_findHalves_32 : decode cX5_findHalves 32 = .ok (.iconst 1, 1) := by decide +kernel
theorem dX5_findHalves_33 : decode cX5_findHalves 33 = .ok (.if_icmp .gt 179, 3) := by decide +kernel
theorem dX5_findHalves_36 : decode cX5_findHalves 36 = .ok (.iconst 1, 1) := by decide +kernel
theorem dX5_findHalves_37 : decode cX5_findHalves 37 = .ok (.istore 7, 2) := by decide +kernel
theorem dX5_findHalves_39 : decode cX5_findHalves 39 = .ok (.iload 7, 2) := by decide +kernel
theorem dX5_findHalves_41 : decode cX5_findHalves 41 = .ok (.aload 4, 2) := by decide +kernel
theorem dX5_findHalves_43 : decode cX5_findHalves 43 = .ok (.iload 6, 2) := by decide +kernel
theorem dX5_findHalves_45 : decode cX5_findHalves 45 = .ok (.invokevirtual 50, 3) := by decide +kernel
theorem dX5_findHalves_48 : decode cX5_findHalves 48 = .ok (.if_icmp .ge 158, 3) := by decide +kernel
theorem dX5_findHalves_51 : decode cX5_findHalves 51 = .ok (.aload_n 0, 1) := by decide +kernel
theorem dX5_findHalves_52 : decode cX5_findHalves 52 = .ok (.getfield 26, 3) := by decide +kernel
theorem dX5_findHalves_55 : decode cX5_findHalves 55 = .ok (.aload 4, 2) := by decide +kernel
theorem dX5_findHalves_57 : decode cX5_findHalves 57 = .ok (.invokevirtual 54, 3) := by decide +kernel
theorem dX5_findHalves_60 : decode cX5_findHalves 60 = .ok (.aload_n 0, 1) := by decide +kernel
theorem dX5_findHalves_61 : decode cX5_findHalves 61 = .ok (.getfield 26, 3) := by decide +kernel
theorem dX5_findHalves_64 : decode cX5_findHalves 64 = .ok (.iload 6, 2) := by decide +kernel
theorem dX5_findHalves_66 : decode cX5_findHalves 66 = .ok (.iload 7, 2) := by decide +kernel
theorem dX5_findHalves_68 : decode cX5_findHalves 68 = .ok (.invokevirtual 58, 3) := by decide +kernel
theorem dX5_findHalves_71 : decode cX5_findHalves 71 = .ok (.aload_n 0, 1) := by decide +kernel
theorem dX5_findHalves_72 : decode cX5_findHalves 72 = .ok (.getfield 30, 3) := by decide +kernel
theorem dX5_findHalves_75 : decode cX5_findHalves 75 = .ok (.aload 4, 2) := by decide +kernel
theorem dX5_findHalves_77 : decode cX5_findHalves 77 = .ok (.invokevirtual 54, 3) := by decide +kernel
theorem dX5_findHalves_80 : decode cX5_findHalves 80 = .ok (.aload_n 0, 1) := by decide +kernel
theorem dX5_findHalves_81 : decode cX5_findHalves 81 = .ok (.getfield 30, 3) := by decide +kernel
theorem dX5_findHalves_84 : decode cX5_findHalves 84 = .ok (.iload 6, 2) := by decide +kernel
theorem dX5_findHalves_86 : decode cX5_findHalves 86 = .ok (.iload 7, 2) := by decide +kernel
theorem dX5_findHalves_88 : decode cX5_findHalves 88 = .ok (.invokevirtual 62, 3) := by decide +kernel
theorem dX5_findHalves_91 : decode cX5_findHalves 91 = .ok (.aload_n 0, 1) := by decide +kernel
theorem dX5_findHalves_92 : decode cX5_findHalves 92 = .ok (.getfield 19, 3) := by decide +kernel
theorem dX5_findHalves_95 : decode cX5_findHalves 95 = .ok (.iload_n 3, 1) := by decide +kernel
theorem dX5_findHalves_96 : decode cX5_findHalves 96 = .ok (.aload_n 0, 1) := by decide +kernel
theorem dX5_findHalves_97 : decode cX5_findHalves 97 = .ok (.getfield 30, 3) := by decide +kernel
theorem dX5_findHalves_100 : decode cX5_findHalves 100 = .ok (.invokevirtual 65, 3) := by decide +kernel
theorem dX5_findHalves_103 : decode cX5_findHalves 103 = .ok (.aload_n 0, 1) := by decide +kernel
theorem dX5_findHalves_104 : decode cX5_findHalves 104 = .ok (.getfield 19, 3) := by decide +kernel
theorem dX5_findHalves_107 : decode cX5_findHalves 107 = .ok (.iload_n 3, 1) := by decide +kernel
theorem dX5_findHalves_108 : decode cX5_findHalves 108 = .ok (.aload_n 0, 1) := by decide +kernel
theorem dX5_findHalves_109 : decode cX5_findHalves 109 = .ok (.getfield 26, 3) := by decide +kernel
theorem dX5_findHalves_112 : decode cX5_findHalves 112 = .ok (.invokevirtual 65, 3) := by decide +kernel
theorem dX5_findHalves_115 : decode cX5_findHalves 115 = .ok (.if_icmp .le 7, 3) := by decide +kernel
theorem dX5_findHalves_118 : decode cX5_findHalves 118 = .ok (.iconst 1, 1) := by decide +kernel
theorem dX5_findHalves_119 : decode cX5_findHalves 119 = .ok (.goto 4, 3) := by decide +kernel
theorem dX5_findHalves_122 : decode cX5_findHalves 122 = .ok (.iconst 0, 1) := by decide +kernel
theorem dX5_findHalves_123 : decode cX5_findHalves 123 = .ok (.istore 8, 2) := by decide +kernel
theorem dX5_findHalves_125 : decode cX5_findHalves 125 = .ok (.aload_n 0, 1) := by decide +kernel
theorem dX5_findHalves_126 : decode cX5_findHalves 126 = .ok (.getfield 19, 3) := by decide +kernel
theorem dX5_findHalves_129 : decode cX5_findHalves 129 = .ok (.iload_n 2, 1) := by decide +kernel
theorem dX5_findHalves_130 : decode cX5_findHalves 130 = .ok (.iload 8, 2) := by decide +kernel
theorem dX5_findHalves_132 : decode cX5_findHalves 132 = .ok (.ifCond .eq 10, 3) := by decide +kernel
theorem dX5_findHalves_135 : decode cX5_findHalves 135 = .ok (.aload_n 0, 1) := by decide +kernel
theorem dX5_findHalves_136 : decode cX5_findHalves 136 = .ok (.getfield 26, 3) := by decide +kernel
theorem dX5_findHalves_139 : decode cX5_findHalves 139 = .ok (.goto 7, 3) := by decide +kernel
theorem dX5_findHalves_142 : decode cX5_findHalves 142 = .ok (.aload_n 0, 1) := by decide +kernel
theorem dX5_findHalves_143 : decode cX5_findHalves 143 = .ok (.getfield 30, 3) := by decide +kernel
theorem dX5_findHalves_146 : decode cX5_findHalves 146 = .ok (.invokevirtual 65, 3) := by decide +kernel
theorem dX5_findHalves_149 : decode cX5_findHalves 149 = .ok (.istore 9, 2) := by decide +kernel
theorem dX5_findHalves_151 : decode cX5_findHalves 151 = .ok (.iload 5, 2) := by decide +kernel
theorem dX5_findHalves_153 : decode cX5_findHalves 153 = .ok (.ifCond .eq 12, 3) := by decide +kernel
theorem dX5_findHalves_156 : decode cX5_findHalves 156 = .ok (.iload 9, 2) := by decide +kernel
theorem dX5_findHalves_158 : decode cX5_findHalves 158 = .ok (.aload_n 0, 1) := by decide +kernel
theorem dX5_findHalves_159 : decode cX5_findHalves 159 = .ok (.getfield 71, 3) := by decide +kernel
theorem dX5_findHalves_162 : decode cX5_findHalves 162 = .ok (.if_icmp .le 38, 3) := by decide +kernel
theorem dX5_findHalves_165 : decode cX5_findHalves 165 = .ok (.iconst 1, 1) := by decide +kernel
theorem dX5_findHalves_166 : decode cX5_findHalves 166 = .ok (.istore 5, 2) := by decide +kernel
theorem dX5_findHalves_168 : decode cX5_findHalves 168 = .ok (.aload_n 0, 1) := by decide +kernel
theorem dX5_findHalves_169 : decode cX5_findHalves 169 = .ok (.iload 6, 2) := by decide +kernel
theorem dX5_findHalves_171 : decode cX5_findHalves 171 = .ok (.putfield 75, 3) := by decide +kernel
theorem dX5_findHalves_174 : decode cX5_findHalves 174 = .ok (.aload_n 0, 1) := by decide +kernel
theorem dX5_findHalves_175 : decode cX5_findHalves 175 = .ok (.iload 7, 2) := by decide +kernel
theorem dX5_findHalves_177 : decode cX5_findHalves 177 = .ok (.putfield 78, 3) := by decide +kernel
theorem dX5_findHalves_180 : decode cX5_findHalves 180 = .ok (.aload_n 0, 1) := by decide +kernel
theorem dX5_findHalves_181 : decode cX5_findHalves 181 = .ok (.iload 8, 2) := by decide +kernel
theorem dX5_findHalves_183 : decode cX5_findHalves 183 = .ok (.ifCond .eq 7, 3) := by decide +kernel
theorem dX5_findHalves_186 : decode cX5_findHalves 186 = .ok (.iconst 1, 1) := by decide +kernel
theorem dX5_findHalves_187 : decode cX5_findHalves 187 = .ok (.goto 4, 3) := by decide +kernel
theorem dX5_findHalves_190 : decode cX5_findHalves 190 = .ok (.iconst 0, 1) := by decide +kernel
theorem dX5_findHalves_191 : decode cX5_findHalves 191 = .ok (.putfield 81, 3) := by decide +kernel
theorem dX5_findHalves_194 : decode cX5_findHalves 194 = .ok (.aload_n 0, 1) := by decide +kernel
theorem dX5_findHalves_195 : decode cX5_findHalves 195 = .ok (.iload 9, 2) := by decide +kernel
theorem dX5_findHalves_197 : decode cX5_findHalves 197 = .ok (.putfield 71, 3) := by decide +kernel
theorem dX5_findHalves_200 : decode cX5_findHalves 200 = .ok (.iinc 7 1, 3) := by decide +kernel
theorem dX5_findHalves_203 : decode cX5_findHalves 203 = .ok (.goto (-164), 3) := by decide +kernel
theorem dX5_findHalves_206 : decode cX5_findHalves 206 = .ok (.iinc 6 1, 3) := by decide +kernel
theorem dX5_findHalves_209 : decode cX5_findHalves 209 = .ok (.goto (-179), 3) := by decide +kernel
theorem dX5_findHalves_212 : decode cX5_findHalves 212 = .ok (.iload 5, 2) := by decide +kernel
theorem dX5_findHalves_214 : decode cX5_findHalves 214 = .ok (.ireturn, 1) := by decide +kernel
theorem dX5_prepare_0 : decode cX5_prepare 0 = .ok (.aload_n 0, 1) := by decide +kernel
theorem dX5_prepare_1 : decode cX5_prepare 1 = .ok (.iconst 0, 1) := by decide +kernel
theorem dX5_prepare_2 : decode cX5_prepare 2 = .ok (.putfield 84, 3) := by decide +kernel
theorem dX5_prepare_5 : decode cX5_prepare 5 = .ok (.aload_n 0, 1) := by decide +kernel
theorem dX5_prepare_6 : decode cX5_prepare 6 = .ok (.iconst 0, 1) := by decide +kernel
theorem dX5_prepare_7 : decode cX5_prepare 7 = .ok (.putfield 87, 3) := by decide +kernel
theorem dX5_prepare_10 : decode cX5_prepare 10 = .ok (.iconst 0, 1) := by decide +kernel
theorem dX5_prepare_11 : decode cX5_prepare 11 = .ok (.istore_n 1, 1) := by decide +kernel
theorem dX5_prepare_12 : decode cX5_prepare 12 = .ok (.iload_n 1, 1) := by decide +kernel
theorem dX5_prepare_13 : decode cX5_prepare 13 = .ok (.aload_n 0, 1) := by decide +kernel
theorem dX5_prepare_14 : decode cX5_prepare 14 = .ok (.getfield 9, 3) := by decide +kernel
theorem dX5_prepare_17 : decode cX5_prepare 17 = .ok (.getfield 90, 3) := by decide +kernel
theorem dX5_prepare_20 : decode cX5_prepare 20 = .ok (.if_icmp .ge 84, 3) := by decide +kernel
theorem dX5_prepare_23 : decode cX5_prepare 23 = .ok (.aload_n 0, 1) := by decide +kernel
theorem dX5_prepare_24 : decode cX5_prepare 24 = .ok (.getfield 15, 3) := by decide +kernel
theorem dX5_prepare_27 : decode cX5_prepare 27 = .ok (.getfield 95, 3) := by decide +kernel
theorem dX5_prepare_30 : decode cX5_prepare 30 = .ok (.iload_n 1, 1) := by decide +kernel
theorem dX5_prepare_31 : decode cX5_prepare 31 = .ok (.iaload, 1) := by decide +kernel
theorem dX5_prepare_32 : decode cX5_prepare 32 = .ok (.iconst (-1), 1) := by decide +kernel
theorem dX5_prepare_33 : decode cX5_prepare 33 = .ok (.if_icmp .ne 65, 3) := by decide +kernel
theorem dX5_prepare_36 : decode cX5_prepare 36 = .ok (.aload_n 0, 1) := by decide +kernel
theorem dX5_prepare_37 : decode cX5_prepare 37 = .ok (.dup, 1) := by decide +kernel
theorem dX5_prepare_38 : decode cX5_prepare 38 = .ok (.getfield 84, 3) := by decide +kernel
theorem dX5_prepare_41 : decode cX5_prepare 41 = .ok (.iconst 1, 1) := by decide +kernel
theorem dX5_prepare_42 : decode cX5_prepare 42 = .ok (.iload_n 1, 1) := by decide +kernel
theorem dX5_prepare_43 : decode cX5_prepare 43 = .ok (.ishl, 1) := by decide +kernel
theorem dX5_prepare_44 : decode cX5_prepare 44 = .ok (.ior, 1) := by decide +kernel
theorem dX5_prepare_45 : decode cX5_prepare 45 = .ok (.putfield 84, 3) := by decide +kernel
theorem dX5_prepare_48 : decode cX5_prepare 48 = .ok (.aload_n 0, 1) := by decide +kernel
theorem dX5_prepare_49 : decode cX5_prepare 49 = .ok (.dup, 1) := by decide +kernel
theorem dX5_prepare_50 : decode cX5_prepare 50 = .ok (.getfield 87, 3) := by decide +kernel
theorem dX5_prepare_53 : decode cX5_prepare 53 = .ok (.iconst 1, 1) := by decide +kernel
theorem dX5_prepare_54 : decode cX5_prepare 54 = .ok (.iadd, 1) := by decide +kernel
theorem dX5_prepare_55 : decode cX5_prepare 55 = .ok (.putfield 87, 3) := by decide +kernel
theorem dX5_prepare_58 : decode cX5_prepare 58 = .ok (.iconst 0, 1) := by decide +kernel
theorem dX5_prepare_59 : decode cX5_prepare 59 = .ok (.istore_n 2, 1) := by decide +kernel
theorem dX5_prepare_60 : decode cX5_prepare 60 = .ok (.iload_n 2, 1) := by decide +kernel
theorem dX5_prepare_61 : decode cX5_prepare 61 = .ok (.aload_n 0, 1) := by decide +kernel
theorem dX5_prepare_62 : decode cX5_prepare 62 = .ok (.getfield 15, 3) := by decide +kernel
theorem dX5_prepare_65 : decode cX5_prepare 65 = .ok (.getfield 98, 3) := by decide +kernel
theorem dX5_prepare_68 : decode cX5_prepare 68 = .ok (.if_icmp .ge 30, 3) := by decide +kernel
theorem dX5_prepare_71 : decode cX5_prepare 71 = .ok (.aload_n 0, 1) := by decide +kernel
theorem dX5_prepare_72 : decode cX5_prepare 72 = .ok (.getfield 33, 3) := by decide +kernel
theorem dX5_prepare_75 : decode cX5_prepare 75 = .ok (.iload_n 1, 1) := by decide +kernel
theorem dX5_prepare_76 : decode cX5_prepare 76 = .ok (.bipush 24, 2) := by decide +kernel
theorem dX5_prepare_78 : decode cX5_prepare 78 = .ok (.imul, 1) := by decide +kernel
theorem dX5_prepare_79 : decode cX5_prepare 79 = .ok (.iload_n 2, 1) := by decide +kernel
theorem dX5_prepare_80 : decode cX5_prepare 80 = .ok (.iadd, 1) := by decide +kernel
theorem dX5_prepare_81 : decode cX5_prepare 81 = .ok (.aload_n 0, 1) := by decide +kernel
theorem dX5_prepare_82 : decode cX5_prepare 82 = .ok (.getfield 19, 3) := by decide +kernel
theorem dX5_prepare_85 : decode cX5_prepare 85 = .ok (.iload_n 1, 1) := by decide +kernel
theorem dX5_prepare_86 : decode cX5_prepare 86 = .ok (.iload_n 2, 1) := by decide +kernel
theorem dX5_prepare_87 : decode cX5_prepare 87 = .ok (.iconst 0, 1) := by decide +kernel
theorem dX5_prepare_88 : decode cX5_prepare 88 = .ok (.invokevirtual 101, 3) := by decide +kernel
theorem dX5_prepare_91 : decode cX5_prepare 91 = .ok (.iastore, 1) := by decide +kernel
theorem dX5_prepare_92 : decode cX5_prepare 92 = .ok (.iinc 2 1, 3) := by decide +kernel
theorem dX5_prepare_95 : decode cX5_prepare 95 = .ok (.goto (-35), 3) := by decide +kernel
theorem dX5_prepare_98 : decode cX5_prepare 98 = .ok (.iinc 1 1, 3) := by decide +kernel
theorem dX5_prepare_101 : decode cX5_prepare 101 = .ok (.goto (-89), 3) := by decide +kernel
theorem dX5_prepare_104 : decode cX5_prepare 104 = .ok (.aload_n 0, 1) := by decide +kernel
theorem dX5_prepare_105 : decode cX5_prepare 105 = .ok (.iconst 0, 1) := by decide +kernel
theorem dX5_prepare_106 : decode cX5_prepare 106 = .ok (.putfield 105, 3) := by decide +kernel
theorem dX5_prepare_109 : decode cX5_prepare 109 = .ok (.iconst 0, 1) := by decide +kernel
theorem dX5_prepare_110 : decode cX5_prepare 110 = .ok (.istore_n 1, 1) := by decide +kernel
theorem dX5_prepare_111 : decode cX5_prepare 111 = .ok (.iload_n 1, 1) := by decide +kernel
theorem dX5_prepare_112 : decode cX5_prepare 112 = .ok (.aload_n 0, 1) := by decide +kernel
theorem dX5_prepare_113 : decode cX5_prepare 113 = .ok (.getfield 15, 3) := by decide +kernel
theorem dX5_prepare_116 : decode cX5_prepare 116 = .ok (.getfield 98, 3) := by decide +kernel
theorem dX5_prepare_119 : decode cX5_prepare 119 = .ok (.if_icmp .ge 32, 3) := by decide +kernel
theorem dX5_prepare_122 : decode cX5_prepare 122 = .ok (.aload_n 0, 1) := by decide +kernel
theorem dX5_prepare_123 : decode cX5_prepare 123 = .ok (.getfield 15, 3) := by decide +kernel
theorem dX5_prepare_126 : decode cX5_prepare 126 = .ok (.iload_n 1, 1) := by decide +kernel
theorem dX5_prepare_127 : decode cX5_prepare 127 = .ok (.invokevirtual 108, 3) := by decide +kernel
theorem dX5_prepare_130 : decode cX5_prepare 130 = .ok (.ifCond .eq 15, 3) := by decide +kernel
theorem dX5_prepare_133 : decode cX5_prepare 133 = .ok (.aload_n 0, 1) := by decide +kernel
theorem dX5_prepare_134 : decode cX5_prepare 134 = .ok (.dup, 1) := by decide +kernel
theorem dX5_prepare_135 : decode cX5_prepare 135 = .ok (.getfield 105, 3) := by decide +kernel
theorem dX5_prepare_138 : decode cX5_prepare 138 = .ok (.iconst 1, 1) := by decide +kernel
theorem dX5_prepare_139 : decode cX5_prepare 139 = .ok (.iload_n 1, 1) := by decide +kernel
theorem dX5_prepare_140 : decode cX5_prepare 140 = .ok (.ishl, 1) := by decide +kernel
theorem dX5_prepare_141 : decode cX5_prepare 141 = .ok (.ior, 1) := by decide +kernel
theorem dX5_prepare_142 : decode cX5_prepare 142 = .ok (.putfield 105, 3) := by decide +kernel
theorem dX5_prepare_145 : decode cX5_prepare 145 = .ok (.iinc 1 1, 3) := by decide +kernel
theorem dX5_prepare_148 : decode cX5_prepare 148 = .ok (.goto (-37), 3) := by decide +kernel
theorem dX5_prepare_151 : decode cX5_prepare 151 = .ok (.return_, 1) := by decide +kernel
theorem dX5_pickOf_0 : decode cX5_pickOf 0 = .ok (.iconst (-1), 1) := by decide +kernel
theorem dX5_pickOf_1 : decode cX5_pickOf 1 = .ok (.istore_n 3, 1) := by decide +kernel
theorem dX5_pickOf_2 : decode cX5_pickOf 2 = .ok (.iconst 0, 1) := by decide +kernel
theorem dX5_pickOf_3 : decode cX5_pickOf 3 = .ok (.istore 4, 2) := by decide +kernel
theorem dX5_pickOf_5 : decode cX5_pickOf 5 = .ok (.iconst 0, 1) := by decide +kernel
theorem dX5_pickOf_6 : decode cX5_pickOf 6 = .ok (.istore 5, 2) := by decide +kernel
theorem dX5_pickOf_8 : decode cX5_pickOf 8 = .ok (.iload 5, 2) := by decide +kernel
theorem dX5_pickOf_10 : decode cX5_pickOf 10 = .ok (.aload_n 0, 1) := by decide +kernel
theorem dX5_pickOf_11 : decode cX5_pickOf 11 = .ok (.getfield 15, 3) := by decide +kernel
theorem dX5_pickOf_14 : decode cX5_pickOf 14 = .ok (.getfield 98, 3) := by decide +kernel
theorem dX5_pickOf_17 : decode cX5_pickOf 17 = .ok (.if_icmp .ge 52, 3) := by decide +kernel
theorem dX5_pickOf_20 : decode cX5_pickOf 20 = .ok (.iload_n 2, 1) := by decide +kernel
theorem dX5_pickOf_21 : decode cX5_pickOf 21 = .ok (.iload 5, 2) := by decide +kernel
theorem dX5_pickOf_23 : decode cX5_pickOf 23 = .ok (.ishr, 1) := by decide +kernel
theorem dX5_pickOf_24 : decode cX5_pickOf 24 = .ok (.iconst 1, 1) := by decide +kernel
theorem dX5_pickOf_25 : decode cX5_pickOf 25 = .ok (.iand, 1) := by decide +kernel
theorem dX5_pickOf_26 : decode cX5_pickOf 26 = .ok (.iconst 1, 1) := by decide +kernel
theorem dX5_pickOf_27 : decode cX5_pickOf 27 = .ok (.if_icmp .ne 36, 3) := by decide +kernel
theorem dX5_pickOf_30 : decode cX5_pickOf 30 = .ok (.aload_n 0, 1) := by decide +kernel
theorem dX5_pickOf_31 : decode cX5_pickOf 31 = .ok (.getfield 33, 3) := by decide +kernel
theorem dX5_pickOf_34 : decode cX5_pickOf 34 = .ok (.iload_n 1, 1) := by decide +kernel
theorem dX5_pickOf_35 : decode cX5_pickOf 35 = .ok (.bipush 24, 2) := by decide +kernel
theorem dX5_pickOf_37 : decode cX5_pickOf 37 = .ok (.imul, 1) := by decide +kernel
theorem dX5_pickOf_38 : decode cX5_pickOf 38 = .ok (.iload 5, 2) := by decide +kernel
theorem dX5_pickOf_40 : decode cX5_pickOf 40 = .ok (.iadd, 1) := by decide +kernel
theorem dX5_pickOf_41 : decode cX5_pickOf 41 = .ok (.iaload, 1) := by decide +kernel
theorem dX5_pickOf_42 : decode cX5_pickOf 42 = .ok (.istore 6, 2) := by decide +kernel
theorem dX5_pickOf_44 : decode cX5_pickOf 44 = .ok (.iload_n 3, 1) := by decide +kernel
theorem dX5_pickOf_45 : decode cX5_pickOf 45 = .ok (.iconst (-1), 1) := by decide +kernel
theorem dX5_pickOf_46 : decode cX5_pickOf 46 = .ok (.if_icmp .eq 10, 3) := by decide +kernel
theorem dX5_pickOf_49 : decode cX5_pickOf 49 = .ok (.iload 6, 2) := by decide +kernel
theorem dX5_pickOf_51 : decode cX5_pickOf 51 = .ok (.iload 4, 2) := by decide +kernel
theorem dX5_pickOf_53 : decode cX5_pickOf 53 = .ok (.if_icmp .le 10, 3) := by decide +kernel
theorem dX5_pickOf_56 : decode cX5_pickOf 56 = .ok (.iload 5, 2) := by decide +kernel
theorem dX5_pickOf_58 : decode cX5_pickOf 58 = .ok (.istore_n 3, 1) := by decide +kernel
theorem dX5_pickOf_59 : decode cX5_pickOf 59 = .ok (.iload 6, 2) := by decide +kernel
theorem dX5_pickOf_61 : decode cX5_pickOf 61 = .ok (.istore 4, 2) := by decide +kernel
theorem dX5_pickOf_63 : decode cX5_pickOf 63 = .ok (.iinc 5 1, 3) := by decide +kernel
theorem dX5_pickOf_66 : decode cX5_pickOf 66 = .ok (.goto (-58), 3) := by decide +kernel
theorem dX5_pickOf_69 : decode cX5_pickOf 69 = .ok (.iload_n 3, 1) := by decide +kernel
theorem dX5_pickOf_70 : decode cX5_pickOf 70 = .ok (.ireturn, 1) := by decide +kernel
theorem dX5_without_0 : decode cX5_without 0 = .ok (.iload_n 1, 1) := by decide +kernel
theorem dX5_without_1 : decode cX5_without 1 = .ok (.iconst (-1), 1) := by decide +kernel
theorem dX5_without_2 : decode cX5_without 2 = .ok (.if_icmp .ne 7, 3) := by decide +kernel
theorem dX5_without_5 : decode cX5_without 5 = .ok (.iload_n 0, 1) := by decide +kernel
theorem dX5_without_6 : decode cX5_without 6 = .ok (.goto 10, 3) := by decide +kernel
theorem dX5_without_9 : decode cX5_without 9 = .ok (.iload_n 0, 1) := by decide +kernel
theorem dX5_without_10 : decode cX5_without 10 = .ok (.iconst 1, 1) := by decide +kernel
theorem dX5_without_11 : decode cX5_without 11 = .ok (.iload_n 1, 1) := by decide +kernel
theorem dX5_without_12 : decode cX5_without 12 = .ok (.ishl, 1) := by decide +kernel
theorem dX5_without_13 : decode cX5_without 13 = .ok (.iconst (-1), 1) := by decide +kernel
theorem dX5_without_14 : decode cX5_without 14 = .ok (.ixor, 1) := by decide +kernel
theorem dX5_without_15 : decode cX5_without 15 = .ok (.iand, 1) := by decide +kernel
theorem dX5_without_16 : decode cX5_without 16 = .ok (.ireturn, 1) := by decide +kernel
theorem dX5_pickByNumber_0 : decode cX5_pickByNumber 0 = .ok (.aload_n 0, 1) := by decide +kernel
theorem dX5_pickByNumber_1 : decode cX5_pickByNumber 1 = .ok (.invokevirtual 111, 3) := by decide +kernel
theorem dX5_pickByNumber_4 : decode cX5_pickByNumber 4 = .ok (.aload_n 0, 1) := by decide +kernel
theorem dX5_pickByNumber_5 : decode cX5_pickByNumber 5 = .ok (.getfield 105, 3) := by decide +kernel
theorem dX5_pickByNumber_8 : decode cX5_pickByNumber 8 = .ok (.istore_n 2, 1) := by decide +kernel
theorem dX5_pickByNumber_9 : decode cX5_pickByNumber 9 = .ok (.iconst 0, 1) := by decide +kernel
theorem dX5_pickByNumber_10 : decode cX5_pickByNumber 10 = .ok (.istore_n 3, 1) := by decide +kernel
theorem dX5_pickByNumber_11 : decode cX5_pickByNumber 11 = .ok (.iload_n 3, 1) := by decide +kernel
theorem dX5_pickByNumber_12 : decode cX5_pickByNumber 12 = .ok (.aload_n 0, 1) := by decide +kernel
theorem dX5_pickByNumber_13 : decode cX5_pickByNumber 13 = .ok (.getfield 9, 3) := by decide +kernel
theorem dX5_pickByNumber_16 : decode cX5_pickByNumber 16 = .ok (.getfield 90, 3) := by decide +kernel
theorem dX5_pickByNumber_19 : decode cX5_pickByNumber 19 = .ok (.if_icmp .ge 60, 3) := by decide +kernel
theorem dX5_pickByNumber_22 : decode cX5_pickByNumber 22 = .ok (.iload_n 3, 1) := by decide +kernel
theorem dX5_pickByNumber_23 : decode cX5_pickByNumber 23 = .ok (.aload_n 1, 1) := by decide +kernel
theorem dX5_pickByNumber_24 : decode cX5_pickByNumber 24 = .ok (.arraylength, 1) := by decide +kernel
theorem dX5_pickByNumber_25 : decode cX5_pickByNumber 25 = .ok (.if_icmp .ge 54, 3) := by decide +kernel
theorem dX5_pickByNumber_28 : decode cX5_pickByNumber 28 = .ok (.aload_n 0, 1) := by decide +kernel
theorem dX5_pickByNumber_29 : decode cX5_pickByNumber 29 = .ok (.getfield 84, 3) := by decide +kernel
theorem dX5_pickByNumber_32 : decode cX5_pickByNumber 32 = .ok (.iload_n 3, 1) := by decide +kernel
theorem dX5_pickByNumber_33 : decode cX5_pickByNumber 33 = .ok (.ishr, 1) := by decide +kernel
theorem dX5_pickByNumber_34 : decode cX5_pickByNumber 34 = .ok (.iconst 1, 1) := by decide +kernel
theorem dX5_pickByNumber_35 : decode cX5_pickByNumber 35 = .ok (.iand, 1) := by decide +kernel
theorem dX5_pickByNumber_36 : decode cX5_pickByNumber 36 = .ok (.iconst 1, 1) := by decide +kernel
theorem dX5_pickByNumber_37 : decode cX5_pickByNumber 37 = .ok (.if_icmp .ne 7, 3) := by decide +kernel
theorem dX5_pickByNumber_40 : decode cX5_pickByNumber 40 = .ok (.iconst 1, 1) := by decide +kernel
theorem dX5_pickByNumber_41 : decode cX5_pickByNumber 41 = .ok (.goto 4, 3) := by decide +kernel
theorem dX5_pickByNumber_44 : decode cX5_pickByNumber 44 = .ok (.iconst 0, 1) := by decide +kernel
theorem dX5_pickByNumber_45 : decode cX5_pickByNumber 45 = .ok (.istore 4, 2) := by decide +kernel
theorem dX5_pickByNumber_47 : decode cX5_pickByNumber 47 = .ok (.aload_n 1, 1) := by decide +kernel
theorem dX5_pickByNumber_48 : decode cX5_pickByNumber 48 = .ok (.iload_n 3, 1) := by decide +kernel
theorem dX5_pickByNumber_49 : decode cX5_pickByNumber 49 = .ok (.iload 4, 2) := by decide +kernel
theorem dX5_pickByNumber_51 : decode cX5_pickByNumber 51 = .ok (.ifCond .eq 12, 3) := by decide +kernel
theorem dX5_pickByNumber_54 : decode cX5_pickByNumber 54 = .ok (.aload_n 0, 1) := by decide +kernel
theorem dX5_pickByNumber_55 : decode cX5_pickByNumber 55 = .ok (.iload_n 3, 1) := by decide +kernel
theorem dX5_pickByNumber_56 : decode cX5_pickByNumber 56 = .ok (.iload_n 2, 1) := by decide +kernel
theorem dX5_pickByNumber_57 : decode cX5_pickByNumber 57 = .ok (.invokevirtual 114, 3) := by decide +kernel
theorem dX5_pickByNumber_60 : decode cX5_pickByNumber 60 = .ok (.goto 4, 3) := by decide +kernel
theorem dX5_pickByNumber_63 : decode cX5_pickByNumber 63 = .ok (.iconst (-1), 1) := by decide +kernel
theorem dX5_pickByNumber_64 : decode cX5_pickByNumber 64 = .ok (.iastore, 1) := by decide +kernel
theorem dX5_pickByNumber_65 : decode cX5_pickByNumber 65 = .ok (.iload_n 2, 1) := by decide +kernel
theorem dX5_pickByNumber_66 : decode cX5_pickByNumber 66 = .ok (.aload_n 1, 1) := by decide +kernel
theorem dX5_pickByNumber_67 : decode cX5_pickByNumber 67 = .ok (.iload_n 3, 1) := by decide +kernel
theorem dX5_pickByNumber_68 : decode cX5_pickByNumber 68 = .ok (.iaload, 1) := by decide +kernel
theorem dX5_pickByNumber_69 : decode cX5_pickByNumber 69 = .ok (.invokestatic 118, 3) := by decide +kernel
theorem dX5_pickByNumber_72 : decode cX5_pickByNumber 72 = .ok (.istore_n 2, 1) := by decide +kernel
theorem dX5_pickByNumber_73 : decode cX5_pickByNumber 73 = .ok (.iinc 3 1, 3) := by decide +kernel
theorem dX5_pickByNumber_76 : decode cX5_pickByNumber 76 = .ok (.goto (-65), 3) := by decide +kernel
theorem dX5_pickByNumber_79 : decode cX5_pickByNumber 79 = .ok (.aload_n 0, 1) := by decide +kernel
theorem dX5_pickByNumber_80 : decode cX5_pickByNumber 80 = .ok (.getfield 105, 3) := by decide +kernel
theorem dX5_pickByNumber_83 : decode cX5_pickByNumber 83 = .ok (.iload_n 2, 1) := by decide +kernel
theorem dX5_pickByNumber_84 : decode cX5_pickByNumber 84 = .ok (.iconst (-1), 1) := by decide +kernel
theorem dX5_pickByNumber_85 : decode cX5_pickByNumber 85 = .ok (.ixor, 1) := by decide +kernel
theorem dX5_pickByNumber_86 : decode cX5_pickByNumber 86 = .ok (.iand, 1) := by decide +kernel
theorem dX5_pickByNumber_87 : decode cX5_pickByNumber 87 = .ok (.invokestatic 121, 3) := by decide +kernel
theorem dX5_pickByNumber_90 : decode cX5_pickByNumber 90 = .ok (.ireturn, 1) := by decide +kernel
theorem dX5_findOrder_0 : decode cX5_findOrder 0 = .ok (.aload_n 0, 1) := by decide +kernel
theorem dX5_findOrder_1 : decode cX5_findOrder 1 = .ok (.invokevirtual 111, 3) := by decide +kernel
theorem dX5_findOrder_4 : decode cX5_findOrder 4 = .ok (.aload_n 0, 1) := by decide +kernel
theorem dX5_findOrder_5 : decode cX5_findOrder 5 = .ok (.iconst 0, 1) := by decide +kernel
theorem dX5_findOrder_6 : decode cX5_findOrder 6 = .ok (.putfield 126, 3) := by decide +kernel
theorem dX5_findOrder_9 : decode cX5_findOrder 9 = .ok (.aload_n 0, 1) := by decide +kernel
theorem dX5_findOrder_10 : decode cX5_findOrder 10 = .ok (.iconst 0, 1) := by decide +kernel
theorem dX5_findOrder_11 : decode cX5_findOrder 11 = .ok (.putfield 130, 3) := by decide +kernel
theorem dX5_findOrder_14 : decode cX5_findOrder 14 = .ok (.aload_n 0, 1) := by decide +kernel
theorem dX5_findOrder_15 : decode cX5_findOrder 15 = .ok (.getfield 87, 3) := by decide +kernel
theorem dX5_findOrder_18 : decode cX5_findOrder 18 = .ok (.ifCond .le 19, 3) := by decide +kernel
theorem dX5_findOrder_21 : decode cX5_findOrder 21 = .ok (.aload_n 0, 1) := by decide +kernel
theorem dX5_findOrder_22 : decode cX5_findOrder 22 = .ok (.aload_n 1, 1) := by decide +kernel
theorem dX5_findOrder_23 : decode cX5_findOrder 23 = .ok (.iconst 0, 1) := by decide +kernel
theorem dX5_findOrder_24 : decode cX5_findOrder 24 = .ok (.aload_n 0, 1) := by decide +kernel
theorem dX5_findOrder_25 : decode cX5_findOrder 25 = .ok (.getfield 84, 3) := by decide +kernel
theorem dX5_findOrder_28 : decode cX5_findOrder 28 = .ok (.aload_n 0, 1) := by decide +kernel
theorem dX5_findOrder_29 : decode cX5_findOrder 29 = .ok (.getfield 105, 3) := by decide +kernel
theorem dX5_findOrder_32 : decode cX5_findOrder 32 = .ok (.ldc 133, 2) := by decide +kernel
theorem dX5_findOrder_34 : decode cX5_findOrder 34 = .ok (.invokevirtual 134, 3) := by decide +kernel
theorem dX5_findOrder_37 : decode cX5_findOrder 37 = .ok (.aload_n 0, 1) := by decide +kernel
theorem dX5_findOrder_38 : decode cX5_findOrder 38 = .ok (.getfield 87, 3) := by decide +kernel
theorem dX5_findOrder_41 : decode cX5_findOrder 41 = .ok (.ireturn, 1) := by decide +kernel
theorem dX5_tryOrders_0 : decode cX5_tryOrders 0 = .ok (.aload_n 0, 1) := by decide +kernel
theorem dX5_tryOrders_1 : decode cX5_tryOrders 1 = .ok (.getfield 126, 3) := by decide +kernel
theorem dX5_tryOrders_4 : decode cX5_tryOrders 4 = .ok (.ifCond .eq 12, 3) := by decide +kernel
theorem dX5_tryOrders_7 : decode cX5_tryOrders 7 = .ok (.iload 5, 2) := by decide +kernel
theorem dX5_tryOrders_9 : decode cX5_tryOrders 9 = .ok (.aload_n 0, 1) := by decide +kernel
theorem dX5_tryOrders_10 : decode cX5_tryOrders 10 = .ok (.getfield 130, 3) := by decide +kernel
theorem dX5_tryOrders_13 : decode cX5_tryOrders 13 = .ok (.if_icmp .le 11, 3) := by decide +kernel
theorem dX5_tryOrders_16 : decode cX5_tryOrders 16 = .ok (.iload_n 2, 1) := by decide +kernel
theorem dX5_tryOrders_17 : decode cX5_tryOrders 17 = .ok (.aload_n 0, 1) := by decide +kernel
theorem dX5_tryOrders_18 : decode cX5_tryOrders 18 = .ok (.getfield 87, 3) := by decide +kernel
theorem dX5_tryOrders_21 : decode cX5_tryOrders 21 = .ok (.if_icmp .le 4, 3) := by decide +kernel
theorem dX5_tryOrders_24 : decode cX5_tryOrders 24 = .ok (.return_, 1) := by decide +kernel
theorem dX5_tryOrders_25 : decode cX5_tryOrders 25 = .ok (.iload_n 2, 1) := by decide +kernel
theorem dX5_tryOrders_26 : decode cX5_tryOrders 26 = .ok (.aload_n 0, 1) := by decide +kernel
theorem dX5_tryOrders_27 : decode cX5_tryOrders 27 = .ok (.getfield 87, 3) := by decide +kernel
theorem dX5_tryOrders_30 : decode cX5_tryOrders 30 = .ok (.if_icmp .ne 51, 3) := by decide +kernel
theorem dX5_tryOrders_33 : decode cX5_tryOrders 33 = .ok (.aload_n 0, 1) := by decide +kernel
theorem dX5_tryOrders_34 : decode cX5_tryOrders 34 = .ok (.iconst 1, 1) := by decide +kernel
theorem dX5_tryOrders_35 : decode cX5_tryOrders 35 = .ok (.putfield 126, 3) := by decide +kernel
theorem dX5_tryOrders_38 : decode cX5_tryOrders 38 = .ok (.aload_n 0, 1) := by decide +kernel
theorem dX5_tryOrders_39 : decode cX5_tryOrders 39 = .ok (.iload 5, 2) := by decide +kernel
theorem dX5_tryOrders_41 : decode cX5_tryOrders 41 = .ok (.putfield 130, 3) := by decide +kernel
theorem dX5_tryOrders_44 : decode cX5_tryOrders 44 = .ok (.iconst 0, 1) := by decide +kernel
theorem dX5_tryOrders_45 : decode cX5_tryOrders 45 = .ok (.istore 6, 2) := by decide +kernel
theorem dX5_tryOrders_47 : decode cX5_tryOrders 47 = .ok (.iload 6, 2) := by decide +kernel
theorem dX5_tryOrders_49 : decode cX5_tryOrders 49 = .ok (.aload_n 0, 1) := by decide +kernel
theorem dX5_tryOrders_50 : decode cX5_tryOrders 50 = .ok (.getfield 87, 3) := by decide +kernel
theorem dX5_tryOrders_53 : decode cX5_tryOrders 53 = .ok (.if_icmp .ge 27, 3) := by decide +kernel
theorem dX5_tryOrders_56 : decode cX5_tryOrders 56 = .ok (.iload 6, 2) := by decide +kernel
theorem dX5_tryOrders_58 : decode cX5_tryOrders 58 = .ok (.aload_n 1, 1) := by decide +kernel
theorem dX5_tryOrders_59 : decode cX5_tryOrders 59 = .ok (.arraylength, 1) := by decide +kernel
theorem dX5_tryOrders_60 : decode cX5_tryOrders 60 = .ok (.if_icmp .ge 20, 3) := by decide +kernel
theorem dX5_tryOrders_63 : decode cX5_tryOrders 63 = .ok (.aload_n 1, 1) := by decide +kernel
theorem dX5_tryOrders_64 : decode cX5_tryOrders 64 = .ok (.iload 6, 2) := by decide +kernel
theorem dX5_tryOrders_66 : decode cX5_tryOrders 66 = .ok (.aload_n 0, 1) := by decide +kernel
theorem dX5_tryOrders_67 : decode cX5_tryOrders 67 = .ok (.getfield 37, 3) := by decide +kernel
theorem dX5_tryOrders_70 : decode cX5_tryOrders 70 = .ok (.iload 6, 2) := by decide +kernel
theorem dX5_tryOrders_72 : decode cX5_tryOrders 72 = .ok (.iaload, 1) := by decide +kernel
theorem dX5_tryOrders_73 : decode cX5_tryOrders 73 = .ok (.iastore, 1) := by decide +kernel
theorem dX5_tryOrders_74 : decode cX5_tryOrders 74 = .ok (.iinc 6 1, 3) := by decide +kernel
theorem dX5_tryOrders_77 : decode cX5_tryOrders 77 = .ok (.goto (-30), 3) := by decide +kernel
theorem dX5_tryOrders_80 : decode cX5_tryOrders 80 = .ok (.return_, 1) := by decide +kernel
theorem dX5_tryOrders_81 : decode cX5_tryOrders 81 = .ok (.iconst 0, 1) := by decide +kernel
theorem dX5_tryOrders_82 : decode cX5_tryOrders 82 = .ok (.istore 6, 2) := by decide +kernel
theorem dX5_tryOrders_84 : decode cX5_tryOrders 84 = .ok (.iload 6, 2) := by decide +kernel
theorem dX5_tryOrders_86 : decode cX5_tryOrders 86 = .ok (.aload_n 0, 1) := by decide +kernel
theorem dX5_tryOrders_87 : decode cX5_tryOrders 87 = .ok (.getfield 9, 3) := by decide +kernel
theorem dX5_tryOrders_90 : decode cX5_tryOrders 90 = .ok (.getfield 90, 3) := by decide +kernel
theorem dX5_tryOrders_93 : decode cX5_tryOrders 93 = .ok (.if_icmp .ge 101, 3) := by decide +kernel
theorem dX5_tryOrders_96 : decode cX5_tryOrders 96 = .ok (.iload_n 3, 1) := by decide +kernel
theorem dX5_tryOrders_97 : decode cX5_tryOrders 97 = .ok (.iload 6, 2) := by decide +kernel
theorem dX5_tryOrders_99 : decode cX5_tryOrders 99 = .ok (.ishr, 1) := by decide +kernel
theorem dX5_tryOrders_100 : decode cX5_tryOrders 100 = .ok (.iconst 1, 1) := by decide +kernel
theorem dX5_tryOrders_101 : decode cX5_tryOrders 101 = .ok (.iand, 1) := by decide +kernel
theorem dX5_tryOrders_102 : decode cX5_tryOrders 102 = .ok (.iconst 1, 1) := by decide +kernel
theorem dX5_tryOrders_103 : decode cX5_tryOrders 103 = .ok (.if_icmp .ne 85, 3) := by decide +kernel
theorem dX5_tryOrders_106 : decode cX5_tryOrders 106 = .ok (.iload_n 2, 1) := by decide +kernel
theorem dX5_tryOrders_107 : decode cX5_tryOrders 107 = .ok (.aload_n 0, 1) := by decide +kernel
theorem dX5_tryOrders_108 : decode cX5_tryOrders 108 = .ok (.getfield 37, 3) := by decide +kernel
theorem dX5_tryOrders_111 : decode cX5_tryOrders 111 = .ok (.arraylength, 1) := by decide +kernel
theorem dX5_tryOrders_112 : decode cX5_tryOrders 112 = .ok (.if_icmp .ge 76, 3) := by decide +kernel
theorem dX5_tryOrders_115 : decode cX5_tryOrders 115 = .ok (.aload_n 0, 1) := by decide +kernel
theorem dX5_tryOrders_116 : decode cX5_tryOrders 116 = .ok (.iload 6, 2) := by decide +kernel
theorem dX5_tryOrders_118 : decode cX5_tryOrders 118 = .ok (.iload 4, 2) := by decide +kernel
theorem dX5_tryOrders_120 : decode cX5_tryOrders 120 = .ok (.invokevirtual 114, 3) := by decide +kernel
theorem dX5_tryOrders_123 : decode cX5_tryOrders 123 = .ok (.istore 7, 2) := by decide +kernel
theorem dX5_tryOrders_125 : decode cX5_tryOrders 125 = .ok (.iload 7, 2) := by decide +kernel
theorem dX5_tryOrders_127 : decode cX5_tryOrders 127 = .ok (.iconst (-1), 1) := by decide +kernel
theorem dX5_tryOrders_128 : decode cX5_tryOrders 128 = .ok (.if_icmp .ne 7, 3) := by decide +kernel
theorem dX5_tryOrders_131 : decode cX5_tryOrders 131 = .ok (.iconst 0, 1) := by decide +kernel
theorem dX5_tryOrders_132 : decode cX5_tryOrders 132 = .ok (.goto 16, 3) := by decide +kernel
theorem dX5_tryOrders_135 : decode cX5_tryOrders 135 = .ok (.aload_n 0, 1) := by decide +kernel
theorem dX5_tryOrders_136 : decode cX5_tryOrders 136 = .ok (.getfield 33, 3) := by decide +kernel
theorem dX5_tryOrders_139 : decode cX5_tryOrders 139 = .ok (.iload 6, 2) := by decide +kernel
theorem dX5_tryOrders_141 : decode cX5_tryOrders 141 = .ok (.bipush 24, 2) := by decide +kernel
theorem dX5_tryOrders_143 : decode cX5_tryOrders 143 = .ok (.imul, 1) := by decide +kernel
theorem dX5_tryOrders_144 : decode cX5_tryOrders 144 = .ok (.iload 7, 2) := by decide +kernel
theorem dX5_tryOrders_146 : decode cX5_tryOrders 146 = .ok (.iadd, 1) := by decide +kernel
theorem dX5_tryOrders_147 : decode cX5_tryOrders 147 = .ok (.iaload, 1) := by decide +kernel
theorem dX5_tryOrders_148 : decode cX5_tryOrders 148 = .ok (.istore 8, 2) := by decide +kernel
theorem dX5_tryOrders_150 : decode cX5_tryOrders 150 = .ok (.aload_n 0, 1) := by decide +kernel
theorem dX5_tryOrders_151 : decode cX5_tryOrders 151 = .ok (.getfield 37, 3) := by decide +kernel
theorem dX5_tryOrders_154 : decode cX5_tryOrders 154 = .ok (.iload_n 2, 1) := by decide +kernel
theorem dX5_tryOrders_155 : decode cX5_tryOrders 155 = .ok (.iload 6, 2) := by decide +kernel
theorem dX5_tryOrders_157 : decode cX5_tryOrders 157 = .ok (.iastore, 1) := by decide +kernel
theorem dX5_tryOrders_158 : decode cX5_tryOrders 158 = .ok (.aload_n 0, 1) := by decide +kernel
theorem dX5_tryOrders_159 : decode cX5_tryOrders 159 = .ok (.aload_n 1, 1) := by decide +kernel
theorem dX5_tryOrders_160 : decode cX5_tryOrders 160 = .ok (.iload_n 2, 1) := by decide +kernel
theorem dX5_tryOrders_161 : decode cX5_tryOrders 161 = .ok (.iconst 1, 1) := by decide +kernel
theorem dX5_tryOrders_162 : decode cX5_tryOrders 162 = .ok (.iadd, 1) := by decide +kernel
theorem dX5_tryOrders_163 : decode cX5_tryOrders 163 = .ok (.iload_n 3, 1) := by decide +kernel
theorem dX5_tryOrders_164 : decode cX5_tryOrders 164 = .ok (.iconst 1, 1) := by decide +kernel
theorem dX5_tryOrders_165 : decode cX5_tryOrders 165 = .ok (.iload 6, 2) := by decide +kernel
theorem dX5_tryOrders_167 : decode cX5_tryOrders 167 = .ok (.ishl, 1) := by decide +kernel
theorem dX5_tryOrders_168 : decode cX5_tryOrders 168 = .ok (.iconst (-1), 1) := by decide +kernel
theorem dX5_tryOrders_169 : decode cX5_tryOrders 169 = .ok (.ixor, 1) := by decide +kernel
theorem dX5_tryOrders_170 : decode cX5_tryOrders 170 = .ok (.iand, 1) := by decide +kernel
theorem dX5_tryOrders_171 : decode cX5_tryOrders 171 = .ok (.iload 4, 2) := by decide +kernel
theorem dX5_tryOrders_173 : decode cX5_tryOrders 173 = .ok (.iload 7, 2) := by decide +kernel
theorem dX5_tryOrders_175 : decode cX5_tryOrders 175 = .ok (.invokestatic 118, 3) := by decide +kernel
theorem dX5_tryOrders_178 : decode cX5_tryOrders 178 = .ok (.iload 5, 2) := by decide +kernel
theorem dX5_tryOrders_180 : decode cX5_tryOrders 180 = .ok (.iload 8, 2) := by decide +kernel
theorem dX5_tryOrders_182 : decode cX5_tryOrders 182 = .ok (.invokestatic 138, 3) := by decide +kernel
theorem dX5_tryOrders_185 : decode cX5_tryOrders 185 = .ok (.invokevirtual 134, 3) := by decide +kernel
theorem dX5_tryOrders_188 : decode cX5_tryOrders 188 = .ok (.iinc 6 1, 3) := by decide +kernel
theorem dX5_tryOrders_191 : decode cX5_tryOrders 191 = .ok (.goto (-107), 3) := by decide +kernel
theorem dX5_tryOrders_194 : decode cX5_tryOrders 194 = .ok (.return_, 1) := by decide +kernel
theorem dX6_init_0 : decode cX6_init 0 = .ok (.aload_n 0, 1) := by decide +kernel
theorem dX6_init_1 : decode cX6_init 1 = .ok (.invokespecial 3, 3) := by decide +kernel
theorem dX6_init_4 : decode cX6_init 4 = .ok (.aload_n 0, 1) := by decide +kernel
theorem dX6_init_5 : decode cX6_init 5 = .ok (.aload_n 1, 1) := by decide +kernel
theorem dX6_init_6 : decode cX6_init 6 = .ok (.putfield 9, 3) := by decide +kernel
theorem dX6_init_9 : decode cX6_init 9 = .ok (.aload_n 0, 1) := by decide +kernel
theorem dX6_init_10 : decode cX6_init 10 = .ok (.aload_n 2, 1) := by decide +kernel
theorem dX6_init_11 : decode cX6_init 11 = .ok (.putfield 15, 3) := by decide +kernel
theorem dX6_init_14 : decode cX6_init 14 = .ok (.aload_n 0, 1) := by decide +kernel
theorem dX6_init_15 : decode cX6_init 15 = .ok (.bipush 19, 2) := by decide +kernel
theorem dX6_init_17 : decode cX6_init 17 = .ok (.newarray .long, 2) := by decide +kernel
theorem dX6_init_19 : decode cX6_init 19 = .ok (.putfield 19, 3) := by decide +kernel
theorem dX6_init_22 : decode cX6_init 22 = .ok (.iconst 0, 1) := by decide +kernel
theorem dX6_init_23 : decode cX6_init 23 = .ok (.istore_n 3, 1) := by decide +kernel
theorem dX6_init_24 : decode cX6_init 24 = .ok (.iconst 0, 1) := by decide +kernel
theorem dX6_init_25 : decode cX6_init 25 = .ok (.istore 4, 2) := by decide +kernel
theorem dX6_init_27 : decode cX6_init 27 = .ok (.iload 4, 2) := by decide +kernel
theorem dX6_init_29 : decode cX6_init 29 = .ok (.ldc 23, 2) := by decide +kernel
theorem dX6_init_31 : decode cX6_init 31 = .ok (.invokevirtual 25, 3) := by decide +kernel
theorem dX6_init_34 : decode cX6_init 34 = .ok (.if_icmp .ge 54, 3) := by decide +kernel
theorem dX6_init_37 : decode cX6_init 37 = .ok (.iload_n 3, 1) := by decide +kernel
theorem dX6_init_38 : decode cX6_init 38 = .ok (.bipush 19, 2) := by decide +kernel
theorem dX6_init_40 : decode cX6_init 40 = .ok (.if_icmp .ge 48, 3) := by decide +kernel
theorem dX6_init_43 : decode cX6_init 43 = .ok (.ldc 23, 2) := by decide +kernel
theorem dX6_init_45 : decode cX6_init 45 = .ok (.iload 4, 2) := by decide +kernel
theorem dX6_init_47 : decode cX6_init 47 = .ok (.invokevirtual 31, 3) := by decide +kernel
theorem dX6_init_50 : decode cX6_init 50 = .ok (.istore 5, 2) := by decide +kernel
theorem dX6_init_52 : decode cX6_init 52 = .ok (.iload 5, 2) := by decide +kernel
theorem dX6_init_54 : decode cX6_init 54 = .ok (.bipush 32, 2) := by decide +kernel
theorem dX6_init_56 : decode cX6_init 56 = .ok (.if_icmp .ne 9, 3) := by decide +kernel
theorem dX6_init_59 : decode cX6_init 59 = .ok (.iinc 3 1, 3) := by decide +kernel
theorem dX6_init_62 : decode cX6_init 62 = .ok (.goto 20, 3) := by decide +kernel
theorem dX6_init_65 : decode cX6_init 65 = .ok (.aload_n 0, 1) := by decide +kernel
theorem dX6_init_66 : decode cX6_init 66 = .ok (.getfield 19, 3) := by decide +kernel
theorem dX6_init_69 : decode cX6_init 69 = .ok (.iload_n 3, 1) := by decide +kernel
theorem dX6_init_70 : decode cX6_init 70 = .ok (.aload_n 0, 1) := by decide +kernel
theorem dX6_init_71 : decode cX6_init 71 = .ok (.getfield 19, 3) := by decide +kernel
theorem dX6_init_74 : decode cX6_init 74 = .ok (.iload_n 3, 1) := by decide +kernel
theorem dX6_init_75 : decode cX6_init 75 = .ok (.laload, 1) := by decide +kernel
theorem dX6_init_76 : decode cX6_init 76 = .ok (.iload 5, 2) := by decide +kernel
theorem dX6_init_78 : decode cX6_init 78 = .ok (.invokestatic 35, 3) := by decide +kernel
theorem dX6_init_81 : decode cX6_init 81 = .ok (.lastore, 1) := by decide +kernel
theorem dX6_init_82 : decode cX6_init 82 = .ok (.iinc 4 1, 3) := by decide +kernel
theorem dX6_init_85 : decode cX6_init 85 = .ok (.goto (-58), 3) := by decide +kernel
theorem dX6_init_88 : decode cX6_init 88 = .ok (.aload_n 0, 1) := by decide +kernel
theorem dX6_init_89 : decode cX6_init 89 = .ok (.iconst (-1), 1) := by decide +kernel
theorem dX6_init_90 : decode cX6_init 90 = .ok (.putfield 39, 3) := by decide +kernel
theorem dX6_init_93 : decode cX6_init 93 = .ok (.return_, 1) := by decide +kernel
theorem dX6_withLetter_0 : decode cX6_withLetter 0 = .ok (.lload_n 0, 1) := by decide +kernel
theorem dX6_withLetter_1 : decode cX6_withLetter 1 = .ok (.ldc2_w 43, 3) := by decide +kernel
theorem dX6_withLetter_4 : decode cX6_withLetter 4 = .ok (.lmul, 1) := by decide +kernel
theorem dX6_withLetter_5 : decode cX6_withLetter 5 = .ok (.iload_n 2, 1) := by decide +kernel
theorem dX6_withLetter_6 : decode cX6_withLetter 6 = .ok (.bipush 97, 2) := by decide +kernel
theorem dX6_withLetter_8 : decode cX6_withLetter 8 = .ok (.isub, 1) := by decide +kernel
theorem dX6_withLetter_9 : decode cX6_withLetter 9 = .ok (.iconst 1, 1) := by decide +kernel
theorem dX6_withLetter_10 : decode cX6_withLetter 10 = .ok (.iadd, 1) := by decide +kernel
theorem dX6_withLetter_11 : decode cX6_withLetter 11 = .ok (.i2l, 1) := by decide +kernel
theorem dX6_withLetter_12 : decode cX6_withLetter 12 = .ok (.ladd, 1) := by decide +kernel
theorem dX6_withLetter_13 : decode cX6_withLetter 13 = .ok (.lreturn, 1) := by decide +kernel
theorem dX6_readAll_0 : decode cX6_readAll 0 = .ok (.aload_n 0, 1) := by decide +kernel
theorem dX6_readAll_1 : decode cX6_readAll 1 = .ok (.iload_n 1, 1) := by decide +kernel
theorem dX6_readAll_2 : decode cX6_readAll 2 = .ok (.aload_n 0, 1) := by decide +kernel
theorem dX6_readAll_3 : decode cX6_readAll 3 = .ok (.getfield 9, 3) := by decide +kernel
theorem dX6_readAll_6 : decode cX6_readAll 6 = .ok (.arraylength, 1) := by decide +kernel
theorem dX6_readAll_7 : decode cX6_readAll 7 = .ok (.invokestatic 45, 3) := by decide +kernel
theorem dX6_readAll_10 : decode cX6_readAll 10 = .ok (.putfield 51, 3) := by decide +kernel
theorem dX6_readAll_13 : decode cX6_readAll 13 = .ok (.aload_n 0, 1) := by decide +kernel
theorem dX6_readAll_14 : decode cX6_readAll 14 = .ok (.iconst 0, 1) := by decide +kernel
theorem dX6_readAll_15 : decode cX6_readAll 15 = .ok (.putfield 53, 3) := by decide +kernel
theorem dX6_readAll_18 : decode cX6_readAll 18 = .ok (.aload_n 0, 1) := by decide +kernel
theorem dX6_readAll_19 : decode cX6_readAll 19 = .ok (.iconst 0, 1) := by decide +kernel
theorem dX6_readAll_20 : decode cX6_readAll 20 = .ok (.putfield 56, 3) := by decide +kernel
theorem dX6_readAll_23 : decode cX6_readAll 23 = .ok (.aload_n 0, 1) := by decide +kernel
theorem dX6_readAll_24 : decode cX6_readAll 24 = .ok (.iconst (-1), 1) := by decide +kernel
theorem dX6_readAll_25 : decode cX6_readAll 25 = .ok (.putfield 39, 3) := by decide +kernel
theorem dX6_readAll_28 : decode cX6_readAll 28 = .ok (.aload_n 0, 1) := by decide +kernel
theorem dX6_readAll_29 : decode cX6_readAll 29 = .ok (.getfield 15, 3) := by decide +kernel
theorem dX6_readAll_32 : decode cX6_readAll 32 = .ok (.invokevirtual 59, 3) := by decide +kernel
theorem dX6_readAll_35 : decode cX6_readAll 35 = .ok (.aload_n 0, 1) := by decide +kernel
theorem dX6_readAll_36 : decode cX6_readAll 36 = .ok (.invokevirtual 64, 3) := by decide +kernel
theorem dX6_readAll_39 : decode cX6_readAll 39 = .ok (.iconst 0, 1) := by decide +kernel
theorem dX6_readAll_40 : decode cX6_readAll 40 = .ok (.istore_n 2, 1) := by decide +kernel
theorem dX6_readAll_41 : decode cX6_readAll 41 = .ok (.iload_n 2, 1) := by decide +kernel
theorem dX6_readAll_42 : decode cX6_readAll 42 = .ok (.sipush 1600, 3) := by decide +kernel
theorem dX6_readAll_45 : decode cX6_readAll 45 = .ok (.if_icmp .ge 27, 3) := by decide +kernel
theorem dX6_readAll_48 : decode cX6_readAll 48 = .ok (.aload_n 0, 1) := by decide +kernel
theorem dX6_readAll_49 : decode cX6_readAll 49 = .ok (.getfield 56, 3) := by decide +kernel
theorem dX6_readAll_52 : decode cX6_readAll 52 = .ok (.ifCond .ne 20, 3) := by decide +kernel
theorem dX6_readAll_55 : decode cX6_readAll 55 = .ok (.aload_n 0, 1) := by decide +kernel
theorem dX6_readAll_56 : decode cX6_readAll 56 = .ok (.getfield 67, 3) := by decide +kernel
theorem dX6_readAll_59 : decode cX6_readAll 59 = .ok (.ifCond .eq 13, 3) := by decide +kernel
theorem dX6_readAll_62 : decode cX6_readAll 62 = .ok (.aload_n 0, 1) := by decide +kernel
theorem dX6_readAll_63 : decode cX6_readAll 63 = .ok (.invokevirtual 70, 3) := by decide +kernel
theorem dX6_readAll_66 : decode cX6_readAll 66 = .ok (.iinc 2 1, 3) := by decide +kernel
theorem dX6_readAll_69 : decode cX6_readAll 69 = .ok (.goto (-28), 3) := by decide +kernel
theorem dX6_readAll_72 : decode cX6_readAll 72 = .ok (.aload_n 0, 1) := by decide +kernel
theorem dX6_readAll_73 : decode cX6_readAll 73 = .ok (.getfield 56, 3) := by decide +kernel
theorem dX6_readAll_76 : decode cX6_readAll 76 = .ok (.ifCond .ne 7, 3) := by decide +kernel
theorem dX6_readAll_79 : decode cX6_readAll 79 = .ok (.iconst 1, 1) := by decide +kernel
theorem dX6_readAll_80 : decode cX6_readAll 80 = .ok (.goto 4, 3) := by decide +kernel
theorem dX6_readAll_83 : decode cX6_readAll 83 = .ok (.iconst 0, 1) := by decide +kernel
theorem dX6_readAll_84 : decode cX6_readAll 84 = .ok (.ireturn, 1) := by decide +kernel
theorem dX6_line_0 : decode cX6_line 0 = .ok (.aload_n 0, 1) := by decide +kernel
theorem dX6_line_1 : decode cX6_line 1 = .ok (.getfield 67, 3) := by decide +kernel
theorem dX6_line_4 : decode cX6_line 4 = .ok (.iconst 1, 1) := by decide +kernel
theorem dX6_line_5 : decode cX6_line 5 = .ok (.if_icmp .ne 10, 3) := by decide +kernel
theorem dX6_line_8 : decode cX6_line 8 = .ok (.aload_n 0, 1) := by decide +kernel
theorem dX6_line_9 : decode cX6_line 9 = .ok (.getfield 73, 3) := by decide +kernel
theorem dX6_line_12 : decode cX6_line 12 = .ok (.goto 4, 3) := by decide +kernel
theorem dX6_line_15 : decode cX6_line 15 = .ok (.iconst (-1), 1) := by decide +kernel
theorem dX6_line_16 : decode cX6_line 16 = .ok (.tableswitch 116 0 10 #[60, 116, 116, 67, 116, 116, 116, 74, 88, 102, 109], 60) := by decide +kernel
theorem dX6_line_76 : decode cX6_line 76 = .ok (.aload_n 0, 1) := by decide +kernel
theorem dX6_line_77 : decode cX6_line 77 = .ok (.invokevirtual 76, 3) := by decide +kernel
theorem dX6_line_80 : decode cX6_line 80 = .ok (.goto 56, 3) := by decide +kernel
theorem dX6_line_83 : decode cX6_line 83 = .ok (.aload_n 0, 1) := by decide +kernel
theorem dX6_line_84 : decode cX6_line 84 = .ok (.invokevirtual 79, 3) := by decide +kernel
theorem dX6_line_87 : decode cX6_line 87 = .ok (.goto 49, 3) := by decide +kernel
theorem dX6_line_90 : decode cX6_line 90 = .ok (.aload_n 0, 1) := by decide +kernel
theorem dX6_line_91 : decode cX6_line 91 = .ok (.aload_n 0, 1) := by decide +kernel
theorem dX6_line_92 : decode cX6_line 92 = .ok (.getfield 15, 3) := by decide +kernel
theorem dX6_line_95 : decode cX6_line 95 = .ok (.getfield 82, 3) := by decide +kernel
theorem dX6_line_98 : decode cX6_line 98 = .ok (.invokevirtual 86, 3) := by decide +kernel
theorem dX6_line_101 : decode cX6_line 101 = .ok (.goto 35, 3) := by decide +kernel
theorem dX6_line_104 : decode cX6_line 104 = .ok (.aload_n 0, 1) := by decide +kernel
theorem dX6_line_105 : decode cX6_line 105 = .ok (.aload_n 0, 1) := by decide +kernel
theorem dX6_line_106 : decode cX6_line 106 = .ok (.getfield 15, 3) := by decide +kernel
theorem dX6_line_109 : decode cX6_line 109 = .ok (.getfield 90, 3) := by decide +kernel
theorem dX6_line_112 : decode cX6_line 112 = .ok (.invokevirtual 86, 3) := by decide +kernel
theorem dX6_line_115 : decode cX6_line 115 = .ok (.goto 21, 3) := by decide +kernel
theorem dX6_line_118 : decode cX6_line 118 = .ok (.aload_n 0, 1) := by decide +kernel
theorem dX6_line_119 : decode cX6_line 119 = .ok (.invokevirtual 93, 3) := by decide +kernel
theorem dX6_line_122 : decode cX6_line 122 = .ok (.goto 14, 3) := by decide +kernel
theorem dX6_line_125 : decode cX6_line 125 = .ok (.aload_n 0, 1) := by decide +kernel
theorem dX6_line_126 : decode cX6_line 126 = .ok (.invokevirtual 96, 3) := by decide +kernel
theorem dX6_line_129 : decode cX6_line 129 = .ok (.goto 7, 3) := by decide +kernel
theorem dX6_line_132 : decode cX6_line 132 = .ok (.aload_n 0, 1) := by decide +kernel
theorem dX6_line_133 : decode cX6_line 133 = .ok (.invokevirtual 99, 3) := by decide +kernel
theorem dX6_line_136 : decode cX6_line 136 = .ok (.return_, 1) := by decide +kernel
theorem dX6_tierLine_0 : decode cX6_tierLine 0 = .ok (.aload_n 0, 1) := by decide +kernel
theorem dX6_tierLine_1 : decode cX6_tierLine 1 = .ok (.getfield 15, 3) := by decide +kernel
theorem dX6_tierLine_4 : decode cX6_tierLine 4 = .ok (.getfield 102, 3) := by decide +kernel
theorem dX6_tierLine_7 : decode cX6_tierLine 7 = .ok (.iconst 3, 1) := by decide +kernel
theorem dX6_tierLine_8 : decode cX6_tierLine 8 = .ok (.if_icmp .lt 8, 3) := by decide +kernel
theorem dX6_tierLine_11 : decode cX6_tierLine 11 = .ok (.aload_n 0, 1) := by decide +kernel
theorem dX6_tierLine_12 : decode cX6_tierLine 12 = .ok (.invokevirtual 99, 3) := by decide +kernel
theorem dX6_tierLine_15 : decode cX6_tierLine 15 = .ok (.return_, 1) := by decide +kernel
theorem dX6_tierLine_16 : decode cX6_tierLine 16 = .ok (.aload_n 0, 1) := by decide +kernel
theorem dX6_tierLine_17 : decode cX6_tierLine 17 = .ok (.invokevirtual 64, 3) := by decide +kernel
theorem dX6_tierLine_20 : decode cX6_tierLine 20 = .ok (.aload_n 0, 1) := by decide +kernel
theorem dX6_tierLine_21 : decode cX6_tierLine 21 = .ok (.aload_n 0, 1) := by decide +kernel
theorem dX6_tierLine_22 : decode cX6_tierLine 22 = .ok (.getfield 15, 3) := by decide +kernel
theorem dX6_tierLine_25 : decode cX6_tierLine 25 = .ok (.getfield 105, 3) := by decide +kernel
theorem dX6_tierLine_28 : decode cX6_tierLine 28 = .ok (.aload_n 0, 1) := by decide +kernel
theorem dX6_tierLine_29 : decode cX6_tierLine 29 = .ok (.getfield 15, 3) := by decide +kernel
theorem dX6_tierLine_32 : decode cX6_tierLine 32 = .ok (.getfield 102, 3) := by decide +kernel
theorem dX6_tierLine_35 : decode cX6_tierLine 35 = .ok (.invokevirtual 108, 3) := by decide +kernel
theorem dX6_tierLine_38 : decode cX6_tierLine 38 = .ok (.aload_n 0, 1) := by decide +kernel
theorem dX6_tierLine_39 : decode cX6_tierLine 39 = .ok (.iconst 1, 1) := by decide +kernel
theorem dX6_tierLine_40 : decode cX6_tierLine 40 = .ok (.bipush 8, 2) := by decide +kernel
theorem dX6_tierLine_42 : decode cX6_tierLine 42 = .ok (.invokevirtual 112, 3) := by decide +kernel
theorem dX6_tierLine_45 : decode cX6_tierLine 45 = .ok (.istore_n 1, 1) := by decide +kernel
theorem dX6_tierLine_46 : decode cX6_tierLine 46 = .ok (.aload_n 0, 1) := by decide +kernel
theorem dX6_tierLine_47 : decode cX6_tierLine 47 = .ok (.iconst 1, 1) := by decide +kernel
theorem dX6_tierLine_48 : decode cX6_tierLine 48 = .ok (.invokevirtual 115, 3) := by decide +kernel
theorem dX6_tierLine_51 : decode cX6_tierLine 51 = .ok (.aload_n 0, 1) := by decide +kernel
theorem dX6_tierLine_52 : decode cX6_tierLine 52 = .ok (.iconst 1, 1) := by decide +kernel
theorem dX6_tierLine_53 : decode cX6_tierLine 53 = .ok (.bipush 8, 2) := by decide +kernel
theorem dX6_tierLine_55 : decode cX6_tierLine 55 = .ok (.invokevirtual 112, 3) := by decide +kernel
theorem dX6_tierLine_58 : decode cX6_tierLine 58 = .ok (.istore_n 2, 1) := by decide +kernel
theorem dX6_tierLine_59 : decode cX6_tierLine 59 = .ok (.aload_n 0, 1) := by decide +kernel
theorem dX6_tierLine_60 : decode cX6_tierLine 60 = .ok (.iconst 2, 1) := by decide +kernel
theorem dX6_tierLine_61 : decode cX6_tierLine 61 = .ok (.invokevirtual 115, 3) := by decide +kernel
theorem dX6_tierLine_64 : decode cX6_tierLine 64 = .ok (.aload_n 0, 1) := by decide +kernel
theorem dX6_tierLine_65 : decode cX6_tierLine 65 = .ok (.iconst 1, 1) := by decide +kernel
theorem dX6_tierLine_66 : decode cX6_tierLine 66 = .ok (.bipush 9, 2) := by decide +kernel
theorem dX6_tierLine_68 : decode cX6_tierLine 68 = .ok (.invokevirtual 112, 3) := by decide +kernel
theorem dX6_tierLine_71 : decode cX6_tierLine 71 = .ok (.istore_n 3, 1) := by decide +kernel
theorem dX6_tierLine_72 : decode cX6_tierLine 72 = .ok (.aload_n 0, 1) := by decide +kernel
theorem dX6_tierLine_73 : decode cX6_tierLine 73 = .ok (.bipush 59, 2) := by decide +kernel
theorem dX6_tierLine_75 : decode cX6_tierLine 75 = .ok (.invokevirtual 119, 3) := by decide +kernel
theorem dX6_tierLine_78 : decode cX6_tierLine 78 = .ok (.aload_n 0, 1) := by decide +kernel
theorem dX6_tierLine_79 : decode cX6_tierLine 79 = .ok (.getfield 15, 3) := by decide +kernel
theorem dX6_tierLine_82 : decode cX6_tierLine 82 = .ok (.iload_n 1, 1) := by decide +kernel
theorem dX6_tierLine_83 : decode cX6_tierLine 83 = .ok (.iload_n 2, 1) := by decide +kernel
theorem dX6_tierLine_84 : decode cX6_tierLine 84 = .ok (.iload_n 3, 1) := by decide +kernel
theorem dX6_tierLine_85 : decode cX6_tierLine 85 = .ok (.invokevirtual 122, 3) := by decide +kernel
theorem dX6_tierLine_88 : decode cX6_tierLine 88 = .ok (.return_, 1) := by decide +kernel
theorem dX6_guestLine_0 : decode cX6_guestLine 0 = .ok (.aload_n 0, 1) := by decide +kernel
theorem dX6_guestLine_1 : decode cX6_guestLine 1 = .ok (.getfield 15, 3) := by decide +kernel
theorem dX6_guestLine_4 : decode cX6_guestLine 4 = .ok (.getfield 126, 3) := by decide +kernel
theorem dX6_guestLine_7 : decode cX6_guestLine 7 = .ok (.bipush 6, 2) := by decide +kernel
theorem dX6_guestLine_9 : decode cX6_guestLine 9 = .ok (.if_icmp .lt 8, 3) := by decide +kernel
theorem dX6_guestLine_12 : decode cX6_guestLine 12 = .ok (.aload_n 0, 1) := by decide +kernel
theorem dX6_guestLine_13 : decode cX6_guestLine 13 = .ok (.invokevirtual 99, 3) := by decide +kernel
theorem dX6_guestLine_16 : decode cX6_guestLine 16 = .ok (.return_, 1) := by decide +kernel
theorem dX6_guestLine_17 : decode cX6_guestLine 17 = .ok (.aload_n 0, 1) := by decide +kernel
theorem dX6_guestLine_18 : decode cX6_guestLine 18 = .ok (.invokevirtual 64, 3) := by decide +kernel
theorem dX6_guestLine_21 : decode cX6_guestLine 21 = .ok (.aload_n 0, 1) := by decide +kernel
theorem dX6_guestLine_22 : decode cX6_guestLine 22 = .ok (.aload_n 0, 1) := by decide +kernel
theorem dX6_guestLine_23 : decode cX6_guestLine 23 = .ok (.getfield 15, 3) := by decide +kernel
theorem dX6_guestLine_26 : decode cX6_guestLine 26 = .ok (.getfield 129, 3) := by decide +kernel
theorem dX6_guestLine_29 : decode cX6_guestLine 29 = .ok (.aload_n 0, 1) := by decide +kernel
theorem dX6_guestLine_30 : decode cX6_guestLine 30 = .ok (.getfield 15, 3) := by decide +kernel
theorem dX6_guestLine_33 : decode cX6_guestLine 33 = .ok (.getfield 126, 3) := by decide +kernel
theorem dX6_guestLine_36 : decode cX6_guestLine 36 = .ok (.invokevirtual 108, 3) := by decide +kernel
theorem dX6_guestLine_39 : decode cX6_guestLine 39 = .ok (.aload_n 0, 1) := by decide +kernel
theorem dX6_guestLine_40 : decode cX6_guestLine 40 = .ok (.iconst 4, 1) := by decide +kernel
theorem dX6_guestLine_41 : decode cX6_guestLine 41 = .ok (.invokevirtual 115, 3) := by decide +kernel
theorem dX6_guestLine_44 : decode cX6_guestLine 44 = .ok (.aload_n 0, 1) := by decide +kernel
theorem dX6_guestLine_45 : decode cX6_guestLine 45 = .ok (.iconst 0, 1) := by decide +kernel
theorem dX6_guestLine_46 : decode cX6_guestLine 46 = .ok (.sipush 999, 3) := by decide +kernel
theorem dX6_guestLine_49 : decode cX6_guestLine 49 = .ok (.invokevirtual 112, 3) := by decide +kernel
theorem dX6_guestLine_52 : decode cX6_guestLine 52 = .ok (.istore_n 1, 1) := by decide +kernel
theorem dX6_guestLine_53 : decode cX6_guestLine 53 = .ok (.iconst 0, 1) := by decide +kernel
theorem dX6_guestLine_54 : decode cX6_guestLine 54 = .ok (.istore_n 2, 1) := by decide +kernel
theorem dX6_guestLine_55 : decode cX6_guestLine 55 = .ok (.aload_n 0, 1) := by decide +kernel
theorem dX6_guestLine_56 : decode cX6_guestLine 56 = .ok (.iconst 5, 1) := by decide +kernel
theorem dX6_guestLine_57 : decode cX6_guestLine 57 = .ok (.invokevirtual 132, 3) := by decide +kernel
theorem dX6_guestLine_60 : decode cX6_guestLine 60 = .ok (.ifCond .eq 15, 3) := by decide +kernel
theorem dX6_guestLine_63 : decode cX6_guestLine 63 = .ok (.aload_n 0, 1) := by decide +kernel
theorem dX6_guestLine_64 : decode cX6_guestLine 64 = .ok (.invokevirtual 64, 3) := by decide +kernel
theorem dX6_guestLine_67 : decode cX6_guestLine 67 = .ok (.aload_n 0, 1) := by decide +kernel
theorem dX6_guestLine_68 : decode cX6_guestLine 68 = .ok (.iconst 0, 1) := by decide +kernel
theorem dX6_guestLine_69 : decode cX6_guestLine 69 = .ok (.bipush 9, 2) := by decide +kernel
theorem dX6_guestLine_71 : decode cX6_guestLine 71 = .ok (.invokevirtual 112, 3) := by decide +kernel
theorem dX6_guestLine_74 : decode cX6_guestLine 74 = .ok (.istore_n 2, 1) := by decide +kernel
theorem dX6_guestLine_75 : decode cX6_guestLine 75 = .ok (.bipush 100, 2) := by decide +kernel
theorem dX6_guestLine_77 : decode cX6_guestLine 77 = .ok (.istore_n 3, 1) := by decide +kernel
theorem dX6_guestLine_78 : decode cX6_guestLine 78 = .ok (.aload_n 0, 1) := by decide +kernel
theorem dX6_guestLine_79 : decode cX6_guestLine 79 = .ok (.bipush 6, 2) := by decide +kernel
theorem dX6_guestLine_81 : decode cX6_guestLine 81 = .ok (.invokevirtual 132, 3) := by decide +kernel
theorem dX6_guestLine_84 : decode cX6_guestLine 84 = .ok (.ifCond .eq 15, 3) := by decide +kernel
theorem dX6_guestLine_87 : decode cX6_guestLine 87 = .ok (.aload_n 0, 1) := by decide +kernel
theorem dX6_guestLine_88 : decode cX6_guestLine 88 = .ok (.invokevirtual 64, 3) := by decide +kernel
theorem dX6_guestLine_91 : decode cX6_guestLine 91 = .ok (.aload_n 0, 1) := by decide +kernel
theorem dX6_guestLine_92 : decode cX6_guestLine 92 = .ok (.iconst 0, 1) := by decide +kernel
theorem dX6_guestLine_93 : decode cX6_guestLine 93 = .ok (.bipush 100, 2) := by decide +kernel
theorem dX6_guestLine_95 : decode cX6_guestLine 95 = .ok (.invokevirtual 112, 3) := by decide +kernel
theorem dX6_guestLine_98 : decode cX6_guestLine 98 = .ok (.istore_n 3, 1) := by decide +kernel
theorem dX6_guestLine_99 : decode cX6_guestLine 99 = .ok (.aload_n 0, 1) := by decide +kernel
theorem dX6_guestLine_100 : decode cX6_guestLine 100 = .ok (.bipush 59, 2) := by decide +kernel
theorem dX6_guestLine_102 : decode cX6_guestLine 102 = .ok (.invokevirtual 119, 3) := by decide +kernel
theorem dX6_guestLine_105 : decode cX6_guestLine 105 = .ok (.aload_n 0, 1) := by decide +kernel
theorem dX6_guestLine_106 : decode cX6_guestLine 106 = .ok (.getfield 15, 3) := by decide +kernel
theorem dX6_guestLine_109 : decode cX6_guestLine 109 = .ok (.iload_n 1, 1) := by decide +kernel
theorem dX6_guestLine_110 : decode cX6_guestLine 110 = .ok (.iload_n 2, 1) := by decide +kernel
theorem dX6_guestLine_111 : decode cX6_guestLine 111 = .ok (.iload_n 3, 1) := by decide +kernel
theorem dX6_guestLine_112 : decode cX6_guestLine 112 = .ok (.invokevirtual 136, 3) := by decide +kernel
theorem dX6_guestLine_115 : decode cX6_guestLine 115 = .ok (.return_, 1) := by decide +kernel
theorem dX6_formulaLine_0 : decode cX6_formulaLine 0 = .ok (.aload_n 1, 1) := by decide +kernel
theorem dX6_formulaLine_1 : decode cX6_formulaLine 1 = .ok (.getfield 139, 3) := by decide +kernel
theorem dX6_formulaLine_4 : decode cX6_formulaLine 4 = .ok (.ifCond .eq 8, 3) := by decide +kernel
theorem dX6_formulaLine_7 : decode cX6_formulaLine 7 = .ok (.aload_n 0, 1) := by decide +kernel
theorem dX6_formulaLine_8 : decode cX6_formulaLine 8 = .ok (.invokevirtual 99, 3) := by decide +kernel
theorem dX6_formulaLine_11 : decode cX6_formulaLine 11 = .ok (.return_, 1) := by decide +kernel
theorem dX6_formulaLine_12 : decode cX6_formulaLine 12 = .ok (.aload_n 0, 1) := by decide +kernel
theorem dX6_formulaLine_13 : decode cX6_formulaLine 13 = .ok (.invokevirtual 64, 3) := by decide +kernel
theorem dX6_formulaLine_16 : decode cX6_formulaLine 16 = .ok (.aload_n 1, 1) := by decide +kernel
theorem dX6_formulaLine_17 : decode cX6_formulaLine 17 = .ok (.invokevirtual 145, 3) := by decide +kernel
theorem dX6_formulaLine_20 : decode cX6_formulaLine 20 = .ok (.aload_n 0, 1) := by decide +kernel
theorem dX6_formulaLine_21 : decode cX6_formulaLine 21 = .ok (.aload_n 1, 1) := by decide +kernel
theorem dX6_formulaLine_22 : decode cX6_formulaLine 22 = .ok (.iconst 0, 1) := by decide +kernel
theorem dX6_formulaLine_23 : decode cX6_formulaLine 23 = .ok (.invokevirtual 148, 3) := by decide +kernel
theorem dX6_formulaLine_26 : decode cX6_formulaLine 26 = .ok (.aload_n 0, 1) := by decide +kernel
theorem dX6_formulaLine_27 : decode cX6_formulaLine 27 = .ok (.bipush 59, 2) := by decide +kernel
theorem dX6_formulaLine_29 : decode cX6_formulaLine 29 = .ok (.invokevirtual 119, 3) := by decide +kernel
theorem dX6_formulaLine_32 : decode cX6_formulaLine 32 = .ok (.return_, 1) := by decide +kernel
theorem dX6_paceLine_0 : decode cX6_paceLine 0 = .ok (.aload_n 0, 1) := by decide +kernel
theorem dX6_paceLine_1 : decode cX6_paceLine 1 = .ok (.getfield 15, 3) := by decide +kernel
theorem dX6_paceLine_4 : decode cX6_paceLine 4 = .ok (.getfield 152, 3) := by decide +kernel
theorem dX6_paceLine_7 : decode cX6_paceLine 7 = .ok (.ifCond .eq 8, 3) := by decide +kernel
theorem dX6_paceLine_10 : decode cX6_paceLine 10 = .ok (.aload_n 0, 1) := by decide +kernel
theorem dX6_paceLine_11 : decode cX6_paceLine 11 = .ok (.invokevirtual 99, 3) := by decide +kernel
theorem dX6_paceLine_14 : decode cX6_paceLine 14 = .ok (.return_, 1) := by decide +kernel
theorem dX6_paceLine_15 : decode cX6_paceLine 15 = .ok (.aload_n 0, 1) := by decide +kernel
theorem dX6_paceLine_16 : decode cX6_paceLine 16 = .ok (.invokevirtual 64, 3) := by decide +kernel
theorem dX6_paceLine_19 : decode cX6_paceLine 19 = .ok (.aload_n 0, 1) := by decide +kernel
theorem dX6_paceLine_20 : decode cX6_paceLine 20 = .ok (.getfield 15, 3) := by decide +kernel
theorem dX6_paceLine_23 : decode cX6_paceLine 23 = .ok (.iconst 1, 1) := by decide +kernel
theorem dX6_paceLine_24 : decode cX6_paceLine 24 = .ok (.putfield 152, 3) := by decide +kernel
theorem dX6_paceLine_27 : decode cX6_paceLine 27 = .ok (.aload_n 0, 1) := by decide +kernel
theorem dX6_paceLine_28 : decode cX6_paceLine 28 = .ok (.getfield 15, 3) := by decide +kernel
theorem dX6_paceLine_31 : decode cX6_paceLine 31 = .ok (.aload_n 0, 1) := by decide +kernel
theorem dX6_paceLine_32 : decode cX6_paceLine 32 = .ok (.iconst 0, 1) := by decide +kernel
theorem dX6_paceLine_33 : decode cX6_paceLine 33 = .ok (.bipush 60, 2) := by decide +kernel
theorem dX6_paceLine_35 : decode cX6_paceLine 35 = .ok (.invokevirtual 112, 3) := by decide +kernel
theorem dX6_paceLine_38 : decode cX6_paceLine 38 = .ok (.putfield 155, 3) := by decide +kernel
theorem dX6_paceLine_41 : decode cX6_paceLine 41 = .ok (.aload_n 0, 1) := by decide +kernel
theorem dX6_paceLine_42 : decode cX6_paceLine 42 = .ok (.bipush 59, 2) := by decide +kernel
theorem dX6_paceLine_44 : decode cX6_paceLine 44 = .ok (.invokevirtual 119, 3) := by decide +kernel
theorem dX6_paceLine_47 : decode cX6_paceLine 47 = .ok (.return_, 1) := by decide +kernel
theorem dX6_drawLine_0 : decode cX6_drawLine 0 = .ok (.aload_n 0, 1) := by decide +kernel
theorem dX6_drawLine_1 : decode cX6_drawLine 1 = .ok (.getfield 15, 3) := by decide +kernel
theorem dX6_drawLine_4 : decode cX6_drawLine 4 = .ok (.getfield 158, 3) := by decide +kernel
theorem dX6_drawLine_7 : decode cX6_drawLine 7 = .ok (.ifCond .eq 8, 3) := by decide +kernel
theorem dX6_drawLine_10 : decode cX6_drawLine 10 = .ok (.aload_n 0, 1) := by decide +kernel
theorem dX6_drawLine_11 : decode cX6_drawLine 11 = .ok (.invokevirtual 99, 3) := by decide +kernel
theorem dX6_drawLine_14 : decode cX6_drawLine 14 = .ok (.return_, 1) := by decide +kernel
theorem dX6_drawLine_15 : decode cX6_drawLine 15 = .ok (.aload_n 0, 1) := by decide +kernel
theorem dX6_drawLine_16 : decode cX6_drawLine 16 = .ok (.invokevirtual 64, 3) := by decide +kernel
theorem dX6_drawLine_19 : decode cX6_drawLine 19 = .ok (.aload_n 0, 1) := by decide +kernel
theorem dX6_drawLine_20 : decode cX6_drawLine 20 = .ok (.getfield 15, 3) := by decide +kernel
theorem dX6_drawLine_23 : decode cX6_drawLine 23 = .ok (.iconst 1, 1) := by decide +kernel
theorem dX6_drawLine_24 : decode cX6_drawLine 24 = .ok (.putfield 158, 3) := by decide +kernel
theorem dX6_drawLine_27 : decode cX6_drawLine 27 = .ok (.aload_n 0, 1) := by decide +kernel
theorem dX6_drawLine_28 : decode cX6_drawLine 28 = .ok (.getfield 15, 3) := by decide +kernel
theorem dX6_drawLine_31 : decode cX6_drawLine 31 = .ok (.aload_n 0, 1) := by decide +kernel
theorem dX6_drawLine_32 : decode cX6_drawLine 32 = .ok (.iconst 0, 1) := by decide +kernel
theorem dX6_drawLine_33 : decode cX6_drawLine 33 = .ok (.sipush 999, 3) := by decide +kernel
theorem dX6_drawLine_36 : decode cX6_drawLine 36 = .ok (.invokevirtual 112, 3) := by decide +kernel
theorem dX6_drawLine_39 : decode cX6_drawLine 39 = .ok (.putfield 161, 3) := by decide +kernel
theorem dX6_drawLine_42 : decode cX6_drawLine 42 = .ok (.aload_n 0, 1) := by decide +kernel
theorem dX6_drawLine_43 : decode cX6_drawLine 43 = .ok (.bipush 59, 2) := by decide +kernel
theorem dX6_drawLine_45 : decode cX6_drawLine 45 = .ok (.invokevirtual 119, 3) := by decide +kernel
theorem dX6_drawLine_48 : decode cX6_drawLine 48 = .ok (.return_, 1) := by decide +kernel
theorem dX6_either_0 : decode cX6_either 0 = .ok (.aload_n 0, 1) := by decide +kernel
theorem dX6_either_1 : decode cX6_either 1 = .ok (.aload_n 1, 1) := by decide +kernel
theorem dX6_either_2 : decode cX6_either 2 = .ok (.iload_n 2, 1) := by decide +kernel
theorem dX6_either_3 : decode cX6_either 3 = .ok (.invokevirtual 164, 3) := by decide +kernel
theorem dX6_either_6 : decode cX6_either 6 = .ok (.iconst 0, 1) := by decide +kernel
theorem dX6_either_7 : decode cX6_either 7 = .ok (.istore_n 3, 1) := by decide +kernel
theorem dX6_either_8 : decode cX6_either 8 = .ok (.iload_n 3, 1) := by decide +kernel
theorem dX6_either_9 : decode cX6_either 9 = .ok (.sipush 1600, 3) := by decide +kernel
theorem dX6_either_12 : decode cX6_either 12 = .ok (.if_icmp .ge 35, 3) := by decide +kernel
theorem dX6_either_15 : decode cX6_either 15 = .ok (.aload_n 0, 1) := by decide +kernel
theorem dX6_either_16 : decode cX6_either 16 = .ok (.bipush 11, 2) := by decide +kernel
theorem dX6_either_18 : decode cX6_either 18 = .ok (.invokevirtual 132, 3) := by decide +kernel
theorem dX6_either_21 : decode cX6_either 21 = .ok (.ifCond .eq 26, 3) := by decide +kernel
theorem dX6_either_24 : decode cX6_either 24 = .ok (.aload_n 0, 1) := by decide +kernel
theorem dX6_either_25 : decode cX6_either 25 = .ok (.invokevirtual 64, 3) := by decide +kernel
theorem dX6_either_28 : decode cX6_either 28 = .ok (.aload_n 0, 1) := by decide +kernel
theorem dX6_either_29 : decode cX6_either 29 = .ok (.aload_n 1, 1) := by decide +kernel
theorem dX6_either_30 : decode cX6_either 30 = .ok (.iload_n 2, 1) := by decide +kernel
theorem dX6_either_31 : decode cX6_either 31 = .ok (.invokevirtual 164, 3) := by decide +kernel
theorem dX6_either_34 : decode cX6_either 34 = .ok (.aload_n 1, 1) := by decide +kernel
theorem dX6_either_35 : decode cX6_either 35 = .ok (.bipush 8, 2) := by decide +kernel
theorem dX6_either_37 : decode cX6_either 37 = .ok (.iconst 0, 1) := by decide +kernel
theorem dX6_either_38 : decode cX6_either 38 = .ok (.invokevirtual 167, 3) := by decide +kernel
theorem dX6_either_41 : decode cX6_either 41 = .ok (.iinc 3 1, 3) := by decide +kernel
theorem dX6_either_44 : decode cX6_either 44 = .ok (.goto (-36), 3) := by decide +kernel
theorem dX6_either_47 : decode cX6_either 47 = .ok (.return_, 1) := by decide +kernel
theorem dX6_both_0 : decode cX6_both 0 = .ok (.aload_n 0, 1) := by decide +kernel
theorem dX6_both_1 : decode cX6_both 1 = .ok (.aload_n 1, 1) := by decide +kernel
theorem dX6_both_2 : decode cX6_both 2 = .ok (.iload_n 2, 1) := by decide +kernel
theorem dX6_both_3 : decode cX6_both 3 = .ok (.invokevirtual 171, 3) := by decide +kernel
theorem dX6_both_6 : decode cX6_both 6 = .ok (.iconst 0, 1) := by decide +kernel
theorem dX6_both_7 : decode cX6_both 7 = .ok (.istore_n 3, 1) := by decide +kernel
theorem dX6_both_8 : decode cX6_both 8 = .ok (.iload_n 3, 1) := by decide +kernel
theorem dX6_both_9 : decode cX6_both 9 = .ok (.sipush 1600, 3) := by decide +kernel
theorem dX6_both_12 : decode cX6_both 12 = .ok (.if_icmp .ge 35, 3) := by decide +kernel
theorem dX6_both_15 : decode cX6_both 15 = .ok (.aload_n 0, 1) := by decide +kernel
theorem dX6_both_16 : decode cX6_both 16 = .ok (.bipush 12, 2) := by decide +kernel
theorem dX6_both_18 : decode cX6_both 18 = .ok (.invokevirtual 132, 3) := by decide +kernel
theorem dX6_both_21 : decode cX6_both 21 = .ok (.ifCond .eq 26, 3) := by decide +kernel
theorem dX6_both_24 : decode cX6_both 24 = .ok (.aload_n 0, 1) := by decide +kernel
theorem dX6_both_25 : decode cX6_both 25 = .ok (.invokevirtual 64, 3) := by decide +kernel
theorem dX6_both_28 : decode cX6_both 28 = .ok (.aload_n 0, 1) := by decide +kernel
theorem dX6_both_29 : decode cX6_both 29 = .ok (.aload_n 1, 1) := by decide +kernel
theorem dX6_both_30 : decode cX6_both 30 = .ok (.iload_n 2, 1) := by decide +kernel
theorem dX6_both_31 : decode cX6_both 31 = .ok (.invokevirtual 171, 3) := by decide +kernel
theorem dX6_both_34 : decode cX6_both 34 = .ok (.aload_n 1, 1) := by decide +kernel
theorem dX6_both_35 : decode cX6_both 35 = .ok (.bipush 9, 2) := by decide +kernel
theorem dX6_both_37 : decode cX6_both 37 = .ok (.iconst 0, 1) := by decide +kernel
theorem dX6_both_38 : decode cX6_both 38 = .ok (.invokevirtual 167, 3) := by decide +kernel
theorem dX6_both_41 : decode cX6_both 41 = .ok (.iinc 3 1, 3) := by decide +kernel
theorem dX6_both_44 : decode cX6_both 44 = .ok (.goto (-36), 3) := by decide +kernel
theorem dX6_both_47 : decode cX6_both 47 = .ok (.return_, 1) := by decide +kernel
theorem dX6_one_0 : decode cX6_one 0 = .ok (.aload_n 0, 1) := by decide +kernel
theorem dX6_one_1 : decode cX6_one 1 = .ok (.bipush 13, 2) := by decide +kernel
theorem dX6_one_3 : decode cX6_one 3 = .ok (.invokevirtual 132, 3) := by decide +kernel
theorem dX6_one_6 : decode cX6_one 6 = .ok (.ifCond .ne 10, 3) := by decide +kernel
theorem dX6_one_9 : decode cX6_one 9 = .ok (.aload_n 0, 1) := by decide +kernel
theorem dX6_one_10 : decode cX6_one 10 = .ok (.aload_n 1, 1) := by decide +kernel
theorem dX6_one_11 : decode cX6_one 11 = .ok (.iload_n 2, 1) := by decide +kernel
theorem dX6_one_12 : decode cX6_one 12 = .ok (.invokevirtual 174, 3) := by decide +kernel
theorem dX6_one_15 : decode cX6_one 15 = .ok (.return_, 1) := by decide +kernel
theorem dX6_one_16 : decode cX6_one 16 = .ok (.iload_n 2, 1) := by decide +kernel
theorem dX6_one_17 : decode cX6_one 17 = .ok (.bipush 6, 2) := by decide +kernel
theorem dX6_one_19 : decode cX6_one 19 = .ok (.if_icmp .le 8, 3) := by decide +kernel
theorem dX6_one_22 : decode cX6_one 22 = .ok (.aload_n 0, 1) := by decide +kernel
theorem dX6_one_23 : decode cX6_one 23 = .ok (.invokevirtual 99, 3) := by decide +kernel
theorem dX6_one_26 : decode cX6_one 26 = .ok (.return_, 1) := by decide +kernel
theorem dX6_one_27 : decode cX6_one 27 = .ok (.aload_n 0, 1) := by decide +kernel
theorem dX6_one_28 : decode cX6_one 28 = .ok (.invokevirtual 64, 3) := by decide +kernel
theorem dX6_one_31 : decode cX6_one 31 = .ok (.aload_n 0, 1) := by decide +kernel
theorem dX6_one_32 : decode cX6_one 32 = .ok (.aload_n 1, 1) := by decide +kernel
theorem dX6_one_33 : decode cX6_one 33 = .ok (.iload_n 2, 1) := by decide +kernel
theorem dX6_one_34 : decode cX6_one 34 = .ok (.iconst 1, 1) := by decide +kernel
theorem dX6_one_35 : decode cX6_one 35 = .ok (.iadd, 1) := by decide +kernel
theorem dX6_one_36 : decode cX6_one 36 = .ok (.invokevirtual 171, 3) := by decide +kernel
theorem dX6_one_39 : decode cX6_one 39 = .ok (.aload_n 1, 1) := by decide +kernel
theorem dX6_one_40 : decode cX6_one 40 = .ok (.bipush 7, 2) := by decide +kernel
theorem dX6_one_42 : decode cX6_one 42 = .ok (.iconst 0, 1) := by decide +kernel
theorem dX6_one_43 : decode cX6_one 43 = .ok (.invokevirtual 167, 3) := by decide +kernel
theorem dX6_one_46 : decode cX6_one 46 = .ok (.return_, 1) := by decide +kernel
theorem dX6_relation_0 : decode cX6_relation 0 = .ok (.aload_n 0, 1) := by decide +kernel
theorem dX6_relation_1 : decode cX6_relation 1 = .ok (.aload_n 1, 1) := by decide +kernel
theorem dX6_relation_2 : decode cX6_relation 2 = .ok (.iload_n 2, 1) := by decide +kernel
theorem dX6_relation_3 : decode cX6_relation 3 = .ok (.invokevirtual 177, 3) := by decide +kernel
theorem dX6_relation_6 : decode cX6_relation 6 = .ok (.aload_n 0, 1) := by decide +kernel
theorem dX6_relation_7 : decode cX6_relation 7 = .ok (.bipush 60, 2) := by decide +kernel
theorem dX6_relation_9 : decode cX6_relation 9 = .ok (.invokevirtual 180, 3) := by decide +kernel
theorem dX6_relation_12 : decode cX6_relation 12 = .ok (.ifCond .eq 8, 3) := by decide +kernel
theorem dX6_relation_15 : decode cX6_relation 15 = .ok (.bipush 10, 2) := by decide +kernel
theorem dX6_relation_17 : decode cX6_relation 17 = .ok (.goto 32, 3) := by decide +kernel
theorem dX6_relation_20 : decode cX6_relation 20 = .ok (.aload_n 0, 1) := by decide +kernel
theorem dX6_relation_21 : decode cX6_relation 21 = .ok (.bipush 62, 2) := by decide +kernel
theorem dX6_relation_23 : decode cX6_relation 23 = .ok (.invokevirtual 180, 3) := by decide +kernel
theorem dX6_relation_26 : decode cX6_relation 26 = .ok (.ifCond .eq 8, 3) := by decide +kernel
theorem dX6_relation_29 : decode cX6_relation 29 = .ok (.bipush 11, 2) := by decide +kernel
theorem dX6_relation_31 : decode cX6_relation 31 = .ok (.goto 18, 3) := by decide +kernel
theorem dX6_relation_34 : decode cX6_relation 34 = .ok (.aload_n 0, 1) := by decide +kernel
theorem dX6_relation_35 : decode cX6_relation 35 = .ok (.bipush 61, 2) := by decide +kernel
theorem dX6_relation_37 : decode cX6_relation 37 = .ok (.invokevirtual 180, 3) := by decide +kernel
theorem dX6_relation_40 : decode cX6_relation 40 = .ok (.ifCond .eq 8, 3) := by decide +kernel
theorem dX6_relation_43 : decode cX6_relation 43 = .ok (.bipush 12, 2) := by decide +kernel
theorem dX6_relation_45 : decode cX6_relation 45 = .ok (.goto 4, 3) := by decide +kernel
theorem dX6_relation_48 : decode cX6_relation 48 = .ok (.iconst (-1), 1) := by decide +kernel
theorem dX6_relation_49 : decode cX6_relation 49 = .ok (.istore_n 3, 1) := by decide +kernel
theorem dX6_relation_50 : decode cX6_relation 50 = .ok (.iload_n 3, 1) := by decide +kernel
theorem dX6_relation_51 : decode cX6_relation 51 = .ok (.iconst (-1), 1) := by decide +kernel
theorem dX6_relation_52 : decode cX6_relation 52 = .ok (.if_icmp .eq 19, 3) := by decide +kernel
theorem dX6_relation_55 : decode cX6_relation 55 = .ok (.aload_n 0, 1) := by decide +kernel
theorem dX6_relation_56 : decode cX6_relation 56 = .ok (.invokevirtual 64, 3) := by decide +kernel
theorem dX6_relation_59 : decode cX6_relation 59 = .ok (.aload_n 0, 1) := by decide +kernel
theorem dX6_relation_60 : decode cX6_relation 60 = .ok (.aload_n 1, 1) := by decide +kernel
theorem dX6_relation_61 : decode cX6_relation 61 = .ok (.iload_n 2, 1) := by decide +kernel
theorem dX6_relation_62 : decode cX6_relation 62 = .ok (.invokevirtual 177, 3) := by decide +kernel
theorem dX6_relation_65 : decode cX6_relation 65 = .ok (.aload_n 1, 1) := by decide +kernel
theorem dX6_relation_66 : decode cX6_relation 66 = .ok (.iload_n 3, 1) := by decide +kernel
theorem dX6_relation_67 : decode cX6_relation 67 = .ok (.iconst 0, 1) := by decide +kernel
theorem dX6_relation_68 : decode cX6_relation 68 = .ok (.invokevirtual 167, 3) := by decide +kernel
theorem dX6_relation_71 : decode cX6_relation 71 = .ok (.return_, 1) := by decide +kernel
theorem dX6_sum_0 : decode cX6_sum 0 = .ok (.aload_n 0, 1) := by decide +kernel
theorem dX6_sum_1 : decode cX6_sum 1 = .ok (.aload_n 1, 1) := by decide +kernel
theorem dX6_sum_2 : decode cX6_sum 2 = .ok (.iload_n 2, 1) := by decide +kernel
theorem dX6_sum_3 : decode cX6_sum 3 = .ok (.invokevirtual 183, 3) := by decide +kernel
theorem dX6_sum_6 : decode cX6_sum 6 = .ok (.iconst 0, 1) := by decide +kernel
theorem dX6_sum_7 : decode cX6_sum 7 = .ok (.istore_n 3, 1) := by decide +kernel
theorem dX6_sum_8 : decode cX6_sum 8 = .ok (.iload_n 3, 1) := by decide +kernel
theorem dX6_sum_9 : decode cX6_sum 9 = .ok (.sipush 1600, 3) := by decide +kernel
theorem dX6_sum_12 : decode cX6_sum 12 = .ok (.if_icmp .ge 62, 3) := by decide +kernel
theorem dX6_sum_15 : decode cX6_sum 15 = .ok (.aload_n 0, 1) := by decide +kernel
theorem dX6_sum_16 : decode cX6_sum 16 = .ok (.bipush 43, 2) := by decide +kernel
theorem dX6_sum_18 : decode cX6_sum 18 = .ok (.invokevirtual 180, 3) := by decide +kernel
theorem dX6_sum_21 : decode cX6_sum 21 = .ok (.ifCond .ne 12, 3) := by decide +kernel
theorem dX6_sum_24 : decode cX6_sum 24 = .ok (.aload_n 0, 1) := by decide +kernel
theorem dX6_sum_25 : decode cX6_sum 25 = .ok (.bipush 45, 2) := by decide +kernel
theorem dX6_sum_27 : decode cX6_sum 27 = .ok (.invokevirtual 180, 3) := by decide +kernel
theorem dX6_sum_30 : decode cX6_sum 30 = .ok (.ifCond .eq 44, 3) := by decide +kernel
theorem dX6_sum_33 : decode cX6_sum 33 = .ok (.aload_n 0, 1) := by decide +kernel
theorem dX6_sum_34 : decode cX6_sum 34 = .ok (.bipush 43, 2) := by decide +kernel
theorem dX6_sum_36 : decode cX6_sum 36 = .ok (.invokevirtual 180, 3) := by decide +kernel
theorem dX6_sum_39 : decode cX6_sum 39 = .ok (.ifCond .eq 8, 3) := by decide +kernel
theorem dX6_sum_42 : decode cX6_sum 42 = .ok (.bipush 13, 2) := by decide +kernel
theorem dX6_sum_44 : decode cX6_sum 44 = .ok (.goto 5, 3) := by decide +kernel
theorem dX6_sum_47 : decode cX6_sum 47 = .ok (.bipush 14, 2) := by decide +kernel
theorem dX6_sum_49 : decode cX6_sum 49 = .ok (.istore 4, 2) := by decide +kernel
theorem dX6_sum_51 : decode cX6_sum 51 = .ok (.aload_n 0, 1) := by decide +kernel
theorem dX6_sum_52 : decode cX6_sum 52 = .ok (.invokevirtual 64, 3) := by decide +kernel
theorem dX6_sum_55 : decode cX6_sum 55 = .ok (.aload_n 0, 1) := by decide +kernel
theorem dX6_sum_56 : decode cX6_sum 56 = .ok (.aload_n 1, 1) := by decide +kernel
theorem dX6_sum_57 : decode cX6_sum 57 = .ok (.iload_n 2, 1) := by decide +kernel
theorem dX6_sum_58 : decode cX6_sum 58 = .ok (.invokevirtual 183, 3) := by decide +kernel
theorem dX6_sum_61 : decode cX6_sum 61 = .ok (.aload_n 1, 1) := by decide +kernel
theorem dX6_sum_62 : decode cX6_sum 62 = .ok (.iload 4, 2) := by decide +kernel
theorem dX6_sum_64 : decode cX6_sum 64 = .ok (.iconst 0, 1) := by decide +kernel
theorem dX6_sum_65 : decode cX6_sum 65 = .ok (.invokevirtual 167, 3) := by decide +kernel
theorem dX6_sum_68 : decode cX6_sum 68 = .ok (.iinc 3 1, 3) := by decide +kernel
theorem dX6_sum_71 : decode cX6_sum 71 = .ok (.goto (-63), 3) := by decide +kernel
theorem dX6_sum_74 : decode cX6_sum 74 = .ok (.return_, 1) := by decide +kernel
theorem dX6_term_0 : decode cX6_term 0 = .ok (.aload_n 0, 1) := by decide +kernel
theorem dX6_term_1 : decode cX6_term 1 = .ok (.aload_n 1, 1) := by decide +kernel
theorem dX6_term_2 : decode cX6_term 2 = .ok (.iload_n 2, 1) := by decide +kernel
theorem dX6_term_3 : decode cX6_term 3 = .ok (.invokevirtual 186, 3) := by decide +kernel
theorem dX6_term_6 : decode cX6_term 6 = .ok (.iconst 0, 1) := by decide +kernel
theorem dX6_term_7 : decode cX6_term 7 = .ok (.istore_n 3, 1) := by decide +kernel
theorem dX6_term_8 : decode cX6_term 8 = .ok (.iload_n 3, 1) := by decide +kernel
theorem dX6_term_9 : decode cX6_term 9 = .ok (.sipush 1600, 3) := by decide +kernel
theorem dX6_term_12 : decode cX6_term 12 = .ok (.if_icmp .ge 85, 3) := by decide +kernel
theorem dX6_term_15 : decode cX6_term 15 = .ok (.aload_n 0, 1) := by decide +kernel
theorem dX6_term_16 : decode cX6_term 16 = .ok (.bipush 42, 2) := by decide +kernel
theorem dX6_term_18 : decode cX6_term 18 = .ok (.invokevirtual 180, 3) := by decide +kernel
theorem dX6_term_21 : decode cX6_term 21 = .ok (.ifCond .ne 21, 3) := by decide +kernel
theorem dX6_term_24 : decode cX6_term 24 = .ok (.aload_n 0, 1) := by decide +kernel
theorem dX6_term_25 : decode cX6_term 25 = .ok (.bipush 47, 2) := by decide +kernel
theorem dX6_term_27 : decode cX6_term 27 = .ok (.invokevirtual 180, 3) := by decide +kernel
theorem dX6_term_30 : decode cX6_term 30 = .ok (.ifCond .ne 12, 3) := by decide +kernel
theorem dX6_term_33 : decode cX6_term 33 = .ok (.aload_n 0, 1) := by decide +kernel
theorem dX6_term_34 : decode cX6_term 34 = .ok (.bipush 37, 2) := by decide +kernel
theorem dX6_term_36 : decode cX6_term 36 = .ok (.invokevirtual 180, 3) := by decide +kernel
theorem dX6_term_39 : decode cX6_term 39 = .ok (.ifCond .eq 58, 3) := by decide +kernel
theorem dX6_term_42 : decode cX6_term 42 = .ok (.aload_n 0, 1) := by decide +kernel
theorem dX6_term_43 : decode cX6_term 43 = .ok (.bipush 42, 2) := by decide +kernel
theorem dX6_term_45 : decode cX6_term 45 = .ok (.invokevirtual 180, 3) := by decide +kernel
theorem dX6_term_48 : decode cX6_term 48 = .ok (.ifCond .eq 8, 3) := by decide +kernel
theorem dX6_term_51 : decode cX6_term 51 = .ok (.bipush 15, 2) := by decide +kernel
theorem dX6_term_53 : decode cX6_term 53 = .ok (.goto 19, 3) := by decide +kernel
theorem dX6_term_56 : decode cX6_term 56 = .ok (.aload_n 0, 1) := by decide +kernel
theorem dX6_term_57 : decode cX6_term 57 = .ok (.bipush 47, 2) := by decide +kernel
theorem dX6_term_59 : decode cX6_term 59 = .ok (.invokevirtual 180, 3) := by decide +kernel
theorem dX6_term_62 : decode cX6_term 62 = .ok (.ifCond .eq 8, 3) := by decide +kernel
theorem dX6_term_65 : decode cX6_term 65 = .ok (.bipush 16, 2) := by decide +kernel
theorem dX6_term_67 : decode cX6_term 67 = .ok (.goto 5, 3) := by decide +kernel
theorem dX6_term_70 : decode cX6_term 70 = .ok (.bipush 17, 2) := by decide +kernel
theorem dX6_term_72 : decode cX6_term 72 = .ok (.istore 4, 2) := by decide +kernel
theorem dX6_term_74 : decode cX6_term 74 = .ok (.aload_n 0, 1) := by decide +kernel
theorem dX6_term_75 : decode cX6_term 75 = .ok (.invokevirtual 64, 3) := by decide +kernel
theorem dX6_term_78 : decode cX6_term 78 = .ok (.aload_n 0, 1) := by decide +kernel
theorem dX6_term_79 : decode cX6_term 79 = .ok (.aload_n 1, 1) := by decide +kernel
theorem dX6_term_80 : decode cX6_term 80 = .ok (.iload_n 2, 1) := by decide +kernel
theorem dX6_term_81 : decode cX6_term 81 = .ok (.invokevirtual 186, 3) := by decide +kernel
theorem dX6_term_84 : decode cX6_term 84 = .ok (.aload_n 1, 1) := by decide +kernel
theorem dX6_term_85 : decode cX6_term 85 = .ok (.iload 4, 2) := by decide +kernel
theorem dX6_term_87 : decode cX6_term 87 = .ok (.iconst 0, 1) := by decide +kernel
theorem dX6_term_88 : decode cX6_term 88 = .ok (.invokevirtual 167, 3) := by decide +kernel
theorem dX6_term_91 : decode cX6_term 91 = .ok (.iinc 3 1, 3) := by decide +kernel
theorem dX6_term_94 : decode cX6_term 94 = .ok (.goto (-86), 3) := by decide +kernel
theorem dX6_term_97 : decode cX6_term 97 = .ok (.return_, 1) := by decide +kernel
theorem dX6_unit_0 : decode cX6_unit 0 = .ok (.aload_n 0, 1) := by decide +kernel
theorem dX6_unit_1 : decode cX6_unit 1 = .ok (.bipush 40, 2) := by decide +kernel
theorem dX6_unit_3 : decode cX6_unit 3 = .ok (.invokevirtual 180, 3) := by decide +kernel
theorem dX6_unit_6 : decode cX6_unit 6 = .ok (.istore_n 3, 1) := by decide +kernel
theorem dX6_unit_7 : decode cX6_unit 7 = .ok (.aload_n 0, 1) := by decide +kernel
theorem dX6_unit_8 : decode cX6_unit 8 = .ok (.invokevirtual 189, 3) := by decide +kernel
theorem dX6_unit_11 : decode cX6_unit 11 = .ok (.istore 4, 2) := by decide +kernel
theorem dX6_unit_13 : decode cX6_unit 13 = .ok (.iload_n 3, 1) := by decide +kernel
theorem dX6_unit_14 : decode cX6_unit 14 = .ok (.ifCond .eq 17, 3) := by decide +kernel
theorem dX6_unit_17 : decode cX6_unit 17 = .ok (.iload_n 2, 1) := by decide +kernel
theorem dX6_unit_18 : decode cX6_unit 18 = .ok (.bipush 6, 2) := by decide +kernel
theorem dX6_unit_20 : decode cX6_unit 20 = .ok (.if_icmp .gt 7, 3) := by decide +kernel
theorem dX6_unit_23 : decode cX6_unit 23 = .ok (.iconst 1, 1) := by decide +kernel
theorem dX6_unit_24 : decode cX6_unit 24 = .ok (.goto 18, 3) := by decide +kernel
theorem dX6_unit_27 : decode cX6_unit 27 = .ok (.iconst 0, 1) := by decide +kernel
theorem dX6_unit_28 : decode cX6_unit 28 = .ok (.goto 14, 3) := by decide +kernel
theorem dX6_unit_31 : decode cX6_unit 31 = .ok (.iload 4, 2) := by decide +kernel
theorem dX6_unit_33 : decode cX6_unit 33 = .ok (.iconst (-1), 1) := by decide +kernel
theorem dX6_unit_34 : decode cX6_unit 34 = .ok (.if_icmp .eq 7, 3) := by decide +kernel
theorem dX6_unit_37 : decode cX6_unit 37 = .ok (.iconst 1, 1) := by decide +kernel
theorem dX6_unit_38 : decode cX6_unit 38 = .ok (.goto 4, 3) := by decide +kernel
theorem dX6_unit_41 : decode cX6_unit 41 = .ok (.iconst 0, 1) := by decide +kernel
theorem dX6_unit_42 : decode cX6_unit 42 = .ok (.istore 5, 2) := by decide +kernel
theorem dX6_unit_44 : decode cX6_unit 44 = .ok (.aload_n 0, 1) := by decide +kernel
theorem dX6_unit_45 : decode cX6_unit 45 = .ok (.getfield 56, 3) := by decide +kernel
theorem dX6_unit_48 : decode cX6_unit 48 = .ok (.ifCond .ne 15, 3) := by decide +kernel
theorem dX6_unit_51 : decode cX6_unit 51 = .ok (.iload 5, 2) := by decide +kernel
theorem dX6_unit_53 : decode cX6_unit 53 = .ok (.ifCond .eq 10, 3) := by decide +kernel
theorem dX6_unit_56 : decode cX6_unit 56 = .ok (.aload_n 1, 1) := by decide +kernel
theorem dX6_unit_57 : decode cX6_unit 57 = .ok (.invokevirtual 192, 3) := by decide +kernel
theorem dX6_unit_60 : decode cX6_unit 60 = .ok (.ifCond .ne 8, 3) := by decide +kernel
theorem dX6_unit_63 : decode cX6_unit 63 = .ok (.aload_n 0, 1) := by decide +kernel
theorem dX6_unit_64 : decode cX6_unit 64 = .ok (.invokevirtual 99, 3) := by decide +kernel
theorem dX6_unit_67 : decode cX6_unit 67 = .ok (.return_, 1) := by decide +kernel
theorem dX6_unit_68 : decode cX6_unit 68 = .ok (.iload_n 3, 1) := by decide +kernel
theorem dX6_unit_69 : decode cX6_unit 69 = .ok (.ifCond .ne 22, 3) := by decide +kernel
theorem dX6_unit_72 : decode cX6_unit 72 = .ok (.aload_n 1, 1) := by decide +kernel
theorem dX6_unit_73 : decode cX6_unit 73 = .ok (.iload 4, 2) := by decide +kernel
theorem dX6_unit_75 : decode cX6_unit 75 = .ok (.iload 4, 2) := by decide +kernel
theorem dX6_unit_77 : decode cX6_unit 77 = .ok (.ifCond .ne 10, 3) := by decide +kernel
theorem dX6_unit_80 : decode cX6_unit 80 = .ok (.aload_n 0, 1) := by decide +kernel
theorem dX6_unit_81 : decode cX6_unit 81 = .ok (.getfield 196, 3) := by decide +kernel
theorem dX6_unit_84 : decode cX6_unit 84 = .ok (.goto 4, 3) := by decide +kernel
theorem dX6_unit_87 : decode cX6_unit 87 = .ok (.iconst 0, 1) := by decide +kernel
theorem dX6_unit_88 : decode cX6_unit 88 = .ok (.invokevirtual 167, 3) := by decide +kernel
theorem dX6_unit_91 : decode cX6_unit 91 = .ok (.aload_n 0, 1) := by decide +kernel
theorem dX6_unit_92 : decode cX6_unit 92 = .ok (.invokevirtual 64, 3) := by decide +kernel
theorem dX6_unit_95 : decode cX6_unit 95 = .ok (.iload_n 3, 1) := by decide +kernel
theorem dX6_unit_96 : decode cX6_unit 96 = .ok (.ifCond .eq 17, 3) := by decide +kernel
theorem dX6_unit_99 : decode cX6_unit 99 = .ok (.aload_n 0, 1) := by decide +kernel
theorem dX6_unit_100 : decode cX6_unit 100 = .ok (.aload_n 1, 1) := by decide +kernel
theorem dX6_unit_101 : decode cX6_unit 101 = .ok (.iload_n 2, 1) := by decide +kernel
theorem dX6_unit_102 : decode cX6_unit 102 = .ok (.iconst 1, 1) := by decide +kernel
theorem dX6_unit_103 : decode cX6_unit 103 = .ok (.iadd, 1) := by decide +kernel
theorem dX6_unit_104 : decode cX6_unit 104 = .ok (.invokevirtual 148, 3) := by decide +kernel
theorem dX6_unit_107 : decode cX6_unit 107 = .ok (.aload_n 0, 1) := by decide +kernel
theorem dX6_unit_108 : decode cX6_unit 108 = .ok (.bipush 41, 2) := by decide +kernel
theorem dX6_unit_110 : decode cX6_unit 110 = .ok (.invokevirtual 119, 3) := by decide +kernel
theorem dX6_unit_113 : decode cX6_unit 113 = .ok (.return_, 1) := by decide +kernel
theorem dX6_plainUnit_0 : decode cX6_plainUnit 0 = .ok (.aload_n 0, 1) := by decide +kernel
theorem dX6_plainUnit_1 : decode cX6_plainUnit 1 = .ok (.getfield 67, 3) := by decide +kernel
theorem dX6_plainUnit_4 : decode cX6_plainUnit 4 = .ok (.iconst 2, 1) := by decide +kernel
theorem dX6_plainUnit_5 : decode cX6_plainUnit 5 = .ok (.if_icmp .ne 5, 3) := by decide +kernel
theorem dX6_plainUnit_8 : decode cX6_plainUnit 8 = .ok (.iconst 0, 1) := by decide +kernel
theorem dX6_plainUnit_9 : decode cX6_plainUnit 9 = .ok (.ireturn, 1) := by decide +kernel
theorem dX6_plainUnit_10 : decode cX6_plainUnit 10 = .ok (.aload_n 0, 1) := by decide +kernel
theorem dX6_plainUnit_11 : decode cX6_plainUnit 11 = .ok (.getfield 67, 3) := by decide +kernel
theorem dX6_plainUnit_14 : decode cX6_plainUnit 14 = .ok (.iconst 1, 1) := by decide +kernel
theorem dX6_plainUnit_15 : decode cX6_plainUnit 15 = .ok (.if_icmp .ne 10, 3) := by decide +kernel
theorem dX6_plainUnit_18 : decode cX6_plainUnit 18 = .ok (.aload_n 0, 1) := by decide +kernel
theorem dX6_plainUnit_19 : decode cX6_plainUnit 19 = .ok (.getfield 73, 3) := by decide +kernel
theorem dX6_plainUnit_22 : decode cX6_plainUnit 22 = .ok (.goto 4, 3) := by decide +kernel
theorem dX6_plainUnit_25 : decode cX6_plainUnit 25 = .ok (.iconst (-1), 1) := by decide +kernel
theorem dX6_plainUnit_26 : decode cX6_plainUnit 26 = .ok (.tableswitch 83 5 18 #[74, 83, 83, 83, 83, 83, 83, 83, 83, 70, 72, 76, 78, 80], 70) := by decide +kernel
theorem dX6_plainUnit_96 : decode cX6_plainUnit 96 = .ok (.iconst 1, 1) := by decide +kernel
theorem dX6_plainUnit_97 : decode cX6_plainUnit 97 = .ok (.ireturn, 1) := by decide +kernel
theorem dX6_plainUnit_98 : decode cX6_plainUnit 98 = .ok (.iconst 2, 1) := by decide +kernel
theorem dX6_plainUnit_99 : decode cX6_plainUnit 99 = .ok (.ireturn, 1) := by decide +kernel
theorem dX6_plainUnit_100 : decode cX6_plainUnit 100 = .ok (.iconst 3, 1) := by decide +kernel
theorem dX6_plainUnit_101 : decode cX6_plainUnit 101 = .ok (.ireturn, 1) := by decide +kernel
theorem dX6_plainUnit_102 : decode cX6_plainUnit 102 = .ok (.iconst 4, 1) := by decide +kernel
theorem dX6_plainUnit_103 : decode cX6_plainUnit 103 = .ok (.ireturn, 1) := by decide +kernel
theorem dX6_plainUnit_104 : decode cX6_plainUnit 104 = .ok (.iconst 5, 1) := by decide +kernel
theorem dX6_plainUnit_105 : decode cX6_plainUnit 105 = .ok (.ireturn, 1) := by decide +kernel
theorem dX6_plainUnit_106 : decode cX6_plainUnit 106 = .ok (.bipush 6, 2) := by decide +kernel
theorem dX6_plainUnit_108 : decode cX6_plainUnit 108 = .ok (.ireturn, 1) := by decide +kernel
theorem dX6_plainUnit_109 : decode cX6_plainUnit 109 = .ok (.iconst (-1), 1) := by decide +kernel
theorem dX6_plainUnit_110 : decode cX6_plainUnit 110 = .ok (.ireturn, 1) := by decide +kernel
theorem dX6_newName_0 : decode cX6_newName 0 = .ok (.aload_n 0, 1) := by decide +kernel
theorem dX6_newName_1 : decode cX6_newName 1 = .ok (.getfield 56, 3) := by decide +kernel
theorem dX6_newName_4 : decode cX6_newName 4 = .ok (.ifCond .ne 25, 3) := by decide +kernel
theorem dX6_newName_7 : decode cX6_newName 7 = .ok (.aload_n 0, 1) := by decide +kernel
theorem dX6_newName_8 : decode cX6_newName 8 = .ok (.getfield 67, 3) := by decide +kernel
theorem dX6_newName_11 : decode cX6_newName 11 = .ok (.iconst 1, 1) := by decide +kernel
theorem dX6_newName_12 : decode cX6_newName 12 = .ok (.if_icmp .ne 17, 3) := by decide +kernel
theorem dX6_newName_15 : decode cX6_newName 15 = .ok (.aload_n 0, 1) := by decide +kernel
theorem dX6_newName_16 : decode cX6_newName 16 = .ok (.getfield 73, 3) := by decide +kernel
theorem dX6_newName_19 : decode cX6_newName 19 = .ok (.iconst (-1), 1) := by decide +kernel
theorem dX6_newName_20 : decode cX6_newName 20 = .ok (.if_icmp .ne 9, 3) := by decide +kernel
theorem dX6_newName_23 : decode cX6_newName 23 = .ok (.iload_n 2, 1) := by decide +kernel
theorem dX6_newName_24 : decode cX6_newName 24 = .ok (.aload_n 1, 1) := by decide +kernel
theorem dX6_newName_25 : decode cX6_newName 25 = .ok (.arraylength, 1) := by decide +kernel
theorem dX6_newName_26 : decode cX6_newName 26 = .ok (.if_icmp .lt 8, 3) := by decide +kernel
theorem dX6_newName_29 : decode cX6_newName 29 = .ok (.aload_n 0, 1) := by decide +kernel
theorem dX6_newName_30 : decode cX6_newName 30 = .ok (.invokevirtual 99, 3) := by decide +kernel
theorem dX6_newName_33 : decode cX6_newName 33 = .ok (.return_, 1) := by decide +kernel
theorem dX6_newName_34 : decode cX6_newName 34 = .ok (.iconst 0, 1) := by decide +kernel
theorem dX6_newName_35 : decode cX6_newName 35 = .ok (.istore_n 3, 1) := by decide +kernel
theorem dX6_newName_36 : decode cX6_newName 36 = .ok (.iload_n 3, 1) := by decide +kernel
theorem dX6_newName_37 : decode cX6_newName 37 = .ok (.iload_n 2, 1) := by decide +kernel
theorem dX6_newName_38 : decode cX6_newName 38 = .ok (.if_icmp .ge 26, 3) := by decide +kernel
theorem dX6_newName_41 : decode cX6_newName 41 = .ok (.aload_n 1, 1) := by decide +kernel
theorem dX6_newName_42 : decode cX6_newName 42 = .ok (.iload_n 3, 1) := by decide +kernel
theorem dX6_newName_43 : decode cX6_newName 43 = .ok (.laload, 1) := by decide +kernel
theorem dX6_newName_44 : decode cX6_newName 44 = .ok (.aload_n 0, 1) := by decide +kernel
theorem dX6_newName_45 : decode cX6_newName 45 = .ok (.getfield 199, 3) := by decide +kernel
theorem dX6_newName_48 : decode cX6_newName 48 = .ok (.lcmp, 1) := by decide +kernel
theorem dX6_newName_49 : decode cX6_newName 49 = .ok (.ifCond .ne 9, 3) := by decide +kernel
theorem dX6_newName_52 : decode cX6_newName 52 = .ok (.aload_n 0, 1) := by decide +kernel
theorem dX6_newName_53 : decode cX6_newName 53 = .ok (.iconst 3, 1) := by decide +kernel
theorem dX6_newName_54 : decode cX6_newName 54 = .ok (.invokevirtual 203, 3) := by decide +kernel
theorem dX6_newName_57 : decode cX6_newName 57 = .ok (.return_, 1) := by decide +kernel
theorem dX6_newName_58 : decode cX6_newName 58 = .ok (.iinc 3 1, 3) := by decide +kernel
theorem dX6_newName_61 : decode cX6_newName 61 = .ok (.goto (-25), 3) := by decide +kernel
theorem dX6_newName_64 : decode cX6_newName 64 = .ok (.aload_n 1, 1) := by decide +kernel
theorem dX6_newName_65 : decode cX6_newName 65 = .ok (.iload_n 2, 1) := by decide +kernel
theorem dX6_newName_66 : decode cX6_newName 66 = .ok (.aload_n 0, 1) := by decide +kernel
theorem dX6_newName_67 : decode cX6_newName 67 = .ok (.getfield 199, 3) := by decide +kernel
theorem dX6_newName_70 : decode cX6_newName 70 = .ok (.lastore, 1) := by decide +kernel
theorem dX6_newName_71 : decode cX6_newName 71 = .ok (.aload_n 0, 1) := by decide +kernel
theorem dX6_newName_72 : decode cX6_newName 72 = .ok (.invokevirtual 64, 3) := by decide +kernel
theorem dX6_newName_75 : decode cX6_newName 75 = .ok (.return_, 1) := by decide +kernel
theorem dX6_numberWithin_0 : decode cX6_numberWithin 0 = .ok (.aload_n 0, 1) := by decide +kernel
theorem dX6_numberWithin_1 : decode cX6_numberWithin 1 = .ok (.getfield 56, 3) := by decide +kernel
theorem dX6_numberWithin_4 : decode cX6_numberWithin 4 = .ok (.ifCond .ne 11, 3) := by decide +kernel
theorem dX6_numberWithin_7 : decode cX6_numberWithin 7 = .ok (.aload_n 0, 1) := by decide +kernel
theorem dX6_numberWithin_8 : decode cX6_numberWithin 8 = .ok (.getfield 67, 3) := by decide +kernel
theorem dX6_numberWithin_11 : decode cX6_numberWithin 11 = .ok (.iconst 2, 1) := by decide +kernel
theorem dX6_numberWithin_12 : decode cX6_numberWithin 12 = .ok (.if_icmp .eq 9, 3) := by decide +kernel
theorem dX6_numberWithin_15 : decode cX6_numberWithin 15 = .ok (.aload_n 0, 1) := by decide +kernel
theorem dX6_numberWithin_16 : decode cX6_numberWithin 16 = .ok (.invokevirtual 99, 3) := by decide +kernel
theorem dX6_numberWithin_19 : decode cX6_numberWithin 19 = .ok (.iload_n 1, 1) := by decide +kernel
theorem dX6_numberWithin_20 : decode cX6_numberWithin 20 = .ok (.ireturn, 1) := by decide +kernel
theorem dX6_numberWithin_21 : decode cX6_numberWithin 21 = .ok (.aload_n 0, 1) := by decide +kernel
theorem dX6_numberWithin_22 : decode cX6_numberWithin 22 = .ok (.getfield 196, 3) := by decide +kernel
theorem dX6_numberWithin_25 : decode cX6_numberWithin 25 = .ok (.iload_n 1, 1) := by decide +kernel
theorem dX6_numberWithin_26 : decode cX6_numberWithin 26 = .ok (.if_icmp .lt 11, 3) := by decide +kernel
theorem dX6_numberWithin_29 : decode cX6_numberWithin 29 = .ok (.aload_n 0, 1) := by decide +kernel
theorem dX6_numberWithin_30 : decode cX6_numberWithin 30 = .ok (.getfield 196, 3) := by decide +kernel
theorem dX6_numberWithin_33 : decode cX6_numberWithin 33 = .ok (.iload_n 2, 1) := by decide +kernel
theorem dX6_numberWithin_34 : decode cX6_numberWithin 34 = .ok (.if_icmp .le 10, 3) := by decide +kernel
theorem dX6_numberWithin_37 : decode cX6_numberWithin 37 = .ok (.aload_n 0, 1) := by decide +kernel
theorem dX6_numberWithin_38 : decode cX6_numberWithin 38 = .ok (.iconst 4, 1) := by decide +kernel
theorem dX6_numberWithin_39 : decode cX6_numberWithin 39 = .ok (.invokevirtual 203, 3) := by decide +kernel
theorem dX6_numberWithin_42 : decode cX6_numberWithin 42 = .ok (.iload_n 1, 1) := by decide +kernel
theorem dX6_numberWithin_43 : decode cX6_numberWithin 43 = .ok (.ireturn, 1) := by decide +kernel
theorem dX6_numberWithin_44 : decode cX6_numberWithin 44 = .ok (.aload_n 0, 1) := by decide +kernel
theorem dX6_numberWithin_45 : decode cX6_numberWithin 45 = .ok (.getfield 196, 3) := by decide +kernel
theorem dX6_numberWithin_48 : decode cX6_numberWithin 48 = .ok (.istore_n 3, 1) := by decide +kernel
theorem dX6_numberWithin_49 : decode cX6_numberWithin 49 = .ok (.aload_n 0, 1) := by decide +kernel
theorem dX6_numberWithin_50 : decode cX6_numberWithin 50 = .ok (.invokevirtual 64, 3) := by decide +kernel
theorem dX6_numberWithin_53 : decode cX6_numberWithin 53 = .ok (.iload_n 3, 1) := by decide +kernel
theorem dX6_numberWithin_54 : decode cX6_numberWithin 54 = .ok (.ireturn, 1) := by decide +kernel
theorem dX6_expectKeyword_0 : decode cX6_expectKeyword 0 = .ok (.aload_n 0, 1) := by decide +kernel
theorem dX6_expectKeyword_1 : decode cX6_expectKeyword 1 = .ok (.iload_n 1, 1) := by decide +kernel
theorem dX6_expectKeyword_2 : decode cX6_expectKeyword 2 = .ok (.invokevirtual 132, 3) := by decide +kernel
theorem dX6_expectKeyword_5 : decode cX6_expectKeyword 5 = .ok (.ifCond .eq 10, 3) := by decide +kernel
theorem dX6_expectKeyword_8 : decode cX6_expectKeyword 8 = .ok (.aload_n 0, 1) := by decide +kernel
theorem dX6_expectKeyword_9 : decode cX6_expectKeyword 9 = .ok (.invokevirtual 64, 3) := by decide +kernel
theorem dX6_expectKeyword_12 : decode cX6_expectKeyword 12 = .ok (.goto 7, 3) := by decide +kernel
theorem dX6_expectKeyword_15 : decode cX6_expectKeyword 15 = .ok (.aload_n 0, 1) := by decide +kernel
theorem dX6_expectKeyword_16 : decode cX6_expectKeyword 16 = .ok (.invokevirtual 99, 3) := by decide +kernel
theorem dX6_expectKeyword_19 : decode cX6_expectKeyword 19 = .ok (.return_, 1) := by decide +kernel
theorem dX6_expectSign_0 : decode cX6_expectSign 0 = .ok (.aload_n 0, 1) := by decide +kernel
theorem dX6_expectSign_1 : decode cX6_expectSign 1 = .ok (.iload_n 1, 1) := by decide +kernel
theorem dX6_expectSign_2 : decode cX6_expectSign 2 = .ok (.invokevirtual 180, 3) := by decide +kernel
theorem dX6_expectSign_5 : decode cX6_expectSign 5 = .ok (.ifCond .eq 10, 3) := by decide +kernel
theorem dX6_expectSign_8 : decode cX6_expectSign 8 = .ok (.aload_n 0, 1) := by decide +kernel
theorem dX6_expectSign_9 : decode cX6_expectSign 9 = .ok (.invokevirtual 64, 3) := by decide +kernel
theorem dX6_expectSign_12 : decode cX6_expectSign 12 = .ok (.goto 7, 3) := by decide +kernel
theorem dX6_expectSign_15 : decode cX6_expectSign 15 = .ok (.aload_n 0, 1) := by decide +kernel
theorem dX6_expectSign_16 : decode cX6_expectSign 16 = .ok (.invokevirtual 99, 3) := by decide +kernel
theorem dX6_expectSign_19 : decode cX6_expectSign 19 = .ok (.return_, 1) := by decide +kernel
theorem dX6_isKeyword_0 : decode cX6_isKeyword 0 = .ok (.aload_n 0, 1) := by decide +kernel
theorem dX6_isKeyword_1 : decode cX6_isKeyword 1 = .ok (.getfield 56, 3) := by decide +kernel
theorem dX6_isKeyword_4 : decode cX6_isKeyword 4 = .ok (.ifCond .ne 23, 3) := by decide +kernel
theorem dX6_isKeyword_7 : decode cX6_isKeyword 7 = .ok (.aload_n 0, 1) := by decide +kernel
theorem dX6_isKeyword_8 : decode cX6_isKeyword 8 = .ok (.getfield 67, 3) := by decide +kernel
theorem dX6_isKeyword_11 : decode cX6_isKeyword 11 = .ok (.iconst 1, 1) := by decide +kernel
theorem dX6_isKeyword_12 : decode cX6_isKeyword 12 = .ok (.if_icmp .ne 15, 3) := by decide +kernel
theorem dX6_isKeyword_15 : decode cX6_isKeyword 15 = .ok (.aload_n 0, 1) := by decide +kernel
theorem dX6_isKeyword_16 : decode cX6_isKeyword 16 = .ok (.getfield 73, 3) := by decide +kernel
theorem dX6_isKeyword_19 : decode cX6_isKeyword 19 = .ok (.iload_n 1, 1) := by decide +kernel
theorem dX6_isKeyword_20 : decode cX6_isKeyword 20 = .ok (.if_icmp .ne 7, 3) := by decide +kernel
theorem dX6_isKeyword_23 : decode cX6_isKeyword 23 = .ok (.iconst 1, 1) := by decide +kernel
theorem dX6_isKeyword_24 : decode cX6_isKeyword 24 = .ok (.goto 4, 3) := by decide +kernel
theorem dX6_isKeyword_27 : decode cX6_isKeyword 27 = .ok (.iconst 0, 1) := by decide +kernel
theorem dX6_isKeyword_28 : decode cX6_isKeyword 28 = .ok (.ireturn, 1) := by decide +kernel
theorem dX6_isSign_0 : decode cX6_isSign 0 = .ok (.aload_n 0, 1) := by decide +kernel
theorem dX6_isSign_1 : decode cX6_isSign 1 = .ok (.getfield 56, 3) := by decide +kernel
theorem dX6_isSign_4 : decode cX6_isSign 4 = .ok (.ifCond .ne 23, 3) := by decide +kernel
theorem dX6_isSign_7 : decode cX6_isSign 7 = .ok (.aload_n 0, 1) := by decide +kernel
theorem dX6_isSign_8 : decode cX6_isSign 8 = .ok (.getfield 67, 3) := by decide +kernel
theorem dX6_isSign_11 : decode cX6_isSign 11 = .ok (.iconst 3, 1) := by decide +kernel
theorem dX6_isSign_12 : decode cX6_isSign 12 = .ok (.if_icmp .ne 15, 3) := by decide +kernel
theorem dX6_isSign_15 : decode cX6_isSign 15 = .ok (.aload_n 0, 1) := by decide +kernel
theorem dX6_isSign_16 : decode cX6_isSign 16 = .ok (.getfield 206, 3) := by decide +kernel
theorem dX6_isSign_19 : decode cX6_isSign 19 = .ok (.iload_n 1, 1) := by decide +kernel
theorem dX6_isSign_20 : decode cX6_isSign 20 = .ok (.if_icmp .ne 7, 3) := by decide +kernel
theorem dX6_isSign_23 : decode cX6_isSign 23 = .ok (.iconst 1, 1) := by decide +kernel
theorem dX6_isSign_24 : decode cX6_isSign 24 = .ok (.goto 4, 3) := by decide +kernel
theorem dX6_isSign_27 : decode cX6_isSign 27 = .ok (.iconst 0, 1) := by decide +kernel
theorem dX6_isSign_28 : decode cX6_isSign 28 = .ok (.ireturn, 1) := by decide +kernel
theorem dX6_refuse_0 : decode cX6_refuse 0 = .ok (.aload_n 0, 1) := by decide +kernel
theorem dX6_refuse_1 : decode cX6_refuse 1 = .ok (.aload_n 0, 1) := by decide +kernel
theorem dX6_refuse_2 : decode cX6_refuse 2 = .ok (.getfield 67, 3) := by decide +kernel
theorem dX6_refuse_5 : decode cX6_refuse 5 = .ok (.iconst 4, 1) := by decide +kernel
theorem dX6_refuse_6 : decode cX6_refuse 6 = .ok (.if_icmp .ne 7, 3) := by decide +kernel
theorem dX6_refuse_9 : decode cX6_refuse 9 = .ok (.iconst 1, 1) := by decide +kernel
theorem dX6_refuse_10 : decode cX6_refuse 10 = .ok (.goto 4, 3) := by decide +kernel
theorem dX6_refuse_13 : decode cX6_refuse 13 = .ok (.iconst 2, 1) := by decide +kernel
theorem dX6_refuse_14 : decode cX6_refuse 14 = .ok (.invokevirtual 203, 3) := by decide +kernel
theorem dX6_refuse_17 : decode cX6_refuse 17 = .ok (.return_, 1) := by decide +kernel
theorem dX6_keepFault_0 : decode cX6_keepFault 0 = .ok (.aload_n 0, 1) := by decide +kernel
theorem dX6_keepFault_1 : decode cX6_keepFault 1 = .ok (.getfield 56, 3) := by decide +kernel
theorem dX6_keepFault_4 : decode cX6_keepFault 4 = .ok (.ifCond .ne 16, 3) := by decide +kernel
theorem dX6_keepFault_7 : decode cX6_keepFault 7 = .ok (.aload_n 0, 1) := by decide +kernel
theorem dX6_keepFault_8 : decode cX6_keepFault 8 = .ok (.iload_n 1, 1) := by decide +kernel
theorem dX6_keepFault_9 : decode cX6_keepFault 9 = .ok (.putfield 56, 3) := by decide +kernel
theorem dX6_keepFault_12 : decode cX6_keepFault 12 = .ok (.aload_n 0, 1) := by decide +kernel
theorem dX6_keepFault_13 : decode cX6_keepFault 13 = .ok (.aload_n 0, 1) := by decide +kernel
theorem dX6_keepFault_14 : decode cX6_keepFault 14 = .ok (.getfield 209, 3) := by decide +kernel
theorem dX6_keepFault_17 : decode cX6_keepFault 17 = .ok (.putfield 39, 3) := by decide +kernel
theorem dX6_keepFault_20 : decode cX6_keepFault 20 = .ok (.return_, 1) := by decide +kernel
theorem dX6_signAt_0 : decode cX6_signAt 0 = .ok (.iload_n 1, 1) := by decide +kernel
theorem dX6_signAt_1 : decode cX6_signAt 1 = .ok (.ifCond .lt 33, 3) := by decide +kernel
theorem dX6_signAt_4 : decode cX6_signAt 4 = .ok (.iload_n 1, 1) := by decide +kernel
theorem dX6_signAt_5 : decode cX6_signAt 5 = .ok (.aload_n 0, 1) := by decide +kernel
theorem dX6_signAt_6 : decode cX6_signAt 6 = .ok (.getfield 51, 3) := by decide +kernel
theorem dX6_signAt_9 : decode cX6_signAt 9 = .ok (.if_icmp .ge 25, 3) := by decide +kernel
theorem dX6_signAt_12 : decode cX6_signAt 12 = .ok (.iload_n 1, 1) := by decide +kernel
theorem dX6_signAt_13 : decode cX6_signAt 13 = .ok (.aload_n 0, 1) := by decide +kernel
theorem dX6_signAt_14 : decode cX6_signAt 14 = .ok (.getfield 9, 3) := by decide +kernel
theorem dX6_signAt_17 : decode cX6_signAt 17 = .ok (.arraylength, 1) := by decide +kernel
theorem dX6_signAt_18 : decode cX6_signAt 18 = .ok (.if_icmp .ge 16, 3) := by decide +kernel
theorem dX6_signAt_21 : decode cX6_signAt 21 = .ok (.aload_n 0, 1) := by decide +kernel
theorem dX6_signAt_22 : decode cX6_signAt 22 = .ok (.getfield 9, 3) := by decide +kernel
theorem dX6_signAt_25 : decode cX6_signAt 25 = .ok (.iload_n 1, 1) := by decide +kernel
theorem dX6_signAt_26 : decode cX6_signAt 26 = .ok (.baload, 1) := by decide +kernel
theorem dX6_signAt_27 : decode cX6_signAt 27 = .ok (.sipush 255, 3) := by decide +kernel
theorem dX6_signAt_30 : decode cX6_signAt 30 = .ok (.iand, 1) := by decide +kernel
theorem dX6_signAt_31 : decode cX6_signAt 31 = .ok (.goto 4, 3) := by decide +kernel
theorem dX6_signAt_34 : decode cX6_signAt 34 = .ok (.iconst 0, 1) := by decide +kernel
theorem dX6_signAt_35 : decode cX6_signAt 35 = .ok (.ireturn, 1) := by decide +kernel
theorem dX6_isLetter_0 : decode cX6_isLetter 0 = .ok (.iload_n 0, 1) := by decide +kernel
theorem dX6_isLetter_1 : decode cX6_isLetter 1 = .ok (.bipush 97, 2) := by decide +kernel
theorem dX6_isLetter_3 : decode cX6_isLetter 3 = .ok (.if_icmp .lt 13, 3) := by decide +kernel
theorem dX6_isLetter_6 : decode cX6_isLetter 6 = .ok (.iload_n 0, 1) := by decide +kernel
theorem dX6_isLetter_7 : decode cX6_isLetter 7 = .ok (.bipush 122, 2) := by decide +kernel
theorem dX6_isLetter_9 : decode cX6_isLetter 9 = .ok (.if_icmp .gt 7, 3) := by decide +kernel
theorem dX6_isLetter_12 : decode cX6_isLetter 12 = .ok (.iconst 1, 1) := by decide +kernel
theorem dX6_isLetter_13 : decode cX6_isLetter 13 = .ok (.goto 4, 3) := by decide +kernel
theorem dX6_isLetter_16 : decode cX6_isLetter 16 = .ok (.iconst 0, 1) := by decide +kernel
theorem dX6_isLetter_17 : decode cX6_isLetter 17 = .ok (.ireturn, 1) := by decide +kernel
theorem dX6_isDigit_0 : decode cX6_isDigit 0 = .ok (.iload_n 0, 1) := by decide +kernel
theorem dX6_isDigit_1 : decode cX6_isDigit 1 = .ok (.bipush 48, 2) := by decide +kernel
theorem dX6_isDigit_3 : decode cX6_isDigit 3 = .ok (.if_icmp .lt 13, 3) := by decide +kernel
theorem dX6_isDigit_6 : decode cX6_isDigit 6 = .ok (.iload_n 0, 1) := by decide +kernel
theorem dX6_isDigit_7 : decode cX6_isDigit 7 = .ok (.bipush 57, 2) := by decide +kernel
theorem dX6_isDigit_9 : decode cX6_isDigit 9 = .ok (.if_icmp .gt 7, 3) := by decide +kernel
theorem dX6_isDigit_12 : decode cX6_isDigit 12 = .ok (.iconst 1, 1) := by decide +kernel
theorem dX6_isDigit_13 : decode cX6_isDigit 13 = .ok (.goto 4, 3) := by decide +kernel
theorem dX6_isDigit_16 : decode cX6_isDigit 16 = .ok (.iconst 0, 1) := by decide +kernel
theorem dX6_isDigit_17 : decode cX6_isDigit 17 = .ok (.ireturn, 1) := by decide +kernel
theorem dX6_isBlank_0 : decode cX6_isBlank 0 = .ok (.iload_n 0, 1) := by decide +kernel
theorem dX6_isBlank_1 : decode cX6_isBlank 1 = .ok (.bipush 32, 2) := by decide +kernel
theorem dX6_isBlank_3 : decode cX6_isBlank 3 = .ok (.if_icmp .eq 9, 3) := by decide +kernel
theorem dX6_isBlank_6 : decode cX6_isBlank 6 = .ok (.iload_n 0, 1) := by decide +kernel
theorem dX6_isBlank_7 : decode cX6_isBlank 7 = .ok (.bipush 10, 2) := by decide +kernel
theorem dX6_isBlank_9 : decode cX6_isBlank 9 = .ok (.if_icmp .ne 7, 3) := by decide +kernel
theorem dX6_isBlank_12 : decode cX6_isBlank 12 = .ok (.iconst 1, 1) := by decide +kernel
theorem dX6_isBlank_13 : decode cX6_isBlank 13 = .ok (.goto 4, 3) := by decide +kernel
theorem dX6_isBlank_16 : decode cX6_isBlank 16 = .ok (.iconst 0, 1) := by decide +kernel
theorem dX6_isBlank_17 : decode cX6_isBlank 17 = .ok (.ireturn, 1) := by decide +kernel
theorem dX6_isMark_0 : decode cX6_isMark 0 = .ok (.iload_n 0, 1) := by decide +kernel
theorem dX6_isMark_1 : decode cX6_isMark 1 = .ok (.bipush 59, 2) := by decide +kernel
theorem dX6_isMark_3 : decode cX6_isMark 3 = .ok (.if_icmp .eq 45, 3) := by decide +kernel
theorem dX6_isMark_6 : decode cX6_isMark 6 = .ok (.iload_n 0, 1) := by decide +kernel
theorem dX6_isMark_7 : decode cX6_isMark 7 = .ok (.bipush 40, 2) := by decide +kernel
theorem dX6_isMark_9 : decode cX6_isMark 9 = .ok (.if_icmp .lt 9, 3) := by decide +kernel
theorem dX6_isMark_12 : decode cX6_isMark 12 = .ok (.iload_n 0, 1) := by decide +kernel
theorem dX6_isMark_13 : decode cX6_isMark 13 = .ok (.bipush 43, 2) := by decide +kernel
theorem dX6_isMark_15 : decode cX6_isMark 15 = .ok (.if_icmp .le 33, 3) := by decide +kernel
theorem dX6_isMark_18 : decode cX6_isMark 18 = .ok (.iload_n 0, 1) := by decide +kernel
theorem dX6_isMark_19 : decode cX6_isMark 19 = .ok (.bipush 45, 2) := by decide +kernel
theorem dX6_isMark_21 : decode cX6_isMark 21 = .ok (.if_icmp .eq 27, 3) := by decide +kernel
theorem dX6_isMark_24 : decode cX6_isMark 24 = .ok (.iload_n 0, 1) := by decide +kernel
theorem dX6_isMark_25 : decode cX6_isMark 25 = .ok (.bipush 47, 2) := by decide +kernel
theorem dX6_isMark_27 : decode cX6_isMark 27 = .ok (.if_icmp .eq 21, 3) := by decide +kernel
theorem dX6_isMark_30 : decode cX6_isMark 30 = .ok (.iload_n 0, 1) := by decide +kernel
theorem dX6_isMark_31 : decode cX6_isMark 31 = .ok (.bipush 60, 2) := by decide +kernel
theorem dX6_isMark_33 : decode cX6_isMark 33 = .ok (.if_icmp .lt 9, 3) := by decide +kernel
theorem dX6_isMark_36 : decode cX6_isMark 36 = .ok (.iload_n 0, 1) := by decide +kernel
theorem dX6_isMark_37 : decode cX6_isMark 37 = .ok (.bipush 62, 2) := by decide +kernel
theorem dX6_isMark_39 : decode cX6_isMark 39 = .ok (.if_icmp .le 9, 3) := by decide +kernel
theorem dX6_isMark_42 : decode cX6_isMark 42 = .ok (.iload_n 0, 1) := by decide +kernel
theorem dX6_isMark_43 : decode cX6_isMark 43 = .ok (.bipush 37, 2) := by decide +kernel
theorem dX6_isMark_45 : decode cX6_isMark 45 = .ok (.if_icmp .ne 7, 3) := by decide +kernel
theorem dX6_isMark_48 : decode cX6_isMark 48 = .ok (.iconst 1, 1) := by decide +kernel
theorem dX6_isMark_49 : decode cX6_isMark 49 = .ok (.goto 4, 3) := by decide +kernel
theorem dX6_isMark_52 : decode cX6_isMark 52 = .ok (.iconst 0, 1) := by decide +kernel
theorem dX6_isMark_53 : decode cX6_isMark 53 = .ok (.ireturn, 1) := by decide +kernel
theorem dX6_advance_0 : decode cX6_advance 0 = .ok (.iconst 0, 1) := by decide +kernel
theorem dX6_advance_1 : decode cX6_advance 1 = .ok (.istore_n 1, 1) := by decide +kernel
theorem dX6_advance_2 : decode cX6_advance 2 = .ok (.iload_n 1, 1) := by decide +kernel
theorem dX6_advance_3 : decode cX6_advance 3 = .ok (.sipush 1600, 3) := by decide +kernel
theorem dX6_advance_6 : decode cX6_advance 6 = .ok (.if_icmp .ge 44, 3) := by decide +kernel
theorem dX6_advance_9 : decode cX6_advance 9 = .ok (.aload_n 0, 1) := by decide +kernel
theorem dX6_advance_10 : decode cX6_advance 10 = .ok (.getfield 53, 3) := by decide +kernel
theorem dX6_advance_13 : decode cX6_advance 13 = .ok (.aload_n 0, 1) := by decide +kernel
theorem dX6_advance_14 : decode cX6_advance 14 = .ok (.getfield 51, 3) := by decide +kernel
theorem dX6_advance_17 : decode cX6_advance 17 = .ok (.if_icmp .ge 33, 3) := by decide +kernel
theorem dX6_advance_20 : decode cX6_advance 20 = .ok (.aload_n 0, 1) := by decide +kernel
theorem dX6_advance_21 : decode cX6_advance 21 = .ok (.aload_n 0, 1) := by decide +kernel
theorem dX6_advance_22 : decode cX6_advance 22 = .ok (.getfield 53, 3) := by decide +kernel
theorem dX6_advance_25 : decode cX6_advance 25 = .ok (.invokevirtual 212, 3) := by decide +kernel
theorem dX6_advance_28 : decode cX6_advance 28 = .ok (.invokestatic 216, 3) := by decide +kernel
theorem dX6_advance_31 : decode cX6_advance 31 = .ok (.ifCond .eq 19, 3) := by decide +kernel
theorem dX6_advance_34 : decode cX6_advance 34 = .ok (.aload_n 0, 1) := by decide +kernel
theorem dX6_advance_35 : decode cX6_advance 35 = .ok (.dup, 1) := by decide +kernel
theorem dX6_advance_36 : decode cX6_advance 36 = .ok (.getfield 53, 3) := by decide +kernel
theorem dX6_advance_39 : decode cX6_advance 39 = .ok (.iconst 1, 1) := by decide +kernel
theorem dX6_advance_40 : decode cX6_advance 40 = .ok (.iadd, 1) := by decide +kernel
theorem dX6_advance_41 : decode cX6_advance 41 = .ok (.putfield 53, 3) := by decide +kernel
theorem dX6_advance_44 : decode cX6_advance 44 = .ok (.iinc 1 1, 3) := by decide +kernel
theorem dX6_advance_47 : decode cX6_advance 47 = .ok (.goto (-45), 3) := by decide +kernel
theorem dX6_advance_50 : decode cX6_advance 50 = .ok (.aload_n 0, 1) := by decide +kernel
theorem dX6_advance_51 : decode cX6_advance 51 = .ok (.aload_n 0, 1) := by decide +kernel
theorem dX6_advance_52 : decode cX6_advance 52 = .ok (.getfield 53, 3) := by decide +kernel
theorem dX6_advance_55 : decode cX6_advance 55 = .ok (.putfield 209, 3) := by decide +kernel
theorem dX6_advance_58 : decode cX6_advance 58 = .ok (.aload_n 0, 1) := by decide +kernel
theorem dX6_advance_59 : decode cX6_advance 59 = .ok (.getfield 53, 3) := by decide +kernel
theorem dX6_advance_62 : decode cX6_advance 62 = .ok (.aload_n 0, 1) := by decide +kernel
theorem dX6_advance_63 : decode cX6_advance 63 = .ok (.getfield 51, 3) := by decide +kernel
theorem dX6_advance_66 : decode cX6_advance 66 = .ok (.if_icmp .lt 9, 3) := by decide +kernel
theorem dX6_advance_69 : decode cX6_advance 69 = .ok (.aload_n 0, 1) := by decide +kernel
theorem dX6_advance_70 : decode cX6_advance 70 = .ok (.iconst 0, 1) := by decide +kernel
theorem dX6_advance_71 : decode cX6_advance 71 = .ok (.putfield 67, 3) := by decide +kernel
theorem dX6_advance_74 : decode cX6_advance 74 = .ok (.return_, 1) := by decide +kernel
theorem dX6_advance_75 : decode cX6_advance 75 = .ok (.aload_n 0, 1) := by decide +kernel
theorem dX6_advance_76 : decode cX6_advance 76 = .ok (.aload_n 0, 1) := by decide +kernel
theorem dX6_advance_77 : decode cX6_advance 77 = .ok (.aload_n 0, 1) := by decide +kernel
theorem dX6_advance_78 : decode cX6_advance 78 = .ok (.getfield 53, 3) := by decide +kernel
theorem dX6_advance_81 : decode cX6_advance 81 = .ok (.invokevirtual 212, 3) := by decide +kernel
theorem dX6_advance_84 : decode cX6_advance 84 = .ok (.putfield 206, 3) := by decide +kernel
theorem dX6_advance_87 : decode cX6_advance 87 = .ok (.aload_n 0, 1) := by decide +kernel
theorem dX6_advance_88 : decode cX6_advance 88 = .ok (.getfield 206, 3) := by decide +kernel
theorem dX6_advance_91 : decode cX6_advance 91 = .ok (.invokestatic 219, 3) := by decide +kernel
theorem dX6_advance_94 : decode cX6_advance 94 = .ok (.ifCond .eq 10, 3) := by decide +kernel
theorem dX6_advance_97 : decode cX6_advance 97 = .ok (.aload_n 0, 1) := by decide +kernel
theorem dX6_advance_98 : decode cX6_advance 98 = .ok (.invokevirtual 222, 3) := by decide +kernel
theorem dX6_advance_101 : decode cX6_advance 101 = .ok (.goto 49, 3) := by decide +kernel
theorem dX6_advance_104 : decode cX6_advance 104 = .ok (.aload_n 0, 1) := by decide +kernel
theorem dX6_advance_105 : decode cX6_advance 105 = .ok (.getfield 206, 3) := by decide +kernel
theorem dX6_advance_108 : decode cX6_advance 108 = .ok (.invokestatic 225, 3) := by decide +kernel
theorem dX6_advance_111 : decode cX6_advance 111 = .ok (.ifCond .eq 10, 3) := by decide +kernel
theorem dX6_advance_114 : decode cX6_advance 114 = .ok (.aload_n 0, 1) := by decide +kernel
theorem dX6_advance_115 : decode cX6_advance 115 = .ok (.invokevirtual 228, 3) := by decide +kernel
theorem dX6_advance_118 : decode cX6_advance 118 = .ok (.goto 32, 3) := by decide +kernel
theorem dX6_advance_121 : decode cX6_advance 121 = .ok (.aload_n 0, 1) := by decide +kernel
theorem dX6_advance_122 : decode cX6_advance 122 = .ok (.aload_n 0, 1) := by decide +kernel
theorem dX6_advance_123 : decode cX6_advance 123 = .ok (.getfield 206, 3) := by decide +kernel
theorem dX6_advance_126 : decode cX6_advance 126 = .ok (.invokestatic 231, 3) := by decide +kernel
theorem dX6_advance_129 : decode cX6_advance 129 = .ok (.ifCond .eq 7, 3) := by decide +kernel
theorem dX6_advance_132 : decode cX6_advance 132 = .ok (.iconst 3, 1) := by decide +kernel
theorem dX6_advance_133 : decode cX6_advance 133 = .ok (.goto 4, 3) := by decide +kernel
theorem dX6_advance_136 : decode cX6_advance 136 = .ok (.iconst 4, 1) := by decide +kernel
theorem dX6_advance_137 : decode cX6_advance 137 = .ok (.putfield 67, 3) := by decide +kernel
theorem dX6_advance_140 : decode cX6_advance 140 = .ok (.aload_n 0, 1) := by decide +kernel
theorem dX6_advance_141 : decode cX6_advance 141 = .ok (.dup, 1) := by decide +kernel
theorem dX6_advance_142 : decode cX6_advance 142 = .ok (.getfield 53, 3) := by decide +kernel
theorem dX6_advance_145 : decode cX6_advance 145 = .ok (.iconst 1, 1) := by decide +kernel
theorem dX6_advance_146 : decode cX6_advance 146 = .ok (.iadd, 1) := by decide +kernel
